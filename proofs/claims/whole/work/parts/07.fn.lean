def rm_J7_fill_53178 : Room := { frames := 0, cells := 0, slots := 0, locals := 0 }
def fn_J7_fill_53178_5 (h0 : Nat)  : Nat → sd_Mem → Int32 → Int32 → Int32 → Option sd_Mem
  | 0, _, _, _, _ => none
  | n + 1, M, x1, x2, x3 => (if x3 ≤ x2 then some M else if x2 < 0 ∨ sd_ln h0 ≤ x2.toNatClampNeg then none else fn_J7_fill_53178_5 h0 n (sd_setI M h0 x2.toNatClampNeg x1) x1 (x2 + (1 : Int32)) x3)
def fn_J7_fill_53178_0 (h0 : Nat)  (M : sd_Mem) (x1 : Int32) : Option sd_Mem := fn_J7_fill_53178_5 h0 sd_FU M x1 (0 : Int32) (Int32.ofNat (sd_ln h0))
def fn_J7_fill_53178 (M : sd_Mem) (h0 : Nat) (x1 : Int32) : Option sd_Mem := fn_J7_fill_53178_0 h0 M x1

def rm_X5_clear : Room := { frames := 1, cells := 0, slots := 0, locals := 23 }
def fn_X5_clear_0 (h0 : Nat)  (M : sd_Mem) : Option sd_Mem := (fn_J7_fill_53178 M (h0 + 1) (0 : Int32)).bind fun q5 => (fn_J7_fill_53178 q5 (h0 + 2) (0 : Int32)).bind fun q13 => some (sd_setI (sd_setI (sd_setI (sd_setI q13 h0 4 (10 : Int32)) h0 5 (20 : Int32)) h0 6 (5 : Int32)) h0 7 (5 : Int32))
def fn_X5_clear (M : sd_Mem) (h0 : Nat) : Option sd_Mem := fn_X5_clear_0 h0 M

def rm_X5_sorts : Room := { frames := 0, cells := 0, slots := 0, locals := 0 }
def fn_X5_sorts_0 (M : sd_Mem) (h0 : Nat)  (x1 : Int32) : Option Int32 := (if x1 = 0 then if x1 < 0 ∨ 2 ≤ x1.toNatClampNeg then none else some (M.1 (h0 + 1) x1.toNatClampNeg) else (if x1 = (1 : Int32) then if x1 < 0 ∨ 2 ≤ x1.toNatClampNeg then none else some (M.1 (h0 + 1) x1.toNatClampNeg) else some (0 : Int32)))
def fn_X5_sorts (M : sd_Mem) (h0 : Nat) (x1 : Int32) : Option Int32 := fn_X5_sorts_0 M h0 x1

def rm_X10_within : Room := { frames := 0, cells := 0, slots := 0, locals := 0 }
def fn_X10_within_0   (x0 : Int32) (x1 : Int32) (x2 : Int32) : Option Int32 := (if x0 < x1 then some (0 : Int32) else (if x2 < x0 then some (0 : Int32) else some (1 : Int32)))
def fn_X10_within (x0 : Int32) (x1 : Int32) (x2 : Int32) : Option Int32 := fn_X10_within_0 x0 x1 x2

def rm_X5_addSort : Room := { frames := 1, cells := 0, slots := 0, locals := 22 }
def fn_X5_addSort_0 (h0 : Nat)  (M : sd_Mem) (x1 : Int32) (x2 : Int32) (x3 : Int32) : Option sd_Mem := (fn_X5_sorts M h0 x1).bind fun q2 => (fn_X10_within x1 (0 : Int32) (1 : Int32)).bind fun q10 => (if q10 = 0 then some M else (if (3 : Int32) ≤ q2 then some M else if x1 < 0 ∨ 2 ≤ x1.toNatClampNeg then none else if q2 < 0 ∨ 3 ≤ q2.toNatClampNeg then none else if x1 < 0 ∨ 2 ≤ x1.toNatClampNeg then none else if q2 < 0 ∨ 3 ≤ q2.toNatClampNeg then none else if x1 < 0 ∨ 2 ≤ x1.toNatClampNeg then none else if x1 < 0 ∨ 2 ≤ x1.toNatClampNeg then none else if x1 < 0 ∨ 2 ≤ x1.toNatClampNeg then none else some (sd_setI (sd_setI (sd_setI (sd_setI M (h0 + 3 + 1 + x1.toNatClampNeg) q2.toNatClampNeg x2) (h0 + 6 + 1 + x1.toNatClampNeg) q2.toNatClampNeg x3) (h0 + 1) x1.toNatClampNeg (q2 + (1 : Int32))) (h0 + 2) x1.toNatClampNeg (((sd_setI (sd_setI (sd_setI M (h0 + 3 + 1 + x1.toNatClampNeg) q2.toNatClampNeg x2) (h0 + 6 + 1 + x1.toNatClampNeg) q2.toNatClampNeg x3) (h0 + 1) x1.toNatClampNeg (q2 + (1 : Int32))).1 (h0 + 2) x1.toNatClampNeg) + x2))))
def fn_X5_addSort (M : sd_Mem) (h0 : Nat) (x1 : Int32) (x2 : Int32) (x3 : Int32) : Option sd_Mem := fn_X5_addSort_0 h0 M x1 x2 x3

def rm_X10_isRow : Room := { frames := 1, cells := 0, slots := 0, locals := 22 }
def fn_X10_isRow_0   (x0 : Int32) : Option Int32 := (fn_X10_within x0 (0 : Int32) (5 : Int32)).bind fun q3 => if q3 &&& 1 ≠ q3 then none else some q3
def fn_X10_isRow (x0 : Int32) : Option Int32 := fn_X10_isRow_0 x0

def rm_X2_tell : Room := { frames := 1, cells := 0, slots := 0, locals := 22 }
def fn_X2_tell_0   (M : sd_Mem) (x1 : Int32) : Option (Int32 × sd_Mem) := (fn_X10_within x1 (1 : Int32) (5 : Int32)).bind fun q3 => (if q3 = 0 then some ((-3 : Int32), M) else if x1 < 0 ∨ 6 ≤ x1.toNatClampNeg then none else if x1 < 0 ∨ 6 ≤ x1.toNatClampNeg then none else some ((-3 : Int32), sd_setI (sd_setI M 97 1 x1) 98 x1.toNatClampNeg (((sd_setI M 97 1 x1).1 98 x1.toNatClampNeg) + (1 : Int32))))
def fn_X2_tell (M : sd_Mem) (x1 : Int32) : Option (Int32 × sd_Mem) := fn_X2_tell_0 M x1

def rm_X1_make : Room := { frames := 1, cells := 0, slots := 0, locals := 30 }
def fn_X1_make_0 (h0 : Nat)  (M : sd_Mem) (x1 : Int32) (x2 : Int32) : Option sd_Mem := (fn_J7_fill_53178 (sd_setI M h0 1 (if (0 : Int32) < (if (Int32.ofNat (sd_ln (h0 + 1))) < x1 then (Int32.ofNat (sd_ln (h0 + 1))) else x1) then (if (Int32.ofNat (sd_ln (h0 + 1))) < x1 then (Int32.ofNat (sd_ln (h0 + 1))) else x1) else (0 : Int32))) (h0 + 1) x2).bind fun q22 => some q22
def fn_X1_make (M : sd_Mem) (h0 : Nat) (x1 : Int32) (x2 : Int32) : Option sd_Mem := fn_X1_make_0 h0 M x1 x2

def rm_X10_row : Room := { frames := 2, cells := 0, slots := 0, locals := 52 }
def fn_X10_row_0   (M : sd_Mem) (x1 : Int32) (x2 : Int32) : Option (Int32 × sd_Mem) := (fn_X10_isRow x1).bind fun q1 => (if q1 = 0 then some ((-1 : Int32), M) else (if x2 ≤ (40 : Int32) then (if 0 ≤ x2 then if x1 < 0 ∨ 6 ≤ x1.toNatClampNeg then none else (fn_X1_make M (1 + 1 + 2 * x1.toNatClampNeg) x2 (0 : Int32)).bind fun q36 => some (x2, q36) else (fn_X2_tell M (5 : Int32)).bind fun q24 => some (q24.1, q24.2)) else some ((-1 : Int32), M)))
def fn_X10_row (M : sd_Mem) (x1 : Int32) (x2 : Int32) : Option (Int32 × sd_Mem) := fn_X10_row_0 M x1 x2

def rm_X1_isMissing : Room := { frames := 0, cells := 0, slots := 0, locals := 0 }
def fn_X1_isMissing_0 (M : sd_Mem) (h0 : Nat)   : Option Int32 := (if (M.1 h0 1) = (-1 : Int32) then some (1 : Int32) else some (0 : Int32))
def fn_X1_isMissing (M : sd_Mem) (h0 : Nat) : Option Int32 := fn_X1_isMissing_0 M h0

def rm_X1_holds : Room := { frames := 0, cells := 0, slots := 0, locals := 0 }
def fn_X1_holds_0 (M : sd_Mem) (h0 : Nat)  (x1 : Int32) (x2 : Int32) : Option Int32 := (if x2 < 0 then some (0 : Int32) else (if (M.1 h0 1) < x2 then some (0 : Int32) else (if x1 < 0 then some (0 : Int32) else (if ((M.1 h0 1) - x2) < x1 then some (0 : Int32) else some (1 : Int32)))))
def fn_X1_holds (M : sd_Mem) (h0 : Nat) (x1 : Int32) (x2 : Int32) : Option Int32 := fn_X1_holds_0 M h0 x1 x2

def rm_X1_swap : Room := { frames := 1, cells := 0, slots := 0, locals := 22 }
def fn_X1_swap_0 (h0 : Nat)  (M : sd_Mem) (x1 : Int32) (x2 : Int32) : Option (Int32 × sd_Mem) := (fn_X1_holds M h0 x1 (1 : Int32)).bind fun q3 => (if q3 = 0 then some ((0 : Int32), M) else if x1 < 0 ∨ sd_ln (h0 + 1) ≤ x1.toNatClampNeg then none else if x1 < 0 ∨ sd_ln (h0 + 1) ≤ x1.toNatClampNeg then none else some (M.1 (h0 + 1) x1.toNatClampNeg, sd_setI M (h0 + 1) x1.toNatClampNeg x2))
def fn_X1_swap (M : sd_Mem) (h0 : Nat) (x1 : Int32) (x2 : Int32) : Option (Int32 × sd_Mem) := fn_X1_swap_0 h0 M x1 x2

def rm_X10_lay : Room := { frames := 2, cells := 0, slots := 0, locals := 45 }
def fn_X10_lay_0   (M : sd_Mem) (x1 : Int32) (x2 : Int32) (x3 : Int32) : Option (Int32 × sd_Mem) := (fn_X10_isRow x1).bind fun q1 => (if q1 = 0 then some ((-1 : Int32), M) else if x1 < 0 ∨ 6 ≤ x1.toNatClampNeg then none else (fn_X1_isMissing M (1 + 1 + 2 * x1.toNatClampNeg)).bind fun q15 => (if q15 = 0 then if x1 < 0 ∨ 6 ≤ x1.toNatClampNeg then none else (fn_X1_holds M (1 + 1 + 2 * x1.toNatClampNeg) x2 (1 : Int32)).bind fun q38 => (if q38 = 0 then (fn_X2_tell M (2 : Int32)).bind fun q49 => some (q49.1, q49.2) else if x1 < 0 ∨ 6 ≤ x1.toNatClampNeg then none else (fn_X1_swap M (1 + 1 + 2 * x1.toNatClampNeg) x2 x3).bind fun q62 => some ((1 : Int32), sd_setI q62.2 0 13 q62.1)) else (fn_X2_tell M (1 : Int32)).bind fun q26 => some (q26.1, q26.2)))
def fn_X10_lay (M : sd_Mem) (x1 : Int32) (x2 : Int32) (x3 : Int32) : Option (Int32 × sd_Mem) := fn_X10_lay_0 M x1 x2 x3

def rm_X1_drop : Room := { frames := 0, cells := 0, slots := 0, locals := 0 }
def fn_X1_drop_0 (h0 : Nat)  (M : sd_Mem) : Option sd_Mem := some (sd_setI M h0 1 (-1 : Int32))
def fn_X1_drop (M : sd_Mem) (h0 : Nat) : Option sd_Mem := fn_X1_drop_0 h0 M

def rm_X10_tear : Room := { frames := 2, cells := 0, slots := 0, locals := 43 }
def fn_X10_tear_0   (M : sd_Mem) (x1 : Int32) : Option (Int32 × sd_Mem) := (fn_X10_isRow x1).bind fun q1 => (if q1 = 0 then some ((-1 : Int32), M) else if x1 < 0 ∨ 6 ≤ x1.toNatClampNeg then none else (fn_X1_isMissing M (1 + 1 + 2 * x1.toNatClampNeg)).bind fun q15 => (if q15 = 0 then if x1 < 0 ∨ 6 ≤ x1.toNatClampNeg then none else (fn_X1_drop M (1 + 1 + 2 * x1.toNatClampNeg)).bind fun q36 => some ((1 : Int32), q36) else (fn_X2_tell M (1 : Int32)).bind fun q26 => some (q26.1, q26.2)))
def fn_X10_tear (M : sd_Mem) (x1 : Int32) : Option (Int32 × sd_Mem) := fn_X10_tear_0 M x1

def rm_X1_take : Room := { frames := 1, cells := 0, slots := 0, locals := 60 }
def fn_X1_take_0 (h0 : Nat) (h2 : Nat)  (M : sd_Mem) (x1 : Int32) (x3 : Int32) (x4 : Int32) : Option sd_Mem := (fn_X1_holds M h0 x1 x4).bind fun q4 => (if q4 = 0 then some M else (fn_X1_holds M h2 x3 x4).bind fun q14 => (if q14 = 0 then some M else if x3 < 0 ∨ x1 < 0 ∨ x4 < 0 ∨ sd_ln (h2 + 1) < x3.toNatClampNeg + x4.toNatClampNeg ∨ sd_ln (h0 + 1) < x1.toNatClampNeg + x4.toNatClampNeg then none else some (sd_setA M (h0 + 1) (va_cpy (M.1 (h2 + 1)) (M.1 (h0 + 1)) x3.toNatClampNeg x1.toNatClampNeg x4.toNatClampNeg))))
def fn_X1_take (M : sd_Mem) (h0 : Nat) (h2 : Nat) (x1 : Int32) (x3 : Int32) (x4 : Int32) : Option sd_Mem := fn_X1_take_0 h0 h2 M x1 x3 x4

def rm_X10_copy : Room := { frames := 2, cells := 0, slots := 0, locals := 84 }
def fn_X10_copy_0   (M : sd_Mem) (x1 : Int32) (x2 : Int32) (x3 : Int32) (x4 : Int32) (x5 : Int32) : Option (Int32 × sd_Mem) := (fn_X10_isRow x1).bind fun q1 => (if q1 = 0 then some ((-1 : Int32), M) else (fn_X10_isRow x3).bind fun q8 => (if q8 = 0 then some ((-1 : Int32), M) else (if 0 ≤ x5 then if x1 < 0 ∨ 6 ≤ x1.toNatClampNeg then none else (fn_X1_isMissing M (1 + 1 + 2 * x1.toNatClampNeg)).bind fun q36 => (if q36 = 0 then if x3 < 0 ∨ 6 ≤ x3.toNatClampNeg then none else (fn_X1_isMissing M (1 + 1 + 2 * x3.toNatClampNeg)).bind fun q48 => (if q48 = 0 then if x1 < 0 ∨ 6 ≤ x1.toNatClampNeg then none else (fn_X1_holds M (1 + 1 + 2 * x1.toNatClampNeg) x2 x5).bind fun q72 => (if q72 = 0 then (fn_X2_tell M (2 : Int32)).bind fun q99 => some (q99.1, q99.2) else if x3 < 0 ∨ 6 ≤ x3.toNatClampNeg then none else (fn_X1_holds M (1 + 1 + 2 * x3.toNatClampNeg) x4 x5).bind fun q88 => (if q88 = 0 then (fn_X2_tell M (2 : Int32)).bind fun q99 => some (q99.1, q99.2) else if x3 < 0 ∨ 6 ≤ x3.toNatClampNeg then none else if x1 < 0 ∨ 6 ≤ x1.toNatClampNeg then none else (fn_X1_take M (1 + 1 + 2 * x3.toNatClampNeg) (1 + 1 + 2 * x1.toNatClampNeg) x4 x2 x5).bind fun q120 => some ((1 : Int32), q120))) else (fn_X2_tell M (1 : Int32)).bind fun q59 => some (q59.1, q59.2)) else (fn_X2_tell M (1 : Int32)).bind fun q59 => some (q59.1, q59.2)) else (fn_X2_tell M (5 : Int32)).bind fun q26 => some (q26.1, q26.2))))
def fn_X10_copy (M : sd_Mem) (x1 : Int32) (x2 : Int32) (x3 : Int32) (x4 : Int32) (x5 : Int32) : Option (Int32 × sd_Mem) := fn_X10_copy_0 M x1 x2 x3 x4 x5

def rm_X1_size : Room := { frames := 0, cells := 0, slots := 0, locals := 0 }
def fn_X1_size_0 (M : sd_Mem) (h0 : Nat)   : Option Int32 := some (M.1 h0 1)
def fn_X1_size (M : sd_Mem) (h0 : Nat) : Option Int32 := fn_X1_size_0 M h0

def rm_X1_middle : Room := { frames := 0, cells := 0, slots := 0, locals := 0 }
def fn_X1_middle_28 (M : sd_Mem) (h0 : Nat)  (l1 : Int64) : Option Int32 := (if (M.1 h0 1) ≤ 0 then some (0 : Int32) else if ((M.1 h0 1).toInt64) = 0 then none else some ((l1 / ((M.1 h0 1).toInt64)).toInt32))
def fn_X1_middle_4 (M : sd_Mem) (h0 : Nat)  : Nat → Int64 → Int32 → Option Int32
  | 0, _, _ => none
  | n + 1, l1, x3 => (if (M.1 h0 1) ≤ x3 then fn_X1_middle_28 M h0 l1 else if x3 < 0 ∨ sd_ln (h0 + 1) ≤ x3.toNatClampNeg then none else fn_X1_middle_4 M h0 n (l1 + ((M.1 (h0 + 1) x3.toNatClampNeg).toInt64)) (x3 + (1 : Int32)))
def fn_X1_middle_0 (M : sd_Mem) (h0 : Nat)   : Option Int32 := fn_X1_middle_4 M h0 sd_FU (0 : Int64) (0 : Int32)
def fn_X1_middle (M : sd_Mem) (h0 : Nat) : Option Int32 := fn_X1_middle_0 M h0

def rm_X10_mean : Room := { frames := 2, cells := 0, slots := 0, locals := 43 }
def fn_X10_mean_0   (M : sd_Mem) (x1 : Int32) : Option (Int32 × sd_Mem) := (fn_X10_isRow x1).bind fun q1 => (if q1 = 0 then some ((-1 : Int32), M) else if x1 < 0 ∨ 6 ≤ x1.toNatClampNeg then none else (fn_X1_isMissing M (1 + 1 + 2 * x1.toNatClampNeg)).bind fun q15 => (if q15 = 0 then if x1 < 0 ∨ 6 ≤ x1.toNatClampNeg then none else (fn_X1_size M (1 + 1 + 2 * x1.toNatClampNeg)).bind fun q36 => (if q36 = 0 then (fn_X2_tell M (4 : Int32)).bind fun q47 => some (q47.1, q47.2) else if x1 < 0 ∨ 6 ≤ x1.toNatClampNeg then none else (fn_X1_middle M (1 + 1 + 2 * x1.toNatClampNeg)).bind fun q58 => some ((1 : Int32), sd_setI M 0 13 q58)) else (fn_X2_tell M (1 : Int32)).bind fun q26 => some (q26.1, q26.2)))
def fn_X10_mean (M : sd_Mem) (x1 : Int32) : Option (Int32 × sd_Mem) := fn_X10_mean_0 M x1

def rm_X10_isText : Room := { frames := 1, cells := 0, slots := 0, locals := 22 }
def fn_X10_isText_0   (x0 : Int32) : Option Int32 := (fn_X10_within x0 (0 : Int32) (3 : Int32)).bind fun q3 => if q3 &&& 1 ≠ q3 then none else some q3
def fn_X10_isText (x0 : Int32) : Option Int32 := fn_X10_isText_0 x0

def rm_X10_text : Room := { frames := 2, cells := 0, slots := 0, locals := 52 }
def fn_X10_text_0   (M : sd_Mem) (x1 : Int32) (x2 : Int32) : Option (Int32 × sd_Mem) := (fn_X10_isText x1).bind fun q1 => (if q1 = 0 then some ((-1 : Int32), M) else (if x2 ≤ (60 : Int32) then (if 0 ≤ x2 then if x1 < 0 ∨ 4 ≤ x1.toNatClampNeg then none else (fn_X1_make M (14 + 1 + 2 * x1.toNatClampNeg) x2 (32 : Int32)).bind fun q37 => some (x2, q37) else (fn_X2_tell M (5 : Int32)).bind fun q24 => some (q24.1, q24.2)) else some ((-1 : Int32), M)))
def fn_X10_text (M : sd_Mem) (x1 : Int32) (x2 : Int32) : Option (Int32 × sd_Mem) := fn_X10_text_0 M x1 x2

def rm_X10_put : Room := { frames := 2, cells := 0, slots := 0, locals := 45 }
def fn_X10_put_0   (M : sd_Mem) (x1 : Int32) (x2 : Int32) (x3 : Int32) : Option (Int32 × sd_Mem) := (fn_X10_isText x1).bind fun q1 => (if q1 = 0 then some ((-1 : Int32), M) else if x1 < 0 ∨ 4 ≤ x1.toNatClampNeg then none else (fn_X1_isMissing M (14 + 1 + 2 * x1.toNatClampNeg)).bind fun q15 => (if q15 = 0 then if x1 < 0 ∨ 4 ≤ x1.toNatClampNeg then none else (fn_X1_holds M (14 + 1 + 2 * x1.toNatClampNeg) x2 (1 : Int32)).bind fun q38 => (if q38 = 0 then (fn_X2_tell M (2 : Int32)).bind fun q49 => some (q49.1, q49.2) else if x1 < 0 ∨ 4 ≤ x1.toNatClampNeg then none else (fn_X1_swap M (14 + 1 + 2 * x1.toNatClampNeg) x2 x3.toInt8.toInt32).bind fun q65 => some ((1000 : Int32) + q65.1, q65.2)) else (fn_X2_tell M (1 : Int32)).bind fun q26 => some (q26.1, q26.2)))
def fn_X10_put (M : sd_Mem) (x1 : Int32) (x2 : Int32) (x3 : Int32) : Option (Int32 × sd_Mem) := fn_X10_put_0 M x1 x2 x3

def rm_X1_cell : Room := { frames := 0, cells := 0, slots := 0, locals := 0 }
def fn_X1_cell_0 (M : sd_Mem) (h0 : Nat)  (x1 : Int32) : Option Int32 := (if x1 < 0 then some (0 : Int32) else (if (M.1 h0 1) ≤ x1 then some (0 : Int32) else if x1 < 0 ∨ sd_ln (h0 + 1) ≤ x1.toNatClampNeg then none else some (M.1 (h0 + 1) x1.toNatClampNeg)))
def fn_X1_cell (M : sd_Mem) (h0 : Nat) (x1 : Int32) : Option Int32 := fn_X1_cell_0 M h0 x1

def rm_X6_skipBlanks : Room := { frames := 1, cells := 0, slots := 0, locals := 21 }
def fn_X6_skipBlanks_0 (h1 : Nat)  : Nat → sd_Mem → Option sd_Mem
  | 0, _ => none
  | n + 1, M => (fn_X1_size M h1).bind fun q5 => (if q5 ≤ (M.1 60 1) then some M else (fn_X1_cell M h1 (M.1 60 1)).bind fun q16 => (if q16 = (32 : Int32) then fn_X6_skipBlanks_0 h1 n (sd_setI M 60 1 ((M.1 60 1) + (1 : Int32))) else some M))
def fn_X6_skipBlanks (M : sd_Mem) (h1 : Nat) : Option sd_Mem := fn_X6_skipBlanks_0 h1 sd_FU M

def rm_X6_isWhole : Room := { frames := 1, cells := 0, slots := 0, locals := 21 }
def fn_X6_isWhole_0 (M : sd_Mem)   : Option Int32 := (fn_X5_sorts M 49 (0 : Int32)).bind fun q5 => (if q5 ≤ 0 then some (0 : Int32) else (fn_X5_sorts M 49 (1 : Int32)).bind fun q16 => (if q16 ≤ 0 then some (0 : Int32) else (if (M.1 49 5) < (M.1 49 6) then some (0 : Int32) else some (1 : Int32))))
def fn_X6_isWhole (M : sd_Mem) : Option Int32 := fn_X6_isWhole_0 M

def rm_X6_isFigure : Room := { frames := 1, cells := 0, slots := 0, locals := 22 }
def fn_X6_isFigure_0 (M : sd_Mem) (h1 : Nat)   : Option Int32 := (fn_X1_cell M h1 (M.1 60 1)).bind fun q5 => (fn_X10_within q5 (48 : Int32) (57 : Int32)).bind fun q12 => if q12 &&& 1 ≠ q12 then none else some q12
def fn_X6_isFigure (M : sd_Mem) (h1 : Nat) : Option Int32 := fn_X6_isFigure_0 M h1

def rm_X6_readValue : Room := { frames := 2, cells := 0, slots := 0, locals := 43 }
def fn_X6_readValue_24 (h1 : Nat)  : Nat → sd_Mem → Int32 → Int32 → Option (Int32 × sd_Mem)
  | 0, _, _, _ => none
  | n + 1, M, x2, x3 => (if (2 : Int32) ≤ x3 then some (x2, M) else (fn_X6_isFigure M h1).bind fun q31 => (if q31 = 0 then some (x2, M) else (fn_X1_cell M h1 (M.1 60 1)).bind fun q46 => fn_X6_readValue_24 h1 n (sd_setI M 60 1 ((M.1 60 1) + (1 : Int32))) ((((10 : Int32) * x2) + q46) - (48 : Int32)) (x3 + (1 : Int32))))
def fn_X6_readValue_0 (h1 : Nat)  (M : sd_Mem) : Option (Int32 × sd_Mem) := (fn_X6_isFigure (sd_setI M 60 1 ((M.1 60 1) + (1 : Int32))) h1).bind fun q12 => (if q12 = 0 then some ((-1 : Int32), sd_setI M 60 1 ((M.1 60 1) + (1 : Int32))) else fn_X6_readValue_24 h1 sd_FU (sd_setI M 60 1 ((M.1 60 1) + (1 : Int32))) (0 : Int32) (0 : Int32))
def fn_X6_readValue (M : sd_Mem) (h1 : Nat) : Option (Int32 × sd_Mem) := fn_X6_readValue_0 h1 M

def rm_X6_readSort : Room := { frames := 3, cells := 0, slots := 0, locals := 66 }
def fn_X6_readSort_0 (h1 : Nat)  (M : sd_Mem) (x2 : Int32) : Option (Int32 × sd_Mem) := (fn_X5_sorts M 49 x2).bind fun q5 => (if q5 < (3 : Int32) then (fn_X6_readValue M h1).bind fun q16 => (fn_X10_within q16.1 (1 : Int32) (9 : Int32)).bind fun q24 => (if q24 = 0 then some ((0 : Int32), q16.2) else (fn_X1_cell q16.2 h1 (q16.2.1 60 1)).bind fun q35 => (if q35 = (44 : Int32) then (fn_X6_readValue q16.2 h1).bind fun q47 => (fn_X5_addSort q47.2 49 x2 q16.1 q47.1).bind fun q60 => (if q47.1 = (-1 : Int32) then some ((0 : Int32), q60) else some ((1 : Int32), q60)) else some ((0 : Int32), q16.2))) else some ((0 : Int32), M))
def fn_X6_readSort (M : sd_Mem) (h1 : Nat) (x2 : Int32) : Option (Int32 × sd_Mem) := fn_X6_readSort_0 h1 M x2

def rm_X6_readItem : Room := { frames := 4, cells := 0, slots := 0, locals := 90 }
def fn_X6_readItem_0 (h1 : Nat)  (M : sd_Mem) : Option (Int32 × sd_Mem) := (fn_X1_cell M h1 (M.1 60 1)).bind fun q5 => (if q5.toInt < 104 ∨ 119 < q5.toInt then some ((0 : Int32), M) else if q5 = 104 then (fn_X6_readValue M h1).bind fun q134 => (fn_X10_within ((sd_setI q134.2 49 5 q134.1).1 49 5) (1 : Int32) (40 : Int32)).bind fun q150 => if q150 &&& 1 ≠ q150 then none else some (q150, sd_setI q134.2 49 5 q134.1) else if q5 = 105 then some ((0 : Int32), M) else if q5 = 106 then some ((0 : Int32), M) else if q5 = 107 then some ((0 : Int32), M) else if q5 = 108 then (fn_X6_readValue M h1).bind fun q160 => (fn_X10_within ((sd_setI q160.2 49 6 q160.1).1 49 6) (1 : Int32) (10 : Int32)).bind fun q176 => if q176 &&& 1 ≠ q176 then none else some (q176, sd_setI q160.2 49 6 q160.1) else if q5 = 109 then (fn_X6_readSort M h1 (0 : Int32)).bind fun q91 => if q91.1 &&& 1 ≠ q91.1 then none else some (q91.1, q91.2) else if q5 = 110 then some ((0 : Int32), M) else if q5 = 111 then (fn_X6_readSort M h1 (1 : Int32)).bind fun q98 => if q98.1 &&& 1 ≠ q98.1 then none else some (q98.1, q98.2) else if q5 = 112 then some ((0 : Int32), M) else if q5 = 113 then some ((0 : Int32), M) else if q5 = 114 then some ((0 : Int32), M) else if q5 = 115 then some ((0 : Int32), M) else if q5 = 116 then some ((0 : Int32), M) else if q5 = 117 then some ((0 : Int32), M) else if q5 = 118 then (fn_X6_readValue M h1).bind fun q108 => (fn_X10_within ((sd_setI q108.2 49 4 q108.1).1 49 4) (0 : Int32) (99 : Int32)).bind fun q124 => if q124 &&& 1 ≠ q124 then none else some (q124, sd_setI q108.2 49 4 q108.1) else if q5 = 119 then (fn_X6_readValue M h1).bind fun q186 => (fn_X10_within ((sd_setI q186.2 49 7 q186.1).1 49 7) (0 : Int32) (12 : Int32)).bind fun q202 => if q202 &&& 1 ≠ q202 then none else some (q202, sd_setI q186.2 49 7 q186.1) else none)
def fn_X6_readItem (M : sd_Mem) (h1 : Nat) : Option (Int32 × sd_Mem) := fn_X6_readItem_0 h1 M

def rm_X6_read : Room := { frames := 5, cells := 0, slots := 0, locals := 111 }
def fn_X6_read_36 (h1 : Nat)  (M : sd_Mem) : Option (Int32 × sd_Mem) := (fn_X6_isWhole M).bind fun q37 => (if q37 = 0 then (fn_X1_size M h1).bind fun q49 => some (q49, M) else some ((-9 : Int32), M))
def fn_X6_read_14 (h1 : Nat)  : Nat → sd_Mem → Int32 → Option (Int32 × sd_Mem)
  | 0, _, _ => none
  | n + 1, M, x2 => (if (60 : Int32) < x2 then some (M.1 60 1, M) else (fn_X6_skipBlanks M h1).bind fun q22 => (fn_X1_size q22 h1).bind fun q30 => (if (q22.1 60 1) < q30 then (fn_X6_readItem q22 h1).bind fun q55 => (if q55.1 = 0 then some (q55.2.1 60 1, q55.2) else fn_X6_read_14 h1 n q55.2 (x2 + (1 : Int32))) else fn_X6_read_36 h1 q22))
def fn_X6_read_0 (h1 : Nat)  (M : sd_Mem) : Option (Int32 × sd_Mem) := (fn_X5_clear M 49).bind fun q4 => fn_X6_read_14 h1 sd_FU (sd_setI q4 60 1 (0 : Int32)) (0 : Int32)
def fn_X6_read (M : sd_Mem) (h1 : Nat) : Option (Int32 × sd_Mem) := fn_X6_read_0 h1 M

def rm_X10_fault : Room := { frames := 6, cells := 0, slots := 0, locals := 133 }
def fn_X10_fault_0   (M : sd_Mem) (x1 : Int32) : Option (Int32 × sd_Mem) := (fn_X10_isText x1).bind fun q1 => (if q1 = 0 then some ((-1 : Int32), M) else if x1 < 0 ∨ 4 ≤ x1.toNatClampNeg then none else (fn_X1_isMissing M (14 + 1 + 2 * x1.toNatClampNeg)).bind fun q15 => (if q15 = 0 then if x1 < 0 ∨ 4 ≤ x1.toNatClampNeg then none else (fn_X6_read M (14 + 1 + 2 * x1.toNatClampNeg)).bind fun q40 => some (q40.1, q40.2) else (fn_X2_tell M (1 : Int32)).bind fun q26 => some (q26.1, q26.2)))
def fn_X10_fault (M : sd_Mem) (x1 : Int32) : Option (Int32 × sd_Mem) := fn_X10_fault_0 M x1

def rm_X6_draft : Room := { frames := 0, cells := 0, slots := 0, locals := 0 }
def fn_X6_draft_0    : Option Nat := some 49
def fn_X6_draft  : Option Nat := fn_X6_draft_0

def rm_X5_hasSort : Room := { frames := 0, cells := 0, slots := 0, locals := 0 }
def fn_X5_hasSort_9 (M : sd_Mem) (h0 : Nat)  (x1 : Int32) (x2 : Int32) : Option Int32 := (if x2 < 0 then some (0 : Int32) else if x1 < 0 ∨ 2 ≤ x1.toNatClampNeg then none else (if (M.1 (h0 + 1) x1.toNatClampNeg) ≤ x2 then some (0 : Int32) else some (1 : Int32)))
def fn_X5_hasSort_0 (M : sd_Mem) (h0 : Nat)  (x1 : Int32) (x2 : Int32) : Option Int32 := (if x1 = 0 then fn_X5_hasSort_9 M h0 x1 x2 else (if x1 = (1 : Int32) then fn_X5_hasSort_9 M h0 x1 x2 else some (0 : Int32)))
def fn_X5_hasSort (M : sd_Mem) (h0 : Nat) (x1 : Int32) (x2 : Int32) : Option Int32 := fn_X5_hasSort_0 M h0 x1 x2

def rm_X5_chance : Room := { frames := 1, cells := 0, slots := 0, locals := 22 }
def fn_X5_chance_0 (M : sd_Mem) (h0 : Nat)  (x1 : Int32) (x2 : Int32) : Option Int32 := (fn_X5_hasSort M h0 x1 x2).bind fun q3 => (if q3 = 0 then some (0 : Int32) else if x1 < 0 ∨ 2 ≤ x1.toNatClampNeg then none else if x2 < 0 ∨ 3 ≤ x2.toNatClampNeg then none else some (M.1 (h0 + 3 + 1 + x1.toNatClampNeg) x2.toNatClampNeg))
def fn_X5_chance (M : sd_Mem) (h0 : Nat) (x1 : Int32) (x2 : Int32) : Option Int32 := fn_X5_chance_0 M h0 x1 x2

def rm_X5_cost : Room := { frames := 1, cells := 0, slots := 0, locals := 22 }
def fn_X5_cost_0 (M : sd_Mem) (h0 : Nat)  (x1 : Int32) (x2 : Int32) : Option Int32 := (fn_X5_hasSort M h0 x1 x2).bind fun q3 => (if q3 = 0 then some (0 : Int32) else if x1 < 0 ∨ 2 ≤ x1.toNatClampNeg then none else if x2 < 0 ∨ 3 ≤ x2.toNatClampNeg then none else some (M.1 (h0 + 6 + 1 + x1.toNatClampNeg) x2.toNatClampNeg))
def fn_X5_cost (M : sd_Mem) (h0 : Nat) (x1 : Int32) (x2 : Int32) : Option Int32 := fn_X5_cost_0 M h0 x1 x2

def rm_X5_become : Room := { frames := 2, cells := 0, slots := 0, locals := 46 }
def fn_X5_become_13 (h0 : Nat) (h1 : Nat) (k6 : sd_Mem → Int32 → Option sd_Mem) : Nat → sd_Mem → Int32 → Int32 → Option sd_Mem
  | 0, _, _, _ => none
  | n + 1, M, x2, x3 => (fn_X5_sorts M h1 x2).bind fun q16 => (if q16 ≤ x3 then k6 M (x2 + (1 : Int32)) else (fn_X5_chance M h1 x2 x3).bind fun q27 => (fn_X5_cost M h1 x2 x3).bind fun q33 => (fn_X5_addSort M h0 x2 q27 q33).bind fun q36 => fn_X5_become_13 h0 h1 k6 n q36 x2 (x3 + (1 : Int32)))
def fn_X5_become_51 (h0 : Nat) (h1 : Nat)  (M : sd_Mem) : Option sd_Mem := some (sd_setI (sd_setI (sd_setI (sd_setI M h0 4 (M.1 h1 4)) h0 5 ((sd_setI M h0 4 (M.1 h1 4)).1 h1 5)) h0 6 ((sd_setI (sd_setI M h0 4 (M.1 h1 4)) h0 5 ((sd_setI M h0 4 (M.1 h1 4)).1 h1 5)).1 h1 6)) h0 7 ((sd_setI (sd_setI (sd_setI M h0 4 (M.1 h1 4)) h0 5 ((sd_setI M h0 4 (M.1 h1 4)).1 h1 5)) h0 6 ((sd_setI (sd_setI M h0 4 (M.1 h1 4)) h0 5 ((sd_setI M h0 4 (M.1 h1 4)).1 h1 5)).1 h1 6)).1 h1 7))
def fn_X5_become_6 (h0 : Nat) (h1 : Nat)  : Nat → sd_Mem → Int32 → Option sd_Mem
  | 0, _, _ => none
  | n + 1, M, x2 => (if (1 : Int32) < x2 then fn_X5_become_51 h0 h1 M else fn_X5_become_13 h0 h1 (fn_X5_become_6 h0 h1 n) sd_FU M x2 (0 : Int32))
def fn_X5_become_0 (h0 : Nat) (h1 : Nat)  (M : sd_Mem) : Option sd_Mem := (fn_X5_clear M h0).bind fun q1 => fn_X5_become_6 h0 h1 sd_FU q1 (0 : Int32)
def fn_X5_become (M : sd_Mem) (h0 : Nat) (h1 : Nat) : Option sd_Mem := fn_X5_become_0 h0 h1 M

def rm_X10_quarrel : Room := { frames := 6, cells := 0, slots := 0, locals := 133 }
def fn_X10_quarrel_0   (M : sd_Mem) (x1 : Int32) : Option (Int32 × sd_Mem) := (fn_X10_isText x1).bind fun q1 => (if q1 = 0 then some ((-1 : Int32), M) else if x1 < 0 ∨ 4 ≤ x1.toNatClampNeg then none else (fn_X1_isMissing M (14 + 1 + 2 * x1.toNatClampNeg)).bind fun q15 => (if q15 = 0 then if x1 < 0 ∨ 4 ≤ x1.toNatClampNeg then none else (fn_X6_read M (14 + 1 + 2 * x1.toNatClampNeg)).bind fun q40 => (if q40.1 = (-9 : Int32) then fn_X6_draft.bind fun q59 => (fn_X5_become q40.2 40 49).bind fun q62 => (fn_X5_sorts q62 40 (0 : Int32)).bind fun q70 => (fn_X5_sorts q62 40 (1 : Int32)).bind fun q78 => some (q70 + q78, q62) else some ((-4 : Int32), q40.2)) else (fn_X2_tell M (1 : Int32)).bind fun q26 => some (q26.1, q26.2)))
def fn_X10_quarrel (M : sd_Mem) (x1 : Int32) : Option (Int32 × sd_Mem) := fn_X10_quarrel_0 M x1

def rm_X5_last : Room := { frames := 0, cells := 0, slots := 0, locals := 0 }
def fn_X5_last_0 (M : sd_Mem) (h0 : Nat)   : Option Int32 := some (M.1 h0 6)
def fn_X5_last (M : sd_Mem) (h0 : Nat) : Option Int32 := fn_X5_last_0 M h0

def rm_X10_ofQuarrel : Room := { frames := 1, cells := 0, slots := 0, locals := 21 }
def fn_X10_ofQuarrel_0 (M : sd_Mem)  (x1 : Int32) : Option Int32 := (if x1.toInt < 0 ∨ 7 < x1.toInt then some (M.1 58 2) else if x1 = 0 then (fn_X5_sorts M 40 (0 : Int32)).bind fun q53 => some q53 else if x1 = 1 then (fn_X5_sorts M 40 (1 : Int32)).bind fun q62 => some q62 else if x1 = 2 then some (M.1 40 4) else if x1 = 3 then some (M.1 40 5) else if x1 = 4 then (fn_X5_last M 40).bind fun q86 => some q86 else if x1 = 5 then some (M.1 40 7) else if x1 = 6 then some (M.1 58 0) else if x1 = 7 then some (M.1 58 1) else none)
def fn_X10_ofQuarrel (M : sd_Mem) (x1 : Int32) : Option Int32 := fn_X10_ofQuarrel_0 M x1

def rm_X10_told : Room := { frames := 2, cells := 0, slots := 0, locals := 42 }
def fn_X10_told_0   (M : sd_Mem) (x1 : Int32) : Option (Int32 × sd_Mem) := (fn_X10_within x1 (0 : Int32) (8 : Int32)).bind fun q4 => (if q4 = 0 then some ((-1 : Int32), M) else (fn_X10_ofQuarrel M x1).bind fun q15 => some ((1 : Int32), sd_setI M 0 13 q15))
def fn_X10_told (M : sd_Mem) (x1 : Int32) : Option (Int32 × sd_Mem) := fn_X10_told_0 M x1

def rm_X10_sort : Room := { frames := 2, cells := 0, slots := 0, locals := 44 }
def fn_X10_sort_0   (M : sd_Mem) (x1 : Int32) (x2 : Int32) (x3 : Int32) : Option (Int32 × sd_Mem) := (fn_X5_hasSort M 40 x1 x2).bind fun q6 => (if q6 = 0 then some ((-1 : Int32), M) else (fn_X10_within x3 (0 : Int32) (1 : Int32)).bind fun q15 => (if q15 = 0 then some ((-1 : Int32), M) else (if x3 = 0 then (fn_X5_chance M 40 x1 x2).bind fun q34 => some ((1 : Int32), sd_setI M 0 13 q34) else (fn_X5_cost M 40 x1 x2).bind fun q46 => some ((1 : Int32), sd_setI M 0 13 q46))))
def fn_X10_sort (M : sd_Mem) (x1 : Int32) (x2 : Int32) (x3 : Int32) : Option (Int32 × sd_Mem) := fn_X10_sort_0 M x1 x2 x3

def rm_X10_notice : Room := { frames := 1, cells := 0, slots := 0, locals := 22 }
def fn_X10_notice_0   (M : sd_Mem) (x1 : Int32) : Option (Int32 × sd_Mem) := (fn_X10_within x1 (1 : Int32) (10 : Int32)).bind fun q4 => (if q4 = 0 then some ((-1 : Int32), M) else some (M.1 58 0, sd_setI M 58 0 x1))
def fn_X10_notice (M : sd_Mem) (x1 : Int32) : Option (Int32 × sd_Mem) := fn_X10_notice_0 M x1

def rm_X10_judge : Room := { frames := 1, cells := 0, slots := 0, locals := 22 }
def fn_X10_judge_0   (M : sd_Mem) (x1 : Int32) (x2 : Int32) : Option (Int32 × sd_Mem) := (fn_X10_within x1 (0 : Int32) (12 : Int32)).bind fun q4 => (if q4 = 0 then some ((-1 : Int32), M) else (fn_X10_within x2 (0 : Int32) (12 : Int32)).bind fun q14 => (if q14 = 0 then some ((-1 : Int32), M) else some ((1 : Int32), sd_setI (sd_setI M 58 1 x1) 58 2 x2)))
def fn_X10_judge (M : sd_Mem) (x1 : Int32) (x2 : Int32) : Option (Int32 × sd_Mem) := fn_X10_judge_0 M x1 x2

def rm_X10_isWay : Room := { frames := 1, cells := 0, slots := 0, locals := 22 }
def fn_X10_isWay_0   (x0 : Int32) : Option Int32 := (fn_X10_within x0 (0 : Int32) (7 : Int32)).bind fun q4 => if q4 &&& 1 ≠ q4 then none else some q4
def fn_X10_isWay (x0 : Int32) : Option Int32 := fn_X10_isWay_0 x0

def rm_X9_make : Room := { frames := 1, cells := 0, slots := 0, locals := 23 }
def fn_X9_make_0 (h0 : Nat)  (M : sd_Mem) (x1 : Int32) : Option sd_Mem := (fn_J7_fill_53178 (sd_setI M h0 1 x1) (h0 + 1) (0 : Int32)).bind fun q10 => some q10
def fn_X9_make (M : sd_Mem) (h0 : Nat) (x1 : Int32) : Option sd_Mem := fn_X9_make_0 h0 M x1

def rm_X10_way : Room := { frames := 2, cells := 0, slots := 0, locals := 44 }
def fn_X10_way_0   (M : sd_Mem) (x1 : Int32) (x2 : Int32) : Option (Int32 × sd_Mem) := (fn_X10_isWay x1).bind fun q1 => (if q1 = 0 then some ((-1 : Int32), M) else (fn_X10_within x2 (0 : Int32) (4 : Int32)).bind fun q10 => (if q10 = 0 then some ((-1 : Int32), M) else if x1 < 0 ∨ 8 ≤ x1.toNatClampNeg then none else (fn_X9_make M (23 + 1 + 2 * x1.toNatClampNeg) x2).bind fun q25 => some ((1 : Int32), q25)))
def fn_X10_way (M : sd_Mem) (x1 : Int32) (x2 : Int32) : Option (Int32 × sd_Mem) := fn_X10_way_0 M x1 x2

def rm_X10_isPlace : Room := { frames := 0, cells := 0, slots := 0, locals := 0 }
def fn_X10_isPlace_0   (x0 : Int32) (x1 : Int32) : Option Int32 := (if x0 < 0 then some (0 : Int32) else (if (3 : Int32) ≤ x0 then some (0 : Int32) else (if x1 < (1 : Int32) then some (0 : Int32) else (if (10 : Int32) < x1 then some (0 : Int32) else some (1 : Int32)))))
def fn_X10_isPlace (x0 : Int32) (x1 : Int32) : Option Int32 := fn_X10_isPlace_0 x0 x1

def rm_X9_isMissing : Room := { frames := 0, cells := 0, slots := 0, locals := 0 }
def fn_X9_isMissing_0 (M : sd_Mem) (h0 : Nat)   : Option Int32 := (if (M.1 h0 1) = (-1 : Int32) then some (1 : Int32) else some (0 : Int32))
def fn_X9_isMissing (M : sd_Mem) (h0 : Nat) : Option Int32 := fn_X9_isMissing_0 M h0

def rm_X9_is : Room := { frames := 0, cells := 0, slots := 0, locals := 0 }
def fn_X9_is_0 (M : sd_Mem) (h0 : Nat)  (x1 : Int32) : Option Int32 := (if x1 = 0 then some (1 : Int32) else (if (M.1 h0 1) = x1 then some (1 : Int32) else (if x1 = (2 : Int32) then (if (M.1 h0 1) = (3 : Int32) then some (1 : Int32) else some (0 : Int32)) else some (0 : Int32))))
def fn_X9_is (M : sd_Mem) (h0 : Nat) (x1 : Int32) : Option Int32 := fn_X9_is_0 M h0 x1

def rm_X9_fits : Room := { frames := 1, cells := 0, slots := 0, locals := 22 }
def fn_X9_fits_0 (M : sd_Mem) (h0 : Nat)  (x1 : Int32) : Option Int32 := (if (M.1 h0 1) = (1 : Int32) then (fn_X10_within x1 (0 : Int32) (12 : Int32)).bind fun q12 => if q12 &&& 1 ≠ q12 then none else some q12 else (fn_X9_is M h0 (2 : Int32)).bind fun q20 => (if q20 = 0 then (fn_X10_within x1 (0 : Int32) (99 : Int32)).bind fun q33 => if q33 &&& 1 ≠ q33 then none else some q33 else (fn_X10_within x1 (0 : Int32) (13 : Int32)).bind fun q33 => if q33 &&& 1 ≠ q33 then none else some q33))
def fn_X9_fits (M : sd_Mem) (h0 : Nat) (x1 : Int32) : Option Int32 := fn_X9_fits_0 M h0 x1

def rm_X9_number : Room := { frames := 1, cells := 0, slots := 0, locals := 21 }
def fn_X9_number_0 (M : sd_Mem) (h0 : Nat)  (x1 : Int32) (x2 : Int32) : Option Int32 := (fn_X10_isPlace x1 x2).bind fun q2 => (if q2 = 0 then some (0 : Int32) else if ((((10 : Int32) * x1) + x2) - (1 : Int32)) < 0 ∨ 30 ≤ ((((10 : Int32) * x1) + x2) - (1 : Int32)).toNatClampNeg then none else some (M.1 (h0 + 1) ((((10 : Int32) * x1) + x2) - (1 : Int32)).toNatClampNeg))
def fn_X9_number (M : sd_Mem) (h0 : Nat) (x1 : Int32) (x2 : Int32) : Option Int32 := fn_X9_number_0 M h0 x1 x2

def rm_X9_swap : Room := { frames := 2, cells := 0, slots := 0, locals := 43 }
def fn_X9_swap_0 (h0 : Nat)  (M : sd_Mem) (x1 : Int32) (x2 : Int32) (x3 : Int32) : Option (Int32 × sd_Mem) := (fn_X9_number M h0 x1 x2).bind fun q3 => (fn_X10_isPlace x1 x2).bind fun q10 => (if q10 = 0 then some (q3, M) else if ((((10 : Int32) * x1) + x2) - (1 : Int32)) < 0 ∨ 30 ≤ ((((10 : Int32) * x1) + x2) - (1 : Int32)).toNatClampNeg then none else some (q3, sd_setI M (h0 + 1) ((((10 : Int32) * x1) + x2) - (1 : Int32)).toNatClampNeg x3))
def fn_X9_swap (M : sd_Mem) (h0 : Nat) (x1 : Int32) (x2 : Int32) (x3 : Int32) : Option (Int32 × sd_Mem) := fn_X9_swap_0 h0 M x1 x2 x3

def rm_X10_set : Room := { frames := 3, cells := 0, slots := 0, locals := 67 }
def fn_X10_set_0   (M : sd_Mem) (x1 : Int32) (x2 : Int32) (x3 : Int32) (x4 : Int32) : Option (Int32 × sd_Mem) := (fn_X10_isWay x1).bind fun q1 => (if q1 = 0 then some ((-1 : Int32), M) else (fn_X10_isPlace x2 x3).bind fun q9 => (if q9 = 0 then some ((-1 : Int32), M) else if x1 < 0 ∨ 8 ≤ x1.toNatClampNeg then none else (fn_X9_isMissing M (23 + 1 + 2 * x1.toNatClampNeg)).bind fun q23 => (if q23 = 0 then if x1 < 0 ∨ 8 ≤ x1.toNatClampNeg then none else (fn_X9_fits M (23 + 1 + 2 * x1.toNatClampNeg) x4).bind fun q46 => (if q46 = 0 then (fn_X2_tell M (3 : Int32)).bind fun q57 => some (q57.1, q57.2) else if x1 < 0 ∨ 8 ≤ x1.toNatClampNeg then none else (fn_X9_swap M (23 + 1 + 2 * x1.toNatClampNeg) x2 x3 x4).bind fun q71 => some (q71.1, q71.2)) else (fn_X2_tell M (1 : Int32)).bind fun q34 => some (q34.1, q34.2))))
def fn_X10_set (M : sd_Mem) (x1 : Int32) (x2 : Int32) (x3 : Int32) (x4 : Int32) : Option (Int32 × sd_Mem) := fn_X10_set_0 M x1 x2 x3 x4

def rm_X10_setAll : Room := { frames := 3, cells := 0, slots := 0, locals := 67 }
def fn_X10_setAll_115   (M : sd_Mem) : Option (Int32 × sd_Mem) := (fn_X2_tell M (3 : Int32)).bind fun q120 => some (q120.1, q120.2)
def fn_X10_setAll_133   : Nat → sd_Mem → Int32 → Int32 → Int32 → Int32 → Option (Int32 × sd_Mem)
  | 0, _, _, _, _, _ => none
  | n + 1, M, x1, x2, x3, x4 => (if (10 : Int32) ≤ x4 then some ((1 : Int32), M) else if x1 < 0 ∨ 8 ≤ x1.toNatClampNeg then none else if x3 < 0 ∨ 6 ≤ x3.toNatClampNeg then none else (fn_X1_cell M (1 + 1 + 2 * x3.toNatClampNeg) x4).bind fun q159 => (fn_X9_swap M (23 + 1 + 2 * x1.toNatClampNeg) x2 (x4 + (1 : Int32)) q159.toInt8.toInt32).bind fun q163 => fn_X10_setAll_133 n q163.2 x1 x2 x3 (x4 + (1 : Int32)))
def fn_X10_setAll_84   : Nat → sd_Mem → Int32 → Int32 → Int32 → Int32 → Option (Int32 × sd_Mem)
  | 0, _, _, _, _, _ => none
  | n + 1, M, x1, x2, x3, x4 => (if (10 : Int32) ≤ x4 then fn_X10_setAll_133 sd_FU M x1 x2 x3 (0 : Int32) else if x1 < 0 ∨ 8 ≤ x1.toNatClampNeg then none else if x3 < 0 ∨ 6 ≤ x3.toNatClampNeg then none else (fn_X1_cell M (1 + 1 + 2 * x3.toNatClampNeg) x4).bind fun q105 => (fn_X9_fits M (23 + 1 + 2 * x1.toNatClampNeg) q105.toInt8.toInt32).bind fun q109 => (if q109 = 0 then fn_X10_setAll_115 M else fn_X10_setAll_84 n M x1 x2 x3 (x4 + (1 : Int32))))
def fn_X10_setAll_0   (M : sd_Mem) (x1 : Int32) (x2 : Int32) (x3 : Int32) : Option (Int32 × sd_Mem) := (fn_X10_isWay x1).bind fun q1 => (if q1 = 0 then some ((-1 : Int32), M) else (fn_X10_within x2 (0 : Int32) (2 : Int32)).bind fun q10 => (if q10 = 0 then some ((-1 : Int32), M) else (fn_X10_isRow x3).bind fun q17 => (if q17 = 0 then some ((-1 : Int32), M) else if x1 < 0 ∨ 8 ≤ x1.toNatClampNeg then none else (fn_X9_isMissing M (23 + 1 + 2 * x1.toNatClampNeg)).bind fun q31 => (if q31 = 0 then if x3 < 0 ∨ 6 ≤ x3.toNatClampNeg then none else (fn_X1_isMissing M (1 + 1 + 2 * x3.toNatClampNeg)).bind fun q43 => (if q43 = 0 then if x3 < 0 ∨ 6 ≤ x3.toNatClampNeg then none else (fn_X1_size M (1 + 1 + 2 * x3.toNatClampNeg)).bind fun q64 => (if q64 = (10 : Int32) then fn_X10_setAll_84 sd_FU M x1 x2 x3 (0 : Int32) else (fn_X2_tell M (5 : Int32)).bind fun q77 => some (q77.1, q77.2)) else (fn_X2_tell M (1 : Int32)).bind fun q54 => some (q54.1, q54.2)) else (fn_X2_tell M (1 : Int32)).bind fun q54 => some (q54.1, q54.2)))))
def fn_X10_setAll (M : sd_Mem) (x1 : Int32) (x2 : Int32) (x3 : Int32) : Option (Int32 × sd_Mem) := fn_X10_setAll_0 M x1 x2 x3

def rm_X10_at : Room := { frames := 2, cells := 0, slots := 0, locals := 43 }
def fn_X10_at_0   (M : sd_Mem) (x1 : Int32) (x2 : Int32) (x3 : Int32) : Option (Int32 × sd_Mem) := (fn_X10_isWay x1).bind fun q1 => (if q1 = 0 then some ((-1 : Int32), M) else (fn_X10_isPlace x2 x3).bind fun q9 => (if q9 = 0 then some ((-1 : Int32), M) else if x1 < 0 ∨ 8 ≤ x1.toNatClampNeg then none else (fn_X9_isMissing M (23 + 1 + 2 * x1.toNatClampNeg)).bind fun q23 => (if q23 = 0 then if x1 < 0 ∨ 8 ≤ x1.toNatClampNeg then none else (fn_X9_number M (23 + 1 + 2 * x1.toNatClampNeg) x2 x3).bind fun q46 => some (q46, M) else (fn_X2_tell M (1 : Int32)).bind fun q34 => some (q34.1, q34.2))))
def fn_X10_at (M : sd_Mem) (x1 : Int32) (x2 : Int32) (x3 : Int32) : Option (Int32 × sd_Mem) := fn_X10_at_0 M x1 x2 x3

def rm_X9_ownKind : Room := { frames := 0, cells := 0, slots := 0, locals := 0 }
def fn_X9_ownKind_0 (M : sd_Mem) (h0 : Nat)   : Option Int32 := some (M.1 h0 1)
def fn_X9_ownKind (M : sd_Mem) (h0 : Nat) : Option Int32 := fn_X9_ownKind_0 M h0

def rm_X10_kind : Room := { frames := 2, cells := 0, slots := 0, locals := 43 }
def fn_X10_kind_0   (M : sd_Mem) (x1 : Int32) : Option (Int32 × sd_Mem) := (fn_X10_isWay x1).bind fun q1 => (if q1 = 0 then some ((-1 : Int32), M) else if x1 < 0 ∨ 8 ≤ x1.toNatClampNeg then none else (fn_X9_isMissing M (23 + 1 + 2 * x1.toNatClampNeg)).bind fun q15 => (if q15 = 0 then if x1 < 0 ∨ 8 ≤ x1.toNatClampNeg then none else (fn_X9_ownKind M (23 + 1 + 2 * x1.toNatClampNeg)).bind fun q36 => some (q36, M) else (fn_X2_tell M (1 : Int32)).bind fun q26 => some (q26.1, q26.2)))
def fn_X10_kind (M : sd_Mem) (x1 : Int32) : Option (Int32 × sd_Mem) := fn_X10_kind_0 M x1

def rm_X9_greatest : Room := { frames := 1, cells := 0, slots := 0, locals := 30 }
def fn_X9_greatest_13 (M : sd_Mem) (h0 : Nat)  : Nat → Int32 → Int32 → Int32 → Option Int32
  | 0, _, _, _ => none
  | n + 1, x1, x3, x4 => (if x3 ≤ x4 then some x1 else if x4 < 0 ∨ 30 ≤ x4.toNatClampNeg then none else fn_X9_greatest_13 M h0 n (if x1 < (M.1 (h0 + 1) x4.toNatClampNeg) then (M.1 (h0 + 1) x4.toNatClampNeg) else x1) x3 (x4 + (1 : Int32)))
def fn_X9_greatest_0 (M : sd_Mem) (h0 : Nat)   : Option Int32 := fn_X9_greatest_13 M h0 sd_FU (0 : Int32) (30 : Int32) (0 : Int32)
def fn_X9_greatest (M : sd_Mem) (h0 : Nat) : Option Int32 := fn_X9_greatest_0 M h0

def rm_X9_least : Room := { frames := 1, cells := 0, slots := 0, locals := 30 }
def fn_X9_least_14 (M : sd_Mem) (h0 : Nat)  : Nat → Int32 → Int32 → Int32 → Option Int32
  | 0, _, _, _ => none
  | n + 1, x1, x3, x4 => (if x3 ≤ x4 then some x1 else if x4 < 0 ∨ 30 ≤ x4.toNatClampNeg then none else fn_X9_least_14 M h0 n (if (M.1 (h0 + 1) x4.toNatClampNeg) < x1 then (M.1 (h0 + 1) x4.toNatClampNeg) else x1) x3 (x4 + (1 : Int32)))
def fn_X9_least_0 (M : sd_Mem) (h0 : Nat)   : Option Int32 := fn_X9_least_14 M h0 sd_FU (13 : Int32) (30 : Int32) (0 : Int32)
def fn_X9_least (M : sd_Mem) (h0 : Nat) : Option Int32 := fn_X9_least_0 M h0

def rm_X5_everySort : Room := { frames := 1, cells := 0, slots := 0, locals := 21 }
def fn_X5_everySort_0 (M : sd_Mem) (h0 : Nat)  (x1 : Int32) : Option Int32 := (fn_X5_sorts M h0 x1).bind fun q3 => some (((1 : Int32) <<< (q3 &&& 31)) - (1 : Int32))
def fn_X5_everySort (M : sd_Mem) (h0 : Nat) (x1 : Int32) : Option Int32 := fn_X5_everySort_0 M h0 x1

def rm_X10_contains : Room := { frames := 0, cells := 0, slots := 0, locals := 0 }
def fn_X10_contains_0   (x0 : Int32) (x1 : Int32) : Option Int32 := (if ((x0 >>> (x1 &&& 31)) &&& (1 : Int32)) = (1 : Int32) then some (1 : Int32) else some (0 : Int32))
def fn_X10_contains (x0 : Int32) (x1 : Int32) : Option Int32 := fn_X10_contains_0 x0 x1

def rm_X5_weight : Room := { frames := 1, cells := 0, slots := 0, locals := 21 }
def fn_X5_weight_5 (M : sd_Mem) (h0 : Nat)  : Nat → Int32 → Int32 → Int32 → Int32 → Option Int32
  | 0, _, _, _, _ => none
  | n + 1, x1, x2, x3, x4 => (fn_X5_sorts M h0 x1).bind fun q9 => (if q9 ≤ x4 then some x3 else (fn_X10_contains x2 x4).bind fun q19 => (if q19 = 0 then fn_X5_weight_5 M h0 n x1 x2 (x3 + (0 : Int32)) (x4 + (1 : Int32)) else if x1 < 0 ∨ 2 ≤ x1.toNatClampNeg then none else if x4 < 0 ∨ 3 ≤ x4.toNatClampNeg then none else fn_X5_weight_5 M h0 n x1 x2 (x3 + (M.1 (h0 + 3 + 1 + x1.toNatClampNeg) x4.toNatClampNeg)) (x4 + (1 : Int32))))
def fn_X5_weight_0 (M : sd_Mem) (h0 : Nat)  (x1 : Int32) (x2 : Int32) : Option Int32 := fn_X5_weight_5 M h0 sd_FU x1 x2 (0 : Int32) (0 : Int32)
def fn_X5_weight (M : sd_Mem) (h0 : Nat) (x1 : Int32) (x2 : Int32) : Option Int32 := fn_X5_weight_0 M h0 x1 x2

def rm_X5_total : Room := { frames := 0, cells := 0, slots := 0, locals := 0 }
def fn_X5_total_0 (M : sd_Mem) (h0 : Nat)  (x1 : Int32) : Option Int32 := (if x1 = 0 then if x1 < 0 ∨ 2 ≤ x1.toNatClampNeg then none else some (M.1 (h0 + 2) x1.toNatClampNeg) else (if x1 = (1 : Int32) then if x1 < 0 ∨ 2 ≤ x1.toNatClampNeg then none else some (M.1 (h0 + 2) x1.toNatClampNeg) else some (0 : Int32)))
def fn_X5_total (M : sd_Mem) (h0 : Nat) (x1 : Int32) : Option Int32 := fn_X5_total_0 M h0 x1

def rm_X5_carries : Room := { frames := 1, cells := 0, slots := 0, locals := 21 }
def fn_X5_carries_0 (M : sd_Mem) (h0 : Nat)  (x1 : Int32) : Option Int32 := (fn_X5_total M h0 (0 : Int32)).bind fun q5 => (if ((2 : Int32) * x1) ≤ q5 then some (0 : Int32) else some (1 : Int32))
def fn_X5_carries (M : sd_Mem) (h0 : Nat) (x1 : Int32) : Option Int32 := fn_X5_carries_0 M h0 x1

def rm_J6_bitCount_0f7a4 : Room := { frames := 0, cells := 0, slots := 0, locals := 0 }
def fn_J6_bitCount_0f7a4_0   (x0 : Int32) : Option Int32 := some ((((((((x0 - (((x0.toUInt32 >>> ((1 : Int32).toUInt32 &&& Int32.toUInt32 31)).toInt32) &&& (1431655765 : Int32))) &&& (858993459 : Int32)) + ((((x0 - (((x0.toUInt32 >>> ((1 : Int32).toUInt32 &&& Int32.toUInt32 31)).toInt32) &&& (1431655765 : Int32))).toUInt32 >>> ((2 : Int32).toUInt32 &&& Int32.toUInt32 31)).toInt32) &&& (858993459 : Int32))) + (((((x0 - (((x0.toUInt32 >>> ((1 : Int32).toUInt32 &&& Int32.toUInt32 31)).toInt32) &&& (1431655765 : Int32))) &&& (858993459 : Int32)) + ((((x0 - (((x0.toUInt32 >>> ((1 : Int32).toUInt32 &&& Int32.toUInt32 31)).toInt32) &&& (1431655765 : Int32))).toUInt32 >>> ((2 : Int32).toUInt32 &&& Int32.toUInt32 31)).toInt32) &&& (858993459 : Int32))).toUInt32 >>> ((4 : Int32).toUInt32 &&& Int32.toUInt32 31)).toInt32)) &&& (252645135 : Int32)) + (((((((x0 - (((x0.toUInt32 >>> ((1 : Int32).toUInt32 &&& Int32.toUInt32 31)).toInt32) &&& (1431655765 : Int32))) &&& (858993459 : Int32)) + ((((x0 - (((x0.toUInt32 >>> ((1 : Int32).toUInt32 &&& Int32.toUInt32 31)).toInt32) &&& (1431655765 : Int32))).toUInt32 >>> ((2 : Int32).toUInt32 &&& Int32.toUInt32 31)).toInt32) &&& (858993459 : Int32))) + (((((x0 - (((x0.toUInt32 >>> ((1 : Int32).toUInt32 &&& Int32.toUInt32 31)).toInt32) &&& (1431655765 : Int32))) &&& (858993459 : Int32)) + ((((x0 - (((x0.toUInt32 >>> ((1 : Int32).toUInt32 &&& Int32.toUInt32 31)).toInt32) &&& (1431655765 : Int32))).toUInt32 >>> ((2 : Int32).toUInt32 &&& Int32.toUInt32 31)).toInt32) &&& (858993459 : Int32))).toUInt32 >>> ((4 : Int32).toUInt32 &&& Int32.toUInt32 31)).toInt32)) &&& (252645135 : Int32)).toUInt32 >>> ((8 : Int32).toUInt32 &&& Int32.toUInt32 31)).toInt32)) + ((((((((x0 - (((x0.toUInt32 >>> ((1 : Int32).toUInt32 &&& Int32.toUInt32 31)).toInt32) &&& (1431655765 : Int32))) &&& (858993459 : Int32)) + ((((x0 - (((x0.toUInt32 >>> ((1 : Int32).toUInt32 &&& Int32.toUInt32 31)).toInt32) &&& (1431655765 : Int32))).toUInt32 >>> ((2 : Int32).toUInt32 &&& Int32.toUInt32 31)).toInt32) &&& (858993459 : Int32))) + (((((x0 - (((x0.toUInt32 >>> ((1 : Int32).toUInt32 &&& Int32.toUInt32 31)).toInt32) &&& (1431655765 : Int32))) &&& (858993459 : Int32)) + ((((x0 - (((x0.toUInt32 >>> ((1 : Int32).toUInt32 &&& Int32.toUInt32 31)).toInt32) &&& (1431655765 : Int32))).toUInt32 >>> ((2 : Int32).toUInt32 &&& Int32.toUInt32 31)).toInt32) &&& (858993459 : Int32))).toUInt32 >>> ((4 : Int32).toUInt32 &&& Int32.toUInt32 31)).toInt32)) &&& (252645135 : Int32)) + (((((((x0 - (((x0.toUInt32 >>> ((1 : Int32).toUInt32 &&& Int32.toUInt32 31)).toInt32) &&& (1431655765 : Int32))) &&& (858993459 : Int32)) + ((((x0 - (((x0.toUInt32 >>> ((1 : Int32).toUInt32 &&& Int32.toUInt32 31)).toInt32) &&& (1431655765 : Int32))).toUInt32 >>> ((2 : Int32).toUInt32 &&& Int32.toUInt32 31)).toInt32) &&& (858993459 : Int32))) + (((((x0 - (((x0.toUInt32 >>> ((1 : Int32).toUInt32 &&& Int32.toUInt32 31)).toInt32) &&& (1431655765 : Int32))) &&& (858993459 : Int32)) + ((((x0 - (((x0.toUInt32 >>> ((1 : Int32).toUInt32 &&& Int32.toUInt32 31)).toInt32) &&& (1431655765 : Int32))).toUInt32 >>> ((2 : Int32).toUInt32 &&& Int32.toUInt32 31)).toInt32) &&& (858993459 : Int32))).toUInt32 >>> ((4 : Int32).toUInt32 &&& Int32.toUInt32 31)).toInt32)) &&& (252645135 : Int32)).toUInt32 >>> ((8 : Int32).toUInt32 &&& Int32.toUInt32 31)).toInt32)).toUInt32 >>> ((16 : Int32).toUInt32 &&& Int32.toUInt32 31)).toInt32)) &&& (63 : Int32))
def fn_J6_bitCount_0f7a4 (x0 : Int32) : Option Int32 := fn_J6_bitCount_0f7a4_0 x0

def rm_X5_sortsToCarry : Room := { frames := 2, cells := 0, slots := 0, locals := 45 }
def fn_X5_sortsToCarry_8 (M : sd_Mem) (h0 : Nat)  : Nat → Int32 → Int32 → Option Int32
  | 0, _, _ => none
  | n + 1, x1, x2 => (fn_X5_everySort M h0 (0 : Int32)).bind fun q11 => (if q11 < x2 then some x1 else (fn_X5_weight M h0 (0 : Int32) x2).bind fun q21 => (fn_X5_carries M h0 q21).bind fun q24 => (if q24 = 0 then fn_X5_sortsToCarry_8 M h0 n x1 (x2 + (1 : Int32)) else (fn_J6_bitCount_0f7a4 x2).bind fun q32 => fn_X5_sortsToCarry_8 M h0 n (if q32 < x1 then q32 else x1) (x2 + (1 : Int32))))
def fn_X5_sortsToCarry_0 (M : sd_Mem) (h0 : Nat)   : Option Int32 := (fn_X5_sorts M h0 (0 : Int32)).bind fun q2 => fn_X5_sortsToCarry_8 M h0 sd_FU q2 (1 : Int32)
def fn_X5_sortsToCarry (M : sd_Mem) (h0 : Nat) : Option Int32 := fn_X5_sortsToCarry_0 M h0

def rm_X9_sum : Room := { frames := 0, cells := 0, slots := 0, locals := 0 }
def fn_X9_sum_13 (M : sd_Mem) (h0 : Nat)  : Nat → Int32 → Int32 → Int32 → Option Int32
  | 0, _, _, _ => none
  | n + 1, x1, x3, x4 => (if x3 ≤ x4 then some x1 else if x4 < 0 ∨ 30 ≤ x4.toNatClampNeg then none else fn_X9_sum_13 M h0 n (x1 + (M.1 (h0 + 1) x4.toNatClampNeg)) x3 (x4 + (1 : Int32)))
def fn_X9_sum_0 (M : sd_Mem) (h0 : Nat)   : Option Int32 := fn_X9_sum_13 M h0 sd_FU (0 : Int32) (30 : Int32) (0 : Int32)
def fn_X9_sum (M : sd_Mem) (h0 : Nat) : Option Int32 := fn_X9_sum_0 M h0

def rm_X10_mark : Room := { frames := 3, cells := 0, slots := 0, locals := 67 }
def fn_X10_mark_0   (M : sd_Mem) (x1 : Int32) (x2 : Int32) : Option (Int32 × sd_Mem) := (fn_X10_isWay x1).bind fun q1 => (if q1 = 0 then some ((-1 : Int32), M) else (fn_X10_within x2 (1 : Int32) (4 : Int32)).bind fun q10 => (if q10 = 0 then some ((-1 : Int32), M) else if x1 < 0 ∨ 8 ≤ x1.toNatClampNeg then none else (fn_X9_isMissing M (23 + 1 + 2 * x1.toNatClampNeg)).bind fun q24 => (if q24 = 0 then if x1 < 0 ∨ 8 ≤ x1.toNatClampNeg then none else (fn_X9_is M (23 + 1 + 2 * x1.toNatClampNeg) x2).bind fun q46 => (if q46 = 0 then (fn_X2_tell M (3 : Int32)).bind fun q57 => some (q57.1, q57.2) else (if x2 = (1 : Int32) then if x1 < 0 ∨ 8 ≤ x1.toNatClampNeg then none else (fn_X9_greatest M (23 + 1 + 2 * x1.toNatClampNeg)).bind fun q72 => some (q72, M) else (if x2 = (2 : Int32) then if x1 < 0 ∨ 8 ≤ x1.toNatClampNeg then none else (fn_X9_least M (23 + 1 + 2 * x1.toNatClampNeg)).bind fun q87 => some (q87, M) else (if x2 = (3 : Int32) then (fn_X5_sortsToCarry M 40).bind fun q100 => some (q100, M) else if x1 < 0 ∨ 8 ≤ x1.toNatClampNeg then none else (fn_X9_sum M (23 + 1 + 2 * x1.toNatClampNeg)).bind fun q112 => some (q112, M))))) else (fn_X2_tell M (1 : Int32)).bind fun q35 => some (q35.1, q35.2))))
def fn_X10_mark (M : sd_Mem) (x1 : Int32) (x2 : Int32) : Option (Int32 × sd_Mem) := fn_X10_mark_0 M x1 x2

def rm_X9_isPlainTake : Room := { frames := 0, cells := 0, slots := 0, locals := 0 }
def fn_X9_isPlainTake_0 (M : sd_Mem) (h0 : Nat)   : Option Int32 := (if (M.1 h0 1) = (2 : Int32) then some (1 : Int32) else some (0 : Int32))
def fn_X9_isPlainTake (M : sd_Mem) (h0 : Nat) : Option Int32 := fn_X9_isPlainTake_0 M h0

def rm_X10_refusePair : Room := { frames := 2, cells := 0, slots := 0, locals := 43 }
def fn_X10_refusePair_75   (M : sd_Mem) (x1 : Int32) (xs0 : Int32) : Option (Int32 × sd_Mem) := if x1 < 0 ∨ 8 ≤ x1.toNatClampNeg then none else (fn_X9_is M (23 + 1 + 2 * x1.toNatClampNeg) (1 : Int32)).bind fun q84 => (if q84 = 0 then (fn_X2_tell M (3 : Int32)).bind fun q104 => some (q104.1, q104.2) else (if xs0 = 0 then (fn_X2_tell M (3 : Int32)).bind fun q104 => some (q104.1, q104.2) else some ((0 : Int32), M)))
def fn_X10_refusePair_0   (M : sd_Mem) (x1 : Int32) (x2 : Int32) (x3 : Int32) : Option (Int32 × sd_Mem) := (fn_X10_isWay x1).bind fun q1 => (if q1 = 0 then some ((-1 : Int32), M) else (fn_X10_isWay x2).bind fun q8 => (if q8 = 0 then some ((-1 : Int32), M) else if x1 < 0 ∨ 8 ≤ x1.toNatClampNeg then none else (fn_X9_isMissing M (23 + 1 + 2 * x1.toNatClampNeg)).bind fun q22 => (if q22 = 0 then if x2 < 0 ∨ 8 ≤ x2.toNatClampNeg then none else (fn_X9_isMissing M (23 + 1 + 2 * x2.toNatClampNeg)).bind fun q34 => (if q34 = 0 then (if x3 = 0 then if x2 < 0 ∨ 8 ≤ x2.toNatClampNeg then none else (fn_X9_isPlainTake M (23 + 1 + 2 * x2.toNatClampNeg)).bind fun q72 => fn_X10_refusePair_75 M x1 q72 else if x2 < 0 ∨ 8 ≤ x2.toNatClampNeg then none else (fn_X9_is M (23 + 1 + 2 * x2.toNatClampNeg) (2 : Int32)).bind fun q60 => fn_X10_refusePair_75 M x1 q60) else (fn_X2_tell M (1 : Int32)).bind fun q45 => some (q45.1, q45.2)) else (fn_X2_tell M (1 : Int32)).bind fun q45 => some (q45.1, q45.2))))
def fn_X10_refusePair (M : sd_Mem) (x1 : Int32) (x2 : Int32) (x3 : Int32) : Option (Int32 × sd_Mem) := fn_X10_refusePair_0 M x1 x2 x3

def rm_X7_isTaken : Room := { frames := 2, cells := 0, slots := 0, locals := 44 }
def fn_X7_isTaken_80 (M : sd_Mem) (h0 : Nat) (h1 : Nat)  (x5 : Int32) : Option Int32 := (fn_X5_carries M 40 x5).bind fun q86 => if q86 &&& 1 ≠ q86 then none else some q86
def fn_X7_isTaken_30 (M : sd_Mem) (h0 : Nat) (h1 : Nat)  : Nat → Int32 → Int32 → Int32 → Int32 → Option Int32
  | 0, _, _, _, _ => none
  | n + 1, x3, x4, x5, x6 => (fn_X5_sorts M 40 (0 : Int32)).bind fun q37 => (if q37 ≤ x6 then fn_X7_isTaken_80 M h0 h1 x5 else (fn_X9_number M h1 x6 x3).bind fun q51 => (if x4 < q51 then fn_X7_isTaken_30 M h0 h1 n x3 x4 (x5 + (0 : Int32)) (x6 + (1 : Int32)) else (fn_X5_chance M 40 (0 : Int32) x6).bind fun q64 => fn_X7_isTaken_30 M h0 h1 n x3 x4 (x5 + q64) (x6 + (1 : Int32))))
def fn_X7_isTaken_0 (M : sd_Mem) (h0 : Nat) (h1 : Nat)  (x2 : Int32) (x3 : Int32) (x4 : Int32) : Option Int32 := (fn_X9_isPlainTake M h1).bind fun q1 => (if q1 = 0 then fn_X7_isTaken_30 M h0 h1 sd_FU x3 x4 (0 : Int32) (0 : Int32) else (fn_X9_number M h1 x2 x3).bind fun q12 => (if x4 < q12 then some (0 : Int32) else some (1 : Int32)))
def fn_X7_isTaken (M : sd_Mem) (h0 : Nat) (h1 : Nat) (x2 : Int32) (x3 : Int32) (x4 : Int32) : Option Int32 := fn_X7_isTaken_0 M h0 h1 x2 x3 x4

def rm_X7_settlingDay : Room := { frames := 3, cells := 0, slots := 0, locals := 70 }
def fn_X7_settlingDay_49 (M : sd_Mem) (h0 : Nat) (h1 : Nat) (h2 : Nat)   : Option Int32 := some ((M.1 40 6) + (1 : Int32))
def fn_X7_settlingDay_9 (M : sd_Mem) (h0 : Nat) (h1 : Nat) (h2 : Nat)  : Nat → Int32 → Int32 → Int32 → Option Int32
  | 0, _, _, _ => none
  | n + 1, x3, x4, x5 => (if (M.1 40 6) < x5 then fn_X7_settlingDay_49 M h0 h1 h2 else (fn_X9_number M h1 x3 x5).bind fun q31 => (fn_X7_isTaken M h0 h2 x4 x5 q31).bind fun q34 => (if q34 = 0 then fn_X7_settlingDay_9 M h0 h1 h2 n x3 x4 (x5 + (1 : Int32)) else some x5))
def fn_X7_settlingDay_0 (M : sd_Mem) (h0 : Nat) (h1 : Nat) (h2 : Nat)  (x3 : Int32) (x4 : Int32) : Option Int32 := fn_X7_settlingDay_9 M h0 h1 h2 sd_FU x3 x4 (M.1 (h0 - 3) 0)
def fn_X7_settlingDay (M : sd_Mem) (h0 : Nat) (h1 : Nat) (h2 : Nat) (x3 : Int32) (x4 : Int32) : Option Int32 := fn_X7_settlingDay_0 M h0 h1 h2 x3 x4

def rm_X7_wageOn : Room := { frames := 2, cells := 0, slots := 0, locals := 43 }
def fn_X7_wageOn_0 (M : sd_Mem) (h0 : Nat) (h1 : Nat)  (x2 : Int32) (x3 : Int32) : Option Int32 := (if x3 ≤ (M.1 40 6) then (fn_X9_number M h1 x2 x3).bind fun q24 => some q24 else some (M.1 40 7))
def fn_X7_wageOn (M : sd_Mem) (h0 : Nat) (h1 : Nat) (x2 : Int32) (x3 : Int32) : Option Int32 := fn_X7_wageOn_0 M h0 h1 x2 x3

def rm_X10_run : Room := { frames := 4, cells := 0, slots := 0, locals := 95 }
def fn_X10_run_0   (M : sd_Mem) (x1 : Int32) (x2 : Int32) (x3 : Int32) (x4 : Int32) : Option (Int32 × sd_Mem) := (fn_X5_hasSort M 40 (1 : Int32) x3).bind fun q6 => (if q6 = 0 then some ((-1 : Int32), M) else (fn_X5_hasSort M 40 (0 : Int32) x4).bind fun q19 => (if q19 = 0 then some ((-1 : Int32), M) else (fn_X10_refusePair M x1 x2 (1 : Int32)).bind fun q31 => (if q31.1 = 0 then if x1 < 0 ∨ 8 ≤ x1.toNatClampNeg then none else if x2 < 0 ∨ 8 ≤ x2.toNatClampNeg then none else (fn_X7_settlingDay q31.2 61 (23 + 1 + 2 * x1.toNatClampNeg) (23 + 1 + 2 * x2.toNatClampNeg) x3 x4).bind fun q63 => if x1 < 0 ∨ 8 ≤ x1.toNatClampNeg then none else (fn_X7_wageOn q31.2 61 (23 + 1 + 2 * x1.toNatClampNeg) x3 q63).bind fun q82 => some (q63, sd_setI q31.2 0 13 q82) else some (q31.1, q31.2))))
def fn_X10_run (M : sd_Mem) (x1 : Int32) (x2 : Int32) (x3 : Int32) (x4 : Int32) : Option (Int32 × sd_Mem) := fn_X10_run_0 M x1 x2 x3 x4

def rm_X10_otherSide : Room := { frames := 0, cells := 0, slots := 0, locals := 0 }
def fn_X10_otherSide_0   (x0 : Int32) : Option Int32 := (if x0 = 0 then some (1 : Int32) else some (0 : Int32))
def fn_X10_otherSide (x0 : Int32) : Option Int32 := fn_X10_otherSide_0 x0

def rm_X5_pay : Room := { frames := 1, cells := 0, slots := 0, locals := 22 }
def fn_X5_pay_42 (M : sd_Mem) (h0 : Nat)  (x3 : Int32) (l5 : Int64) (ls0 : Int64) : Option Int64 := some ((l5 * ((((M.1 h0 5) - x3) + (1 : Int32)).toInt64)) - (ls0 * ((x3 - (1 : Int32)).toInt64)))
def fn_X5_pay_18 (M : sd_Mem) (h0 : Nat)  (x1 : Int32) (x2 : Int32) (x3 : Int32) (ls0 : Int64) : Option Int64 := (fn_X5_hasSort M h0 x1 x2).bind fun q23 => (if q23 = 0 then fn_X5_pay_42 M h0 x3 ls0 (0 : Int64) else if x1 < 0 ∨ 2 ≤ x1.toNatClampNeg then none else if x2 < 0 ∨ 3 ≤ x2.toNatClampNeg then none else fn_X5_pay_42 M h0 x3 ls0 ((M.1 (h0 + 6 + 1 + x1.toNatClampNeg) x2.toNatClampNeg).toInt64))
def fn_X5_pay_0 (M : sd_Mem) (h0 : Nat)  (x1 : Int32) (x2 : Int32) (x3 : Int32) (x4 : Int32) : Option Int64 := (if x1 = 0 then fn_X5_pay_18 M h0 x1 x2 x3 x4.toInt64 else fn_X5_pay_18 M h0 x1 x2 x3 (((M.1 h0 4) - x4).toInt64))
def fn_X5_pay (M : sd_Mem) (h0 : Nat) (x1 : Int32) (x2 : Int32) (x3 : Int32) (x4 : Int32) : Option Int64 := fn_X5_pay_0 M h0 x1 x2 x3 x4

def rm_X5_power : Room := { frames := 1, cells := 0, slots := 0, locals := 22 }
def fn_X5_power_0   (x0 : Int32) : Option Int64 := (fn_X10_within x0 (0 : Int32) (10 : Int32)).bind fun q4 => (if q4 = 0 then some (1 : Int64) else if x0 < 0 ∨ 11 ≤ x0.toNatClampNeg then none else some (sd_pow x0.toNatClampNeg))
def fn_X5_power (x0 : Int32) : Option Int64 := fn_X5_power_0 x0

def rm_X7_payJudged : Room := { frames := 2, cells := 0, slots := 0, locals := 50 }
def fn_X7_payJudged_100 (M : sd_Mem) (h0 : Nat)  (x5 : Int32) (l6 : Int64) : Option Int64 := (fn_X5_power ((M.1 40 6) - x5)).bind fun q112 => some (l6 * q112)
def fn_X7_payJudged_31 (M : sd_Mem) (h0 : Nat)  : Nat → Int32 → Int32 → Int32 → Int64 → Int32 → Option Int64
  | 0, _, _, _, _, _ => none
  | n + 1, x1, x2, x5, l6, x8 => (if x8 < (1 : Int32) then fn_X7_payJudged_100 M h0 x5 l6 else (fn_X5_pay M 40 x1 x2 x8 (M.1 (h0 - 3) 2)).bind fun q52 => (fn_X5_power (x5 - x8)).bind fun q60 => fn_X7_payJudged_31 M h0 n x1 x2 x5 ((((M.1 (h0 - 3) 1).toInt64) * (q52 * q60)) + ((((12 : Int32) - (M.1 (h0 - 3) 1)).toInt64) * l6)) (x8 + (-1 : Int32)))
def fn_X7_payJudged_0 (M : sd_Mem) (h0 : Nat)  (x1 : Int32) (x2 : Int32) (x3 : Int32) (x4 : Int32) : Option Int64 := (fn_X5_pay M 40 x1 x2 x3 x4).bind fun q22 => fn_X7_payJudged_31 M h0 sd_FU x1 x2 (if (M.1 40 6) < x3 then (M.1 40 6) else x3) q22 (if (M.1 40 6) < x3 then (M.1 40 6) else x3)
def fn_X7_payJudged (M : sd_Mem) (h0 : Nat) (x1 : Int32) (x2 : Int32) (x3 : Int32) (x4 : Int32) : Option Int64 := fn_X7_payJudged_0 M h0 x1 x2 x3 x4

def rm_X7_worthSum : Room := { frames := 4, cells := 0, slots := 0, locals := 95 }
def fn_X7_worthSum_50 (M : sd_Mem) (h0 : Nat) (h1 : Nat) (h2 : Nat) (k12 : Int32 → Int32 → Int32 → Int64 → Int32 → Option Int64) (x3 : Int32) (x4 : Int32) (x5 : Int32) (l6 : Int64) (x8 : Int32) (x9 : Int32) (xs0 : Int32) : Option Int64 := (fn_X7_settlingDay M h0 h1 h2 x9 xs0).bind fun q59 => (fn_X5_chance M 40 x5 x8).bind fun q74 => (fn_X7_wageOn M h0 h1 x9 q59).bind fun q90 => (fn_X7_payJudged M h0 x3 x4 q59 q90).bind fun q93 => k12 x3 x4 x5 (l6 + (q74.toInt64 * q93)) (x8 + (1 : Int32))
def fn_X7_worthSum_37 (M : sd_Mem) (h0 : Nat) (h1 : Nat) (h2 : Nat) (k12 : Int32 → Int32 → Int32 → Int64 → Int32 → Option Int64) (x3 : Int32) (x4 : Int32) (x5 : Int32) (l6 : Int64) (x8 : Int32) (xs0 : Int32) : Option Int64 := (if x3 = 0 then fn_X7_worthSum_50 M h0 h1 h2 k12 x3 x4 x5 l6 x8 xs0 x4 else fn_X7_worthSum_50 M h0 h1 h2 k12 x3 x4 x5 l6 x8 xs0 x8)
def fn_X7_worthSum_12 (M : sd_Mem) (h0 : Nat) (h1 : Nat) (h2 : Nat)  : Nat → Int32 → Int32 → Int32 → Int64 → Int32 → Option Int64
  | 0, _, _, _, _, _ => none
  | n + 1, x3, x4, x5, l6, x8 => (fn_X5_sorts M 40 x5).bind fun q20 => (if q20 ≤ x8 then some l6 else (if x3 = 0 then fn_X7_worthSum_37 M h0 h1 h2 (fn_X7_worthSum_12 M h0 h1 h2 n) x3 x4 x5 l6 x8 x8 else fn_X7_worthSum_37 M h0 h1 h2 (fn_X7_worthSum_12 M h0 h1 h2 n) x3 x4 x5 l6 x8 x4))
def fn_X7_worthSum_0 (M : sd_Mem) (h0 : Nat) (h1 : Nat) (h2 : Nat)  (x3 : Int32) (x4 : Int32) : Option Int64 := (fn_X10_otherSide x3).bind fun q1 => fn_X7_worthSum_12 M h0 h1 h2 sd_FU x3 x4 q1 (0 : Int64) (0 : Int32)
def fn_X7_worthSum (M : sd_Mem) (h0 : Nat) (h1 : Nat) (h2 : Nat) (x3 : Int32) (x4 : Int32) : Option Int64 := fn_X7_worthSum_0 M h0 h1 h2 x3 x4

def rm_X5_judgings : Room := { frames := 2, cells := 0, slots := 0, locals := 42 }
def fn_X5_judgings_0 (M : sd_Mem) (h0 : Nat)   : Option Int64 := (fn_X5_power (M.1 h0 6)).bind fun q4 => some q4
def fn_X5_judgings (M : sd_Mem) (h0 : Nat) : Option Int64 := fn_X5_judgings_0 M h0

def rm_X7_worthShares : Room := { frames := 3, cells := 0, slots := 0, locals := 62 }
def fn_X7_worthShares_0 (M : sd_Mem) (h0 : Nat)  (x1 : Int32) : Option Int64 := (fn_X10_otherSide x1).bind fun q5 => (fn_X5_total M 40 q5).bind fun q8 => (fn_X5_judgings M 40).bind fun q16 => some (q8.toInt64 * q16)
def fn_X7_worthShares (M : sd_Mem) (h0 : Nat) (x1 : Int32) : Option Int64 := fn_X7_worthShares_0 M h0 x1

def rm_X3_commonDivisor : Room := { frames := 0, cells := 0, slots := 0, locals := 0 }
def fn_X3_commonDivisor_9   : Nat → Int64 → Int64 → Int32 → Option Int64
  | 0, _, _, _ => none
  | n + 1, l4, l6, x8 => (if (200 : Int32) ≤ x8 then some l4 else (if (lg_cmp l6 (0 : Int64)) = 0 then some l4 else if l6 = 0 then none else fn_X3_commonDivisor_9 n l6 (l4 - l4 / l6 * l6) (x8 + (1 : Int32))))
def fn_X3_commonDivisor_0   (l0 : Int64) (l2 : Int64) : Option Int64 := fn_X3_commonDivisor_9 sd_FU l0 l2 (0 : Int32)
def fn_X3_commonDivisor (l0 : Int64) (l2 : Int64) : Option Int64 := fn_X3_commonDivisor_0 l0 l2

def rm_X3_tell : Room := { frames := 1, cells := 0, slots := 0, locals := 30 }
def fn_X3_tell_0   (M : sd_Mem) (l1 : Int64) (l3 : Int64) : Option sd_Mem := (fn_X3_commonDivisor (if 0 < l1 then l1 else -l1) (if 0 < l3 then l3 else -l3)).bind fun q8 => (if (lg_cmp q8 (0 : Int64)) = 0 then some M else if q8 = 0 then none else if q8 = 0 then none else some (sd_setL (sd_setL M 96 0 (l1 / q8)) 96 1 (l3 / q8)))
def fn_X3_tell (M : sd_Mem) (l1 : Int64) (l3 : Int64) : Option sd_Mem := fn_X3_tell_0 M l1 l3

def rm_X10_worth : Room := { frames := 5, cells := 0, slots := 0, locals := 126 }
def fn_X10_worth_0   (M : sd_Mem) (x1 : Int32) (x2 : Int32) (x3 : Int32) (x4 : Int32) : Option (Int32 × sd_Mem) := (fn_X5_hasSort M 40 x3 x4).bind fun q7 => (if q7 = 0 then some ((-1 : Int32), M) else (fn_X10_refusePair M x1 x2 (1 : Int32)).bind fun q19 => (if q19.1 = 0 then if x1 < 0 ∨ 8 ≤ x1.toNatClampNeg then none else if x2 < 0 ∨ 8 ≤ x2.toNatClampNeg then none else (fn_X7_worthSum q19.2 61 (23 + 1 + 2 * x1.toNatClampNeg) (23 + 1 + 2 * x2.toNatClampNeg) x3 x4).bind fun q55 => (fn_X7_worthShares q19.2 61 x3).bind fun q63 => (fn_X3_tell q19.2 q55 q63).bind fun q66 => some ((1 : Int32), q66) else some (q19.1, q19.2)))
def fn_X10_worth (M : sd_Mem) (x1 : Int32) (x2 : Int32) (x3 : Int32) (x4 : Int32) : Option (Int32 × sd_Mem) := fn_X10_worth_0 M x1 x2 x3 x4

def rm_X7_stillOut : Room := { frames := 4, cells := 0, slots := 0, locals := 95 }
def fn_X7_stillOut_6 (M : sd_Mem) (h0 : Nat) (h1 : Nat) (h2 : Nat)  : Nat → Int32 → Int32 → Int32 → Int32 → Option Int32
  | 0, _, _, _, _ => none
  | n + 1, x3, x4, x5, x6 => (fn_X5_sorts M 40 (0 : Int32)).bind fun q13 => (if q13 ≤ x6 then some x5 else (fn_X7_settlingDay M h0 h1 h2 x3 x6).bind fun q27 => (if q27 ≤ x4 then fn_X7_stillOut_6 M h0 h1 h2 n x3 x4 (x5 ||| (0 : Int32)) (x6 + (1 : Int32)) else fn_X7_stillOut_6 M h0 h1 h2 n x3 x4 (x5 ||| ((1 : Int32) <<< (x6 &&& 31))) (x6 + (1 : Int32))))
def fn_X7_stillOut_0 (M : sd_Mem) (h0 : Nat) (h1 : Nat) (h2 : Nat)  (x3 : Int32) (x4 : Int32) : Option Int32 := fn_X7_stillOut_6 M h0 h1 h2 sd_FU x3 x4 (0 : Int32) (0 : Int32)
def fn_X7_stillOut (M : sd_Mem) (h0 : Nat) (h1 : Nat) (h2 : Nat) (x3 : Int32) (x4 : Int32) : Option Int32 := fn_X7_stillOut_0 M h0 h1 h2 x3 x4

def rm_X7_offeringAlike : Room := { frames := 2, cells := 0, slots := 0, locals := 43 }
def fn_X7_offeringAlike_71 (M : sd_Mem) (h0 : Nat) (h1 : Nat) (k6 : Int32 → Int32 → Int32 → Int32 → Option Int32) (x2 : Int32) (x3 : Int32) (x4 : Int32) (x5 : Int32) (x6 : Int32) : Option Int32 := (if x6 = 0 then k6 x2 x3 (x4 ||| (0 : Int32)) (x5 + (1 : Int32)) else k6 x2 x3 (x4 ||| ((1 : Int32) <<< (x5 &&& 31))) (x5 + (1 : Int32)))
def fn_X7_offeringAlike_31 (M : sd_Mem) (h0 : Nat) (h1 : Nat) (k6 : Int32 → Int32 → Int32 → Int32 → Option Int32) : Nat → Int32 → Int32 → Int32 → Int32 → Int32 → Int32 → Option Int32
  | 0, _, _, _, _, _, _ => none
  | n + 1, x2, x3, x4, x5, x6, x7 => (if x3 < x7 then fn_X7_offeringAlike_71 M h0 h1 k6 x2 x3 x4 x5 x6 else (fn_X9_number M h1 x5 x7).bind fun q44 => (fn_X9_number M h1 x2 x7).bind fun q51 => (if q44 = q51 then fn_X7_offeringAlike_31 M h0 h1 k6 n x2 x3 x4 x5 (x6 &&& (1 : Int32)) (x7 + (1 : Int32)) else fn_X7_offeringAlike_31 M h0 h1 k6 n x2 x3 x4 x5 (x6 &&& (0 : Int32)) (x7 + (1 : Int32))))
def fn_X7_offeringAlike_6 (M : sd_Mem) (h0 : Nat) (h1 : Nat)  : Nat → Int32 → Int32 → Int32 → Int32 → Option Int32
  | 0, _, _, _, _ => none
  | n + 1, x2, x3, x4, x5 => (fn_X5_sorts M 40 (1 : Int32)).bind fun q13 => (if q13 ≤ x5 then some x4 else fn_X7_offeringAlike_31 M h0 h1 (fn_X7_offeringAlike_6 M h0 h1 n) sd_FU x2 x3 x4 x5 (1 : Int32) (M.1 (h0 - 3) 0))
def fn_X7_offeringAlike_0 (M : sd_Mem) (h0 : Nat) (h1 : Nat)  (x2 : Int32) (x3 : Int32) : Option Int32 := fn_X7_offeringAlike_6 M h0 h1 sd_FU x2 x3 (0 : Int32) (0 : Int32)
def fn_X7_offeringAlike (M : sd_Mem) (h0 : Nat) (h1 : Nat) (x2 : Int32) (x3 : Int32) : Option Int32 := fn_X7_offeringAlike_0 M h0 h1 x2 x3

def rm_X10_think : Room := { frames := 5, cells := 0, slots := 0, locals := 121 }
def fn_X10_think_168   (M : sd_Mem) (x5 : Int32) (x9 : Int32) (xs0 : Int32) : Option (Int32 × sd_Mem) := (fn_X10_otherSide x5).bind fun q183 => (fn_X5_weight M 40 q183 x9).bind fun q188 => (fn_X3_tell M xs0.toInt64 q188.toInt64).bind fun q192 => some ((1 : Int32), q192)
def fn_X10_think_138   (M : sd_Mem) (x5 : Int32) (x6 : Int32) (xs0 : Int32) : Option (Int32 × sd_Mem) := (fn_X10_contains xs0 x6).bind fun q144 => (if q144 = 0 then fn_X10_think_168 M x5 xs0 (0 : Int32) else (fn_X10_otherSide x5).bind fun q156 => (fn_X5_chance M 40 q156 x6).bind fun q161 => fn_X10_think_168 M x5 xs0 q161)
def fn_X10_think_0   (M : sd_Mem) (x1 : Int32) (x2 : Int32) (x3 : Int32) (x4 : Int32) (x5 : Int32) (x6 : Int32) : Option (Int32 × sd_Mem) := (fn_X5_hasSort M 40 (1 : Int32) x3).bind fun q6 => (if q6 = 0 then some ((-1 : Int32), M) else (fn_X5_last M 40).bind fun q19 => (fn_X10_within x4 (0 : Int32) q19).bind fun q22 => (if q22 = 0 then some ((-1 : Int32), M) else (fn_X10_within x5 (0 : Int32) (1 : Int32)).bind fun q32 => (if q32 = 0 then some ((-1 : Int32), M) else (fn_X10_otherSide x5).bind fun q44 => (fn_X5_hasSort M 40 q44 x6).bind fun q49 => (if q49 = 0 then some ((-1 : Int32), M) else (fn_X10_refusePair M x1 x2 (1 : Int32)).bind fun q61 => (if q61.1 = 0 then if x1 < 0 ∨ 8 ≤ x1.toNatClampNeg then none else if x2 < 0 ∨ 8 ≤ x2.toNatClampNeg then none else (fn_X7_stillOut q61.2 61 (23 + 1 + 2 * x1.toNatClampNeg) (23 + 1 + 2 * x2.toNatClampNeg) x3 x4).bind fun q93 => (if q93 = 0 then (fn_X2_tell q61.2 (4 : Int32)).bind fun q108 => some (q108.1, q108.2) else (if x5 = 0 then if x1 < 0 ∨ 8 ≤ x1.toNatClampNeg then none else (fn_X7_offeringAlike q61.2 61 (23 + 1 + 2 * x1.toNatClampNeg) x3 x4).bind fun q130 => fn_X10_think_138 q61.2 x5 x6 q130 else fn_X10_think_138 q61.2 x5 x6 q93)) else some (q61.1, q61.2))))))
def fn_X10_think (M : sd_Mem) (x1 : Int32) (x2 : Int32) (x3 : Int32) (x4 : Int32) (x5 : Int32) (x6 : Int32) : Option (Int32 × sd_Mem) := fn_X10_think_0 M x1 x2 x3 x4 x5 x6

def rm_X7_pairWeight : Room := { frames := 2, cells := 0, slots := 0, locals := 44 }
def fn_X7_pairWeight_0 (M : sd_Mem) (h0 : Nat)  (x1 : Int32) (x2 : Int32) : Option Int64 := (fn_X5_chance M 40 (1 : Int32) x1).bind fun q6 => (fn_X5_chance M 40 (0 : Int32) x2).bind fun q16 => some (q6.toInt64 * q16.toInt64)
def fn_X7_pairWeight (M : sd_Mem) (h0 : Nat) (x1 : Int32) (x2 : Int32) : Option Int64 := fn_X7_pairWeight_0 M h0 x1 x2

def rm_X7_endingWeight : Room := { frames := 4, cells := 0, slots := 0, locals := 95 }
def fn_X7_endingWeight_22 (M : sd_Mem) (h0 : Nat) (h1 : Nat) (h2 : Nat) (k6 : Int32 → Int64 → Int32 → Option Int64) : Nat → Int32 → Int64 → Int32 → Int32 → Option Int64
  | 0, _, _, _, _ => none
  | n + 1, x3, l4, x6, x7 => (fn_X5_sorts M 40 (0 : Int32)).bind fun q29 => (if q29 ≤ x7 then k6 x3 l4 (x6 + (1 : Int32)) else (fn_X7_settlingDay M h0 h1 h2 x6 x7).bind fun q44 => (if q44 = x3 then (fn_X7_pairWeight M h0 x6 x7).bind fun q56 => fn_X7_endingWeight_22 M h0 h1 h2 k6 n x3 (l4 + q56) x6 (x7 + (1 : Int32)) else fn_X7_endingWeight_22 M h0 h1 h2 k6 n x3 (l4 + (0 : Int64)) x6 (x7 + (1 : Int32))))
def fn_X7_endingWeight_6 (M : sd_Mem) (h0 : Nat) (h1 : Nat) (h2 : Nat)  : Nat → Int32 → Int64 → Int32 → Option Int64
  | 0, _, _, _ => none
  | n + 1, x3, l4, x6 => (fn_X5_sorts M 40 (1 : Int32)).bind fun q13 => (if q13 ≤ x6 then some l4 else fn_X7_endingWeight_22 M h0 h1 h2 (fn_X7_endingWeight_6 M h0 h1 h2 n) sd_FU x3 l4 x6 (0 : Int32))
def fn_X7_endingWeight_0 (M : sd_Mem) (h0 : Nat) (h1 : Nat) (h2 : Nat)  (x3 : Int32) : Option Int64 := fn_X7_endingWeight_6 M h0 h1 h2 sd_FU x3 (0 : Int64) (0 : Int32)
def fn_X7_endingWeight (M : sd_Mem) (h0 : Nat) (h1 : Nat) (h2 : Nat) (x3 : Int32) : Option Int64 := fn_X7_endingWeight_0 M h0 h1 h2 x3

def rm_X5_pairs : Room := { frames := 1, cells := 0, slots := 0, locals := 21 }
def fn_X5_pairs_0 (M : sd_Mem) (h0 : Nat)   : Option Int64 := (fn_X5_total M h0 (0 : Int32)).bind fun q2 => (fn_X5_total M h0 (1 : Int32)).bind fun q8 => some (q2.toInt64 * q8.toInt64)
def fn_X5_pairs (M : sd_Mem) (h0 : Nat) : Option Int64 := fn_X5_pairs_0 M h0

def rm_X10_end : Room := { frames := 5, cells := 0, slots := 0, locals := 122 }
def fn_X10_end_0   (M : sd_Mem) (x1 : Int32) (x2 : Int32) (x3 : Int32) : Option (Int32 × sd_Mem) := (fn_X5_last M 40).bind fun q6 => (fn_X10_within x3 (1 : Int32) (q6 + (1 : Int32))).bind fun q11 => (if q11 = 0 then some ((-1 : Int32), M) else (fn_X10_refusePair M x1 x2 (1 : Int32)).bind fun q23 => (if q23.1 = 0 then if x1 < 0 ∨ 8 ≤ x1.toNatClampNeg then none else if x2 < 0 ∨ 8 ≤ x2.toNatClampNeg then none else (fn_X7_endingWeight q23.2 61 (23 + 1 + 2 * x1.toNatClampNeg) (23 + 1 + 2 * x2.toNatClampNeg) x3).bind fun q57 => (fn_X5_pairs q23.2 40).bind fun q64 => (fn_X3_tell q23.2 q57 q64).bind fun q67 => some ((1 : Int32), q67) else some (q23.1, q23.2)))
def fn_X10_end (M : sd_Mem) (x1 : Int32) (x2 : Int32) (x3 : Int32) : Option (Int32 × sd_Mem) := fn_X10_end_0 M x1 x2 x3

def rm_X0_isHeld : Room := { frames := 1, cells := 0, slots := 0, locals := 22 }
def fn_X0_isHeld_0   (x0 : Int32) (x1 : Int32) : Option Int32 := (fn_X10_within x0 (1 : Int32) (11 : Int32)).bind fun q4 => (if q4 = 0 then some (0 : Int32) else (fn_X10_within x1 (0 : Int32) (7 : Int32)).bind fun q14 => (if q14 = 0 then some (0 : Int32) else some (1 : Int32)))
def fn_X0_isHeld (x0 : Int32) (x1 : Int32) : Option Int32 := fn_X0_isHeld_0 x0 x1

def rm_X0_keep : Room := { frames := 2, cells := 0, slots := 0, locals := 43 }
def fn_X0_keep_0   (M : sd_Mem) (x1 : Int32) (x2 : Int32) (l3 : Int64) : Option sd_Mem := (fn_X0_isHeld x1 x2).bind fun q2 => (if q2 = 0 then some M else if x1 < 0 ∨ 12 ≤ x1.toNatClampNeg then none else if x2 < 0 ∨ 8 ≤ x2.toNatClampNeg then none else some (sd_setL M (64 + 1 + x1.toNatClampNeg) x2.toNatClampNeg l3))
def fn_X0_keep (M : sd_Mem) (x1 : Int32) (x2 : Int32) (l3 : Int64) : Option sd_Mem := fn_X0_keep_0 M x1 x2 l3

def rm_X0_endUnsettled : Room := { frames := 3, cells := 0, slots := 0, locals := 67 }
def fn_X0_endUnsettled_2   : Nat → sd_Mem → Int32 → Int32 → Int32 → Option sd_Mem
  | 0, _, _, _, _ => none
  | n + 1, M, x1, x2, x3 => (if (8 : Int32) ≤ x3 then some M else (fn_X5_pay M 40 x1 x2 ((M.1 40 6) + (1 : Int32)) (M.1 40 7)).bind fun q30 => (fn_X10_otherSide x1).bind fun q53 => (fn_X5_weight M 40 q53 x3).bind fun q57 => (fn_X0_keep M ((M.1 40 6) + (1 : Int32)) x3 (q30 * q57.toInt64)).bind fun q62 => fn_X0_endUnsettled_2 n q62 x1 x2 (x3 + (1 : Int32)))
def fn_X0_endUnsettled_0   (M : sd_Mem) (x1 : Int32) (x2 : Int32) : Option sd_Mem := fn_X0_endUnsettled_2 sd_FU M x1 x2 (0 : Int32)
def fn_X0_endUnsettled (M : sd_Mem) (x1 : Int32) (x2 : Int32) : Option sd_Mem := fn_X0_endUnsettled_0 M x1 x2

def rm_X0_sum : Room := { frames := 2, cells := 0, slots := 0, locals := 43 }
def fn_X0_sum_0 (M : sd_Mem)  (x1 : Int32) (x2 : Int32) : Option Int64 := (fn_X0_isHeld x1 x2).bind fun q2 => (if q2 = 0 then some (0 : Int64) else if x1 < 0 ∨ 12 ≤ x1.toNatClampNeg then none else if x2 < 0 ∨ 8 ≤ x2.toNatClampNeg then none else some (M.2 (64 + 1 + x1.toNatClampNeg) x2.toNatClampNeg))
def fn_X0_sum (M : sd_Mem) (x1 : Int32) (x2 : Int32) : Option Int64 := fn_X0_sum_0 M x1 x2

def rm_X0_settled : Room := { frames := 2, cells := 0, slots := 0, locals := 50 }
def fn_X0_settled_0 (M : sd_Mem)  (x1 : Int32) (x2 : Int32) (x3 : Int32) (x4 : Int32) (x5 : Int32) : Option Int64 := (fn_X5_pay M 40 x1 x2 x3 x5).bind fun q9 => (fn_X10_otherSide x1).bind fun q17 => (fn_X5_weight M 40 q17 x4).bind fun q22 => (fn_X5_power ((M.1 40 6) - x3)).bind fun q40 => some ((q9 * q22.toInt64) * q40)
def fn_X0_settled (M : sd_Mem) (x1 : Int32) (x2 : Int32) (x3 : Int32) (x4 : Int32) (x5 : Int32) : Option Int64 := fn_X0_settled_0 M x1 x2 x3 x4 x5

def rm_X0_bestByTaking : Room := { frames := 3, cells := 0, slots := 0, locals := 77 }
def fn_X0_bestByTaking_73 (M : sd_Mem) (h1 : Nat) (k6 : Int32 → Int32 → Int32 → Int64 → Int32 → Option Int64) (x2 : Int32) (x3 : Int32) (x4 : Int32) (l5 : Int64) (x7 : Int32) (x8 : Int32) : Option Int64 := (fn_X0_settled M (0 : Int32) x2 x3 x8 x7).bind fun q83 => (fn_X0_sum M (x3 + (1 : Int32)) x8).bind fun q92 => k6 x2 x3 x4 (l5 + (if q92 < q83 then q83 else q92)) (x7 + (1 : Int32))
def fn_X0_bestByTaking_19 (M : sd_Mem) (h1 : Nat) (k6 : Int32 → Int32 → Int32 → Int64 → Int32 → Option Int64) : Nat → Int32 → Int32 → Int32 → Int64 → Int32 → Int32 → Int32 → Option Int64
  | 0, _, _, _, _, _, _, _ => none
  | n + 1, x2, x3, x4, l5, x7, x8, x9 => (fn_X5_sorts M 40 (1 : Int32)).bind fun q26 => (if q26 ≤ x9 then fn_X0_bestByTaking_73 M h1 k6 x2 x3 x4 l5 x7 x8 else (fn_X10_contains x4 x9).bind fun q38 => (if q38 = 0 then fn_X0_bestByTaking_19 M h1 k6 n x2 x3 x4 l5 x7 (x8 ||| (0 : Int32)) (x9 + (1 : Int32)) else (fn_X9_number M h1 x9 x3).bind fun q48 => (if q48 = x7 then fn_X0_bestByTaking_19 M h1 k6 n x2 x3 x4 l5 x7 (x8 ||| ((1 : Int32) <<< (x9 &&& 31))) (x9 + (1 : Int32)) else fn_X0_bestByTaking_19 M h1 k6 n x2 x3 x4 l5 x7 (x8 ||| (0 : Int32)) (x9 + (1 : Int32)))))
def fn_X0_bestByTaking_6 (M : sd_Mem) (h1 : Nat)  : Nat → Int32 → Int32 → Int32 → Int64 → Int32 → Option Int64
  | 0, _, _, _, _, _ => none
  | n + 1, x2, x3, x4, l5, x7 => (if (12 : Int32) < x7 then some l5 else fn_X0_bestByTaking_19 M h1 (fn_X0_bestByTaking_6 M h1 n) sd_FU x2 x3 x4 l5 x7 (0 : Int32) (0 : Int32))
def fn_X0_bestByTaking_0 (M : sd_Mem) (h1 : Nat)  (x2 : Int32) (x3 : Int32) (x4 : Int32) : Option Int64 := fn_X0_bestByTaking_6 M h1 sd_FU x2 x3 x4 (0 : Int64) (0 : Int32)
def fn_X0_bestByTaking (M : sd_Mem) (h1 : Nat) (x2 : Int32) (x3 : Int32) (x4 : Int32) : Option Int64 := fn_X0_bestByTaking_0 M h1 x2 x3 x4

def rm_X0_judged : Room := { frames := 3, cells := 0, slots := 0, locals := 77 }
def fn_X0_judged_0 (M : sd_Mem)  (x1 : Int32) (x2 : Int32) (x3 : Int32) (x4 : Int32) (l5 : Int64) : Option Int64 := (fn_X0_settled M x1 x2 x3 x4 (M.1 58 2)).bind fun q21 => some ((((M.1 58 1).toInt64) * q21) + ((((12 : Int32) - (M.1 58 1)).toInt64) * l5))
def fn_X0_judged (M : sd_Mem) (x1 : Int32) (x2 : Int32) (x3 : Int32) (x4 : Int32) (l5 : Int64) : Option Int64 := fn_X0_judged_0 M x1 x2 x3 x4 l5

def rm_X0_weighTaking : Room := { frames := 4, cells := 0, slots := 0, locals := 106 }
def fn_X0_weighTaking_67 (h1 : Nat) (k14 : sd_Mem → Int32 → Int32 → Option sd_Mem) (k22 : sd_Mem → Int32 → Int32 → Int32 → Option sd_Mem) (M : sd_Mem) (x2 : Int32) (x3 : Int32) (x4 : Int32) (ls0 : Int64) : Option sd_Mem := (fn_X0_judged M (0 : Int32) x2 x3 x4 ls0).bind fun q81 => (fn_X0_keep M x3 x4 q81).bind fun q84 => k22 q84 x2 x3 (x4 + (1 : Int32))
def fn_X0_weighTaking_22 (h1 : Nat) (k14 : sd_Mem → Int32 → Int32 → Option sd_Mem) : Nat → sd_Mem → Int32 → Int32 → Int32 → Option sd_Mem
  | 0, _, _, _, _ => none
  | n + 1, M, x2, x3, x4 => (fn_X5_everySort M 40 (1 : Int32)).bind fun q29 => (if q29 < x4 then k14 M x2 (x3 + (-1 : Int32)) else (if (M.1 58 0) ≤ x3 then (fn_X0_bestByTaking M h1 x2 x3 x4).bind fun q64 => fn_X0_weighTaking_67 h1 k14 (fn_X0_weighTaking_22 h1 k14 n) M x2 x3 x4 q64 else (fn_X0_sum M (x3 + (1 : Int32)) x4).bind fun q52 => fn_X0_weighTaking_67 h1 k14 (fn_X0_weighTaking_22 h1 k14 n) M x2 x3 x4 q52))
def fn_X0_weighTaking_14 (h1 : Nat)  : Nat → sd_Mem → Int32 → Int32 → Option sd_Mem
  | 0, _, _, _ => none
  | n + 1, M, x2, x3 => (if x3 < (1 : Int32) then some M else fn_X0_weighTaking_22 h1 (fn_X0_weighTaking_14 h1 n) sd_FU M x2 x3 (0 : Int32))
def fn_X0_weighTaking_0 (h1 : Nat)  (M : sd_Mem) (x2 : Int32) : Option sd_Mem := (fn_X0_endUnsettled M (0 : Int32) x2).bind fun q3 => fn_X0_weighTaking_14 h1 sd_FU q3 x2 (q3.1 40 6)
def fn_X0_weighTaking (M : sd_Mem) (h1 : Nat) (x2 : Int32) : Option sd_Mem := fn_X0_weighTaking_0 h1 M x2

def rm_X0_refusing : Room := { frames := 2, cells := 0, slots := 0, locals := 43 }
def fn_X0_refusing_6 (M : sd_Mem) (h1 : Nat)  : Nat → Int32 → Int32 → Int32 → Int32 → Int32 → Option Int32
  | 0, _, _, _, _, _ => none
  | n + 1, x2, x3, x4, x5, x6 => (fn_X5_sorts M 40 (0 : Int32)).bind fun q13 => (if q13 ≤ x6 then some x5 else (fn_X10_contains x3 x6).bind fun q24 => (if q24 = 0 then fn_X0_refusing_6 M h1 n x2 x3 x4 (x5 ||| (0 : Int32)) (x6 + (1 : Int32)) else (fn_X9_number M h1 x6 x2).bind fun q36 => (if q36 ≤ x4 then fn_X0_refusing_6 M h1 n x2 x3 x4 (x5 ||| (0 : Int32)) (x6 + (1 : Int32)) else fn_X0_refusing_6 M h1 n x2 x3 x4 (x5 ||| ((1 : Int32) <<< (x6 &&& 31))) (x6 + (1 : Int32)))))
def fn_X0_refusing_0 (M : sd_Mem) (h1 : Nat)  (x2 : Int32) (x3 : Int32) (x4 : Int32) : Option Int32 := fn_X0_refusing_6 M h1 sd_FU x2 x3 x4 (0 : Int32) (0 : Int32)
def fn_X0_refusing (M : sd_Mem) (h1 : Nat) (x2 : Int32) (x3 : Int32) (x4 : Int32) : Option Int32 := fn_X0_refusing_0 M h1 x2 x3 x4

def rm_X0_bestByOffering : Room := { frames := 3, cells := 0, slots := 0, locals := 77 }
def fn_X0_bestByOffering_83 (h1 : Nat)  (M : sd_Mem) (x3 : Int32) (x4 : Int32) (l5 : Int64) (x7 : Int32) : Option (Int64 × sd_Mem) := (fn_X0_isHeld x3 x4).bind fun q86 => (if q86 = 0 then some (l5, M) else if x3 < 0 ∨ 12 ≤ x3.toNatClampNeg then none else if x4 < 0 ∨ 8 ≤ x4.toNatClampNeg then none else some (l5, sd_setI M (77 + 1 + x3.toNatClampNeg) x4.toNatClampNeg x7))
def fn_X0_bestByOffering_9 (h1 : Nat)  : Nat → sd_Mem → Int32 → Int32 → Int32 → Int64 → Int32 → Int32 → Option (Int64 × sd_Mem)
  | 0, _, _, _, _, _, _, _ => none
  | n + 1, M, x2, x3, x4, l5, x7, x8 => (if (12 : Int32) < x8 then fn_X0_bestByOffering_83 h1 M x3 x4 l5 x7 else (fn_X0_refusing M h1 x3 x4 x8).bind fun q23 => (fn_X0_settled M (1 : Int32) x2 x3 (x4 &&& (q23 ^^^ (-1 : Int32))) x8).bind fun q41 => (fn_X0_sum M (x3 + (1 : Int32)) q23).bind fun q50 => (if x8 = 0 then fn_X0_bestByOffering_9 h1 n M x2 x3 x4 (q41 + q50) x8 (x8 + (1 : Int32)) else (if (lg_cmp (q41 + q50) l5) ≤ 0 then fn_X0_bestByOffering_9 h1 n M x2 x3 x4 l5 x7 (x8 + (1 : Int32)) else fn_X0_bestByOffering_9 h1 n M x2 x3 x4 (q41 + q50) x8 (x8 + (1 : Int32)))))
def fn_X0_bestByOffering_0 (h1 : Nat)  (M : sd_Mem) (x2 : Int32) (x3 : Int32) (x4 : Int32) : Option (Int64 × sd_Mem) := fn_X0_bestByOffering_9 h1 sd_FU M x2 x3 x4 (0 : Int64) (0 : Int32) (0 : Int32)
def fn_X0_bestByOffering (M : sd_Mem) (h1 : Nat) (x2 : Int32) (x3 : Int32) (x4 : Int32) : Option (Int64 × sd_Mem) := fn_X0_bestByOffering_0 h1 M x2 x3 x4

def rm_X0_weighOffering : Room := { frames := 4, cells := 0, slots := 0, locals := 108 }
def fn_X0_weighOffering_67 (h1 : Nat) (k14 : sd_Mem → Int32 → Int32 → Option sd_Mem) (k22 : sd_Mem → Int32 → Int32 → Int32 → Option sd_Mem) (M : sd_Mem) (x2 : Int32) (x3 : Int32) (x4 : Int32) (ls0 : Int64) : Option sd_Mem := (fn_X0_judged M (1 : Int32) x2 x3 x4 ls0).bind fun q81 => (fn_X0_keep M x3 x4 q81).bind fun q84 => k22 q84 x2 x3 (x4 + (1 : Int32))
def fn_X0_weighOffering_22 (h1 : Nat) (k14 : sd_Mem → Int32 → Int32 → Option sd_Mem) : Nat → sd_Mem → Int32 → Int32 → Int32 → Option sd_Mem
  | 0, _, _, _, _ => none
  | n + 1, M, x2, x3, x4 => (fn_X5_everySort M 40 (0 : Int32)).bind fun q29 => (if q29 < x4 then k14 M x2 (x3 + (-1 : Int32)) else (if (M.1 58 0) ≤ x3 then (fn_X0_bestByOffering M h1 x2 x3 x4).bind fun q64 => fn_X0_weighOffering_67 h1 k14 (fn_X0_weighOffering_22 h1 k14 n) q64.2 x2 x3 x4 q64.1 else (fn_X0_sum M (x3 + (1 : Int32)) x4).bind fun q52 => fn_X0_weighOffering_67 h1 k14 (fn_X0_weighOffering_22 h1 k14 n) M x2 x3 x4 q52))
def fn_X0_weighOffering_14 (h1 : Nat)  : Nat → sd_Mem → Int32 → Int32 → Option sd_Mem
  | 0, _, _, _ => none
  | n + 1, M, x2, x3 => (if x3 < (1 : Int32) then some M else fn_X0_weighOffering_22 h1 (fn_X0_weighOffering_14 h1 n) sd_FU M x2 x3 (0 : Int32))
def fn_X0_weighOffering_0 (h1 : Nat)  (M : sd_Mem) (x2 : Int32) : Option sd_Mem := (fn_X0_endUnsettled M (1 : Int32) x2).bind fun q3 => fn_X0_weighOffering_14 h1 sd_FU q3 x2 (q3.1 40 6)
def fn_X0_weighOffering (M : sd_Mem) (h1 : Nat) (x2 : Int32) : Option sd_Mem := fn_X0_weighOffering_0 h1 M x2

def rm_X0_bestSum : Room := { frames := 5, cells := 0, slots := 0, locals := 134 }
def fn_X0_bestSum_19 (h1 : Nat)  (M : sd_Mem) (x2 : Int32) : Option (Int64 × sd_Mem) := (fn_X10_otherSide x2).bind fun q26 => (fn_X5_everySort M 40 q26).bind fun q29 => (fn_X0_sum M (1 : Int32) q29).bind fun q32 => some (q32, M)
def fn_X0_bestSum_0 (h1 : Nat)  (M : sd_Mem) (x2 : Int32) (x3 : Int32) : Option (Int64 × sd_Mem) := (if x2 = 0 then (fn_X0_weighTaking M h1 x3).bind fun q7 => fn_X0_bestSum_19 h1 q7 x2 else (fn_X0_weighOffering M h1 x3).bind fun q16 => fn_X0_bestSum_19 h1 q16 x2)
def fn_X0_bestSum (M : sd_Mem) (h1 : Nat) (x2 : Int32) (x3 : Int32) : Option (Int64 × sd_Mem) := fn_X0_bestSum_0 h1 M x2 x3

def rm_X10_best : Room := { frames := 6, cells := 0, slots := 0, locals := 157 }
def fn_X10_best_83   (M : sd_Mem) (x1 : Int32) (x2 : Int32) (x3 : Int32) : Option (Int32 × sd_Mem) := if x1 < 0 ∨ 8 ≤ x1.toNatClampNeg then none else (fn_X0_bestSum M (23 + 1 + 2 * x1.toNatClampNeg) x2 x3).bind fun q99 => (fn_X7_worthShares q99.2 61 x2).bind fun q107 => (fn_X3_tell q99.2 q99.1 q107).bind fun q110 => some ((1 : Int32), q110)
def fn_X10_best_0   (M : sd_Mem) (x1 : Int32) (x2 : Int32) (x3 : Int32) : Option (Int32 × sd_Mem) := (fn_X10_isWay x1).bind fun q1 => (if q1 = 0 then some ((-1 : Int32), M) else (fn_X5_hasSort M 40 x2 x3).bind fun q13 => (if q13 = 0 then some ((-1 : Int32), M) else if x1 < 0 ∨ 8 ≤ x1.toNatClampNeg then none else (fn_X9_isMissing M (23 + 1 + 2 * x1.toNatClampNeg)).bind fun q27 => (if q27 = 0 then (if x2 = 0 then if x1 < 0 ∨ 8 ≤ x1.toNatClampNeg then none else (fn_X9_is M (23 + 1 + 2 * x1.toNatClampNeg) (1 : Int32)).bind fun q53 => (if q53 = 0 then (fn_X2_tell M (3 : Int32)).bind fun q79 => some (q79.1, q79.2) else fn_X10_best_83 M x1 x2 x3) else if x1 < 0 ∨ 8 ≤ x1.toNatClampNeg then none else (fn_X9_isPlainTake M (23 + 1 + 2 * x1.toNatClampNeg)).bind fun q68 => (if q68 = 0 then (fn_X2_tell M (3 : Int32)).bind fun q79 => some (q79.1, q79.2) else fn_X10_best_83 M x1 x2 x3)) else (fn_X2_tell M (1 : Int32)).bind fun q38 => some (q38.1, q38.2))))
def fn_X10_best (M : sd_Mem) (x1 : Int32) (x2 : Int32) (x3 : Int32) : Option (Int32 × sd_Mem) := fn_X10_best_0 M x1 x2 x3

def rm_X10_rest : Room := { frames := 6, cells := 0, slots := 0, locals := 157 }
def fn_X10_rest_102   (M : sd_Mem) (x4 : Int32) (x6 : Int32) : Option (Int32 × sd_Mem) := some (((10 : Int32) * x4) + x6, M)
def fn_X10_rest_48  (k17 : sd_Mem → Int32 → Int32 → Int32 → Option (Int32 × sd_Mem)) : Nat → sd_Mem → Int32 → Int32 → Int32 → Nat → Int32 → Option (Int32 × sd_Mem)
  | 0, _, _, _, _, _, _ => none
  | n + 1, M, x1, x2, x4, g5, x6 => (fn_X5_sorts M 40 x4).bind fun q56 => (if q56 ≤ x6 then k17 M x1 x2 (x4 + (1 : Int32)) else (fn_X0_bestSum M g5 x4 x6).bind fun q72 => if x1 < 0 ∨ 8 ≤ x1.toNatClampNeg then none else if x2 < 0 ∨ 8 ≤ x2.toNatClampNeg then none else (fn_X7_worthSum q72.2 61 (23 + 1 + 2 * x1.toNatClampNeg) (23 + 1 + 2 * x2.toNatClampNeg) x4 x6).bind fun q95 => (if (lg_cmp q72.1 q95) ≤ 0 then fn_X10_rest_48 k17 n q72.2 x1 x2 x4 g5 (x6 + (1 : Int32)) else fn_X10_rest_102 q72.2 x4 x6))
def fn_X10_rest_17   : Nat → sd_Mem → Int32 → Int32 → Int32 → Option (Int32 × sd_Mem)
  | 0, _, _, _, _ => none
  | n + 1, M, x1, x2, x4 => (if (1 : Int32) < x4 then some ((-9 : Int32), M) else (if x4 = 0 then if x1 < 0 ∨ 8 ≤ x1.toNatClampNeg then none else fn_X10_rest_48 (fn_X10_rest_17 n) sd_FU M x1 x2 x4 (23 + 1 + 2 * x1.toNatClampNeg) (0 : Int32) else if x2 < 0 ∨ 8 ≤ x2.toNatClampNeg then none else fn_X10_rest_48 (fn_X10_rest_17 n) sd_FU M x1 x2 x4 (23 + 1 + 2 * x2.toNatClampNeg) (0 : Int32)))
def fn_X10_rest_0   (M : sd_Mem) (x1 : Int32) (x2 : Int32) : Option (Int32 × sd_Mem) := (fn_X10_refusePair M x1 x2 (0 : Int32)).bind fun q4 => (if q4.1 = 0 then fn_X10_rest_17 sd_FU q4.2 x1 x2 (0 : Int32) else some (q4.1, q4.2))
def fn_X10_rest (M : sd_Mem) (x1 : Int32) (x2 : Int32) : Option (Int32 × sd_Mem) := fn_X10_rest_0 M x1 x2

def rm_X0_layOffers : Room := { frames := 5, cells := 0, slots := 0, locals := 134 }
def fn_X0_layOffers_94 (h1 : Nat) (h2 : Nat) (k22 : sd_Mem → Int32 → Int32 → Int32 → Int32 → Option (Int32 × sd_Mem)) (M : sd_Mem) (x3 : Int32) (x4 : Int32) (x5 : Int32) (x6 : Int32) (x7 : Int32) : Option (Int32 × sd_Mem) := (fn_X9_swap M h1 x3 x6 x7).bind fun q102 => (if q102.1 = x7 then k22 q102.2 x3 (x4 + (0 : Int32)) x5 (x6 + (1 : Int32)) else k22 q102.2 x3 (x4 + (1 : Int32)) x5 (x6 + (1 : Int32)))
def fn_X0_layOffers_22 (h1 : Nat) (h2 : Nat)  : Nat → sd_Mem → Int32 → Int32 → Int32 → Int32 → Option (Int32 × sd_Mem)
  | 0, _, _, _, _, _ => none
  | n + 1, M, x3, x4, x5, x6 => (if (10 : Int32) < x6 then some (x4, M) else (fn_X10_within x6 (M.1 58 0) (M.1 40 6)).bind fun q48 => (if q48 = 0 then fn_X0_layOffers_94 h1 h2 (fn_X0_layOffers_22 h1 h2 n) M x3 x4 x5 x6 (0 : Int32) else (if x5 = 0 then fn_X0_layOffers_94 h1 h2 (fn_X0_layOffers_22 h1 h2 n) M x3 x4 x5 x6 (0 : Int32) else (fn_X0_isHeld x6 x5).bind fun q63 => (if q63 = 0 then fn_X0_layOffers_94 h1 h2 (fn_X0_layOffers_22 h1 h2 n) M x3 x4 x5 x6 (0 : Int32) else if x6 < 0 ∨ 12 ≤ x6.toNatClampNeg then none else if x5 < 0 ∨ 8 ≤ x5.toNatClampNeg then none else (fn_X0_refusing M h2 x6 x5 (M.1 (77 + 1 + x6.toNatClampNeg) x5.toNatClampNeg)).bind fun q89 => fn_X0_layOffers_94 h1 h2 (fn_X0_layOffers_22 h1 h2 n) M x3 x4 q89 x6 (M.1 (77 + 1 + x6.toNatClampNeg) x5.toNatClampNeg)))))
def fn_X0_layOffers_0 (h1 : Nat) (h2 : Nat)  (M : sd_Mem) (x3 : Int32) : Option (Int32 × sd_Mem) := (fn_X0_weighOffering M h2 x3).bind fun q3 => (fn_X5_everySort q3 40 (0 : Int32)).bind fun q14 => fn_X0_layOffers_22 h1 h2 sd_FU q3 x3 (0 : Int32) q14 (1 : Int32)
def fn_X0_layOffers (M : sd_Mem) (h1 : Nat) (h2 : Nat) (x3 : Int32) : Option (Int32 × sd_Mem) := fn_X0_layOffers_0 h1 h2 M x3

def rm_X10_answer : Room := { frames := 6, cells := 0, slots := 0, locals := 161 }
def fn_X10_answer_20   : Nat → sd_Mem → Int32 → Int32 → Int32 → Int32 → Option (Int32 × sd_Mem)
  | 0, _, _, _, _, _ => none
  | n + 1, M, x1, x2, x4, x5 => (fn_X5_sorts M 40 (1 : Int32)).bind fun q27 => (if q27 ≤ x5 then some (x4, M) else if x1 < 0 ∨ 8 ≤ x1.toNatClampNeg then none else if x2 < 0 ∨ 8 ≤ x2.toNatClampNeg then none else (fn_X0_layOffers M (23 + 1 + 2 * x1.toNatClampNeg) (23 + 1 + 2 * x2.toNatClampNeg) x5).bind fun q53 => fn_X10_answer_20 n q53.2 x1 x2 (x4 + q53.1) (x5 + (1 : Int32)))
def fn_X10_answer_0   (M : sd_Mem) (x1 : Int32) (x2 : Int32) : Option (Int32 × sd_Mem) := (fn_X10_refusePair M x1 x2 (0 : Int32)).bind fun q4 => (if q4.1 = 0 then fn_X10_answer_20 sd_FU q4.2 x1 x2 (0 : Int32) (0 : Int32) else some (q4.1, q4.2))
def fn_X10_answer (M : sd_Mem) (x1 : Int32) (x2 : Int32) : Option (Int32 × sd_Mem) := fn_X10_answer_0 M x1 x2

def rm_X0_isTaken : Room := { frames := 3, cells := 0, slots := 0, locals := 77 }
def fn_X0_isTaken_0 (M : sd_Mem)  (x1 : Int32) (x2 : Int32) (x3 : Int32) (x4 : Int32) : Option Int32 := (fn_X0_settled M (0 : Int32) x1 x3 x2 x4).bind fun q7 => (fn_X0_sum M (x3 + (1 : Int32)) x2).bind fun q15 => (if (lg_cmp q7 q15) < 0 then some (0 : Int32) else some (1 : Int32))
def fn_X0_isTaken (M : sd_Mem) (x1 : Int32) (x2 : Int32) (x3 : Int32) (x4 : Int32) : Option Int32 := fn_X0_isTaken_0 M x1 x2 x3 x4

def rm_X10_leastTaken : Room := { frames := 4, cells := 0, slots := 0, locals := 101 }
def fn_X10_leastTaken_31 (M : sd_Mem) (h1 : Nat)  : Nat → Int32 → Int32 → Int32 → Int32 → Option Int32
  | 0, _, _, _, _ => none
  | n + 1, x2, x3, x4, x5 => (fn_X5_sorts M 40 (1 : Int32)).bind fun q38 => (if q38 ≤ x5 then some x4 else (fn_X9_number M h1 x5 x3).bind fun q48 => (if x4 ≤ q48 then fn_X10_leastTaken_31 M h1 n x2 x3 x4 (x5 + (1 : Int32)) else (fn_X7_offeringAlike M 61 h1 x5 x3).bind fun q73 => (fn_X0_isTaken M x2 q73 x3 q48).bind fun q79 => (if q79 = 0 then fn_X10_leastTaken_31 M h1 n x2 x3 x4 (x5 + (1 : Int32)) else fn_X10_leastTaken_31 M h1 n x2 x3 q48 (x5 + (1 : Int32)))))
def fn_X10_leastTaken_0 (M : sd_Mem) (h1 : Nat)  (x2 : Int32) (x3 : Int32) : Option Int32 := (fn_X5_last M 40).bind fun q16 => (fn_X10_within x3 (M.1 58 0) q16).bind fun q19 => (if q19 = 0 then some (13 : Int32) else fn_X10_leastTaken_31 M h1 sd_FU x2 x3 (13 : Int32) (0 : Int32))
def fn_X10_leastTaken (M : sd_Mem) (h1 : Nat) (x2 : Int32) (x3 : Int32) : Option Int32 := fn_X10_leastTaken_0 M h1 x2 x3

def rm_X10_reply : Room := { frames := 5, cells := 0, slots := 0, locals := 132 }
def fn_X10_reply_51  (k20 : sd_Mem → Int32 → Int32 → Int32 → Int32 → Option (Int32 × sd_Mem)) : Nat → sd_Mem → Int32 → Int32 → Int32 → Int32 → Int32 → Option (Int32 × sd_Mem)
  | 0, _, _, _, _, _, _ => none
  | n + 1, M, x1, x2, x4, x5, x6 => (if (10 : Int32) < x6 then k20 M x1 x2 x4 (x5 + (1 : Int32)) else if x2 < 0 ∨ 8 ≤ x2.toNatClampNeg then none else (fn_X10_leastTaken M (23 + 1 + 2 * x2.toNatClampNeg) x5 x6).bind fun q69 => if x1 < 0 ∨ 8 ≤ x1.toNatClampNeg then none else (fn_X9_swap M (23 + 1 + 2 * x1.toNatClampNeg) x5 x6 q69).bind fun q88 => (if q88.1 = q69 then fn_X10_reply_51 k20 n q88.2 x1 x2 (x4 + (0 : Int32)) x5 (x6 + (1 : Int32)) else fn_X10_reply_51 k20 n q88.2 x1 x2 (x4 + (1 : Int32)) x5 (x6 + (1 : Int32))))
def fn_X10_reply_20   : Nat → sd_Mem → Int32 → Int32 → Int32 → Int32 → Option (Int32 × sd_Mem)
  | 0, _, _, _, _, _ => none
  | n + 1, M, x1, x2, x4, x5 => (fn_X5_sorts M 40 (0 : Int32)).bind fun q27 => (if q27 ≤ x5 then some (x4, M) else if x2 < 0 ∨ 8 ≤ x2.toNatClampNeg then none else (fn_X0_weighTaking M (23 + 1 + 2 * x2.toNatClampNeg) x5).bind fun q45 => fn_X10_reply_51 (fn_X10_reply_20 n) sd_FU q45 x1 x2 x4 x5 (1 : Int32))
def fn_X10_reply_0   (M : sd_Mem) (x1 : Int32) (x2 : Int32) : Option (Int32 × sd_Mem) := (fn_X10_refusePair M x2 x1 (0 : Int32)).bind fun q4 => (if q4.1 = 0 then fn_X10_reply_20 sd_FU q4.2 x1 x2 (0 : Int32) (0 : Int32) else some (q4.1, q4.2))
def fn_X10_reply (M : sd_Mem) (x1 : Int32) (x2 : Int32) : Option (Int32 × sd_Mem) := fn_X10_reply_0 M x1 x2

def rm_X7_lostDays : Room := { frames := 5, cells := 0, slots := 0, locals := 122 }
def fn_X7_lostDays_5 (M : sd_Mem) (h0 : Nat) (h1 : Nat) (h2 : Nat)  : Nat → Int64 → Int32 → Option Int64
  | 0, _, _ => none
  | n + 1, l3, x5 => (if ((M.1 40 6) + (1 : Int32)) < x5 then some l3 else (fn_X7_endingWeight M h0 h1 h2 x5).bind fun q30 => fn_X7_lostDays_5 M h0 h1 h2 n (l3 + (((x5 - (1 : Int32)).toInt64) * q30)) (x5 + (1 : Int32)))
def fn_X7_lostDays_0 (M : sd_Mem) (h0 : Nat) (h1 : Nat) (h2 : Nat)   : Option Int64 := fn_X7_lostDays_5 M h0 h1 h2 sd_FU (0 : Int64) (1 : Int32)
def fn_X7_lostDays (M : sd_Mem) (h0 : Nat) (h1 : Nat) (h2 : Nat) : Option Int64 := fn_X7_lostDays_0 M h0 h1 h2

def rm_X10_longer : Room := { frames := 6, cells := 0, slots := 0, locals := 147 }
def fn_X10_longer_0   (M : sd_Mem) (x1 : Int32) (x2 : Int32) : Option (Int32 × sd_Mem) := (fn_X10_refusePair M x1 x2 (1 : Int32)).bind fun q4 => (if q4.1 = 0 then if x1 < 0 ∨ 8 ≤ x1.toNatClampNeg then none else if x2 < 0 ∨ 8 ≤ x2.toNatClampNeg then none else (fn_X7_lostDays q4.2 61 (23 + 1 + 2 * x1.toNatClampNeg) (23 + 1 + 2 * x2.toNatClampNeg)).bind fun q34 => (fn_X5_pairs q4.2 40).bind fun q41 => (fn_X3_tell q4.2 q34 q41).bind fun q44 => some ((1 : Int32), q44) else some (q4.1, q4.2))
def fn_X10_longer (M : sd_Mem) (x1 : Int32) (x2 : Int32) : Option (Int32 × sd_Mem) := fn_X10_longer_0 M x1 x2

def rm_X7_lostGoods : Room := { frames := 4, cells := 0, slots := 0, locals := 95 }
def fn_X7_lostGoods_21 (M : sd_Mem) (h0 : Nat) (h1 : Nat) (h2 : Nat) (k5 : Int64 → Int32 → Option Int64) : Nat → Int64 → Int32 → Int32 → Option Int64
  | 0, _, _, _ => none
  | n + 1, l3, x5, x6 => (fn_X5_sorts M 40 (0 : Int32)).bind fun q28 => (if q28 ≤ x6 then k5 l3 (x5 + (1 : Int32)) else (fn_X5_cost M 40 (1 : Int32) x5).bind fun q48 => (fn_X5_cost M 40 (0 : Int32) x6).bind fun q59 => (fn_X7_pairWeight M h0 x5 x6).bind fun q72 => (fn_X7_settlingDay M h0 h1 h2 x5 x6).bind fun q85 => fn_X7_lostGoods_21 M h0 h1 h2 k5 n (l3 + ((q72 * ((((M.1 40 4) + q48) + q59).toInt64)) * ((q85 - (1 : Int32)).toInt64))) x5 (x6 + (1 : Int32)))
def fn_X7_lostGoods_5 (M : sd_Mem) (h0 : Nat) (h1 : Nat) (h2 : Nat)  : Nat → Int64 → Int32 → Option Int64
  | 0, _, _ => none
  | n + 1, l3, x5 => (fn_X5_sorts M 40 (1 : Int32)).bind fun q12 => (if q12 ≤ x5 then some l3 else fn_X7_lostGoods_21 M h0 h1 h2 (fn_X7_lostGoods_5 M h0 h1 h2 n) sd_FU l3 x5 (0 : Int32))
def fn_X7_lostGoods_0 (M : sd_Mem) (h0 : Nat) (h1 : Nat) (h2 : Nat)   : Option Int64 := fn_X7_lostGoods_5 M h0 h1 h2 sd_FU (0 : Int64) (0 : Int32)
def fn_X7_lostGoods (M : sd_Mem) (h0 : Nat) (h1 : Nat) (h2 : Nat) : Option Int64 := fn_X7_lostGoods_0 M h0 h1 h2

def rm_X10_lost : Room := { frames := 5, cells := 0, slots := 0, locals := 123 }
def fn_X10_lost_0   (M : sd_Mem) (x1 : Int32) (x2 : Int32) : Option (Int32 × sd_Mem) := (fn_X10_refusePair M x1 x2 (1 : Int32)).bind fun q4 => (if q4.1 = 0 then if x1 < 0 ∨ 8 ≤ x1.toNatClampNeg then none else if x2 < 0 ∨ 8 ≤ x2.toNatClampNeg then none else (fn_X7_lostGoods q4.2 61 (23 + 1 + 2 * x1.toNatClampNeg) (23 + 1 + 2 * x2.toNatClampNeg)).bind fun q34 => (fn_X5_pairs q4.2 40).bind fun q41 => (fn_X3_tell q4.2 q34 q41).bind fun q44 => some ((1 : Int32), q44) else some (q4.1, q4.2))
def fn_X10_lost (M : sd_Mem) (x1 : Int32) (x2 : Int32) : Option (Int32 × sd_Mem) := fn_X10_lost_0 M x1 x2

def rm_X10_morning : Room := { frames := 4, cells := 0, slots := 0, locals := 95 }
def fn_X10_morning_92   : Nat → sd_Mem → Int32 → Int32 → Int32 → Int32 → Int32 → Int32 → Option (Int32 × sd_Mem)
  | 0, _, _, _, _, _, _, _ => none
  | n + 1, M, x3, x4, x6, x7, x8, x9 => (if (12 : Int32) < x9 then some (x8, M) else (fn_X5_pay M 40 (0 : Int32) x4 (1 : Int32) x9).bind fun q109 => (fn_X5_pay M 40 (0 : Int32) x4 x6 x7).bind fun q123 => (fn_X5_pay M 40 (1 : Int32) x3 (1 : Int32) x9).bind fun q138 => (fn_X5_pay M 40 (1 : Int32) x3 x6 x7).bind fun q151 => (if (lg_cmp (q109 - q123) (0 : Int64)) < 0 then fn_X10_morning_92 n M x3 x4 x6 x7 x8 (x9 + (1 : Int32)) else (if (lg_cmp (q138 - q151) (0 : Int64)) < 0 then fn_X10_morning_92 n M x3 x4 x6 x7 x8 (x9 + (1 : Int32)) else (if (lg_cmp ((q109 - q123) + (q138 - q151)) (0 : Int64)) ≤ 0 then fn_X10_morning_92 n M x3 x4 x6 x7 x8 (x9 + (1 : Int32)) else fn_X10_morning_92 n M x3 x4 x6 x7 (x8 ||| ((1 : Int32) <<< (x9 &&& 31))) (x9 + (1 : Int32))))))
def fn_X10_morning_0   (M : sd_Mem) (x1 : Int32) (x2 : Int32) (x3 : Int32) (x4 : Int32) : Option (Int32 × sd_Mem) := (fn_X5_hasSort M 40 (1 : Int32) x3).bind fun q6 => (if q6 = 0 then some ((-1 : Int32), M) else (fn_X5_hasSort M 40 (0 : Int32) x4).bind fun q19 => (if q19 = 0 then some ((-1 : Int32), M) else (fn_X10_refusePair M x1 x2 (1 : Int32)).bind fun q31 => (if q31.1 = 0 then if x1 < 0 ∨ 8 ≤ x1.toNatClampNeg then none else if x2 < 0 ∨ 8 ≤ x2.toNatClampNeg then none else (fn_X7_settlingDay q31.2 61 (23 + 1 + 2 * x1.toNatClampNeg) (23 + 1 + 2 * x2.toNatClampNeg) x3 x4).bind fun q63 => if x1 < 0 ∨ 8 ≤ x1.toNatClampNeg then none else (fn_X7_wageOn q31.2 61 (23 + 1 + 2 * x1.toNatClampNeg) x3 q63).bind fun q81 => fn_X10_morning_92 sd_FU q31.2 x3 x4 q63 q81 (0 : Int32) (0 : Int32) else some (q31.1, q31.2))))
def fn_X10_morning (M : sd_Mem) (x1 : Int32) (x2 : Int32) (x3 : Int32) (x4 : Int32) : Option (Int32 × sd_Mem) := fn_X10_morning_0 M x1 x2 x3 x4

def rm_X7_daysJudged : Room := { frames := 2, cells := 0, slots := 0, locals := 42 }
def fn_X7_daysJudged_73 (M : sd_Mem) (h0 : Nat)  (x2 : Int32) (l3 : Int64) : Option Int64 := (fn_X5_power ((M.1 40 6) - x2)).bind fun q83 => some (l3 * q83)
def fn_X7_daysJudged_20 (M : sd_Mem) (h0 : Nat)  : Nat → Int32 → Int64 → Int32 → Option Int64
  | 0, _, _, _ => none
  | n + 1, x2, l3, x5 => (if x5 < (1 : Int32) then fn_X7_daysJudged_73 M h0 x2 l3 else (fn_X5_power (x2 - x5)).bind fun q35 => fn_X7_daysJudged_20 M h0 n x2 ((((M.1 (h0 - 3) 1).toInt64) * (((x5 - (1 : Int32)).toInt64) * q35)) + ((((12 : Int32) - (M.1 (h0 - 3) 1)).toInt64) * l3)) (x5 + (-1 : Int32)))
def fn_X7_daysJudged_0 (M : sd_Mem) (h0 : Nat)  (x1 : Int32) : Option Int64 := fn_X7_daysJudged_20 M h0 sd_FU (if (M.1 40 6) < x1 then (M.1 40 6) else x1) ((x1 - (1 : Int32)).toInt64) (if (M.1 40 6) < x1 then (M.1 40 6) else x1)
def fn_X7_daysJudged (M : sd_Mem) (h0 : Nat) (x1 : Int32) : Option Int64 := fn_X7_daysJudged_0 M h0 x1

def rm_X7_lostDaysJudged : Room := { frames := 5, cells := 0, slots := 0, locals := 122 }
def fn_X7_lostDaysJudged_5 (M : sd_Mem) (h0 : Nat) (h1 : Nat) (h2 : Nat)  : Nat → Int64 → Int32 → Option Int64
  | 0, _, _ => none
  | n + 1, l3, x5 => (if ((M.1 40 6) + (1 : Int32)) < x5 then some l3 else (fn_X7_daysJudged M h0 x5).bind fun q23 => (fn_X7_endingWeight M h0 h1 h2 x5).bind fun q31 => fn_X7_lostDaysJudged_5 M h0 h1 h2 n (l3 + (q23 * q31)) (x5 + (1 : Int32)))
def fn_X7_lostDaysJudged_0 (M : sd_Mem) (h0 : Nat) (h1 : Nat) (h2 : Nat)   : Option Int64 := fn_X7_lostDaysJudged_5 M h0 h1 h2 sd_FU (0 : Int64) (1 : Int32)
def fn_X7_lostDaysJudged (M : sd_Mem) (h0 : Nat) (h1 : Nat) (h2 : Nat) : Option Int64 := fn_X7_lostDaysJudged_0 M h0 h1 h2

def rm_X10_law : Room := { frames := 6, cells := 0, slots := 0, locals := 147 }
def fn_X10_law_93  (k24 : sd_Mem → Int32 → Int32 → Int32 → Int64 → Int32 → Option (Int32 × sd_Mem)) (k33 : sd_Mem → Int32 → Int32 → Int32 → Int64 → Int32 → Int32 → Option (Int32 × sd_Mem)) (M : sd_Mem) (x1 : Int32) (x2 : Int32) (x7 : Int32) (x8 : Int32) (l9 : Int64) : Option (Int32 × sd_Mem) := k33 M x1 x2 (((10 : Int32) * x7) + x8) l9 x7 (x8 + (3 : Int32))
def fn_X10_law_33  (k24 : sd_Mem → Int32 → Int32 → Int32 → Int64 → Int32 → Option (Int32 × sd_Mem)) : Nat → sd_Mem → Int32 → Int32 → Int32 → Int64 → Int32 → Int32 → Option (Int32 × sd_Mem)
  | 0, _, _, _, _, _, _, _ => none
  | n + 1, M, x1, x2, x4, l5, x7, x8 => (if (3 : Int32) < x8 then k24 M x1 x2 x4 l5 (x7 + (1 : Int32)) else if x1 < 0 ∨ 8 ≤ x1.toNatClampNeg then none else if x2 < 0 ∨ 8 ≤ x2.toNatClampNeg then none else (fn_X7_lostDaysJudged (sd_setI (sd_setI M 59 0 x7) 59 1 x8) 62 (23 + 1 + 2 * x1.toNatClampNeg) (23 + 1 + 2 * x2.toNatClampNeg)).bind fun q73 => (if x4 = (-9 : Int32) then fn_X10_law_93 k24 (fn_X10_law_33 k24 n) (sd_setI (sd_setI M 59 0 x7) 59 1 x8) x1 x2 x7 x8 q73 else (if 0 ≤ (lg_cmp q73 l5) then fn_X10_law_33 k24 n (sd_setI (sd_setI M 59 0 x7) 59 1 x8) x1 x2 x4 l5 x7 (x8 + (3 : Int32)) else fn_X10_law_93 k24 (fn_X10_law_33 k24 n) (sd_setI (sd_setI M 59 0 x7) 59 1 x8) x1 x2 x7 x8 q73)))
def fn_X10_law_119   (M : sd_Mem) (x4 : Int32) (l5 : Int64) : Option (Int32 × sd_Mem) := (fn_X5_pairs M 40).bind fun q129 => (fn_X5_judgings M 40).bind fun q136 => (fn_X3_tell M l5 (q129 * q136)).bind fun q140 => some (x4, q140)
def fn_X10_law_24   : Nat → sd_Mem → Int32 → Int32 → Int32 → Int64 → Int32 → Option (Int32 × sd_Mem)
  | 0, _, _, _, _, _, _ => none
  | n + 1, M, x1, x2, x4, l5, x7 => (if (4 : Int32) < x7 then fn_X10_law_119 M x4 l5 else fn_X10_law_33 (fn_X10_law_24 n) sd_FU M x1 x2 x4 l5 x7 (0 : Int32))
def fn_X10_law_0   (M : sd_Mem) (x1 : Int32) (x2 : Int32) : Option (Int32 × sd_Mem) := (fn_X10_refusePair M x1 x2 (1 : Int32)).bind fun q4 => (if q4.1 = 0 then fn_X10_law_24 sd_FU q4.2 x1 x2 (-9 : Int32) (0 : Int64) (1 : Int32) else some (q4.1, q4.2))
def fn_X10_law (M : sd_Mem) (x1 : Int32) (x2 : Int32) : Option (Int32 × sd_Mem) := fn_X10_law_0 M x1 x2

def rm_X10_isKindOfMen : Room := { frames := 1, cells := 0, slots := 0, locals := 22 }
def fn_X10_isKindOfMen_0   (x0 : Int32) : Option Int32 := (fn_X10_within x0 (0 : Int32) (5 : Int32)).bind fun q3 => if q3 &&& 1 ≠ q3 then none else some q3
def fn_X10_isKindOfMen (x0 : Int32) : Option Int32 := fn_X10_isKindOfMen_0 x0

def rm_X10_men : Room := { frames := 2, cells := 0, slots := 0, locals := 42 }
def fn_X10_men_0   (M : sd_Mem) (x1 : Int32) (x2 : Int32) (x3 : Int32) (x4 : Int32) : Option (Int32 × sd_Mem) := (fn_X10_isKindOfMen x1).bind fun q1 => (if q1 = 0 then some ((-1 : Int32), M) else (fn_X10_within x2 (0 : Int32) (99 : Int32)).bind fun q11 => (if q11 = 0 then some ((-1 : Int32), M) else (fn_X10_within x3 (0 : Int32) (99 : Int32)).bind fun q21 => (if q21 = 0 then some ((-1 : Int32), M) else (fn_X10_within x4 (0 : Int32) (100 : Int32)).bind fun q32 => (if q32 = 0 then some ((-1 : Int32), M) else if x1 < 0 ∨ 6 ≤ x1.toNatClampNeg then none else if x1 < 0 ∨ 6 ≤ x1.toNatClampNeg then none else if x1 < 0 ∨ 6 ≤ x1.toNatClampNeg then none else some ((1 : Int32), sd_setI (sd_setI (sd_setI M 91 x1.toNatClampNeg x2) 92 x1.toNatClampNeg x3) 93 x1.toNatClampNeg x4)))))
def fn_X10_men (M : sd_Mem) (x1 : Int32) (x2 : Int32) (x3 : Int32) (x4 : Int32) : Option (Int32 × sd_Mem) := fn_X10_men_0 M x1 x2 x3 x4

def rm_X10_leftBy : Room := { frames := 2, cells := 0, slots := 0, locals := 43 }
def fn_X10_leftBy_0   (M : sd_Mem) (x1 : Int32) (x2 : Int32) (x3 : Int32) (x4 : Int32) : Option (Int32 × sd_Mem) := (fn_X10_isKindOfMen x1).bind fun q1 => (if q1 = 0 then some ((-1 : Int32), M) else (fn_X10_isWay x2).bind fun q8 => (if q8 = 0 then some ((-1 : Int32), M) else (fn_X10_isPlace x3 x4).bind fun q17 => (if q17 = 0 then some ((-1 : Int32), M) else if x2 < 0 ∨ 8 ≤ x2.toNatClampNeg then none else (fn_X9_isMissing M (23 + 1 + 2 * x2.toNatClampNeg)).bind fun q31 => (if q31 = 0 then if x2 < 0 ∨ 8 ≤ x2.toNatClampNeg then none else (fn_X9_is M (23 + 1 + 2 * x2.toNatClampNeg) (4 : Int32)).bind fun q53 => (if q53 = 0 then (fn_X2_tell M (3 : Int32)).bind fun q64 => some (q64.1, q64.2) else if x2 < 0 ∨ 8 ≤ x2.toNatClampNeg then none else (fn_X9_number M (23 + 1 + 2 * x2.toNatClampNeg) x3 x4).bind fun q85 => if x1 < 0 ∨ 6 ≤ x1.toNatClampNeg then none else if x1 < 0 ∨ 6 ≤ x1.toNatClampNeg then none else some ((sd_setI M 92 x1.toNatClampNeg q85).1 92 x1.toNatClampNeg, sd_setI M 92 x1.toNatClampNeg q85)) else (fn_X2_tell M (1 : Int32)).bind fun q42 => some (q42.1, q42.2)))))
def fn_X10_leftBy (M : sd_Mem) (x1 : Int32) (x2 : Int32) (x3 : Int32) (x4 : Int32) : Option (Int32 × sd_Mem) := fn_X10_leftBy_0 M x1 x2 x3 x4

def rm_X10_isFund : Room := { frames := 1, cells := 0, slots := 0, locals := 22 }
def fn_X10_isFund_0   (x0 : Int32) (x1 : Int32) : Option Int32 := (fn_X10_within x0 (0 : Int32) (9999 : Int32)).bind fun q5 => (if q5 = 0 then some (0 : Int32) else (fn_X10_within x1 (0 : Int32) (999 : Int32)).bind fun q16 => (if q16 = 0 then some (0 : Int32) else some (1 : Int32)))
def fn_X10_isFund (x0 : Int32) (x1 : Int32) : Option Int32 := fn_X10_isFund_0 x0 x1

def rm_X8_begin : Room := { frames := 0, cells := 0, slots := 0, locals := 0 }
def fn_X8_begin_28  (k2 : sd_Mem → Int32 → Int32 → Int32 → Option sd_Mem) (M : sd_Mem) (x1 : Int32) (x2 : Int32) (x3 : Int32) (xs0 : Int32) (xs1 : Int32) : Option sd_Mem := if xs1 < 0 ∨ 6 ≤ xs1.toNatClampNeg then none else if x3 < 0 ∨ 6 ≤ x3.toNatClampNeg then none else k2 (sd_setI (sd_setI M 94 xs1.toNatClampNeg xs0) 95 x3.toNatClampNeg ((0 : Int32) &&& 1)) x1 x2 (x3 + (1 : Int32))
def fn_X8_begin_2   : Nat → sd_Mem → Int32 → Int32 → Int32 → Option sd_Mem
  | 0, _, _, _, _ => none
  | n + 1, M, x1, x2, x3 => (if (6 : Int32) ≤ x3 then some (sd_setI M 90 5 x1) else (if x3 = x2 then fn_X8_begin_28 (fn_X8_begin_2 n) M x1 x2 x3 (0 : Int32) x3 else if x3 < 0 ∨ 6 ≤ x3.toNatClampNeg then none else fn_X8_begin_28 (fn_X8_begin_2 n) M x1 x2 x3 (M.1 92 x3.toNatClampNeg) x3))
def fn_X8_begin_0   (M : sd_Mem) (x1 : Int32) (x2 : Int32) : Option sd_Mem := fn_X8_begin_2 sd_FU M x1 x2 (0 : Int32)
def fn_X8_begin (M : sd_Mem) (x1 : Int32) (x2 : Int32) : Option sd_Mem := fn_X8_begin_0 M x1 x2

def rm_X8_menBack : Room := { frames := 0, cells := 0, slots := 0, locals := 0 }
def fn_X8_menBack_4 (M : sd_Mem)  : Nat → Int32 → Int32 → Option Int32
  | 0, _, _ => none
  | n + 1, x1, x2 => (if (6 : Int32) ≤ x2 then some x1 else if x2 < 0 ∨ 6 ≤ x2.toNatClampNeg then none else (if (M.1 95 x2.toNatClampNeg) = 0 then fn_X8_menBack_4 M n (x1 + (0 : Int32)) (x2 + (1 : Int32)) else if x2 < 0 ∨ 6 ≤ x2.toNatClampNeg then none else fn_X8_menBack_4 M n (x1 + (M.1 91 x2.toNatClampNeg)) (x2 + (1 : Int32))))
def fn_X8_menBack_0 (M : sd_Mem)   : Option Int32 := fn_X8_menBack_4 M sd_FU (0 : Int32) (0 : Int32)
def fn_X8_menBack (M : sd_Mem) : Option Int32 := fn_X8_menBack_0 M

def rm_X8_menInAll : Room := { frames := 0, cells := 0, slots := 0, locals := 0 }
def fn_X8_menInAll_13 (M : sd_Mem)  : Nat → Int32 → Int32 → Int32 → Option Int32
  | 0, _, _, _ => none
  | n + 1, x1, x3, x4 => (if x3 ≤ x4 then some x1 else if x4 < 0 ∨ 6 ≤ x4.toNatClampNeg then none else fn_X8_menInAll_13 M n (x1 + (M.1 91 x4.toNatClampNeg)) x3 (x4 + (1 : Int32)))
def fn_X8_menInAll_0 (M : sd_Mem)   : Option Int32 := fn_X8_menInAll_13 M sd_FU (0 : Int32) (6 : Int32) (0 : Int32)
def fn_X8_menInAll (M : sd_Mem) : Option Int32 := fn_X8_menInAll_0 M

def rm_X8_followThose : Room := { frames := 0, cells := 0, slots := 0, locals := 0 }
def fn_X8_followThose_2   : Nat → sd_Mem → Int32 → Int32 → Int32 → Option sd_Mem
  | 0, _, _, _, _ => none
  | n + 1, M, x1, x2, x3 => (if (6 : Int32) ≤ x3 then some M else if x3 < 0 ∨ 6 ≤ x3.toNatClampNeg then none else if x3 < 0 ∨ 6 ≤ x3.toNatClampNeg then none else (if ((100 : Int32) * x1) < ((M.1 93 x3.toNatClampNeg) * x2) then if x3 < 0 ∨ 6 ≤ x3.toNatClampNeg then none else fn_X8_followThose_2 n (sd_setI M 95 x3.toNatClampNeg (((M.1 95 x3.toNatClampNeg) ||| (0 : Int32)) &&& 1)) x1 x2 (x3 + (1 : Int32)) else if x3 < 0 ∨ 6 ≤ x3.toNatClampNeg then none else fn_X8_followThose_2 n (sd_setI M 95 x3.toNatClampNeg (((M.1 95 x3.toNatClampNeg) ||| (1 : Int32)) &&& 1)) x1 x2 (x3 + (1 : Int32))))
def fn_X8_followThose_0   (M : sd_Mem) (x1 : Int32) (x2 : Int32) : Option sd_Mem := fn_X8_followThose_2 sd_FU M x1 x2 (0 : Int32)
def fn_X8_followThose (M : sd_Mem) (x1 : Int32) (x2 : Int32) : Option sd_Mem := fn_X8_followThose_0 M x1 x2

def rm_X8_goBack : Room := { frames := 1, cells := 0, slots := 0, locals := 25 }
def fn_X8_goBack_41   : Nat → sd_Mem → Int32 → Int32 → Option sd_Mem
  | 0, _, _, _ => none
  | n + 1, M, x1, x2 => (if (6 : Int32) < x2 then some M else (fn_X8_menBack M).bind fun q48 => (if q48 = x1 then some M else (fn_X8_menBack M).bind fun q56 => (fn_X8_menInAll M).bind fun q63 => (fn_X8_followThose M q56 q63).bind fun q66 => fn_X8_goBack_41 n q66 q56 (x2 + (1 : Int32))))
def fn_X8_goBack_2   : Nat → sd_Mem → Int32 → Option sd_Mem
  | 0, _, _ => none
  | n + 1, M, x1 => (if (6 : Int32) ≤ x1 then fn_X8_goBack_41 sd_FU M (-1 : Int32) (0 : Int32) else if x1 < 0 ∨ 6 ≤ x1.toNatClampNeg then none else if x1 < 0 ∨ 6 ≤ x1.toNatClampNeg then none else (if (M.1 94 x1.toNatClampNeg) = 0 then if x1 < 0 ∨ 6 ≤ x1.toNatClampNeg then none else fn_X8_goBack_2 n (sd_setI M 95 x1.toNatClampNeg (((M.1 95 x1.toNatClampNeg) ||| (1 : Int32)) &&& 1)) (x1 + (1 : Int32)) else if x1 < 0 ∨ 6 ≤ x1.toNatClampNeg then none else fn_X8_goBack_2 n (sd_setI M 95 x1.toNatClampNeg (((M.1 95 x1.toNatClampNeg) ||| (0 : Int32)) &&& 1)) (x1 + (1 : Int32))))
def fn_X8_goBack_0   (M : sd_Mem) : Option sd_Mem := fn_X8_goBack_2 sd_FU M (0 : Int32)
def fn_X8_goBack (M : sd_Mem) : Option sd_Mem := fn_X8_goBack_0 M

def rm_X8_payOut : Room := { frames := 1, cells := 0, slots := 0, locals := 25 }
def fn_X8_payOut_42   : Nat → sd_Mem → Int32 → Option (Int32 × sd_Mem)
  | 0, _, _ => none
  | n + 1, M, x3 => (if (6 : Int32) ≤ x3 then some ((0 : Int32), M) else if x3 < 0 ∨ 6 ≤ x3.toNatClampNeg then none else if x3 < 0 ∨ 6 ≤ x3.toNatClampNeg then none else (if (M.1 95 x3.toNatClampNeg) = 0 then if x3 < 0 ∨ 6 ≤ x3.toNatClampNeg then none else fn_X8_payOut_42 n (sd_setI M 94 x3.toNatClampNeg ((M.1 94 x3.toNatClampNeg) - (1 : Int32))) (x3 + (1 : Int32)) else if x3 < 0 ∨ 6 ≤ x3.toNatClampNeg then none else fn_X8_payOut_42 n (sd_setI M 94 x3.toNatClampNeg ((M.1 94 x3.toNatClampNeg) - (0 : Int32))) (x3 + (1 : Int32))))
def fn_X8_payOut_0   (M : sd_Mem) (x1 : Int32) : Option (Int32 × sd_Mem) := (fn_X8_menInAll (sd_setI M 90 5 ((M.1 90 5) + x1))).bind fun q11 => (fn_X8_menBack (sd_setI M 90 5 ((M.1 90 5) + x1))).bind fun q15 => (if ((sd_setI M 90 5 ((M.1 90 5) + x1)).1 90 5) < (q11 - q15) then fn_X8_payOut_42 sd_FU (sd_setI M 90 5 ((M.1 90 5) + x1)) (0 : Int32) else some ((1 : Int32), sd_setI (sd_setI M 90 5 ((M.1 90 5) + x1)) 90 5 (((sd_setI M 90 5 ((M.1 90 5) + x1)).1 90 5) - (q11 - q15))))
def fn_X8_payOut (M : sd_Mem) (x1 : Int32) : Option (Int32 × sd_Mem) := fn_X8_payOut_0 M x1

def rm_X8_liveTill : Room := { frames := 2, cells := 0, slots := 0, locals := 48 }
def fn_X8_liveTill_10   : Nat → sd_Mem → Int32 → Int32 → Int32 → Option sd_Mem
  | 0, _, _, _, _ => none
  | n + 1, M, x1, x3, x4 => (if x1 < x4 then some M else (fn_X8_goBack M).bind fun q17 => (fn_X8_payOut q17 x3).bind fun q22 => fn_X8_liveTill_10 n q22.2 x1 x3 (x4 + (1 : Int32)))
def fn_X8_liveTill_0   (M : sd_Mem) (x1 : Int32) (x2 : Int32) (x3 : Int32) : Option sd_Mem := (fn_X8_begin M x2 (-9 : Int32)).bind fun q4 => fn_X8_liveTill_10 sd_FU q4 x1 x3 (1 : Int32)
def fn_X8_liveTill (M : sd_Mem) (x1 : Int32) (x2 : Int32) (x3 : Int32) : Option sd_Mem := fn_X8_liveTill_0 M x1 x2 x3

def rm_X8_kindsBack : Room := { frames := 0, cells := 0, slots := 0, locals := 0 }
def fn_X8_kindsBack_4 (M : sd_Mem)  : Nat → Int32 → Int32 → Option Int32
  | 0, _, _ => none
  | n + 1, x1, x2 => (if (6 : Int32) ≤ x2 then some x1 else if x2 < 0 ∨ 6 ≤ x2.toNatClampNeg then none else (if (M.1 95 x2.toNatClampNeg) = 0 then fn_X8_kindsBack_4 M n (x1 ||| (0 : Int32)) (x2 + (1 : Int32)) else if x2 < 0 ∨ 6 ≤ x2.toNatClampNeg then none else (if (M.1 91 x2.toNatClampNeg) ≤ 0 then fn_X8_kindsBack_4 M n (x1 ||| (0 : Int32)) (x2 + (1 : Int32)) else fn_X8_kindsBack_4 M n (x1 ||| ((1 : Int32) <<< (x2 &&& 31))) (x2 + (1 : Int32)))))
def fn_X8_kindsBack_0 (M : sd_Mem)   : Option Int32 := fn_X8_kindsBack_4 M sd_FU (0 : Int32) (0 : Int32)
def fn_X8_kindsBack (M : sd_Mem) : Option Int32 := fn_X8_kindsBack_0 M

def rm_X10_gone : Room := { frames := 3, cells := 0, slots := 0, locals := 72 }
def fn_X10_gone_0   (M : sd_Mem) (x1 : Int32) (x2 : Int32) (x3 : Int32) : Option (Int32 × sd_Mem) := (fn_X10_within x1 (1 : Int32) (99 : Int32)).bind fun q4 => (if q4 = 0 then some ((-1 : Int32), M) else (fn_X10_isFund x2 x3).bind fun q12 => (if q12 = 0 then some ((-1 : Int32), M) else (fn_X8_liveTill M x1 x2 x3).bind fun q27 => (fn_X8_kindsBack q27).bind fun q35 => (fn_X8_menBack (sd_setI q27 0 13 q35)).bind fun q45 => some (q45, sd_setI q27 0 13 q35)))
def fn_X10_gone (M : sd_Mem) (x1 : Int32) (x2 : Int32) (x3 : Int32) : Option (Int32 × sd_Mem) := fn_X10_gone_0 M x1 x2 x3

def rm_X8_dayAllBack : Room := { frames := 2, cells := 0, slots := 0, locals := 48 }
def fn_X8_dayAllBack_10   : Nat → sd_Mem → Int32 → Int32 → Int32 → Option (Int32 × sd_Mem)
  | 0, _, _, _, _ => none
  | n + 1, M, x1, x3, x5 => (if x1 < x5 then some ((-9 : Int32), M) else (fn_X8_goBack M).bind fun q17 => (fn_X8_menBack q17).bind fun q21 => (fn_X8_menInAll q17).bind fun q25 => (if q21 = q25 then some (x5, q17) else (fn_X8_payOut q17 x3).bind fun q36 => fn_X8_dayAllBack_10 n q36.2 x1 x3 (x5 + (1 : Int32))))
def fn_X8_dayAllBack_0   (M : sd_Mem) (x1 : Int32) (x2 : Int32) (x3 : Int32) (x4 : Int32) : Option (Int32 × sd_Mem) := (fn_X8_begin M x2 x4).bind fun q4 => fn_X8_dayAllBack_10 sd_FU q4 x1 x3 (1 : Int32)
def fn_X8_dayAllBack (M : sd_Mem) (x1 : Int32) (x2 : Int32) (x3 : Int32) (x4 : Int32) : Option (Int32 × sd_Mem) := fn_X8_dayAllBack_0 M x1 x2 x3 x4

def rm_X10_all : Room := { frames := 3, cells := 0, slots := 0, locals := 73 }
def fn_X10_all_0   (M : sd_Mem) (x1 : Int32) (x2 : Int32) : Option (Int32 × sd_Mem) := (fn_X10_isFund x1 x2).bind fun q2 => (if q2 = 0 then some ((-1 : Int32), M) else (fn_X8_dayAllBack M (99 : Int32) x1 x2 (-9 : Int32)).bind fun q20 => some (q20.1, q20.2))
def fn_X10_all (M : sd_Mem) (x1 : Int32) (x2 : Int32) : Option (Int32 × sd_Mem) := fn_X10_all_0 M x1 x2

def rm_X8_turningKind : Room := { frames := 3, cells := 0, slots := 0, locals := 73 }
def fn_X8_turningKind_26   : Nat → sd_Mem → Int32 → Int32 → Int32 → Int32 → Option (Int32 × sd_Mem)
  | 0, _, _, _, _, _ => none
  | n + 1, M, x1, x2, x3, x4 => (if (6 : Int32) ≤ x4 then some (x2, M) else if x4 < 0 ∨ 6 ≤ x4.toNatClampNeg then none else (if (M.1 91 x4.toNatClampNeg) ≤ 0 then fn_X8_turningKind_26 n M x1 x2 x3 (x4 + (1 : Int32)) else if x4 < 0 ∨ 6 ≤ x4.toNatClampNeg then none else (if x3 ≤ (M.1 91 x4.toNatClampNeg) then fn_X8_turningKind_26 n M x1 x2 x3 (x4 + (1 : Int32)) else (fn_X8_dayAllBack M x1 (0 : Int32) (0 : Int32) x4).bind fun q60 => (if q60.1 = (-9 : Int32) then fn_X8_turningKind_26 n q60.2 x1 x2 x3 (x4 + (1 : Int32)) else if x4 < 0 ∨ 6 ≤ x4.toNatClampNeg then none else fn_X8_turningKind_26 n q60.2 x1 x4 (q60.2.1 91 x4.toNatClampNeg) (x4 + (1 : Int32))))))
def fn_X8_turningKind_0   (M : sd_Mem) (x1 : Int32) : Option (Int32 × sd_Mem) := (fn_X8_dayAllBack M x1 (0 : Int32) (0 : Int32) (-9 : Int32)).bind fun q6 => (if q6.1 = (-9 : Int32) then fn_X8_turningKind_26 sd_FU q6.2 x1 (-9 : Int32) (100 : Int32) (0 : Int32) else some ((-9 : Int32), q6.2))
def fn_X8_turningKind (M : sd_Mem) (x1 : Int32) : Option (Int32 × sd_Mem) := fn_X8_turningKind_0 M x1

def rm_X10_turns : Room := { frames := 4, cells := 0, slots := 0, locals := 97 }
def fn_X10_turns_0   (M : sd_Mem) (x1 : Int32) : Option (Int32 × sd_Mem) := (fn_X10_within x1 (1 : Int32) (99 : Int32)).bind fun q4 => (if q4 = 0 then some ((-1 : Int32), M) else (fn_X8_turningKind M x1).bind fun q17 => some (q17.1, q17.2))
def fn_X10_turns (M : sd_Mem) (x1 : Int32) : Option (Int32 × sd_Mem) := fn_X10_turns_0 M x1

def rm_X8_daysPaid : Room := { frames := 2, cells := 0, slots := 0, locals := 48 }
def fn_X8_daysPaid_9   : Nat → sd_Mem → Int32 → Int32 → Option (Int32 × sd_Mem)
  | 0, _, _, _ => none
  | n + 1, M, x2, x3 => (if (99 : Int32) < x3 then some ((99 : Int32), M) else (fn_X8_goBack M).bind fun q16 => (fn_X8_payOut q16 x2).bind fun q21 => (if q21.1 = 0 then some (x3 - (1 : Int32), q21.2) else fn_X8_daysPaid_9 n q21.2 x2 (x3 + (1 : Int32))))
def fn_X8_daysPaid_0   (M : sd_Mem) (x1 : Int32) (x2 : Int32) : Option (Int32 × sd_Mem) := (fn_X8_begin M x1 (-9 : Int32)).bind fun q4 => fn_X8_daysPaid_9 sd_FU q4 x2 (1 : Int32)
def fn_X8_daysPaid (M : sd_Mem) (x1 : Int32) (x2 : Int32) : Option (Int32 × sd_Mem) := fn_X8_daysPaid_0 M x1 x2

def rm_X10_fund : Room := { frames := 3, cells := 0, slots := 0, locals := 71 }
def fn_X10_fund_0   (M : sd_Mem) (x1 : Int32) (x2 : Int32) : Option (Int32 × sd_Mem) := (fn_X10_isFund x1 x2).bind fun q2 => (if q2 = 0 then some ((-1 : Int32), M) else (fn_X8_daysPaid M x1 x2).bind fun q16 => some (q16.1, q16.2))
def fn_X10_fund (M : sd_Mem) (x1 : Int32) (x2 : Int32) : Option (Int32 × sd_Mem) := fn_X10_fund_0 M x1 x2

def rm_X10_pact : Room := { frames := 1, cells := 0, slots := 0, locals := 22 }
def fn_X10_pact_35   : Nat → Int32 → Int32 → Int32 → Int32 → Option Int32
  | 0, _, _, _, _ => none
  | n + 1, x1, x2, x3, x4 => (if (99 : Int32) < x4 then some (-9 : Int32) else (if (x2 * x4) < (x3 * (x1 - (1 : Int32))) then fn_X10_pact_35 n x1 x2 x3 (x4 + (1 : Int32)) else some x4))
def fn_X10_pact_0   (x1 : Int32) (x2 : Int32) (x3 : Int32) : Option Int32 := (fn_X10_within x1 (1 : Int32) (9 : Int32)).bind fun q4 => (if q4 = 0 then some (-1 : Int32) else (fn_X10_within x2 (0 : Int32) (99 : Int32)).bind fun q14 => (if q14 = 0 then some (-1 : Int32) else (fn_X10_within x3 (0 : Int32) (99 : Int32)).bind fun q24 => (if q24 = 0 then some (-1 : Int32) else fn_X10_pact_35 sd_FU x1 x2 x3 (1 : Int32))))
def fn_X10_pact (x1 : Int32) (x2 : Int32) (x3 : Int32) : Option Int32 := fn_X10_pact_0 x1 x2 x3

def rm_X10_asked : Room := { frames := 0, cells := 0, slots := 0, locals := 0 }
def fn_X10_asked_0 (M : sd_Mem)   : Option Int32 := some (M.1 0 13)
def fn_X10_asked (M : sd_Mem) : Option Int32 := fn_X10_asked_0 M

def rm_X10_upper : Room := { frames := 0, cells := 0, slots := 0, locals := 0 }
def fn_X10_upper_0 (M : sd_Mem)   : Option Int64 := some (M.2 96 0)
def fn_X10_upper (M : sd_Mem) : Option Int64 := fn_X10_upper_0 M

def rm_X10_lower : Room := { frames := 0, cells := 0, slots := 0, locals := 0 }
def fn_X10_lower_0 (M : sd_Mem)   : Option Int64 := some (M.2 96 1)
def fn_X10_lower (M : sd_Mem) : Option Int64 := fn_X10_lower_0 M

def rm_X10_present : Room := { frames := 1, cells := 0, slots := 0, locals := 20 }
def fn_X10_present_10 (M : sd_Mem) (h0 : Nat)  : Nat → Int32 → Int32 → Int32 → Option Int32
  | 0, _, _, _ => none
  | n + 1, x1, x3, x4 => (if x3 ≤ x4 then some x1 else if x4 < 0 ∨ sd_ln h0 ≤ x4.toNatClampNeg then none else (fn_X1_isMissing M (h0 + 1 + 2 * x4.toNatClampNeg)).bind fun q25 => (if q25 = 0 then fn_X10_present_10 M h0 n (x1 + (1 : Int32)) x3 (x4 + (1 : Int32)) else fn_X10_present_10 M h0 n (x1 + (0 : Int32)) x3 (x4 + (1 : Int32))))
def fn_X10_present_0 (M : sd_Mem) (h0 : Nat)   : Option Int32 := fn_X10_present_10 M h0 sd_FU (0 : Int32) (Int32.ofNat (sd_ln h0)) (0 : Int32)
def fn_X10_present (M : sd_Mem) (h0 : Nat) : Option Int32 := fn_X10_present_0 M h0

def rm_X10_waysOf : Room := { frames := 1, cells := 0, slots := 0, locals := 21 }
def fn_X10_waysOf_14 (M : sd_Mem)  : Nat → Int32 → Int32 → Int32 → Int32 → Option Int32
  | 0, _, _, _, _ => none
  | n + 1, x1, x2, x4, x5 => (if x4 ≤ x5 then some x2 else if x5 < 0 ∨ 8 ≤ x5.toNatClampNeg then none else (fn_X9_isMissing M (23 + 1 + 2 * x5.toNatClampNeg)).bind fun q30 => (if q30 = 0 then (fn_X9_is M (23 + 1 + 2 * x5.toNatClampNeg) x1).bind fun q39 => (if q39 = 0 then fn_X10_waysOf_14 M n x1 (x2 + (0 : Int32)) x4 (x5 + (1 : Int32)) else fn_X10_waysOf_14 M n x1 (x2 + (1 : Int32)) x4 (x5 + (1 : Int32))) else fn_X10_waysOf_14 M n x1 (x2 + (0 : Int32)) x4 (x5 + (1 : Int32))))
def fn_X10_waysOf_0 (M : sd_Mem)  (x1 : Int32) : Option Int32 := fn_X10_waysOf_14 M sd_FU x1 (0 : Int32) (8 : Int32) (0 : Int32)
def fn_X10_waysOf (M : sd_Mem) (x1 : Int32) : Option Int32 := fn_X10_waysOf_0 M x1

def rm_X10_counted : Room := { frames := 2, cells := 0, slots := 0, locals := 47 }
def fn_X10_counted_0 (M : sd_Mem)  (x1 : Int32) : Option Int32 := (if x1.toInt < 0 ∨ 3 < x1.toInt then (fn_X8_menInAll M).bind fun q64 => some q64 else if x1 = 0 then (fn_X10_present M 1).bind fun q36 => some q36 else if x1 = 1 then (fn_X10_present M 14).bind fun q44 => some q44 else if x1 = 2 then (fn_X10_waysOf M (0 : Int32)).bind fun q50 => some q50 else if x1 = 3 then (fn_X10_waysOf M (2 : Int32)).bind fun q56 => some q56 else none)
def fn_X10_counted (M : sd_Mem) (x1 : Int32) : Option Int32 := fn_X10_counted_0 M x1

def rm_X10_count : Room := { frames := 3, cells := 0, slots := 0, locals := 68 }
def fn_X10_count_0 (M : sd_Mem)  (x1 : Int32) : Option Int32 := (fn_X10_within x1 (0 : Int32) (4 : Int32)).bind fun q3 => (if q3 = 0 then some (-1 : Int32) else (fn_X10_counted M x1).bind fun q13 => some q13)
def fn_X10_count (M : sd_Mem) (x1 : Int32) : Option Int32 := fn_X10_count_0 M x1

def rm_X2_latest : Room := { frames := 0, cells := 0, slots := 0, locals := 0 }
def fn_X2_latest_0 (M : sd_Mem)   : Option Int32 := some (M.1 97 1)
def fn_X2_latest (M : sd_Mem) : Option Int32 := fn_X2_latest_0 M

def rm_X10_finding : Room := { frames := 1, cells := 0, slots := 0, locals := 20 }
def fn_X10_finding_0 (M : sd_Mem)   : Option Int32 := (fn_X2_latest M).bind fun q4 => some q4
def fn_X10_finding (M : sd_Mem) : Option Int32 := fn_X10_finding_0 M

def rm_X2_often : Room := { frames := 1, cells := 0, slots := 0, locals := 22 }
def fn_X2_often_0 (M : sd_Mem)  (x1 : Int32) : Option Int32 := (fn_X10_within x1 (1 : Int32) (5 : Int32)).bind fun q3 => (if q3 = 0 then some (0 : Int32) else if x1 < 0 ∨ 6 ≤ x1.toNatClampNeg then none else some (M.1 98 x1.toNatClampNeg))
def fn_X2_often (M : sd_Mem) (x1 : Int32) : Option Int32 := fn_X2_often_0 M x1

def rm_X10_findings : Room := { frames := 2, cells := 0, slots := 0, locals := 43 }
def fn_X10_findings_0 (M : sd_Mem)  (x1 : Int32) : Option Int32 := (fn_X10_within x1 (1 : Int32) (5 : Int32)).bind fun q3 => (if q3 = 0 then some (-1 : Int32) else (fn_X2_often M x1).bind fun q16 => some q16)
def fn_X10_findings (M : sd_Mem) (x1 : Int32) : Option Int32 := fn_X10_findings_0 M x1

def rm_X5_mixInto : Room := { frames := 2, cells := 0, slots := 0, locals := 44 }
def fn_X5_mixInto_14 (M : sd_Mem) (h0 : Nat) (k5 : Int64 → Int32 → Option Int64) : Nat → Int64 → Int32 → Int32 → Option Int64
  | 0, _, _, _ => none
  | n + 1, l3, x5, x6 => (fn_X5_sorts M h0 x5).bind fun q19 => (if q19 ≤ x6 then k5 l3 (x5 + (1 : Int32)) else (fn_X5_chance M h0 x5 x6).bind fun q35 => (fn_X5_cost M h0 x5 x6).bind fun q51 => fn_X5_mixInto_14 M h0 k5 n (((31 : Int64) * (((31 : Int64) * l3) + q35.toInt64)) + q51.toInt64) x5 (x6 + (1 : Int32)))
def fn_X5_mixInto_5 (M : sd_Mem) (h0 : Nat)  : Nat → Int64 → Int32 → Option Int64
  | 0, _, _ => none
  | n + 1, l3, x5 => (if (1 : Int32) < x5 then some l3 else fn_X5_mixInto_14 M h0 (fn_X5_mixInto_5 M h0 n) sd_FU l3 x5 (0 : Int32))
def fn_X5_mixInto_0 (M : sd_Mem) (h0 : Nat)  (l1 : Int64) : Option Int64 := fn_X5_mixInto_5 M h0 sd_FU l1 (0 : Int32)
def fn_X5_mixInto (M : sd_Mem) (h0 : Nat) (l1 : Int64) : Option Int64 := fn_X5_mixInto_0 M h0 l1

def rm_X9_mixInto : Room := { frames := 1, cells := 0, slots := 0, locals := 20 }
def fn_X9_mixInto_35 (M : sd_Mem) (h0 : Nat)  : Nat → Int64 → Int32 → Int32 → Option Int64
  | 0, _, _, _ => none
  | n + 1, l3, x6, x7 => (if x6 ≤ x7 then some l3 else if x7 < 0 ∨ 30 ≤ x7.toNatClampNeg then none else fn_X9_mixInto_35 M h0 n (((31 : Int64) * l3) + ((M.1 (h0 + 1) x7.toNatClampNeg).toInt64)) x6 (x7 + (1 : Int32)))
def fn_X9_mixInto_0 (M : sd_Mem) (h0 : Nat)  (l1 : Int64) : Option Int64 := (fn_X9_isMissing M h0).bind fun q13 => (if q13 = 0 then fn_X9_mixInto_35 M h0 sd_FU (((31 : Int64) * l1) + ((M.1 h0 1).toInt64)) (30 : Int32) (0 : Int32) else some (((31 : Int64) * l1) + ((M.1 h0 1).toInt64)))
def fn_X9_mixInto (M : sd_Mem) (h0 : Nat) (l1 : Int64) : Option Int64 := fn_X9_mixInto_0 M h0 l1

def rm_X8_mixInto : Room := { frames := 0, cells := 0, slots := 0, locals := 0 }
def fn_X8_mixInto_5 (M : sd_Mem)  : Nat → Int64 → Int32 → Option Int64
  | 0, _, _ => none
  | n + 1, l3, x5 => (if (6 : Int32) ≤ x5 then some l3 else if x5 < 0 ∨ 6 ≤ x5.toNatClampNeg then none else if x5 < 0 ∨ 6 ≤ x5.toNatClampNeg then none else if x5 < 0 ∨ 6 ≤ x5.toNatClampNeg then none else fn_X8_mixInto_5 M n (((31 : Int64) * (((31 : Int64) * (((31 : Int64) * l3) + ((M.1 91 x5.toNatClampNeg).toInt64))) + ((M.1 92 x5.toNatClampNeg).toInt64))) + ((M.1 93 x5.toNatClampNeg).toInt64)) (x5 + (1 : Int32)))
def fn_X8_mixInto_0 (M : sd_Mem)  (l1 : Int64) : Option Int64 := fn_X8_mixInto_5 M sd_FU l1 (0 : Int32)
def fn_X8_mixInto (M : sd_Mem) (l1 : Int64) : Option Int64 := fn_X8_mixInto_0 M l1

def rm_X1_mixInto : Room := { frames := 0, cells := 0, slots := 0, locals := 0 }
def fn_X1_mixInto_15 (M : sd_Mem) (h0 : Nat)  : Nat → Int64 → Int32 → Option Int64
  | 0, _, _ => none
  | n + 1, l3, x5 => (if (M.1 h0 1) ≤ x5 then some l3 else if x5 < 0 ∨ sd_ln (h0 + 1) ≤ x5.toNatClampNeg then none else fn_X1_mixInto_15 M h0 n (((31 : Int64) * l3) + ((M.1 (h0 + 1) x5.toNatClampNeg).toInt64)) (x5 + (1 : Int32)))
def fn_X1_mixInto_0 (M : sd_Mem) (h0 : Nat)  (l1 : Int64) : Option Int64 := fn_X1_mixInto_15 M h0 sd_FU (((31 : Int64) * l1) + ((M.1 h0 1).toInt64)) (0 : Int32)
def fn_X1_mixInto (M : sd_Mem) (h0 : Nat) (l1 : Int64) : Option Int64 := fn_X1_mixInto_0 M h0 l1

def rm_X10_digest : Room := { frames := 3, cells := 0, slots := 0, locals := 70 }
def fn_X10_digest_163 (M : sd_Mem)  : Nat → Int64 → Int32 → Int32 → Option Int64
  | 0, _, _, _ => none
  | n + 1, l1, x4, x5 => (if x4 ≤ x5 then some l1 else if x5 < 0 ∨ 4 ≤ x5.toNatClampNeg then none else (fn_X1_mixInto M (14 + 1 + 2 * x5.toNatClampNeg) l1).bind fun q179 => fn_X10_digest_163 M n q179 x4 (x5 + (1 : Int32)))
def fn_X10_digest_151 (M : sd_Mem)  (l1 : Int64) : Option Int64 := fn_X10_digest_163 M sd_FU l1 (4 : Int32) (0 : Int32)
def fn_X10_digest_125 (M : sd_Mem)  : Nat → Int64 → Int32 → Int32 → Option Int64
  | 0, _, _, _ => none
  | n + 1, l1, x4, x5 => (if x4 ≤ x5 then fn_X10_digest_151 M l1 else if x5 < 0 ∨ 6 ≤ x5.toNatClampNeg then none else (fn_X1_mixInto M (1 + 1 + 2 * x5.toNatClampNeg) l1).bind fun q141 => fn_X10_digest_125 M n q141 x4 (x5 + (1 : Int32)))
def fn_X10_digest_104 (M : sd_Mem)  (l1 : Int64) : Option Int64 := (fn_X8_mixInto M l1).bind fun q109 => fn_X10_digest_125 M sd_FU q109 (6 : Int32) (0 : Int32)
def fn_X10_digest_78 (M : sd_Mem)  : Nat → Int64 → Int32 → Int32 → Option Int64
  | 0, _, _, _ => none
  | n + 1, l1, x4, x5 => (if x4 ≤ x5 then fn_X10_digest_104 M l1 else if x5 < 0 ∨ 8 ≤ x5.toNatClampNeg then none else (fn_X9_mixInto M (23 + 1 + 2 * x5.toNatClampNeg) l1).bind fun q94 => fn_X10_digest_78 M n q94 x4 (x5 + (1 : Int32)))
def fn_X10_digest_57 (M : sd_Mem)  (l1 : Int64) : Option Int64 := (fn_X5_mixInto M 40 l1).bind fun q62 => fn_X10_digest_78 M sd_FU q62 (8 : Int32) (0 : Int32)
def fn_X10_digest_32 (M : sd_Mem)  : Nat → Int64 → Int32 → Option Int64
  | 0, _, _ => none
  | n + 1, l1, x3 => (if (8 : Int32) < x3 then fn_X10_digest_57 M l1 else (fn_X10_ofQuarrel M x3).bind fun q45 => fn_X10_digest_32 M n (((31 : Int64) * l1) + q45.toInt64) (x3 + (1 : Int32)))
def fn_X10_digest_6 (M : sd_Mem)  : Nat → Int64 → Int32 → Option Int64
  | 0, _, _ => none
  | n + 1, l1, x3 => (if (4 : Int32) < x3 then fn_X10_digest_32 M sd_FU l1 (0 : Int32) else (fn_X10_counted M x3).bind fun q18 => fn_X10_digest_6 M n (((31 : Int64) * l1) + q18.toInt64) (x3 + (1 : Int32)))
def fn_X10_digest_0 (M : sd_Mem)   : Option Int64 := fn_X10_digest_6 M sd_FU (17 : Int64) (0 : Int32)
def fn_X10_digest (M : sd_Mem) : Option Int64 := fn_X10_digest_0 M

def rm_X11_in : Room := { frames := 0, cells := 0, slots := 0, locals := 0 }
def fn_X11_in_0   (x0 : Int32) (x1 : Int32) (x2 : Int32) : Option Int32 := (if x0 < x1 then some (0 : Int32) else (if x2 < x0 then some (0 : Int32) else some (1 : Int32)))
def fn_X11_in (x0 : Int32) (x1 : Int32) (x2 : Int32) : Option Int32 := fn_X11_in_0 x0 x1 x2

def rm_X11_isRow : Room := { frames := 1, cells := 0, slots := 0, locals := 22 }
def fn_X11_isRow_0   (x0 : Int32) : Option Int32 := (fn_X11_in x0 (0 : Int32) (5 : Int32)).bind fun q3 => if q3 &&& 1 ≠ q3 then none else some q3
def fn_X11_isRow (x0 : Int32) : Option Int32 := fn_X11_isRow_0 x0

def rm_X11_meets : Room := { frames := 0, cells := 0, slots := 0, locals := 0 }
def fn_X11_meets_0   (M : sd_Mem) (x1 : Int32) : Option (Int32 × sd_Mem) := if x1 < 0 ∨ 6 ≤ x1.toNatClampNeg then none else if x1 < 0 ∨ 6 ≤ x1.toNatClampNeg then none else some ((-3 : Int32), sd_setI (sd_setI M 100 0 x1) 101 x1.toNatClampNeg (((sd_setI M 100 0 x1).1 101 x1.toNatClampNeg) + (1 : Int32)))
def fn_X11_meets (M : sd_Mem) (x1 : Int32) : Option (Int32 × sd_Mem) := fn_X11_meets_0 M x1

def rm_X11_row : Room := { frames := 2, cells := 0, slots := 0, locals := 42 }
def fn_X11_row_34   : Nat → sd_Mem → Int32 → Int32 → Int32 → Option (Int32 × sd_Mem)
  | 0, _, _, _, _ => none
  | n + 1, M, x1, x2, x3 => (if (40 : Int32) ≤ x3 then some (x2, M) else if (((40 : Int32) * x1) + x3) < 0 ∨ 240 ≤ (((40 : Int32) * x1) + x3).toNatClampNeg then none else fn_X11_row_34 n (sd_setI M 103 (((40 : Int32) * x1) + x3).toNatClampNeg (0 : Int32)) x1 x2 (x3 + (1 : Int32)))
def fn_X11_row_0   (M : sd_Mem) (x1 : Int32) (x2 : Int32) : Option (Int32 × sd_Mem) := (fn_X11_isRow x1).bind fun q1 => (if q1 = 0 then some ((-1 : Int32), M) else (if x2 ≤ (40 : Int32) then (if 0 ≤ x2 then if x1 < 0 ∨ 6 ≤ x1.toNatClampNeg then none else fn_X11_row_34 sd_FU (sd_setI M 102 x1.toNatClampNeg x2) x1 x2 (0 : Int32) else (fn_X11_meets M (5 : Int32)).bind fun q21 => some (q21.1, q21.2)) else some ((-1 : Int32), M)))
def fn_X11_row (M : sd_Mem) (x1 : Int32) (x2 : Int32) : Option (Int32 × sd_Mem) := fn_X11_row_0 M x1 x2

def rm_X11_askedRow : Room := { frames := 2, cells := 0, slots := 0, locals := 42 }
def fn_X11_askedRow_0   (M : sd_Mem) (x1 : Int32) : Option (Int32 × sd_Mem) := (fn_X11_isRow x1).bind fun q1 => (if q1 = 0 then some ((-1 : Int32), M) else if x1 < 0 ∨ 6 ≤ x1.toNatClampNeg then none else (if 0 ≤ (M.1 102 x1.toNatClampNeg) then some ((0 : Int32), M) else (fn_X11_meets M (1 : Int32)).bind fun q22 => some (q22.1, q22.2)))
def fn_X11_askedRow (M : sd_Mem) (x1 : Int32) : Option (Int32 × sd_Mem) := fn_X11_askedRow_0 M x1

def rm_X11_rowAt : Room := { frames := 0, cells := 0, slots := 0, locals := 0 }
def fn_X11_rowAt_0 (M : sd_Mem)  (x1 : Int32) (x2 : Int32) : Option Int32 := if (((40 : Int32) * x1) + x2) < 0 ∨ 240 ≤ (((40 : Int32) * x1) + x2).toNatClampNeg then none else some (M.1 103 (((40 : Int32) * x1) + x2).toNatClampNeg)
def fn_X11_rowAt (M : sd_Mem) (x1 : Int32) (x2 : Int32) : Option Int32 := fn_X11_rowAt_0 M x1 x2

def rm_X11_lay : Room := { frames := 3, cells := 0, slots := 0, locals := 63 }
def fn_X11_lay_0   (M : sd_Mem) (x1 : Int32) (x2 : Int32) (x3 : Int32) : Option (Int32 × sd_Mem) := (fn_X11_askedRow M x1).bind fun q2 => (if 0 ≤ q2.1 then if x1 < 0 ∨ 6 ≤ x1.toNatClampNeg then none else (fn_X11_in x2 (0 : Int32) ((q2.2.1 102 x1.toNatClampNeg) - (1 : Int32))).bind fun q25 => (if q25 = 0 then (fn_X11_meets q2.2 (2 : Int32)).bind fun q33 => some (q33.1, q33.2) else (fn_X11_rowAt q2.2 x1 x2).bind fun q41 => if (((40 : Int32) * x1) + x2) < 0 ∨ 240 ≤ (((40 : Int32) * x1) + x2).toNatClampNeg then none else some ((1 : Int32), sd_setI (sd_setI q2.2 100 2 q41) 103 (((40 : Int32) * x1) + x2).toNatClampNeg x3)) else some (q2.1, q2.2))
def fn_X11_lay (M : sd_Mem) (x1 : Int32) (x2 : Int32) (x3 : Int32) : Option (Int32 × sd_Mem) := fn_X11_lay_0 M x1 x2 x3

def rm_X11_tear : Room := { frames := 3, cells := 0, slots := 0, locals := 63 }
def fn_X11_tear_0   (M : sd_Mem) (x1 : Int32) : Option (Int32 × sd_Mem) := (fn_X11_askedRow M x1).bind fun q2 => (if 0 ≤ q2.1 then if x1 < 0 ∨ 6 ≤ x1.toNatClampNeg then none else some ((1 : Int32), sd_setI q2.2 102 x1.toNatClampNeg (-9 : Int32)) else some (q2.1, q2.2))
def fn_X11_tear (M : sd_Mem) (x1 : Int32) : Option (Int32 × sd_Mem) := fn_X11_tear_0 M x1

def rm_X11_copy : Room := { frames := 2, cells := 0, slots := 0, locals := 42 }
def fn_X11_copy_136   : Nat → sd_Mem → Int32 → Int32 → Int32 → Int32 → Option (Int32 × sd_Mem)
  | 0, _, _, _, _, _ => none
  | n + 1, M, x3, x4, x5, x6 => (if x5 ≤ x6 then some ((1 : Int32), M) else if x6 < 0 ∨ 40 ≤ x6.toNatClampNeg then none else if ((((40 : Int32) * x3) + x4) + x6) < 0 ∨ 240 ≤ ((((40 : Int32) * x3) + x4) + x6).toNatClampNeg then none else fn_X11_copy_136 n (sd_setI M 103 ((((40 : Int32) * x3) + x4) + x6).toNatClampNeg (M.1 104 x6.toNatClampNeg)) x3 x4 x5 (x6 + (1 : Int32)))
def fn_X11_copy_104   : Nat → sd_Mem → Int32 → Int32 → Int32 → Int32 → Int32 → Int32 → Option (Int32 × sd_Mem)
  | 0, _, _, _, _, _, _, _ => none
  | n + 1, M, x1, x2, x3, x4, x5, x6 => (if x5 ≤ x6 then fn_X11_copy_136 sd_FU M x3 x4 x5 (0 : Int32) else (fn_X11_rowAt M x1 (x2 + x6)).bind fun q123 => if x6 < 0 ∨ 40 ≤ x6.toNatClampNeg then none else fn_X11_copy_104 n (sd_setI M 104 x6.toNatClampNeg q123) x1 x2 x3 x4 x5 (x6 + (1 : Int32)))
def fn_X11_copy_0   (M : sd_Mem) (x1 : Int32) (x2 : Int32) (x3 : Int32) (x4 : Int32) (x5 : Int32) : Option (Int32 × sd_Mem) := (fn_X11_isRow x1).bind fun q1 => (if q1 = 0 then some ((-1 : Int32), M) else (fn_X11_isRow x3).bind fun q8 => (if q8 = 0 then some ((-1 : Int32), M) else (if 0 ≤ x5 then if x1 < 0 ∨ 6 ≤ x1.toNatClampNeg then none else (if (M.1 102 x1.toNatClampNeg) < 0 then (fn_X11_meets M (1 : Int32)).bind fun q47 => some (q47.1, q47.2) else if x3 < 0 ∨ 6 ≤ x3.toNatClampNeg then none else (if 0 ≤ (M.1 102 x3.toNatClampNeg) then (if x2 < 0 then (fn_X11_meets M (2 : Int32)).bind fun q97 => some (q97.1, q97.2) else (if x4 < 0 then (fn_X11_meets M (2 : Int32)).bind fun q97 => some (q97.1, q97.2) else if x1 < 0 ∨ 6 ≤ x1.toNatClampNeg then none else (if 0 < (lg_cmp (x2.toInt64 + x5.toInt64) ((M.1 102 x1.toNatClampNeg).toInt64)) then (fn_X11_meets M (2 : Int32)).bind fun q97 => some (q97.1, q97.2) else if x3 < 0 ∨ 6 ≤ x3.toNatClampNeg then none else (if (lg_cmp (x4.toInt64 + x5.toInt64) ((M.1 102 x3.toNatClampNeg).toInt64)) ≤ 0 then fn_X11_copy_104 sd_FU M x1 x2 x3 x4 x5 (0 : Int32) else (fn_X11_meets M (2 : Int32)).bind fun q97 => some (q97.1, q97.2))))) else (fn_X11_meets M (1 : Int32)).bind fun q47 => some (q47.1, q47.2))) else (fn_X11_meets M (5 : Int32)).bind fun q23 => some (q23.1, q23.2))))
def fn_X11_copy (M : sd_Mem) (x1 : Int32) (x2 : Int32) (x3 : Int32) (x4 : Int32) (x5 : Int32) : Option (Int32 × sd_Mem) := fn_X11_copy_0 M x1 x2 x3 x4 x5

def rm_X11_ask : Room := { frames := 0, cells := 0, slots := 0, locals := 0 }
def fn_X11_ask_0   (M : sd_Mem) (x1 : Int32) (x2 : Int32) : Option (Int32 × sd_Mem) := some (x2, sd_setI M 100 2 x1)
def fn_X11_ask (M : sd_Mem) (x1 : Int32) (x2 : Int32) : Option (Int32 × sd_Mem) := fn_X11_ask_0 M x1 x2

def rm_X11_mean : Room := { frames := 3, cells := 0, slots := 0, locals := 63 }
def fn_X11_mean_45   (M : sd_Mem) (x1 : Int32) (l3 : Int64) : Option (Int32 × sd_Mem) := if x1 < 0 ∨ 6 ≤ x1.toNatClampNeg then none else (if (M.1 102 x1.toNatClampNeg) = 0 then (fn_X11_meets M (4 : Int32)).bind fun q56 => some (q56.1, q56.2) else if x1 < 0 ∨ 6 ≤ x1.toNatClampNeg then none else if ((M.1 102 x1.toNatClampNeg).toInt64) = 0 then none else (fn_X11_ask M ((l3 / ((M.1 102 x1.toNatClampNeg).toInt64)).toInt32) (1 : Int32)).bind fun q74 => some (q74.1, q74.2))
def fn_X11_mean_17   : Nat → sd_Mem → Int32 → Int64 → Int32 → Option (Int32 × sd_Mem)
  | 0, _, _, _, _ => none
  | n + 1, M, x1, l3, x5 => if x1 < 0 ∨ 6 ≤ x1.toNatClampNeg then none else (if (M.1 102 x1.toNatClampNeg) ≤ x5 then fn_X11_mean_45 M x1 l3 else (fn_X11_rowAt M x1 x5).bind fun q33 => fn_X11_mean_17 n M x1 (l3 + q33.toInt64) (x5 + (1 : Int32)))
def fn_X11_mean_0   (M : sd_Mem) (x1 : Int32) : Option (Int32 × sd_Mem) := (fn_X11_askedRow M x1).bind fun q2 => (if 0 ≤ q2.1 then fn_X11_mean_17 sd_FU q2.2 x1 (0 : Int64) (0 : Int32) else some (q2.1, q2.2))
def fn_X11_mean (M : sd_Mem) (x1 : Int32) : Option (Int32 × sd_Mem) := fn_X11_mean_0 M x1

def rm_X11_isText : Room := { frames := 1, cells := 0, slots := 0, locals := 22 }
def fn_X11_isText_0   (x0 : Int32) : Option Int32 := (fn_X11_in x0 (0 : Int32) (3 : Int32)).bind fun q3 => if q3 &&& 1 ≠ q3 then none else some q3
def fn_X11_isText (x0 : Int32) : Option Int32 := fn_X11_isText_0 x0

def rm_X11_text : Room := { frames := 2, cells := 0, slots := 0, locals := 42 }
def fn_X11_text_34   : Nat → sd_Mem → Int32 → Int32 → Int32 → Option (Int32 × sd_Mem)
  | 0, _, _, _, _ => none
  | n + 1, M, x1, x2, x3 => (if (60 : Int32) ≤ x3 then some (x2, M) else if (((60 : Int32) * x1) + x3) < 0 ∨ 240 ≤ (((60 : Int32) * x1) + x3).toNatClampNeg then none else fn_X11_text_34 n (sd_setI M 106 (((60 : Int32) * x1) + x3).toNatClampNeg (32 : Int32)) x1 x2 (x3 + (1 : Int32)))
def fn_X11_text_0   (M : sd_Mem) (x1 : Int32) (x2 : Int32) : Option (Int32 × sd_Mem) := (fn_X11_isText x1).bind fun q1 => (if q1 = 0 then some ((-1 : Int32), M) else (if x2 ≤ (60 : Int32) then (if 0 ≤ x2 then if x1 < 0 ∨ 4 ≤ x1.toNatClampNeg then none else fn_X11_text_34 sd_FU (sd_setI M 105 x1.toNatClampNeg x2) x1 x2 (0 : Int32) else (fn_X11_meets M (5 : Int32)).bind fun q21 => some (q21.1, q21.2)) else some ((-1 : Int32), M)))
def fn_X11_text (M : sd_Mem) (x1 : Int32) (x2 : Int32) : Option (Int32 × sd_Mem) := fn_X11_text_0 M x1 x2

def rm_X11_askedText : Room := { frames := 2, cells := 0, slots := 0, locals := 42 }
def fn_X11_askedText_0   (M : sd_Mem) (x1 : Int32) : Option (Int32 × sd_Mem) := (fn_X11_isText x1).bind fun q1 => (if q1 = 0 then some ((-1 : Int32), M) else if x1 < 0 ∨ 4 ≤ x1.toNatClampNeg then none else (if 0 ≤ (M.1 105 x1.toNatClampNeg) then some ((0 : Int32), M) else (fn_X11_meets M (1 : Int32)).bind fun q22 => some (q22.1, q22.2)))
def fn_X11_askedText (M : sd_Mem) (x1 : Int32) : Option (Int32 × sd_Mem) := fn_X11_askedText_0 M x1

def rm_X11_put : Room := { frames := 3, cells := 0, slots := 0, locals := 63 }
def fn_X11_put_0   (M : sd_Mem) (x1 : Int32) (x2 : Int32) (x3 : Int32) : Option (Int32 × sd_Mem) := (fn_X11_askedText M x1).bind fun q2 => (if 0 ≤ q2.1 then if x1 < 0 ∨ 4 ≤ x1.toNatClampNeg then none else (fn_X11_in x2 (0 : Int32) ((q2.2.1 105 x1.toNatClampNeg) - (1 : Int32))).bind fun q25 => (if q25 = 0 then (fn_X11_meets q2.2 (2 : Int32)).bind fun q33 => some (q33.1, q33.2) else if (((60 : Int32) * x1) + x2) < 0 ∨ 240 ≤ (((60 : Int32) * x1) + x2).toNatClampNeg then none else if (((60 : Int32) * x1) + x2) < 0 ∨ 240 ≤ (((60 : Int32) * x1) + x2).toNatClampNeg then none else some ((q2.2.1 106 (((60 : Int32) * x1) + x2).toNatClampNeg) + (1000 : Int32), sd_setI q2.2 106 (((60 : Int32) * x1) + x2).toNatClampNeg x3.toInt8.toInt32)) else some (q2.1, q2.2))
def fn_X11_put (M : sd_Mem) (x1 : Int32) (x2 : Int32) (x3 : Int32) : Option (Int32 × sd_Mem) := fn_X11_put_0 M x1 x2 x3

def rm_X11_here : Room := { frames := 0, cells := 0, slots := 0, locals := 0 }
def fn_X11_here_0 (M : sd_Mem)  (x1 : Int32) : Option Int32 := if x1 < 0 ∨ 4 ≤ x1.toNatClampNeg then none else (if (M.1 105 x1.toNatClampNeg) ≤ (M.1 100 21) then some (-9 : Int32) else if (((60 : Int32) * x1) + (M.1 100 21)) < 0 ∨ 240 ≤ (((60 : Int32) * x1) + (M.1 100 21)).toNatClampNeg then none else some (M.1 106 (((60 : Int32) * x1) + (M.1 100 21)).toNatClampNeg))
def fn_X11_here (M : sd_Mem) (x1 : Int32) : Option Int32 := fn_X11_here_0 M x1

def rm_X11_which : Room := { frames := 0, cells := 0, slots := 0, locals := 0 }
def fn_X11_which_0   (x0 : Int32) : Option Int32 := (if x0 = (118 : Int32) then some (0 : Int32) else (if x0 = (104 : Int32) then some (1 : Int32) else (if x0 = (108 : Int32) then some (2 : Int32) else (if x0 = (119 : Int32) then some (3 : Int32) else some (-9 : Int32)))))
def fn_X11_which (x0 : Int32) : Option Int32 := fn_X11_which_0 x0

def rm_X11_readsNumber : Room := { frames := 1, cells := 0, slots := 0, locals := 22 }
def fn_X11_readsNumber_70   (M : sd_Mem) (x2 : Int32) (x3 : Int32) (x4 : Int32) : Option (Int32 × sd_Mem) := (if (M.1 100 21) ≤ x4 then some ((0 : Int32), M) else (fn_X11_in (M.1 100 22) x2 x3).bind fun q85 => (if q85 = 0 then some ((0 : Int32), M) else some ((1 : Int32), M)))
def fn_X11_readsNumber_11   : Nat → sd_Mem → Int32 → Int32 → Int32 → Int32 → Option (Int32 × sd_Mem)
  | 0, _, _, _, _, _ => none
  | n + 1, M, x1, x2, x3, x4 => (if (2 : Int32) ≤ ((M.1 100 21) - x4) then fn_X11_readsNumber_70 M x2 x3 x4 else (fn_X11_here M x1).bind fun q24 => (fn_X11_in q24 (48 : Int32) (57 : Int32)).bind fun q31 => (if q31 = 0 then fn_X11_readsNumber_70 M x2 x3 x4 else (fn_X11_here M x1).bind fun q47 => fn_X11_readsNumber_11 n (sd_setI (sd_setI M 100 22 ((((10 : Int32) * (M.1 100 22)) + q47) - (48 : Int32))) 100 21 (((sd_setI M 100 22 ((((10 : Int32) * (M.1 100 22)) + q47) - (48 : Int32))).1 100 21) + (1 : Int32))) x1 x2 x3 x4))
def fn_X11_readsNumber_0   (M : sd_Mem) (x1 : Int32) (x2 : Int32) (x3 : Int32) : Option (Int32 × sd_Mem) := fn_X11_readsNumber_11 sd_FU (sd_setI M 100 22 (0 : Int32)) x1 x2 x3 (M.1 100 21)
def fn_X11_readsNumber (M : sd_Mem) (x1 : Int32) (x2 : Int32) (x3 : Int32) : Option (Int32 × sd_Mem) := fn_X11_readsNumber_0 M x1 x2 x3

def rm_X11_readsSort : Room := { frames := 2, cells := 0, slots := 0, locals := 46 }
def fn_X11_readsSort_0   (M : sd_Mem) (x1 : Int32) (x2 : Int32) : Option (Int32 × sd_Mem) := (fn_X11_readsNumber M x1 (1 : Int32) (9 : Int32)).bind fun q5 => (if q5.1 = 0 then some ((0 : Int32), q5.2) else if x2 < 0 ∨ 2 ≤ x2.toNatClampNeg then none else if (((3 : Int32) * x2) + (q5.2.1 111 x2.toNatClampNeg)) < 0 ∨ 6 ≤ (((3 : Int32) * x2) + (q5.2.1 111 x2.toNatClampNeg)).toNatClampNeg then none else (fn_X11_here (sd_setI q5.2 112 (((3 : Int32) * x2) + (q5.2.1 111 x2.toNatClampNeg)).toNatClampNeg (q5.2.1 100 22)) x1).bind fun q36 => (if q36 = (44 : Int32) then (fn_X11_readsNumber (sd_setI (sd_setI q5.2 112 (((3 : Int32) * x2) + (q5.2.1 111 x2.toNatClampNeg)).toNatClampNeg (q5.2.1 100 22)) 100 21 (((sd_setI q5.2 112 (((3 : Int32) * x2) + (q5.2.1 111 x2.toNatClampNeg)).toNatClampNeg (q5.2.1 100 22)).1 100 21) + (1 : Int32))) x1 (0 : Int32) (99 : Int32)).bind fun q61 => (if q61.1 = 0 then some ((0 : Int32), q61.2) else if (((3 : Int32) * x2) + (q5.2.1 111 x2.toNatClampNeg)) < 0 ∨ 6 ≤ (((3 : Int32) * x2) + (q5.2.1 111 x2.toNatClampNeg)).toNatClampNeg then none else if x2 < 0 ∨ 2 ≤ x2.toNatClampNeg then none else if x2 < 0 ∨ 2 ≤ x2.toNatClampNeg then none else some ((1 : Int32), sd_setI (sd_setI q61.2 113 (((3 : Int32) * x2) + (q5.2.1 111 x2.toNatClampNeg)).toNatClampNeg (q61.2.1 100 22)) 111 x2.toNatClampNeg (((sd_setI q61.2 113 (((3 : Int32) * x2) + (q5.2.1 111 x2.toNatClampNeg)).toNatClampNeg (q61.2.1 100 22)).1 111 x2.toNatClampNeg) + (1 : Int32)))) else some ((0 : Int32), sd_setI q5.2 112 (((3 : Int32) * x2) + (q5.2.1 111 x2.toNatClampNeg)).toNatClampNeg (q5.2.1 100 22))))
def fn_X11_readsSort (M : sd_Mem) (x1 : Int32) (x2 : Int32) : Option (Int32 × sd_Mem) := fn_X11_readsSort_0 M x1 x2

def rm_X11_reads : Room := { frames := 3, cells := 0, slots := 0, locals := 69 }
def fn_X11_reads_223  (k49 : sd_Mem → Int32 → Option (Int32 × sd_Mem)) (M : sd_Mem) (x1 : Int32) (x4 : Int32) (xs0 : Int32) : Option (Int32 × sd_Mem) := (if xs0 = 0 then some (M.1 100 21, M) else (if x4 < 0 then k49 M x1 else if x4 < 0 ∨ 4 ≤ x4.toNatClampNeg then none else k49 (sd_setI M 114 x4.toNatClampNeg (M.1 100 22)) x1))
def fn_X11_reads_186  (k49 : sd_Mem → Int32 → Option (Int32 × sd_Mem)) (M : sd_Mem) (x1 : Int32) (x4 : Int32) (xs0 : Int32) (xs1 : Int32) : Option (Int32 × sd_Mem) := (if x4 = 0 then (fn_X11_readsNumber M xs1 xs0 (99 : Int32)).bind fun q220 => fn_X11_reads_223 k49 q220.2 x1 x4 q220.1 else (if x4 = (1 : Int32) then (fn_X11_readsNumber M xs1 xs0 (40 : Int32)).bind fun q220 => fn_X11_reads_223 k49 q220.2 x1 x4 q220.1 else (if x4 = (2 : Int32) then (fn_X11_readsNumber M xs1 xs0 (10 : Int32)).bind fun q220 => fn_X11_reads_223 k49 q220.2 x1 x4 q220.1 else (fn_X11_readsNumber M xs1 xs0 (12 : Int32)).bind fun q220 => fn_X11_reads_223 k49 q220.2 x1 x4 q220.1)))
def fn_X11_reads_144  (k49 : sd_Mem → Int32 → Option (Int32 × sd_Mem)) (M : sd_Mem) (x1 : Int32) (x3 : Int32) (x4 : Int32) : Option (Int32 × sd_Mem) := (if x3 < 0 then (if x4 = (1 : Int32) then fn_X11_reads_186 k49 (sd_setI M 100 21 ((M.1 100 21) + (1 : Int32))) x1 x4 (1 : Int32) x1 else (if x4 = (2 : Int32) then fn_X11_reads_186 k49 (sd_setI M 100 21 ((M.1 100 21) + (1 : Int32))) x1 x4 (1 : Int32) x1 else fn_X11_reads_186 k49 (sd_setI M 100 21 ((M.1 100 21) + (1 : Int32))) x1 x4 (0 : Int32) x1)) else (fn_X11_readsSort (sd_setI M 100 21 ((M.1 100 21) + (1 : Int32))) x1 x3).bind fun q161 => fn_X11_reads_223 k49 q161.2 x1 x4 q161.1)
def fn_X11_reads_125  (k49 : sd_Mem → Int32 → Option (Int32 × sd_Mem)) (M : sd_Mem) (x1 : Int32) (x3 : Int32) (x4 : Int32) : Option (Int32 × sd_Mem) := (if x3 < 0 then fn_X11_reads_144 k49 M x1 x3 x4 else if x3 < 0 ∨ 2 ≤ x3.toNatClampNeg then none else (if (M.1 111 x3.toNatClampNeg) = (3 : Int32) then some (M.1 100 21, M) else fn_X11_reads_144 k49 M x1 x3 x4))
def fn_X11_reads_109  (k49 : sd_Mem → Int32 → Option (Int32 × sd_Mem)) (M : sd_Mem) (x1 : Int32) (x2 : Int32) (xs0 : Int32) : Option (Int32 × sd_Mem) := (fn_X11_which x2).bind fun q111 => (if 0 ≤ xs0 then fn_X11_reads_125 k49 M x1 xs0 q111 else (if q111 < 0 then some (M.1 100 21, M) else fn_X11_reads_125 k49 M x1 xs0 q111))
def fn_X11_reads_254   (M : sd_Mem) (x1 : Int32) : Option (Int32 × sd_Mem) := if (0 : Int32) < 0 ∨ 2 ≤ (0 : Int32).toNatClampNeg then none else (if (M.1 111 (0 : Int32).toNatClampNeg) = 0 then if x1 < 0 ∨ 4 ≤ x1.toNatClampNeg then none else some (M.1 105 x1.toNatClampNeg, M) else if (1 : Int32) < 0 ∨ 2 ≤ (1 : Int32).toNatClampNeg then none else (if (M.1 111 (1 : Int32).toNatClampNeg) = 0 then if x1 < 0 ∨ 4 ≤ x1.toNatClampNeg then none else some (M.1 105 x1.toNatClampNeg, M) else if (2 : Int32) < 0 ∨ 4 ≤ (2 : Int32).toNatClampNeg then none else if (1 : Int32) < 0 ∨ 4 ≤ (1 : Int32).toNatClampNeg then none else (if (M.1 114 (2 : Int32).toNatClampNeg) ≤ (M.1 114 (1 : Int32).toNatClampNeg) then some ((-9 : Int32), M) else if x1 < 0 ∨ 4 ≤ x1.toNatClampNeg then none else some (M.1 105 x1.toNatClampNeg, M))))
def fn_X11_reads_49   : Nat → sd_Mem → Int32 → Option (Int32 × sd_Mem)
  | 0, _, _ => none
  | n + 1, M, x1 => if x1 < 0 ∨ 4 ≤ x1.toNatClampNeg then none else (if (M.1 105 x1.toNatClampNeg) ≤ (M.1 100 21) then fn_X11_reads_254 M x1 else (fn_X11_here M x1).bind fun q64 => (if q64 = (32 : Int32) then fn_X11_reads_49 n (sd_setI M 100 21 ((M.1 100 21) + (1 : Int32))) x1 else (if q64 = (109 : Int32) then fn_X11_reads_109 (fn_X11_reads_49 n) M x1 q64 (0 : Int32) else (if q64 = (111 : Int32) then fn_X11_reads_109 (fn_X11_reads_49 n) M x1 q64 (1 : Int32) else fn_X11_reads_109 (fn_X11_reads_49 n) M x1 q64 (-9 : Int32)))))
def fn_X11_reads_0   (M : sd_Mem) (x1 : Int32) : Option (Int32 × sd_Mem) := if (0 : Int32) < 0 ∨ 2 ≤ (0 : Int32).toNatClampNeg then none else if (1 : Int32) < 0 ∨ 2 ≤ (1 : Int32).toNatClampNeg then none else if (0 : Int32) < 0 ∨ 4 ≤ (0 : Int32).toNatClampNeg then none else if (1 : Int32) < 0 ∨ 4 ≤ (1 : Int32).toNatClampNeg then none else if (2 : Int32) < 0 ∨ 4 ≤ (2 : Int32).toNatClampNeg then none else if (3 : Int32) < 0 ∨ 4 ≤ (3 : Int32).toNatClampNeg then none else fn_X11_reads_49 sd_FU (sd_setI (sd_setI (sd_setI (sd_setI (sd_setI (sd_setI (sd_setI M 111 (0 : Int32).toNatClampNeg (0 : Int32)) 111 (1 : Int32).toNatClampNeg (0 : Int32)) 114 (0 : Int32).toNatClampNeg (10 : Int32)) 114 (1 : Int32).toNatClampNeg (20 : Int32)) 114 (2 : Int32).toNatClampNeg (5 : Int32)) 114 (3 : Int32).toNatClampNeg (5 : Int32)) 100 21 (0 : Int32)) x1
def fn_X11_reads (M : sd_Mem) (x1 : Int32) : Option (Int32 × sd_Mem) := fn_X11_reads_0 M x1

def rm_X11_fault : Room := { frames := 4, cells := 0, slots := 0, locals := 94 }
def fn_X11_fault_0   (M : sd_Mem) (x1 : Int32) : Option (Int32 × sd_Mem) := (fn_X11_askedText M x1).bind fun q2 => (if 0 ≤ q2.1 then (fn_X11_reads q2.2 x1).bind fun q16 => some (q16.1, q16.2) else some (q2.1, q2.2))
def fn_X11_fault (M : sd_Mem) (x1 : Int32) : Option (Int32 × sd_Mem) := fn_X11_fault_0 M x1

def rm_X11_quarrel : Room := { frames := 4, cells := 0, slots := 0, locals := 94 }
def fn_X11_quarrel_88   (M : sd_Mem) : Option (Int32 × sd_Mem) := if (0 : Int32) < 0 ∨ 2 ≤ (0 : Int32).toNatClampNeg then none else if (0 : Int32) < 0 ∨ 2 ≤ (0 : Int32).toNatClampNeg then none else if (1 : Int32) < 0 ∨ 2 ≤ (1 : Int32).toNatClampNeg then none else if (1 : Int32) < 0 ∨ 2 ≤ (1 : Int32).toNatClampNeg then none else if (0 : Int32) < 0 ∨ 2 ≤ (0 : Int32).toNatClampNeg then none else if (1 : Int32) < 0 ∨ 2 ≤ (1 : Int32).toNatClampNeg then none else some (((sd_setI (sd_setI M 107 (0 : Int32).toNatClampNeg (M.1 111 (0 : Int32).toNatClampNeg)) 107 (1 : Int32).toNatClampNeg ((sd_setI M 107 (0 : Int32).toNatClampNeg (M.1 111 (0 : Int32).toNatClampNeg)).1 111 (1 : Int32).toNatClampNeg)).1 107 (0 : Int32).toNatClampNeg) + ((sd_setI (sd_setI M 107 (0 : Int32).toNatClampNeg (M.1 111 (0 : Int32).toNatClampNeg)) 107 (1 : Int32).toNatClampNeg ((sd_setI M 107 (0 : Int32).toNatClampNeg (M.1 111 (0 : Int32).toNatClampNeg)).1 111 (1 : Int32).toNatClampNeg)).1 107 (1 : Int32).toNatClampNeg), sd_setI (sd_setI M 107 (0 : Int32).toNatClampNeg (M.1 111 (0 : Int32).toNatClampNeg)) 107 (1 : Int32).toNatClampNeg ((sd_setI M 107 (0 : Int32).toNatClampNeg (M.1 111 (0 : Int32).toNatClampNeg)).1 111 (1 : Int32).toNatClampNeg))
def fn_X11_quarrel_65   : Nat → sd_Mem → Int32 → Option (Int32 × sd_Mem)
  | 0, _, _ => none
  | n + 1, M, x3 => (if (4 : Int32) ≤ x3 then fn_X11_quarrel_88 M else if x3 < 0 ∨ 4 ≤ x3.toNatClampNeg then none else if x3 < 0 ∨ 4 ≤ x3.toNatClampNeg then none else fn_X11_quarrel_65 n (sd_setI M 110 x3.toNatClampNeg (M.1 114 x3.toNatClampNeg)) (x3 + (1 : Int32)))
def fn_X11_quarrel_27   : Nat → sd_Mem → Int32 → Option (Int32 × sd_Mem)
  | 0, _, _ => none
  | n + 1, M, x3 => (if (6 : Int32) ≤ x3 then fn_X11_quarrel_65 sd_FU M (0 : Int32) else if x3 < 0 ∨ 6 ≤ x3.toNatClampNeg then none else if x3 < 0 ∨ 6 ≤ x3.toNatClampNeg then none else if x3 < 0 ∨ 6 ≤ x3.toNatClampNeg then none else if x3 < 0 ∨ 6 ≤ x3.toNatClampNeg then none else fn_X11_quarrel_27 n (sd_setI (sd_setI M 108 x3.toNatClampNeg (M.1 112 x3.toNatClampNeg)) 109 x3.toNatClampNeg ((sd_setI M 108 x3.toNatClampNeg (M.1 112 x3.toNatClampNeg)).1 113 x3.toNatClampNeg)) (x3 + (1 : Int32)))
def fn_X11_quarrel_0   (M : sd_Mem) (x1 : Int32) : Option (Int32 × sd_Mem) := (fn_X11_askedText M x1).bind fun q2 => (if 0 ≤ q2.1 then (fn_X11_reads q2.2 x1).bind fun q14 => (if q14.1 = (-9 : Int32) then fn_X11_quarrel_27 sd_FU q14.2 (0 : Int32) else some ((-4 : Int32), q14.2)) else some (q2.1, q2.2))
def fn_X11_quarrel (M : sd_Mem) (x1 : Int32) : Option (Int32 × sd_Mem) := fn_X11_quarrel_0 M x1

def rm_X11_tells : Room := { frames := 0, cells := 0, slots := 0, locals := 0 }
def fn_X11_tells_0 (M : sd_Mem)  (x1 : Int32) : Option Int32 := (if x1.toInt < 0 ∨ 8 < x1.toInt then if (x1 - (2 : Int32)) < 0 ∨ 4 ≤ (x1 - (2 : Int32)).toNatClampNeg then none else some (M.1 110 (x1 - (2 : Int32)).toNatClampNeg) else if x1 = 0 then if x1 < 0 ∨ 2 ≤ x1.toNatClampNeg then none else some (M.1 107 x1.toNatClampNeg) else if x1 = 1 then if x1 < 0 ∨ 2 ≤ x1.toNatClampNeg then none else some (M.1 107 x1.toNatClampNeg) else if x1 = 2 then if (x1 - (2 : Int32)) < 0 ∨ 4 ≤ (x1 - (2 : Int32)).toNatClampNeg then none else some (M.1 110 (x1 - (2 : Int32)).toNatClampNeg) else if x1 = 3 then if (x1 - (2 : Int32)) < 0 ∨ 4 ≤ (x1 - (2 : Int32)).toNatClampNeg then none else some (M.1 110 (x1 - (2 : Int32)).toNatClampNeg) else if x1 = 4 then if (x1 - (2 : Int32)) < 0 ∨ 4 ≤ (x1 - (2 : Int32)).toNatClampNeg then none else some (M.1 110 (x1 - (2 : Int32)).toNatClampNeg) else if x1 = 5 then if (x1 - (2 : Int32)) < 0 ∨ 4 ≤ (x1 - (2 : Int32)).toNatClampNeg then none else some (M.1 110 (x1 - (2 : Int32)).toNatClampNeg) else if x1 = 6 then some (M.1 100 14) else if x1 = 7 then some (M.1 100 15) else if x1 = 8 then some (M.1 100 16) else none)
def fn_X11_tells (M : sd_Mem) (x1 : Int32) : Option Int32 := fn_X11_tells_0 M x1

def rm_X11_told : Room := { frames := 1, cells := 0, slots := 0, locals := 22 }
def fn_X11_told_0   (M : sd_Mem) (x1 : Int32) : Option (Int32 × sd_Mem) := (fn_X11_in x1 (0 : Int32) (8 : Int32)).bind fun q4 => (if q4 = 0 then some ((-1 : Int32), M) else (fn_X11_tells M x1).bind fun q13 => (fn_X11_ask M q13 (1 : Int32)).bind fun q17 => some (q17.1, q17.2))
def fn_X11_told (M : sd_Mem) (x1 : Int32) : Option (Int32 × sd_Mem) := fn_X11_told_0 M x1

def rm_X11_isSort : Room := { frames := 1, cells := 0, slots := 0, locals := 22 }
def fn_X11_isSort_0 (M : sd_Mem)  (x1 : Int32) (x2 : Int32) : Option Int32 := (fn_X11_in x1 (0 : Int32) (1 : Int32)).bind fun q3 => (if q3 = 0 then some (0 : Int32) else if x1 < 0 ∨ 2 ≤ x1.toNatClampNeg then none else (fn_X11_in x2 (0 : Int32) ((M.1 107 x1.toNatClampNeg) - (1 : Int32))).bind fun q19 => (if q19 = 0 then some (0 : Int32) else some (1 : Int32)))
def fn_X11_isSort (M : sd_Mem) (x1 : Int32) (x2 : Int32) : Option Int32 := fn_X11_isSort_0 M x1 x2

def rm_X11_sort : Room := { frames := 2, cells := 0, slots := 0, locals := 44 }
def fn_X11_sort_0   (M : sd_Mem) (x1 : Int32) (x2 : Int32) (x3 : Int32) : Option (Int32 × sd_Mem) := (fn_X11_isSort M x1 x2).bind fun q3 => (if q3 = 0 then some ((-1 : Int32), M) else (fn_X11_in x3 (0 : Int32) (1 : Int32)).bind fun q12 => (if q12 = 0 then some ((-1 : Int32), M) else (if x3 = 0 then if (((3 : Int32) * x1) + x2) < 0 ∨ 6 ≤ (((3 : Int32) * x1) + x2).toNatClampNeg then none else (fn_X11_ask M (M.1 108 (((3 : Int32) * x1) + x2).toNatClampNeg) (1 : Int32)).bind fun q47 => some (q47.1, q47.2) else if (((3 : Int32) * x1) + x2) < 0 ∨ 6 ≤ (((3 : Int32) * x1) + x2).toNatClampNeg then none else (fn_X11_ask M (M.1 109 (((3 : Int32) * x1) + x2).toNatClampNeg) (1 : Int32)).bind fun q47 => some (q47.1, q47.2))))
def fn_X11_sort (M : sd_Mem) (x1 : Int32) (x2 : Int32) (x3 : Int32) : Option (Int32 × sd_Mem) := fn_X11_sort_0 M x1 x2 x3

def rm_X11_isDay : Room := { frames := 1, cells := 0, slots := 0, locals := 22 }
def fn_X11_isDay_0   (x0 : Int32) : Option Int32 := (fn_X11_in x0 (1 : Int32) (10 : Int32)).bind fun q4 => if q4 &&& 1 ≠ q4 then none else some q4
def fn_X11_isDay (x0 : Int32) : Option Int32 := fn_X11_isDay_0 x0

def rm_X11_notice : Room := { frames := 2, cells := 0, slots := 0, locals := 42 }
def fn_X11_notice_0   (M : sd_Mem) (x1 : Int32) : Option (Int32 × sd_Mem) := (fn_X11_isDay x1).bind fun q1 => (if q1 = 0 then some ((-1 : Int32), M) else some (M.1 100 14, sd_setI M 100 14 x1))
def fn_X11_notice (M : sd_Mem) (x1 : Int32) : Option (Int32 × sd_Mem) := fn_X11_notice_0 M x1

def rm_X11_judge : Room := { frames := 1, cells := 0, slots := 0, locals := 22 }
def fn_X11_judge_0   (M : sd_Mem) (x1 : Int32) (x2 : Int32) : Option (Int32 × sd_Mem) := (fn_X11_in x1 (0 : Int32) (12 : Int32)).bind fun q4 => (if q4 = 0 then some ((-1 : Int32), M) else (fn_X11_in x2 (0 : Int32) (12 : Int32)).bind fun q14 => (if q14 = 0 then some ((-1 : Int32), M) else some ((1 : Int32), sd_setI (sd_setI M 100 15 x1) 100 16 x2)))
def fn_X11_judge (M : sd_Mem) (x1 : Int32) (x2 : Int32) : Option (Int32 × sd_Mem) := fn_X11_judge_0 M x1 x2

def rm_X11_isWay : Room := { frames := 1, cells := 0, slots := 0, locals := 22 }
def fn_X11_isWay_0   (x0 : Int32) : Option Int32 := (fn_X11_in x0 (0 : Int32) (7 : Int32)).bind fun q4 => if q4 &&& 1 ≠ q4 then none else some q4
def fn_X11_isWay (x0 : Int32) : Option Int32 := fn_X11_isWay_0 x0

def rm_X11_way : Room := { frames := 2, cells := 0, slots := 0, locals := 42 }
def fn_X11_way_27   : Nat → sd_Mem → Int32 → Int32 → Option (Int32 × sd_Mem)
  | 0, _, _, _ => none
  | n + 1, M, x1, x3 => (if (30 : Int32) ≤ x3 then some ((1 : Int32), M) else if (((30 : Int32) * x1) + x3) < 0 ∨ 240 ≤ (((30 : Int32) * x1) + x3).toNatClampNeg then none else fn_X11_way_27 n (sd_setI M 116 (((30 : Int32) * x1) + x3).toNatClampNeg (0 : Int32)) x1 (x3 + (1 : Int32)))
def fn_X11_way_0   (M : sd_Mem) (x1 : Int32) (x2 : Int32) : Option (Int32 × sd_Mem) := (fn_X11_isWay x1).bind fun q1 => (if q1 = 0 then some ((-1 : Int32), M) else (fn_X11_in x2 (0 : Int32) (4 : Int32)).bind fun q10 => (if q10 = 0 then some ((-1 : Int32), M) else if x1 < 0 ∨ 8 ≤ x1.toNatClampNeg then none else fn_X11_way_27 sd_FU (sd_setI M 115 x1.toNatClampNeg x2) x1 (0 : Int32)))
def fn_X11_way (M : sd_Mem) (x1 : Int32) (x2 : Int32) : Option (Int32 × sd_Mem) := fn_X11_way_0 M x1 x2

def rm_X11_isPlace : Room := { frames := 2, cells := 0, slots := 0, locals := 42 }
def fn_X11_isPlace_0   (x0 : Int32) (x1 : Int32) : Option Int32 := (fn_X11_in x0 (0 : Int32) (2 : Int32)).bind fun q3 => (if q3 = 0 then some (0 : Int32) else (fn_X11_isDay x1).bind fun q10 => (if q10 = 0 then some (0 : Int32) else some (1 : Int32)))
def fn_X11_isPlace (x0 : Int32) (x1 : Int32) : Option Int32 := fn_X11_isPlace_0 x0 x1

def rm_X11_askedWay : Room := { frames := 2, cells := 0, slots := 0, locals := 42 }
def fn_X11_askedWay_0   (M : sd_Mem) (x1 : Int32) : Option (Int32 × sd_Mem) := (fn_X11_isWay x1).bind fun q1 => (if q1 = 0 then some ((-1 : Int32), M) else if x1 < 0 ∨ 8 ≤ x1.toNatClampNeg then none else (if 0 ≤ (M.1 115 x1.toNatClampNeg) then some ((0 : Int32), M) else (fn_X11_meets M (1 : Int32)).bind fun q22 => some (q22.1, q22.2)))
def fn_X11_askedWay (M : sd_Mem) (x1 : Int32) : Option (Int32 × sd_Mem) := fn_X11_askedWay_0 M x1

def rm_X11_isOfKind : Room := { frames := 1, cells := 0, slots := 0, locals := 22 }
def fn_X11_isOfKind_0 (M : sd_Mem)  (x1 : Int32) (x2 : Int32) : Option Int32 := if x1 < 0 ∨ 8 ≤ x1.toNatClampNeg then none else (if (M.1 115 x1.toNatClampNeg) = (1 : Int32) then (fn_X11_in x2 (0 : Int32) (12 : Int32)).bind fun q44 => if q44 &&& 1 ≠ q44 then none else some q44 else if x1 < 0 ∨ 8 ≤ x1.toNatClampNeg then none else (if (M.1 115 x1.toNatClampNeg) = (2 : Int32) then (fn_X11_in x2 (0 : Int32) (13 : Int32)).bind fun q44 => if q44 &&& 1 ≠ q44 then none else some q44 else if x1 < 0 ∨ 8 ≤ x1.toNatClampNeg then none else (if (M.1 115 x1.toNatClampNeg) = (3 : Int32) then (fn_X11_in x2 (0 : Int32) (13 : Int32)).bind fun q44 => if q44 &&& 1 ≠ q44 then none else some q44 else (fn_X11_in x2 (0 : Int32) (99 : Int32)).bind fun q44 => if q44 &&& 1 ≠ q44 then none else some q44)))
def fn_X11_isOfKind (M : sd_Mem) (x1 : Int32) (x2 : Int32) : Option Int32 := fn_X11_isOfKind_0 M x1 x2

def rm_X11_number : Room := { frames := 0, cells := 0, slots := 0, locals := 0 }
def fn_X11_number_0 (M : sd_Mem)  (x1 : Int32) (x2 : Int32) (x3 : Int32) : Option Int32 := if (((((30 : Int32) * x1) + ((10 : Int32) * x2)) + x3) - (1 : Int32)) < 0 ∨ 240 ≤ (((((30 : Int32) * x1) + ((10 : Int32) * x2)) + x3) - (1 : Int32)).toNatClampNeg then none else some (M.1 116 (((((30 : Int32) * x1) + ((10 : Int32) * x2)) + x3) - (1 : Int32)).toNatClampNeg)
def fn_X11_number (M : sd_Mem) (x1 : Int32) (x2 : Int32) (x3 : Int32) : Option Int32 := fn_X11_number_0 M x1 x2 x3

def rm_X11_set : Room := { frames := 3, cells := 0, slots := 0, locals := 63 }
def fn_X11_set_0   (M : sd_Mem) (x1 : Int32) (x2 : Int32) (x3 : Int32) (x4 : Int32) : Option (Int32 × sd_Mem) := (fn_X11_isPlace x2 x3).bind fun q2 => (if q2 = 0 then some ((-1 : Int32), M) else (fn_X11_askedWay M x1).bind fun q12 => (if 0 ≤ q12.1 then (fn_X11_isOfKind q12.2 x1 x4).bind fun q29 => (if q29 = 0 then (fn_X11_meets q12.2 (3 : Int32)).bind fun q37 => some (q37.1, q37.2) else (fn_X11_number q12.2 x1 x2 x3).bind fun q45 => if (((((30 : Int32) * x1) + ((10 : Int32) * x2)) + x3) - (1 : Int32)) < 0 ∨ 240 ≤ (((((30 : Int32) * x1) + ((10 : Int32) * x2)) + x3) - (1 : Int32)).toNatClampNeg then none else some (q45, sd_setI q12.2 116 (((((30 : Int32) * x1) + ((10 : Int32) * x2)) + x3) - (1 : Int32)).toNatClampNeg x4)) else some (q12.1, q12.2)))
def fn_X11_set (M : sd_Mem) (x1 : Int32) (x2 : Int32) (x3 : Int32) (x4 : Int32) : Option (Int32 × sd_Mem) := fn_X11_set_0 M x1 x2 x3 x4

def rm_X11_setAll : Room := { frames := 3, cells := 0, slots := 0, locals := 63 }
def fn_X11_setAll_126   : Nat → sd_Mem → Int32 → Int32 → Int32 → Int32 → Option (Int32 × sd_Mem)
  | 0, _, _, _, _, _ => none
  | n + 1, M, x1, x2, x3, x5 => (if (10 : Int32) ≤ x5 then some ((1 : Int32), M) else (fn_X11_rowAt M x3 x5).bind fun q153 => if ((((30 : Int32) * x1) + ((10 : Int32) * x2)) + x5) < 0 ∨ 240 ≤ ((((30 : Int32) * x1) + ((10 : Int32) * x2)) + x5).toNatClampNeg then none else fn_X11_setAll_126 n (sd_setI M 116 ((((30 : Int32) * x1) + ((10 : Int32) * x2)) + x5).toNatClampNeg q153.toInt8.toInt32) x1 x2 x3 (x5 + (1 : Int32)))
def fn_X11_setAll_112   (M : sd_Mem) (x1 : Int32) (x2 : Int32) (x3 : Int32) (x4 : Int32) : Option (Int32 × sd_Mem) := (if x4 = 0 then (fn_X11_meets M (3 : Int32)).bind fun q119 => some (q119.1, q119.2) else fn_X11_setAll_126 sd_FU M x1 x2 x3 (0 : Int32))
def fn_X11_setAll_71   : Nat → sd_Mem → Int32 → Int32 → Int32 → Int32 → Int32 → Option (Int32 × sd_Mem)
  | 0, _, _, _, _, _, _ => none
  | n + 1, M, x1, x2, x3, x4, x5 => (if (10 : Int32) ≤ x5 then fn_X11_setAll_112 M x1 x2 x3 x4 else (if x4 = 0 then fn_X11_setAll_71 n M x1 x2 x3 (0 : Int32) (x5 + (1 : Int32)) else (fn_X11_rowAt M x3 x5).bind fun q89 => (fn_X11_isOfKind M x1 q89.toInt8.toInt32).bind fun q93 => (if q93 = 0 then fn_X11_setAll_71 n M x1 x2 x3 (0 : Int32) (x5 + (1 : Int32)) else fn_X11_setAll_71 n M x1 x2 x3 (1 : Int32) (x5 + (1 : Int32)))))
def fn_X11_setAll_0   (M : sd_Mem) (x1 : Int32) (x2 : Int32) (x3 : Int32) : Option (Int32 × sd_Mem) := (fn_X11_isWay x1).bind fun q1 => (if q1 = 0 then some ((-1 : Int32), M) else (fn_X11_isPlace x2 (1 : Int32)).bind fun q9 => (if q9 = 0 then some ((-1 : Int32), M) else (fn_X11_isRow x3).bind fun q16 => (if q16 = 0 then some ((-1 : Int32), M) else if x1 < 0 ∨ 8 ≤ x1.toNatClampNeg then none else (if (M.1 115 x1.toNatClampNeg) < 0 then (fn_X11_meets M (1 : Int32)).bind fun q44 => some (q44.1, q44.2) else if x3 < 0 ∨ 6 ≤ x3.toNatClampNeg then none else (if 0 ≤ (M.1 102 x3.toNatClampNeg) then if x3 < 0 ∨ 6 ≤ x3.toNatClampNeg then none else (if (M.1 102 x3.toNatClampNeg) = (10 : Int32) then fn_X11_setAll_71 sd_FU M x1 x2 x3 (1 : Int32) (0 : Int32) else (fn_X11_meets M (5 : Int32)).bind fun q61 => some (q61.1, q61.2)) else (fn_X11_meets M (1 : Int32)).bind fun q44 => some (q44.1, q44.2))))))
def fn_X11_setAll (M : sd_Mem) (x1 : Int32) (x2 : Int32) (x3 : Int32) : Option (Int32 × sd_Mem) := fn_X11_setAll_0 M x1 x2 x3

def rm_X11_at : Room := { frames := 3, cells := 0, slots := 0, locals := 63 }
def fn_X11_at_0   (M : sd_Mem) (x1 : Int32) (x2 : Int32) (x3 : Int32) : Option (Int32 × sd_Mem) := (fn_X11_isPlace x2 x3).bind fun q2 => (if q2 = 0 then some ((-1 : Int32), M) else (fn_X11_askedWay M x1).bind fun q12 => (if 0 ≤ q12.1 then (fn_X11_number q12.2 x1 x2 x3).bind fun q31 => some (q31, q12.2) else some (q12.1, q12.2)))
def fn_X11_at (M : sd_Mem) (x1 : Int32) (x2 : Int32) (x3 : Int32) : Option (Int32 × sd_Mem) := fn_X11_at_0 M x1 x2 x3

def rm_X11_kind : Room := { frames := 3, cells := 0, slots := 0, locals := 63 }
def fn_X11_kind_0   (M : sd_Mem) (x1 : Int32) : Option (Int32 × sd_Mem) := (fn_X11_askedWay M x1).bind fun q2 => (if 0 ≤ q2.1 then if x1 < 0 ∨ 8 ≤ x1.toNatClampNeg then none else some (q2.2.1 115 x1.toNatClampNeg, q2.2) else some (q2.1, q2.2))
def fn_X11_kind (M : sd_Mem) (x1 : Int32) : Option (Int32 × sd_Mem) := fn_X11_kind_0 M x1

def rm_X11_whoAll : Room := { frames := 0, cells := 0, slots := 0, locals := 0 }
def fn_X11_whoAll_0 (M : sd_Mem)  (x1 : Int32) : Option Int32 := if x1 < 0 ∨ 2 ≤ x1.toNatClampNeg then none else some (((1 : Int32) <<< ((M.1 107 x1.toNatClampNeg) &&& 31)) - (1 : Int32))
def fn_X11_whoAll (M : sd_Mem) (x1 : Int32) : Option Int32 := fn_X11_whoAll_0 M x1

def rm_X11_isIn : Room := { frames := 0, cells := 0, slots := 0, locals := 0 }
def fn_X11_isIn_0   (x0 : Int32) (x1 : Int32) : Option Int32 := (if ((x0 >>> (x1 &&& 31)) &&& (1 : Int32)) = (1 : Int32) then some (1 : Int32) else some (0 : Int32))
def fn_X11_isIn (x0 : Int32) (x1 : Int32) : Option Int32 := fn_X11_isIn_0 x0 x1

def rm_X11_chances : Room := { frames := 1, cells := 0, slots := 0, locals := 21 }
def fn_X11_chances_5 (M : sd_Mem)  : Nat → Int32 → Int32 → Int32 → Int32 → Option Int32
  | 0, _, _, _, _ => none
  | n + 1, x1, x2, x3, x4 => if x1 < 0 ∨ 2 ≤ x1.toNatClampNeg then none else (if (M.1 107 x1.toNatClampNeg) ≤ x4 then some x3 else (fn_X11_isIn x2 x4).bind fun q20 => (if q20 = 0 then fn_X11_chances_5 M n x1 x2 (x3 + (0 : Int32)) (x4 + (1 : Int32)) else if (((3 : Int32) * x1) + x4) < 0 ∨ 6 ≤ (((3 : Int32) * x1) + x4).toNatClampNeg then none else fn_X11_chances_5 M n x1 x2 (x3 + (M.1 108 (((3 : Int32) * x1) + x4).toNatClampNeg)) (x4 + (1 : Int32))))
def fn_X11_chances_0 (M : sd_Mem)  (x1 : Int32) (x2 : Int32) : Option Int32 := fn_X11_chances_5 M sd_FU x1 x2 (0 : Int32) (0 : Int32)
def fn_X11_chances (M : sd_Mem) (x1 : Int32) (x2 : Int32) : Option Int32 := fn_X11_chances_0 M x1 x2

def rm_X11_needed : Room := { frames := 2, cells := 0, slots := 0, locals := 45 }
def fn_X11_needed_65 (M : sd_Mem) (k6 : Int32 → Int32 → Int32 → Option Int32) (x1 : Int32) (x3 : Int32) (x4 : Int32) (xs0 : Int32) : Option Int32 := (if x4 ≤ x1 then k6 x1 xs0 (x3 + (1 : Int32)) else k6 x4 xs0 (x3 + (1 : Int32)))
def fn_X11_needed_85 (M : sd_Mem)  (x1 : Int32) (x2 : Int32) : Option Int32 := (if x1 ≤ x2 then some x1 else some x2)
def fn_X11_needed_6 (M : sd_Mem)  : Nat → Int32 → Int32 → Int32 → Option Int32
  | 0, _, _, _ => none
  | n + 1, x1, x2, x3 => (fn_X11_whoAll M (0 : Int32)).bind fun q9 => (if q9 < x3 then fn_X11_needed_85 M x1 x2 else (fn_X11_chances M (0 : Int32) x3).bind fun q36 => (fn_X11_whoAll M (0 : Int32)).bind fun q44 => (fn_X11_chances M (0 : Int32) q44).bind fun q47 => (if ((2 : Int32) * q36) ≤ q47 then fn_X11_needed_65 M (fn_X11_needed_6 M n) x1 x3 (((x3 &&& (1 : Int32)) + ((x3 >>> ((1 : Int32) &&& 31)) &&& (1 : Int32))) + ((x3 >>> ((2 : Int32) &&& 31)) &&& (1 : Int32))) x2 else (if x2 ≤ (((x3 &&& (1 : Int32)) + ((x3 >>> ((1 : Int32) &&& 31)) &&& (1 : Int32))) + ((x3 >>> ((2 : Int32) &&& 31)) &&& (1 : Int32))) then fn_X11_needed_65 M (fn_X11_needed_6 M n) x1 x3 (((x3 &&& (1 : Int32)) + ((x3 >>> ((1 : Int32) &&& 31)) &&& (1 : Int32))) + ((x3 >>> ((2 : Int32) &&& 31)) &&& (1 : Int32))) x2 else fn_X11_needed_65 M (fn_X11_needed_6 M n) x1 x3 (((x3 &&& (1 : Int32)) + ((x3 >>> ((1 : Int32) &&& 31)) &&& (1 : Int32))) + ((x3 >>> ((2 : Int32) &&& 31)) &&& (1 : Int32))) (((x3 &&& (1 : Int32)) + ((x3 >>> ((1 : Int32) &&& 31)) &&& (1 : Int32))) + ((x3 >>> ((2 : Int32) &&& 31)) &&& (1 : Int32))))))
def fn_X11_needed_0 (M : sd_Mem)   : Option Int32 := fn_X11_needed_6 M sd_FU (0 : Int32) (3 : Int32) (0 : Int32)
def fn_X11_needed (M : sd_Mem) : Option Int32 := fn_X11_needed_0 M

def rm_X11_mark : Room := { frames := 3, cells := 0, slots := 0, locals := 69 }
def fn_X11_mark_118  (k70 : sd_Mem → Int32 → Int32 → Int32 → Int32 → Int32 → Int32 → Option (Int32 × sd_Mem)) (M : sd_Mem) (x1 : Int32) (x2 : Int32) (x4 : Int32) (x6 : Int32) (x7 : Int32) (xs0 : Int32) : Option (Int32 × sd_Mem) := if x7 < 0 ∨ 240 ≤ x7.toNatClampNeg then none else (if (M.1 116 x7.toNatClampNeg) ≤ x6 then k70 M x1 x2 x4 xs0 x6 (x7 + (1 : Int32)) else if x7 < 0 ∨ 240 ≤ x7.toNatClampNeg then none else k70 M x1 x2 x4 xs0 (M.1 116 x7.toNatClampNeg) (x7 + (1 : Int32)))
def fn_X11_mark_152   (M : sd_Mem) (x2 : Int32) (x4 : Int32) (x5 : Int32) (x6 : Int32) : Option (Int32 × sd_Mem) := (if x2 = (1 : Int32) then some (x6, M) else (if x2 = (2 : Int32) then some (x5, M) else (if x2 = (3 : Int32) then (fn_X11_needed M).bind fun q178 => some (q178, M) else some (x4, M))))
def fn_X11_mark_70   : Nat → sd_Mem → Int32 → Int32 → Int32 → Int32 → Int32 → Int32 → Option (Int32 × sd_Mem)
  | 0, _, _, _, _, _, _, _ => none
  | n + 1, M, x1, x2, x4, x5, x6, x7 => (if (((30 : Int32) * x1) + (30 : Int32)) ≤ x7 then fn_X11_mark_152 M x2 x4 x5 x6 else if x7 < 0 ∨ 240 ≤ x7.toNatClampNeg then none else if x7 < 0 ∨ 240 ≤ x7.toNatClampNeg then none else (if x5 ≤ (M.1 116 x7.toNatClampNeg) then fn_X11_mark_118 (fn_X11_mark_70 n) M x1 x2 (x4 + (M.1 116 x7.toNatClampNeg)) x6 x7 x5 else if x7 < 0 ∨ 240 ≤ x7.toNatClampNeg then none else fn_X11_mark_118 (fn_X11_mark_70 n) M x1 x2 (x4 + (M.1 116 x7.toNatClampNeg)) x6 x7 (M.1 116 x7.toNatClampNeg)))
def fn_X11_mark_54   (M : sd_Mem) (x1 : Int32) (x2 : Int32) : Option (Int32 × sd_Mem) := fn_X11_mark_70 sd_FU M x1 x2 (0 : Int32) (99 : Int32) (0 : Int32) ((30 : Int32) * x1)
def fn_X11_mark_0   (M : sd_Mem) (x1 : Int32) (x2 : Int32) : Option (Int32 × sd_Mem) := (fn_X11_in x2 (1 : Int32) (4 : Int32)).bind fun q3 => (if q3 = 0 then some ((-1 : Int32), M) else (fn_X11_askedWay M x1).bind fun q13 => (if 0 ≤ q13.1 then if x1 < 0 ∨ 8 ≤ x1.toNatClampNeg then none else (if (q13.2.1 115 x1.toNatClampNeg) = x2 then fn_X11_mark_54 q13.2 x1 x2 else (if x2 = (2 : Int32) then if x1 < 0 ∨ 8 ≤ x1.toNatClampNeg then none else (if (q13.2.1 115 x1.toNatClampNeg) = (3 : Int32) then fn_X11_mark_54 q13.2 x1 x2 else (fn_X11_meets q13.2 (3 : Int32)).bind fun q50 => some (q50.1, q50.2)) else (fn_X11_meets q13.2 (3 : Int32)).bind fun q50 => some (q50.1, q50.2))) else some (q13.1, q13.2)))
def fn_X11_mark (M : sd_Mem) (x1 : Int32) (x2 : Int32) : Option (Int32 × sd_Mem) := fn_X11_mark_0 M x1 x2

def rm_X11_askedTwo : Room := { frames := 2, cells := 0, slots := 0, locals := 42 }
def fn_X11_askedTwo_0   (M : sd_Mem) (x1 : Int32) (x2 : Int32) (x3 : Int32) : Option (Int32 × sd_Mem) := (fn_X11_isWay x1).bind fun q1 => (if q1 = 0 then some ((-1 : Int32), M) else (fn_X11_isWay x2).bind fun q8 => (if q8 = 0 then some ((-1 : Int32), M) else if x1 < 0 ∨ 8 ≤ x1.toNatClampNeg then none else (if (M.1 115 x1.toNatClampNeg) < 0 then (fn_X11_meets M (1 : Int32)).bind fun q36 => some (q36.1, q36.2) else if x2 < 0 ∨ 8 ≤ x2.toNatClampNeg then none else (if 0 ≤ (M.1 115 x2.toNatClampNeg) then if x1 < 0 ∨ 8 ≤ x1.toNatClampNeg then none else (if (M.1 115 x1.toNatClampNeg) = (1 : Int32) then if x2 < 0 ∨ 8 ≤ x2.toNatClampNeg then none else (if (M.1 115 x2.toNatClampNeg) = (2 : Int32) then some ((0 : Int32), M) else if x2 < 0 ∨ 8 ≤ x2.toNatClampNeg then none else (if (M.1 115 x2.toNatClampNeg) = (3 : Int32) then (if x3 = 0 then (fn_X11_meets M (3 : Int32)).bind fun q80 => some (q80.1, q80.2) else some ((0 : Int32), M)) else (fn_X11_meets M (3 : Int32)).bind fun q80 => some (q80.1, q80.2))) else (fn_X11_meets M (3 : Int32)).bind fun q80 => some (q80.1, q80.2)) else (fn_X11_meets M (1 : Int32)).bind fun q36 => some (q36.1, q36.2)))))
def fn_X11_askedTwo (M : sd_Mem) (x1 : Int32) (x2 : Int32) (x3 : Int32) : Option (Int32 × sd_Mem) := fn_X11_askedTwo_0 M x1 x2 x3

def rm_X11_last : Room := { frames := 0, cells := 0, slots := 0, locals := 0 }
def fn_X11_last_0 (M : sd_Mem)   : Option Int32 := if (2 : Int32) < 0 ∨ 4 ≤ (2 : Int32).toNatClampNeg then none else some (M.1 110 (2 : Int32).toNatClampNeg)
def fn_X11_last (M : sd_Mem) : Option Int32 := fn_X11_last_0 M

def rm_X11_takes : Room := { frames := 2, cells := 0, slots := 0, locals := 45 }
def fn_X11_takes_80 (M : sd_Mem)  (x5 : Int32) : Option Int32 := (fn_X11_whoAll M (0 : Int32)).bind fun q88 => (fn_X11_chances M (0 : Int32) q88).bind fun q91 => (if ((2 : Int32) * x5) ≤ q91 then some (0 : Int32) else some (1 : Int32))
def fn_X11_takes_34 (M : sd_Mem)  : Nat → Int32 → Int32 → Int32 → Int32 → Int32 → Option Int32
  | 0, _, _, _, _, _ => none
  | n + 1, x1, x3, x4, x5, x6 => if (0 : Int32) < 0 ∨ 2 ≤ (0 : Int32).toNatClampNeg then none else (if (M.1 107 (0 : Int32).toNatClampNeg) ≤ x6 then fn_X11_takes_80 M x5 else (fn_X11_number M x1 x6 x3).bind fun q54 => (if x4 < q54 then fn_X11_takes_34 M n x1 x3 x4 (x5 + (0 : Int32)) (x6 + (1 : Int32)) else if x6 < 0 ∨ 6 ≤ x6.toNatClampNeg then none else fn_X11_takes_34 M n x1 x3 x4 (x5 + (M.1 108 x6.toNatClampNeg)) (x6 + (1 : Int32))))
def fn_X11_takes_0 (M : sd_Mem)  (x1 : Int32) (x2 : Int32) (x3 : Int32) (x4 : Int32) : Option Int32 := if x1 < 0 ∨ 8 ≤ x1.toNatClampNeg then none else (if (M.1 115 x1.toNatClampNeg) = (2 : Int32) then (fn_X11_number M x1 x2 x3).bind fun q16 => (if x4 < q16 then some (0 : Int32) else some (1 : Int32)) else fn_X11_takes_34 M sd_FU x1 x3 x4 (0 : Int32) (0 : Int32))
def fn_X11_takes (M : sd_Mem) (x1 : Int32) (x2 : Int32) (x3 : Int32) (x4 : Int32) : Option Int32 := fn_X11_takes_0 M x1 x2 x3 x4

def rm_X11_dayOf : Room := { frames := 3, cells := 0, slots := 0, locals := 71 }
def fn_X11_dayOf_44 (M : sd_Mem)   : Option Int32 := (fn_X11_last M).bind fun q45 => some (q45 + (1 : Int32))
def fn_X11_dayOf_6 (M : sd_Mem)  : Nat → Int32 → Int32 → Int32 → Int32 → Int32 → Option Int32
  | 0, _, _, _, _, _ => none
  | n + 1, x1, x2, x3, x4, x5 => (fn_X11_last M).bind fun q9 => (if q9 < x5 then fn_X11_dayOf_44 M else (fn_X11_number M x1 x3 x5).bind fun q26 => (fn_X11_takes M x2 x4 x5 q26).bind fun q29 => (if q29 = 0 then fn_X11_dayOf_6 M n x1 x2 x3 x4 (x5 + (1 : Int32)) else some x5))
def fn_X11_dayOf_0 (M : sd_Mem)  (x1 : Int32) (x2 : Int32) (x3 : Int32) (x4 : Int32) : Option Int32 := fn_X11_dayOf_6 M sd_FU x1 x2 x3 x4 (M.1 100 14)
def fn_X11_dayOf (M : sd_Mem) (x1 : Int32) (x2 : Int32) (x3 : Int32) (x4 : Int32) : Option Int32 := fn_X11_dayOf_0 M x1 x2 x3 x4

def rm_X11_wageOn : Room := { frames := 1, cells := 0, slots := 0, locals := 23 }
def fn_X11_wageOn_0 (M : sd_Mem)  (x1 : Int32) (x2 : Int32) (x3 : Int32) : Option Int32 := (fn_X11_last M).bind fun q2 => (if x3 ≤ q2 then (fn_X11_number M x1 x2 x3).bind fun q21 => some q21 else if (3 : Int32) < 0 ∨ 4 ≤ (3 : Int32).toNatClampNeg then none else some (M.1 110 (3 : Int32).toNatClampNeg))
def fn_X11_wageOn (M : sd_Mem) (x1 : Int32) (x2 : Int32) (x3 : Int32) : Option Int32 := fn_X11_wageOn_0 M x1 x2 x3

def rm_X11_run : Room := { frames := 4, cells := 0, slots := 0, locals := 96 }
def fn_X11_run_0   (M : sd_Mem) (x1 : Int32) (x2 : Int32) (x3 : Int32) (x4 : Int32) : Option (Int32 × sd_Mem) := (fn_X11_isSort M (1 : Int32) x3).bind fun q3 => (if q3 = 0 then some ((-1 : Int32), M) else (fn_X11_isSort M (0 : Int32) x4).bind fun q13 => (if q13 = 0 then some ((-1 : Int32), M) else (fn_X11_askedTwo M x1 x2 (1 : Int32)).bind fun q25 => (if 0 ≤ q25.1 then (fn_X11_dayOf q25.2 x1 x2 x3 x4).bind fun q44 => (fn_X11_wageOn q25.2 x1 x3 q44).bind fun q55 => (fn_X11_ask q25.2 q55 q44).bind fun q60 => some (q60.1, q60.2) else some (q25.1, q25.2))))
def fn_X11_run (M : sd_Mem) (x1 : Int32) (x2 : Int32) (x3 : Int32) (x4 : Int32) : Option (Int32 × sd_Mem) := fn_X11_run_0 M x1 x2 x3 x4

def rm_X11_worthOf : Room := { frames := 0, cells := 0, slots := 0, locals := 0 }
def fn_X11_worthOf_30 (M : sd_Mem)  (x1 : Int32) (x2 : Int32) (x3 : Int32) (x5 : Int32) (xs0 : Int32) : Option Int64 := if (((3 : Int32) * x1) + x2) < 0 ∨ 6 ≤ (((3 : Int32) * x1) + x2).toNatClampNeg then none else some ((xs0.toInt64 * x5.toInt64) - (((M.1 109 (((3 : Int32) * x1) + x2).toNatClampNeg).toInt64) * ((x3 - (1 : Int32)).toInt64)))
def fn_X11_worthOf_0 (M : sd_Mem)  (x1 : Int32) (x2 : Int32) (x3 : Int32) (x4 : Int32) : Option Int64 := if (1 : Int32) < 0 ∨ 4 ≤ (1 : Int32).toNatClampNeg then none else (if x1 = 0 then fn_X11_worthOf_30 M x1 x2 x3 (((M.1 110 (1 : Int32).toNatClampNeg) - x3) + (1 : Int32)) x4 else if (0 : Int32) < 0 ∨ 4 ≤ (0 : Int32).toNatClampNeg then none else fn_X11_worthOf_30 M x1 x2 x3 (((M.1 110 (1 : Int32).toNatClampNeg) - x3) + (1 : Int32)) ((M.1 110 (0 : Int32).toNatClampNeg) - x4))
def fn_X11_worthOf (M : sd_Mem) (x1 : Int32) (x2 : Int32) (x3 : Int32) (x4 : Int32) : Option Int64 := fn_X11_worthOf_0 M x1 x2 x3 x4

def rm_X11_twelve : Room := { frames := 0, cells := 0, slots := 0, locals := 0 }
def fn_X11_twelve_4   : Nat → Int32 → Int64 → Int32 → Option Int64
  | 0, _, _, _ => none
  | n + 1, x0, l1, x3 => (if x0 ≤ x3 then some l1 else fn_X11_twelve_4 n x0 (l1 * (12 : Int64)) (x3 + (1 : Int32)))
def fn_X11_twelve_0   (x0 : Int32) : Option Int64 := fn_X11_twelve_4 sd_FU x0 (1 : Int64) (0 : Int32)
def fn_X11_twelve (x0 : Int32) : Option Int64 := fn_X11_twelve_0 x0

def rm_X11_judged : Room := { frames := 1, cells := 0, slots := 0, locals := 25 }
def fn_X11_judged_90 (M : sd_Mem)  (x1 : Int32) (x2 : Int32) (x3 : Int32) (x4 : Int32) (x5 : Int32) (l6 : Int64) (l8 : Int64) : Option Int64 := (fn_X11_worthOf M x1 x2 x3 x4).bind fun q100 => (fn_X11_last M).bind fun q105 => (fn_X11_twelve (q105 - x5)).bind fun q111 => some (l6 + ((l8 * q100) * q111))
def fn_X11_judged_27 (M : sd_Mem)  : Nat → Int32 → Int32 → Int32 → Int32 → Int32 → Int64 → Int64 → Int32 → Option Int64
  | 0, _, _, _, _, _, _, _, _ => none
  | n + 1, x1, x2, x3, x4, x5, l6, l8, x10 => (if x5 < x10 then fn_X11_judged_90 M x1 x2 x3 x4 x5 l6 l8 else (fn_X11_worthOf M x1 x2 x10 (M.1 100 16)).bind fun q53 => (fn_X11_last M).bind fun q58 => (fn_X11_twelve (q58 - x10)).bind fun q64 => fn_X11_judged_27 M n x1 x2 x3 x4 x5 (l6 + (((l8 * ((M.1 100 15).toInt64)) * q53) * q64)) (l8 * (((12 : Int32) - (M.1 100 15)).toInt64)) (x10 + (1 : Int32)))
def fn_X11_judged_16 (M : sd_Mem)  (x1 : Int32) (x2 : Int32) (x3 : Int32) (x4 : Int32) (xs0 : Int32) : Option Int64 := fn_X11_judged_27 M sd_FU x1 x2 x3 x4 xs0 (0 : Int64) (1 : Int64) (1 : Int32)
def fn_X11_judged_0 (M : sd_Mem)  (x1 : Int32) (x2 : Int32) (x3 : Int32) (x4 : Int32) : Option Int64 := (fn_X11_last M).bind fun q2 => (if q2 ≤ x3 then (fn_X11_last M).bind fun q13 => fn_X11_judged_16 M x1 x2 x3 x4 q13 else fn_X11_judged_16 M x1 x2 x3 x4 x3)
def fn_X11_judged (M : sd_Mem) (x1 : Int32) (x2 : Int32) (x3 : Int32) (x4 : Int32) : Option Int64 := fn_X11_judged_0 M x1 x2 x3 x4

def rm_X11_worthIn : Room := { frames := 4, cells := 0, slots := 0, locals := 96 }
def fn_X11_worthIn_48 (M : sd_Mem) (k6 : Int32 → Int32 → Int32 → Int32 → Int64 → Int32 → Option Int64) (x1 : Int32) (x2 : Int32) (x3 : Int32) (x4 : Int32) (l5 : Int64) (x7 : Int32) (x8 : Int32) (xs0 : Int32) (xs1 : Int32) (xs2 : Int32) (xs3 : Int32) : Option Int64 := (fn_X11_dayOf M xs3 xs2 xs1 xs0).bind fun q48 => if (((3 : Int32) * ((1 : Int32) - x3)) + x7) < 0 ∨ 6 ≤ (((3 : Int32) * ((1 : Int32) - x3)) + x7).toNatClampNeg then none else (fn_X11_wageOn M x1 x8 q48).bind fun q81 => (fn_X11_judged M x3 x4 q48 q81).bind fun q84 => k6 x1 x2 x3 x4 (l5 + (((M.1 108 (((3 : Int32) * ((1 : Int32) - x3)) + x7).toNatClampNeg).toInt64) * q84)) (x7 + (1 : Int32))
def fn_X11_worthIn_30 (M : sd_Mem) (k6 : Int32 → Int32 → Int32 → Int32 → Int64 → Int32 → Option Int64) (x1 : Int32) (x2 : Int32) (x3 : Int32) (x4 : Int32) (l5 : Int64) (x7 : Int32) (xs0 : Int32) : Option Int64 := (if x3 = 0 then fn_X11_worthIn_48 M k6 x1 x2 x3 x4 l5 x7 xs0 x4 xs0 x2 x1 else fn_X11_worthIn_48 M k6 x1 x2 x3 x4 l5 x7 xs0 x7 xs0 x2 x1)
def fn_X11_worthIn_6 (M : sd_Mem)  : Nat → Int32 → Int32 → Int32 → Int32 → Int64 → Int32 → Option Int64
  | 0, _, _, _, _, _, _ => none
  | n + 1, x1, x2, x3, x4, l5, x7 => if ((1 : Int32) - x3) < 0 ∨ 2 ≤ ((1 : Int32) - x3).toNatClampNeg then none else (if (M.1 107 ((1 : Int32) - x3).toNatClampNeg) ≤ x7 then some l5 else (if x3 = 0 then fn_X11_worthIn_30 M (fn_X11_worthIn_6 M n) x1 x2 x3 x4 l5 x7 x7 else fn_X11_worthIn_30 M (fn_X11_worthIn_6 M n) x1 x2 x3 x4 l5 x7 x4))
def fn_X11_worthIn_0 (M : sd_Mem)  (x1 : Int32) (x2 : Int32) (x3 : Int32) (x4 : Int32) : Option Int64 := fn_X11_worthIn_6 M sd_FU x1 x2 x3 x4 (0 : Int64) (0 : Int32)
def fn_X11_worthIn (M : sd_Mem) (x1 : Int32) (x2 : Int32) (x3 : Int32) (x4 : Int32) : Option Int64 := fn_X11_worthIn_0 M x1 x2 x3 x4

def rm_X11_whole : Room := { frames := 2, cells := 0, slots := 0, locals := 45 }
def fn_X11_whole_0 (M : sd_Mem)  (x1 : Int32) : Option Int64 := (fn_X11_last M).bind fun q1 => (fn_X11_twelve q1).bind fun q4 => (fn_X11_whoAll M ((1 : Int32) - x1)).bind fun q15 => (fn_X11_chances M ((1 : Int32) - x1) q15).bind fun q18 => some (q4 * q18.toInt64)
def fn_X11_whole (M : sd_Mem) (x1 : Int32) : Option Int64 := fn_X11_whole_0 M x1

def rm_X11_share : Room := { frames := 0, cells := 0, slots := 0, locals := 0 }
def fn_X11_share_42   (M : sd_Mem) (l1 : Int64) (l3 : Int64) (x5 : Int32) (l6 : Int64) : Option (Int32 × sd_Mem) := if l6 = 0 then none else if l6 = 0 then none else some (x5, sd_setL (sd_setL M 100 3 (l1 / l6)) 100 4 (l3 / l6))
def fn_X11_share_17   : Nat → sd_Mem → Int64 → Int64 → Int32 → Int64 → Int64 → Option (Int32 × sd_Mem)
  | 0, _, _, _, _, _, _ => none
  | n + 1, M, l1, l3, x5, l6, l8 => (if (lg_cmp l8 (0 : Int64)) = 0 then fn_X11_share_42 M l1 l3 x5 l6 else if l8 = 0 then none else fn_X11_share_17 n M l1 l3 x5 l8 (l6 - l6 / l8 * l8))
def fn_X11_share_0   (M : sd_Mem) (l1 : Int64) (l3 : Int64) (x5 : Int32) : Option (Int32 × sd_Mem) := (if 0 ≤ (lg_cmp l1 (0 : Int64)) then fn_X11_share_17 sd_FU M l1 l3 x5 l1 l3 else fn_X11_share_17 sd_FU M l1 l3 x5 (-l1) l3)
def fn_X11_share (M : sd_Mem) (l1 : Int64) (l3 : Int64) (x5 : Int32) : Option (Int32 × sd_Mem) := fn_X11_share_0 M l1 l3 x5

def rm_X11_worth : Room := { frames := 5, cells := 0, slots := 0, locals := 125 }
def fn_X11_worth_0   (M : sd_Mem) (x1 : Int32) (x2 : Int32) (x3 : Int32) (x4 : Int32) : Option (Int32 × sd_Mem) := (fn_X11_isSort M x3 x4).bind fun q4 => (if q4 = 0 then some ((-1 : Int32), M) else (fn_X11_askedTwo M x1 x2 (1 : Int32)).bind fun q16 => (if 0 ≤ q16.1 then (fn_X11_worthIn q16.2 x1 x2 x3 x4).bind fun q38 => (fn_X11_whole q16.2 x3).bind fun q43 => (fn_X11_share q16.2 q38 q43 (1 : Int32)).bind fun q47 => some (q47.1, q47.2) else some (q16.1, q16.2)))
def fn_X11_worth (M : sd_Mem) (x1 : Int32) (x2 : Int32) (x3 : Int32) (x4 : Int32) : Option (Int32 × sd_Mem) := fn_X11_worth_0 M x1 x2 x3 x4

def rm_X11_notTaken : Room := { frames := 4, cells := 0, slots := 0, locals := 96 }
def fn_X11_notTaken_6 (M : sd_Mem)  : Nat → Int32 → Int32 → Int32 → Int32 → Int32 → Int32 → Option Int32
  | 0, _, _, _, _, _, _ => none
  | n + 1, x1, x2, x3, x4, x5, x6 => if (0 : Int32) < 0 ∨ 2 ≤ (0 : Int32).toNatClampNeg then none else (if (M.1 107 (0 : Int32).toNatClampNeg) ≤ x6 then some x5 else (fn_X11_dayOf M x1 x2 x3 x6).bind fun q25 => (if q25 ≤ x4 then fn_X11_notTaken_6 M n x1 x2 x3 x4 (x5 ||| (0 : Int32)) (x6 + (1 : Int32)) else fn_X11_notTaken_6 M n x1 x2 x3 x4 (x5 ||| ((1 : Int32) <<< (x6 &&& 31))) (x6 + (1 : Int32))))
def fn_X11_notTaken_0 (M : sd_Mem)  (x1 : Int32) (x2 : Int32) (x3 : Int32) (x4 : Int32) : Option Int32 := fn_X11_notTaken_6 M sd_FU x1 x2 x3 x4 (0 : Int32) (0 : Int32)
def fn_X11_notTaken (M : sd_Mem) (x1 : Int32) (x2 : Int32) (x3 : Int32) (x4 : Int32) : Option Int32 := fn_X11_notTaken_0 M x1 x2 x3 x4

def rm_X11_alikeTo : Room := { frames := 1, cells := 0, slots := 0, locals := 23 }
def fn_X11_alikeTo_79 (M : sd_Mem) (k6 : Int32 → Int32 → Int32 → Int32 → Int32 → Option Int32) (x1 : Int32) (x2 : Int32) (x3 : Int32) (x4 : Int32) (x5 : Int32) (x6 : Int32) : Option Int32 := (if x6 = 0 then k6 x1 x2 x3 (x4 ||| (0 : Int32)) (x5 + (1 : Int32)) else k6 x1 x2 x3 (x4 ||| ((1 : Int32) <<< (x5 &&& 31))) (x5 + (1 : Int32)))
def fn_X11_alikeTo_26 (M : sd_Mem) (k6 : Int32 → Int32 → Int32 → Int32 → Int32 → Option Int32) : Nat → Int32 → Int32 → Int32 → Int32 → Int32 → Int32 → Int32 → Option Int32
  | 0, _, _, _, _, _, _, _ => none
  | n + 1, x1, x2, x3, x4, x5, x6, x7 => (if x3 < x7 then fn_X11_alikeTo_79 M k6 x1 x2 x3 x4 x5 x6 else (fn_X11_last M).bind fun q35 => (if q35 < x7 then fn_X11_alikeTo_79 M k6 x1 x2 x3 x4 x5 x6 else (if x6 = 0 then fn_X11_alikeTo_26 M k6 n x1 x2 x3 x4 x5 (0 : Int32) (x7 + (1 : Int32)) else (fn_X11_number M x1 x5 x7).bind fun q52 => (fn_X11_number M x1 x2 x7).bind fun q60 => (if q52 = q60 then fn_X11_alikeTo_26 M k6 n x1 x2 x3 x4 x5 (1 : Int32) (x7 + (1 : Int32)) else fn_X11_alikeTo_26 M k6 n x1 x2 x3 x4 x5 (0 : Int32) (x7 + (1 : Int32))))))
def fn_X11_alikeTo_6 (M : sd_Mem)  : Nat → Int32 → Int32 → Int32 → Int32 → Int32 → Option Int32
  | 0, _, _, _, _, _ => none
  | n + 1, x1, x2, x3, x4, x5 => if (1 : Int32) < 0 ∨ 2 ≤ (1 : Int32).toNatClampNeg then none else (if (M.1 107 (1 : Int32).toNatClampNeg) ≤ x5 then some x4 else fn_X11_alikeTo_26 M (fn_X11_alikeTo_6 M n) sd_FU x1 x2 x3 x4 x5 (1 : Int32) (M.1 100 14))
def fn_X11_alikeTo_0 (M : sd_Mem)  (x1 : Int32) (x2 : Int32) (x3 : Int32) : Option Int32 := fn_X11_alikeTo_6 M sd_FU x1 x2 x3 (0 : Int32) (0 : Int32)
def fn_X11_alikeTo (M : sd_Mem) (x1 : Int32) (x2 : Int32) (x3 : Int32) : Option Int32 := fn_X11_alikeTo_0 M x1 x2 x3

def rm_X11_think : Room := { frames := 5, cells := 0, slots := 0, locals := 122 }
def fn_X11_think_136   (M : sd_Mem) (x5 : Int32) (x9 : Int32) (ls0 : Int64) : Option (Int32 × sd_Mem) := (fn_X11_chances M ((1 : Int32) - x5) x9).bind fun q143 => (fn_X11_share M ls0 q143.toInt64 (1 : Int32)).bind fun q148 => some (q148.1, q148.2)
def fn_X11_think_104   (M : sd_Mem) (x5 : Int32) (x6 : Int32) (xs0 : Int32) : Option (Int32 × sd_Mem) := (fn_X11_isIn xs0 x6).bind fun q111 => (if q111 = 0 then fn_X11_think_136 M x5 xs0 (0 : Int64) else if (((3 : Int32) * ((1 : Int32) - x5)) + x6) < 0 ∨ 6 ≤ (((3 : Int32) * ((1 : Int32) - x5)) + x6).toNatClampNeg then none else fn_X11_think_136 M x5 xs0 ((M.1 108 (((3 : Int32) * ((1 : Int32) - x5)) + x6).toNatClampNeg).toInt64))
def fn_X11_think_0   (M : sd_Mem) (x1 : Int32) (x2 : Int32) (x3 : Int32) (x4 : Int32) (x5 : Int32) (x6 : Int32) : Option (Int32 × sd_Mem) := (fn_X11_isSort M (1 : Int32) x3).bind fun q3 => (if q3 = 0 then some ((-1 : Int32), M) else (fn_X11_last M).bind fun q13 => (fn_X11_in x4 (0 : Int32) q13).bind fun q16 => (if q16 = 0 then some ((-1 : Int32), M) else (fn_X11_in x5 (0 : Int32) (1 : Int32)).bind fun q26 => (if q26 = 0 then some ((-1 : Int32), M) else (fn_X11_isSort M ((1 : Int32) - x5) x6).bind fun q39 => (if q39 = 0 then some ((-1 : Int32), M) else (fn_X11_askedTwo M x1 x2 (1 : Int32)).bind fun q51 => (if 0 ≤ q51.1 then (fn_X11_notTaken q51.2 x1 x2 x3 x4).bind fun q70 => (if q70 = 0 then (fn_X11_meets q51.2 (4 : Int32)).bind fun q82 => some (q82.1, q82.2) else (if x5 = 0 then (fn_X11_alikeTo q51.2 x1 x3 x4).bind fun q96 => fn_X11_think_104 q51.2 x5 x6 q96 else fn_X11_think_104 q51.2 x5 x6 q70)) else some (q51.1, q51.2))))))
def fn_X11_think (M : sd_Mem) (x1 : Int32) (x2 : Int32) (x3 : Int32) (x4 : Int32) (x5 : Int32) (x6 : Int32) : Option (Int32 × sd_Mem) := fn_X11_think_0 M x1 x2 x3 x4 x5 x6

def rm_X11_pairs : Room := { frames := 2, cells := 0, slots := 0, locals := 45 }
def fn_X11_pairs_0 (M : sd_Mem)   : Option Int64 := (fn_X11_whoAll M (1 : Int32)).bind fun q4 => (fn_X11_chances M (1 : Int32) q4).bind fun q7 => (fn_X11_whoAll M (0 : Int32)).bind fun q15 => (fn_X11_chances M (0 : Int32) q15).bind fun q18 => some (q7.toInt64 * q18.toInt64)
def fn_X11_pairs (M : sd_Mem) : Option Int64 := fn_X11_pairs_0 M

def rm_X11_end : Room := { frames := 4, cells := 0, slots := 0, locals := 96 }
def fn_X11_end_53  (k39 : sd_Mem → Int32 → Int32 → Int32 → Int64 → Int32 → Option (Int32 × sd_Mem)) : Nat → sd_Mem → Int32 → Int32 → Int32 → Int64 → Int32 → Int32 → Option (Int32 × sd_Mem)
  | 0, _, _, _, _, _, _, _ => none
  | n + 1, M, x1, x2, x3, l5, x7, x8 => if (0 : Int32) < 0 ∨ 2 ≤ (0 : Int32).toNatClampNeg then none else (if (M.1 107 (0 : Int32).toNatClampNeg) ≤ x8 then k39 M x1 x2 x3 l5 (x7 + (1 : Int32)) else (fn_X11_dayOf M x1 x2 x7 x8).bind fun q73 => (if q73 = x3 then if ((3 : Int32) + x7) < 0 ∨ 6 ≤ ((3 : Int32) + x7).toNatClampNeg then none else if x8 < 0 ∨ 6 ≤ x8.toNatClampNeg then none else fn_X11_end_53 k39 n M x1 x2 x3 (l5 + (((M.1 108 ((3 : Int32) + x7).toNatClampNeg).toInt64) * ((M.1 108 x8.toNatClampNeg).toInt64))) x7 (x8 + (1 : Int32)) else fn_X11_end_53 k39 n M x1 x2 x3 (l5 + (0 : Int64)) x7 (x8 + (1 : Int32))))
def fn_X11_end_118   (M : sd_Mem) (l5 : Int64) : Option (Int32 × sd_Mem) := (fn_X11_pairs M).bind fun q122 => (fn_X11_share M l5 q122 (1 : Int32)).bind fun q126 => some (q126.1, q126.2)
def fn_X11_end_39   : Nat → sd_Mem → Int32 → Int32 → Int32 → Int64 → Int32 → Option (Int32 × sd_Mem)
  | 0, _, _, _, _, _, _ => none
  | n + 1, M, x1, x2, x3, l5, x7 => if (1 : Int32) < 0 ∨ 2 ≤ (1 : Int32).toNatClampNeg then none else (if (M.1 107 (1 : Int32).toNatClampNeg) ≤ x7 then fn_X11_end_118 M l5 else fn_X11_end_53 (fn_X11_end_39 n) sd_FU M x1 x2 x3 l5 x7 (0 : Int32))
def fn_X11_end_0   (M : sd_Mem) (x1 : Int32) (x2 : Int32) (x3 : Int32) : Option (Int32 × sd_Mem) := (fn_X11_last M).bind fun q3 => (fn_X11_in x3 (1 : Int32) (q3 + (1 : Int32))).bind fun q8 => (if q8 = 0 then some ((-1 : Int32), M) else (fn_X11_askedTwo M x1 x2 (1 : Int32)).bind fun q20 => (if 0 ≤ q20.1 then fn_X11_end_39 sd_FU q20.2 x1 x2 x3 (0 : Int64) (0 : Int32) else some (q20.1, q20.2)))
def fn_X11_end (M : sd_Mem) (x1 : Int32) (x2 : Int32) (x3 : Int32) : Option (Int32 × sd_Mem) := fn_X11_end_0 M x1 x2 x3

def rm_X11_offering : Room := { frames := 1, cells := 0, slots := 0, locals := 23 }
def fn_X11_offering_6 (M : sd_Mem)  : Nat → Int32 → Int32 → Int32 → Int32 → Int32 → Int32 → Option Int32
  | 0, _, _, _, _, _, _ => none
  | n + 1, x1, x2, x3, x4, x5, x6 => if (1 : Int32) < 0 ∨ 2 ≤ (1 : Int32).toNatClampNeg then none else (if (M.1 107 (1 : Int32).toNatClampNeg) ≤ x6 then some x5 else (fn_X11_isIn x2 x6).bind fun q22 => (if q22 = 0 then fn_X11_offering_6 M n x1 x2 x3 x4 (x5 ||| (0 : Int32)) (x6 + (1 : Int32)) else (fn_X11_number M x1 x6 x3).bind fun q33 => (if q33 = x4 then fn_X11_offering_6 M n x1 x2 x3 x4 (x5 ||| ((1 : Int32) <<< (x6 &&& 31))) (x6 + (1 : Int32)) else fn_X11_offering_6 M n x1 x2 x3 x4 (x5 ||| (0 : Int32)) (x6 + (1 : Int32)))))
def fn_X11_offering_0 (M : sd_Mem)  (x1 : Int32) (x2 : Int32) (x3 : Int32) (x4 : Int32) : Option Int32 := fn_X11_offering_6 M sd_FU x1 x2 x3 x4 (0 : Int32) (0 : Int32)
def fn_X11_offering (M : sd_Mem) (x1 : Int32) (x2 : Int32) (x3 : Int32) (x4 : Int32) : Option Int32 := fn_X11_offering_0 M x1 x2 x3 x4

def rm_X11_byJudge : Room := { frames := 2, cells := 0, slots := 0, locals := 45 }
def fn_X11_byJudge_0 (M : sd_Mem)  (x1 : Int32) (x2 : Int32) (x3 : Int32) (x4 : Int32) : Option Int64 := (fn_X11_worthOf M x1 x2 x3 (M.1 100 16)).bind fun q13 => (fn_X11_chances M ((1 : Int32) - x1) x4).bind fun q23 => (fn_X11_last M).bind fun q29 => (fn_X11_twelve (q29 - x3)).bind fun q34 => some (((((M.1 100 15).toInt64) * q13) * q23.toInt64) * q34)
def fn_X11_byJudge (M : sd_Mem) (x1 : Int32) (x2 : Int32) (x3 : Int32) (x4 : Int32) : Option Int64 := fn_X11_byJudge_0 M x1 x2 x3 x4

def rm_X11_setBestOfMen : Room := { frames := 3, cells := 0, slots := 0, locals := 69 }
def fn_X11_setBestOfMen_220  (k61 : sd_Mem → Int32 → Int32 → Int32 → Option sd_Mem) (k69 : sd_Mem → Int32 → Int32 → Int32 → Int32 → Option sd_Mem) (M : sd_Mem) (x1 : Int32) (x2 : Int32) (x3 : Int32) (x4 : Int32) (ls0 : Int64) : Option sd_Mem := (fn_X11_byJudge M (0 : Int32) x2 x3 x4).bind fun q239 => if (((8 : Int32) * x3) + x4) < 0 ∨ 96 ≤ (((8 : Int32) * x3) + x4).toNatClampNeg then none else k69 (sd_setL M 117 (((8 : Int32) * x3) + x4).toNatClampNeg (q239 + ((((12 : Int32) - (M.1 100 15)).toInt64) * ls0))) x1 x2 x3 (x4 + (1 : Int32))
def fn_X11_setBestOfMen_193  (k61 : sd_Mem → Int32 → Int32 → Int32 → Option sd_Mem) (k69 : sd_Mem → Int32 → Int32 → Int32 → Int32 → Option sd_Mem) (M : sd_Mem) (x1 : Int32) (x2 : Int32) (x3 : Int32) (x4 : Int32) (l5 : Int64) : Option sd_Mem := (if (M.1 100 14) ≤ x3 then fn_X11_setBestOfMen_220 k61 k69 M x1 x2 x3 x4 l5 else if (((8 : Int32) * (x3 + (1 : Int32))) + x4) < 0 ∨ 96 ≤ (((8 : Int32) * (x3 + (1 : Int32))) + x4).toNatClampNeg then none else fn_X11_setBestOfMen_220 k61 k69 M x1 x2 x3 x4 (M.2 117 (((8 : Int32) * (x3 + (1 : Int32))) + x4).toNatClampNeg))
def fn_X11_setBestOfMen_85  (k61 : sd_Mem → Int32 → Int32 → Int32 → Option sd_Mem) (k69 : sd_Mem → Int32 → Int32 → Int32 → Int32 → Option sd_Mem) : Nat → sd_Mem → Int32 → Int32 → Int32 → Int32 → Int64 → Int32 → Option sd_Mem
  | 0, _, _, _, _, _, _, _ => none
  | n + 1, M, x1, x2, x3, x4, l5, x7 => (if (12 : Int32) < x7 then fn_X11_setBestOfMen_193 k61 k69 M x1 x2 x3 x4 l5 else (if x3 < (M.1 100 14) then fn_X11_setBestOfMen_193 k61 k69 M x1 x2 x3 x4 l5 else (fn_X11_offering M x1 x4 x3 x7).bind fun q107 => (fn_X11_worthOf M (0 : Int32) x2 x3 x7).bind fun q118 => (fn_X11_chances M (1 : Int32) q107).bind fun q125 => (fn_X11_last M).bind fun q131 => (fn_X11_twelve (q131 - x3)).bind fun q136 => if (((8 : Int32) * (x3 + (1 : Int32))) + q107) < 0 ∨ 96 ≤ (((8 : Int32) * (x3 + (1 : Int32))) + q107).toNatClampNeg then none else (if q107 = 0 then fn_X11_setBestOfMen_85 k61 k69 n M x1 x2 x3 x4 (l5 + (0 : Int64)) (x7 + (1 : Int32)) else (if (lg_cmp ((q118 * q125.toInt64) * q136) (M.2 117 (((8 : Int32) * (x3 + (1 : Int32))) + q107).toNatClampNeg)) < 0 then fn_X11_setBestOfMen_85 k61 k69 n M x1 x2 x3 x4 (l5 + (M.2 117 (((8 : Int32) * (x3 + (1 : Int32))) + q107).toNatClampNeg)) (x7 + (1 : Int32)) else fn_X11_setBestOfMen_85 k61 k69 n M x1 x2 x3 x4 (l5 + ((q118 * q125.toInt64) * q136)) (x7 + (1 : Int32))))))
def fn_X11_setBestOfMen_69  (k61 : sd_Mem → Int32 → Int32 → Int32 → Option sd_Mem) : Nat → sd_Mem → Int32 → Int32 → Int32 → Int32 → Option sd_Mem
  | 0, _, _, _, _, _ => none
  | n + 1, M, x1, x2, x3, x4 => (fn_X11_whoAll M (1 : Int32)).bind fun q73 => (if q73 < x4 then k61 M x1 x2 (x3 + (-1 : Int32)) else fn_X11_setBestOfMen_85 k61 (fn_X11_setBestOfMen_69 k61 n) sd_FU M x1 x2 x3 x4 (0 : Int64) (0 : Int32))
def fn_X11_setBestOfMen_61   : Nat → sd_Mem → Int32 → Int32 → Int32 → Option sd_Mem
  | 0, _, _, _, _ => none
  | n + 1, M, x1, x2, x3 => (if x3 < (1 : Int32) then some M else fn_X11_setBestOfMen_69 (fn_X11_setBestOfMen_61 n) sd_FU M x1 x2 x3 (0 : Int32))
def fn_X11_setBestOfMen_2   : Nat → sd_Mem → Int32 → Int32 → Int32 → Option sd_Mem
  | 0, _, _, _, _ => none
  | n + 1, M, x1, x2, x3 => (if (8 : Int32) ≤ x3 then (fn_X11_last M).bind fun q57 => fn_X11_setBestOfMen_61 sd_FU M x1 x2 q57 else (fn_X11_last M).bind fun q15 => (fn_X11_last M).bind fun q27 => if (3 : Int32) < 0 ∨ 4 ≤ (3 : Int32).toNatClampNeg then none else (fn_X11_worthOf M (0 : Int32) x2 (q27 + (1 : Int32)) (M.1 110 (3 : Int32).toNatClampNeg)).bind fun q38 => (fn_X11_chances M (1 : Int32) x3).bind fun q44 => if (((8 : Int32) * (q15 + (1 : Int32))) + x3) < 0 ∨ 96 ≤ (((8 : Int32) * (q15 + (1 : Int32))) + x3).toNatClampNeg then none else fn_X11_setBestOfMen_2 n (sd_setL M 117 (((8 : Int32) * (q15 + (1 : Int32))) + x3).toNatClampNeg (q38 * q44.toInt64)) x1 x2 (x3 + (1 : Int32)))
def fn_X11_setBestOfMen_0   (M : sd_Mem) (x1 : Int32) (x2 : Int32) : Option sd_Mem := fn_X11_setBestOfMen_2 sd_FU M x1 x2 (0 : Int32)
def fn_X11_setBestOfMen (M : sd_Mem) (x1 : Int32) (x2 : Int32) : Option sd_Mem := fn_X11_setBestOfMen_0 M x1 x2

def rm_X11_taking : Room := { frames := 1, cells := 0, slots := 0, locals := 23 }
def fn_X11_taking_6 (M : sd_Mem)  : Nat → Int32 → Int32 → Int32 → Int32 → Int32 → Int32 → Option Int32
  | 0, _, _, _, _, _, _ => none
  | n + 1, x1, x2, x3, x4, x5, x6 => if (0 : Int32) < 0 ∨ 2 ≤ (0 : Int32).toNatClampNeg then none else (if (M.1 107 (0 : Int32).toNatClampNeg) ≤ x6 then some x5 else (fn_X11_isIn x2 x6).bind fun q22 => (if q22 = 0 then fn_X11_taking_6 M n x1 x2 x3 x4 (x5 ||| (0 : Int32)) (x6 + (1 : Int32)) else (fn_X11_number M x1 x6 x3).bind fun q35 => (if x4 < q35 then fn_X11_taking_6 M n x1 x2 x3 x4 (x5 ||| (0 : Int32)) (x6 + (1 : Int32)) else fn_X11_taking_6 M n x1 x2 x3 x4 (x5 ||| ((1 : Int32) <<< (x6 &&& 31))) (x6 + (1 : Int32)))))
def fn_X11_taking_0 (M : sd_Mem)  (x1 : Int32) (x2 : Int32) (x3 : Int32) (x4 : Int32) : Option Int32 := fn_X11_taking_6 M sd_FU x1 x2 x3 x4 (0 : Int32) (0 : Int32)
def fn_X11_taking (M : sd_Mem) (x1 : Int32) (x2 : Int32) (x3 : Int32) (x4 : Int32) : Option Int32 := fn_X11_taking_0 M x1 x2 x3 x4

def rm_X11_setBestOfOwners : Room := { frames := 3, cells := 0, slots := 0, locals := 69 }
def fn_X11_setBestOfOwners_186  (k61 : sd_Mem → Int32 → Int32 → Int32 → Option sd_Mem) (k69 : sd_Mem → Int32 → Int32 → Int32 → Int32 → Option sd_Mem) (k89 : sd_Mem → Int32 → Int32 → Int32 → Int32 → Int64 → Int32 → Int32 → Option sd_Mem) (M : sd_Mem) (x1 : Int32) (x2 : Int32) (x3 : Int32) (x4 : Int32) (l5 : Int64) (x8 : Int32) (l10 : Int64) (xs0 : Int32) : Option sd_Mem := (if xs0 = x8 then k89 M x1 x2 x3 x4 l10 xs0 (x8 + (1 : Int32)) else k89 M x1 x2 x3 x4 l5 xs0 (x8 + (1 : Int32)))
def fn_X11_setBestOfOwners_237  (k61 : sd_Mem → Int32 → Int32 → Int32 → Option sd_Mem) (k69 : sd_Mem → Int32 → Int32 → Int32 → Int32 → Option sd_Mem) (M : sd_Mem) (x1 : Int32) (x2 : Int32) (x3 : Int32) (x4 : Int32) (x7 : Int32) (ls0 : Int64) : Option sd_Mem := if (((8 : Int32) * x3) + x4) < 0 ∨ 96 ≤ (((8 : Int32) * x3) + x4).toNatClampNeg then none else (fn_X11_byJudge (sd_setI M 118 (((8 : Int32) * x3) + x4).toNatClampNeg x7) (1 : Int32) x2 x3 x4).bind fun q270 => if (((8 : Int32) * x3) + x4) < 0 ∨ 96 ≤ (((8 : Int32) * x3) + x4).toNatClampNeg then none else k69 (sd_setL (sd_setI M 118 (((8 : Int32) * x3) + x4).toNatClampNeg x7) 117 (((8 : Int32) * x3) + x4).toNatClampNeg (q270 + ((((12 : Int32) - ((sd_setI M 118 (((8 : Int32) * x3) + x4).toNatClampNeg x7).1 100 15)).toInt64) * ls0))) x1 x2 x3 (x4 + (1 : Int32))
def fn_X11_setBestOfOwners_210  (k61 : sd_Mem → Int32 → Int32 → Int32 → Option sd_Mem) (k69 : sd_Mem → Int32 → Int32 → Int32 → Int32 → Option sd_Mem) (M : sd_Mem) (x1 : Int32) (x2 : Int32) (x3 : Int32) (x4 : Int32) (l5 : Int64) (x7 : Int32) : Option sd_Mem := (if (M.1 100 14) ≤ x3 then fn_X11_setBestOfOwners_237 k61 k69 M x1 x2 x3 x4 x7 l5 else if (((8 : Int32) * (x3 + (1 : Int32))) + x4) < 0 ∨ 96 ≤ (((8 : Int32) * (x3 + (1 : Int32))) + x4).toNatClampNeg then none else fn_X11_setBestOfOwners_237 k61 k69 M x1 x2 x3 x4 x7 (M.2 117 (((8 : Int32) * (x3 + (1 : Int32))) + x4).toNatClampNeg))
def fn_X11_setBestOfOwners_89  (k61 : sd_Mem → Int32 → Int32 → Int32 → Option sd_Mem) (k69 : sd_Mem → Int32 → Int32 → Int32 → Int32 → Option sd_Mem) : Nat → sd_Mem → Int32 → Int32 → Int32 → Int32 → Int64 → Int32 → Int32 → Option sd_Mem
  | 0, _, _, _, _, _, _, _, _ => none
  | n + 1, M, x1, x2, x3, x4, l5, x7, x8 => (if (12 : Int32) < x8 then fn_X11_setBestOfOwners_210 k61 k69 M x1 x2 x3 x4 l5 x7 else (if x3 < (M.1 100 14) then fn_X11_setBestOfOwners_210 k61 k69 M x1 x2 x3 x4 l5 x7 else (fn_X11_taking M x1 x4 x3 x8).bind fun q111 => (fn_X11_worthOf M (1 : Int32) x2 x3 x8).bind fun q122 => (fn_X11_chances M (0 : Int32) q111).bind fun q129 => (fn_X11_last M).bind fun q135 => (fn_X11_twelve (q135 - x3)).bind fun q140 => if (((8 : Int32) * (x3 + (1 : Int32))) + (x4 &&& (q111 ^^^ (-1 : Int32)))) < 0 ∨ 96 ≤ (((8 : Int32) * (x3 + (1 : Int32))) + (x4 &&& (q111 ^^^ (-1 : Int32)))).toNatClampNeg then none else (if x7 < 0 then fn_X11_setBestOfOwners_186 k61 k69 (fn_X11_setBestOfOwners_89 k61 k69 n) M x1 x2 x3 x4 l5 x8 (((q122 * q129.toInt64) * q140) + (M.2 117 (((8 : Int32) * (x3 + (1 : Int32))) + (x4 &&& (q111 ^^^ (-1 : Int32)))).toNatClampNeg)) x8 else (if (lg_cmp (((q122 * q129.toInt64) * q140) + (M.2 117 (((8 : Int32) * (x3 + (1 : Int32))) + (x4 &&& (q111 ^^^ (-1 : Int32)))).toNatClampNeg)) l5) ≤ 0 then fn_X11_setBestOfOwners_186 k61 k69 (fn_X11_setBestOfOwners_89 k61 k69 n) M x1 x2 x3 x4 l5 x8 (((q122 * q129.toInt64) * q140) + (M.2 117 (((8 : Int32) * (x3 + (1 : Int32))) + (x4 &&& (q111 ^^^ (-1 : Int32)))).toNatClampNeg)) x7 else fn_X11_setBestOfOwners_186 k61 k69 (fn_X11_setBestOfOwners_89 k61 k69 n) M x1 x2 x3 x4 l5 x8 (((q122 * q129.toInt64) * q140) + (M.2 117 (((8 : Int32) * (x3 + (1 : Int32))) + (x4 &&& (q111 ^^^ (-1 : Int32)))).toNatClampNeg)) x8))))
def fn_X11_setBestOfOwners_69  (k61 : sd_Mem → Int32 → Int32 → Int32 → Option sd_Mem) : Nat → sd_Mem → Int32 → Int32 → Int32 → Int32 → Option sd_Mem
  | 0, _, _, _, _, _ => none
  | n + 1, M, x1, x2, x3, x4 => (fn_X11_whoAll M (0 : Int32)).bind fun q73 => (if q73 < x4 then k61 M x1 x2 (x3 + (-1 : Int32)) else fn_X11_setBestOfOwners_89 k61 (fn_X11_setBestOfOwners_69 k61 n) sd_FU M x1 x2 x3 x4 (0 : Int64) (-9 : Int32) (0 : Int32))
def fn_X11_setBestOfOwners_61   : Nat → sd_Mem → Int32 → Int32 → Int32 → Option sd_Mem
  | 0, _, _, _, _ => none
  | n + 1, M, x1, x2, x3 => (if x3 < (1 : Int32) then some M else fn_X11_setBestOfOwners_69 (fn_X11_setBestOfOwners_61 n) sd_FU M x1 x2 x3 (0 : Int32))
def fn_X11_setBestOfOwners_2   : Nat → sd_Mem → Int32 → Int32 → Int32 → Option sd_Mem
  | 0, _, _, _, _ => none
  | n + 1, M, x1, x2, x3 => (if (8 : Int32) ≤ x3 then (fn_X11_last M).bind fun q57 => fn_X11_setBestOfOwners_61 sd_FU M x1 x2 q57 else (fn_X11_last M).bind fun q15 => (fn_X11_last M).bind fun q27 => if (3 : Int32) < 0 ∨ 4 ≤ (3 : Int32).toNatClampNeg then none else (fn_X11_worthOf M (1 : Int32) x2 (q27 + (1 : Int32)) (M.1 110 (3 : Int32).toNatClampNeg)).bind fun q38 => (fn_X11_chances M (0 : Int32) x3).bind fun q44 => if (((8 : Int32) * (q15 + (1 : Int32))) + x3) < 0 ∨ 96 ≤ (((8 : Int32) * (q15 + (1 : Int32))) + x3).toNatClampNeg then none else fn_X11_setBestOfOwners_2 n (sd_setL M 117 (((8 : Int32) * (q15 + (1 : Int32))) + x3).toNatClampNeg (q38 * q44.toInt64)) x1 x2 (x3 + (1 : Int32)))
def fn_X11_setBestOfOwners_0   (M : sd_Mem) (x1 : Int32) (x2 : Int32) : Option sd_Mem := fn_X11_setBestOfOwners_2 sd_FU M x1 x2 (0 : Int32)
def fn_X11_setBestOfOwners (M : sd_Mem) (x1 : Int32) (x2 : Int32) : Option sd_Mem := fn_X11_setBestOfOwners_0 M x1 x2

def rm_X11_bestOf : Room := { frames := 4, cells := 0, slots := 0, locals := 101 }
def fn_X11_bestOf_19   (M : sd_Mem) (x2 : Int32) : Option (Int64 × sd_Mem) := (fn_X11_whoAll M ((1 : Int32) - x2)).bind fun q29 => if ((8 : Int32) + q29) < 0 ∨ 96 ≤ ((8 : Int32) + q29).toNatClampNeg then none else some (M.2 117 ((8 : Int32) + q29).toNatClampNeg, M)
def fn_X11_bestOf_0   (M : sd_Mem) (x1 : Int32) (x2 : Int32) (x3 : Int32) : Option (Int64 × sd_Mem) := (if x2 = 0 then (fn_X11_setBestOfMen M x1 x3).bind fun q7 => fn_X11_bestOf_19 q7 x2 else (fn_X11_setBestOfOwners M x1 x3).bind fun q16 => fn_X11_bestOf_19 q16 x2)
def fn_X11_bestOf (M : sd_Mem) (x1 : Int32) (x2 : Int32) (x3 : Int32) : Option (Int64 × sd_Mem) := fn_X11_bestOf_0 M x1 x2 x3

def rm_X11_best : Room := { frames := 5, cells := 0, slots := 0, locals := 124 }
def fn_X11_best_41   (M : sd_Mem) (x1 : Int32) (x2 : Int32) (x3 : Int32) (xs0 : Int32) (xs1 : Int32) : Option (Int32 × sd_Mem) := (if xs1 = xs0 then (fn_X11_bestOf M x1 x2 x3).bind fun q55 => (fn_X11_whole q55.2 x2).bind fun q60 => (fn_X11_share q55.2 q55.1 q60 (1 : Int32)).bind fun q64 => some (q64.1, q64.2) else (fn_X11_meets M (3 : Int32)).bind fun q46 => some (q46.1, q46.2))
def fn_X11_best_0   (M : sd_Mem) (x1 : Int32) (x2 : Int32) (x3 : Int32) : Option (Int32 × sd_Mem) := (fn_X11_isSort M x2 x3).bind fun q3 => (if q3 = 0 then some ((-1 : Int32), M) else (fn_X11_askedWay M x1).bind fun q13 => (if 0 ≤ q13.1 then if x1 < 0 ∨ 8 ≤ x1.toNatClampNeg then none else (if x2 = 0 then fn_X11_best_41 q13.2 x1 x2 x3 (1 : Int32) (q13.2.1 115 x1.toNatClampNeg) else fn_X11_best_41 q13.2 x1 x2 x3 (2 : Int32) (q13.2.1 115 x1.toNatClampNeg)) else some (q13.1, q13.2)))
def fn_X11_best (M : sd_Mem) (x1 : Int32) (x2 : Int32) (x3 : Int32) : Option (Int32 × sd_Mem) := fn_X11_best_0 M x1 x2 x3

def rm_X11_rest : Room := { frames := 5, cells := 0, slots := 0, locals := 125 }
def fn_X11_rest_70   (M : sd_Mem) (x4 : Int32) (x5 : Int32) : Option (Int32 × sd_Mem) := some (((10 : Int32) * x4) + x5, M)
def fn_X11_rest_49  (k17 : sd_Mem → Int32 → Int32 → Int32 → Option (Int32 × sd_Mem)) (k26 : sd_Mem → Int32 → Int32 → Int32 → Int32 → Option (Int32 × sd_Mem)) (M : sd_Mem) (x1 : Int32) (x2 : Int32) (x4 : Int32) (x5 : Int32) (xs0 : Int32) : Option (Int32 × sd_Mem) := (fn_X11_bestOf M xs0 x4 x5).bind fun q53 => (fn_X11_worthIn q53.2 x1 x2 x4 x5).bind fun q63 => (if (lg_cmp q53.1 q63) ≤ 0 then k26 q53.2 x1 x2 x4 (x5 + (1 : Int32)) else fn_X11_rest_70 q53.2 x4 x5)
def fn_X11_rest_26  (k17 : sd_Mem → Int32 → Int32 → Int32 → Option (Int32 × sd_Mem)) : Nat → sd_Mem → Int32 → Int32 → Int32 → Int32 → Option (Int32 × sd_Mem)
  | 0, _, _, _, _, _ => none
  | n + 1, M, x1, x2, x4, x5 => if x4 < 0 ∨ 2 ≤ x4.toNatClampNeg then none else (if (M.1 107 x4.toNatClampNeg) ≤ x5 then k17 M x1 x2 (x4 + (1 : Int32)) else (if x4 = 0 then fn_X11_rest_49 k17 (fn_X11_rest_26 k17 n) M x1 x2 x4 x5 x1 else fn_X11_rest_49 k17 (fn_X11_rest_26 k17 n) M x1 x2 x4 x5 x2))
def fn_X11_rest_17   : Nat → sd_Mem → Int32 → Int32 → Int32 → Option (Int32 × sd_Mem)
  | 0, _, _, _, _ => none
  | n + 1, M, x1, x2, x4 => (if (1 : Int32) < x4 then some ((-9 : Int32), M) else fn_X11_rest_26 (fn_X11_rest_17 n) sd_FU M x1 x2 x4 (0 : Int32))
def fn_X11_rest_0   (M : sd_Mem) (x1 : Int32) (x2 : Int32) : Option (Int32 × sd_Mem) := (fn_X11_askedTwo M x1 x2 (0 : Int32)).bind fun q4 => (if 0 ≤ q4.1 then fn_X11_rest_17 sd_FU q4.2 x1 x2 (0 : Int32) else some (q4.1, q4.2))
def fn_X11_rest (M : sd_Mem) (x1 : Int32) (x2 : Int32) : Option (Int32 × sd_Mem) := fn_X11_rest_0 M x1 x2

def rm_X11_changes : Room := { frames := 0, cells := 0, slots := 0, locals := 0 }
def fn_X11_changes_32   (M : sd_Mem) (x4 : Int32) (x5 : Int32) (xs0 : Int32) : Option (Int32 × sd_Mem) := if x5 < 0 ∨ 240 ≤ x5.toNatClampNeg then none else (if xs0 = 0 then some ((0 : Int32), sd_setI M 116 x5.toNatClampNeg x4) else some ((1 : Int32), sd_setI M 116 x5.toNatClampNeg x4))
def fn_X11_changes_0   (M : sd_Mem) (x1 : Int32) (x2 : Int32) (x3 : Int32) (x4 : Int32) : Option (Int32 × sd_Mem) := if (((((30 : Int32) * x1) + ((10 : Int32) * x2)) + x3) - (1 : Int32)) < 0 ∨ 240 ≤ (((((30 : Int32) * x1) + ((10 : Int32) * x2)) + x3) - (1 : Int32)).toNatClampNeg then none else (if (M.1 116 (((((30 : Int32) * x1) + ((10 : Int32) * x2)) + x3) - (1 : Int32)).toNatClampNeg) = x4 then fn_X11_changes_32 M x4 (((((30 : Int32) * x1) + ((10 : Int32) * x2)) + x3) - (1 : Int32)) (0 : Int32) else fn_X11_changes_32 M x4 (((((30 : Int32) * x1) + ((10 : Int32) * x2)) + x3) - (1 : Int32)) (1 : Int32))
def fn_X11_changes (M : sd_Mem) (x1 : Int32) (x2 : Int32) (x3 : Int32) (x4 : Int32) : Option (Int32 × sd_Mem) := fn_X11_changes_0 M x1 x2 x3 x4

def rm_X11_answer : Room := { frames := 4, cells := 0, slots := 0, locals := 100 }
def fn_X11_answer_135  (k20 : sd_Mem → Int32 → Int32 → Int32 → Int32 → Option (Int32 × sd_Mem)) (k48 : sd_Mem → Int32 → Int32 → Int32 → Int32 → Int32 → Int32 → Option (Int32 × sd_Mem)) (M : sd_Mem) (x1 : Int32) (x2 : Int32) (x4 : Int32) (x5 : Int32) (x7 : Int32) (x9 : Int32) (xs0 : Int32) : Option (Int32 × sd_Mem) := (fn_X11_changes M x1 x5 x7 x9).bind fun q147 => k48 q147.2 x1 x2 (x4 + q147.1) x5 xs0 (x7 + (1 : Int32))
def fn_X11_answer_107  (k20 : sd_Mem → Int32 → Int32 → Int32 → Int32 → Option (Int32 × sd_Mem)) (k48 : sd_Mem → Int32 → Int32 → Int32 → Int32 → Int32 → Int32 → Option (Int32 × sd_Mem)) (M : sd_Mem) (x1 : Int32) (x2 : Int32) (x4 : Int32) (x5 : Int32) (x6 : Int32) (x7 : Int32) (x8 : Int32) (xs0 : Int32) : Option (Int32 × sd_Mem) := (if x8 = 0 then fn_X11_answer_135 k20 k48 M x1 x2 x4 x5 x7 xs0 x6 else (fn_X11_taking M x2 x6 x7 xs0).bind fun q124 => fn_X11_answer_135 k20 k48 M x1 x2 x4 x5 x7 xs0 (x6 &&& (q124 ^^^ (-1 : Int32))))
def fn_X11_answer_83  (k20 : sd_Mem → Int32 → Int32 → Int32 → Int32 → Option (Int32 × sd_Mem)) (k48 : sd_Mem → Int32 → Int32 → Int32 → Int32 → Int32 → Int32 → Option (Int32 × sd_Mem)) (M : sd_Mem) (x1 : Int32) (x2 : Int32) (x4 : Int32) (x5 : Int32) (x6 : Int32) (x7 : Int32) (xs0 : Int32) : Option (Int32 × sd_Mem) := (if xs0 = 0 then fn_X11_answer_107 k20 k48 M x1 x2 x4 x5 x6 x7 xs0 (0 : Int32) else if (((8 : Int32) * x7) + x6) < 0 ∨ 96 ≤ (((8 : Int32) * x7) + x6).toNatClampNeg then none else fn_X11_answer_107 k20 k48 M x1 x2 x4 x5 x6 x7 xs0 (M.1 118 (((8 : Int32) * x7) + x6).toNatClampNeg))
def fn_X11_answer_48  (k20 : sd_Mem → Int32 → Int32 → Int32 → Int32 → Option (Int32 × sd_Mem)) : Nat → sd_Mem → Int32 → Int32 → Int32 → Int32 → Int32 → Int32 → Option (Int32 × sd_Mem)
  | 0, _, _, _, _, _, _, _ => none
  | n + 1, M, x1, x2, x4, x5, x6, x7 => (if (10 : Int32) < x7 then k20 M x1 x2 x4 (x5 + (1 : Int32)) else (if x7 < (M.1 100 14) then fn_X11_answer_83 k20 (fn_X11_answer_48 k20 n) M x1 x2 x4 x5 x6 x7 (0 : Int32) else (fn_X11_last M).bind fun q67 => (if q67 < x7 then fn_X11_answer_83 k20 (fn_X11_answer_48 k20 n) M x1 x2 x4 x5 x6 x7 (0 : Int32) else (if x6 = 0 then fn_X11_answer_83 k20 (fn_X11_answer_48 k20 n) M x1 x2 x4 x5 x6 x7 (0 : Int32) else fn_X11_answer_83 k20 (fn_X11_answer_48 k20 n) M x1 x2 x4 x5 x6 x7 (1 : Int32)))))
def fn_X11_answer_20   : Nat → sd_Mem → Int32 → Int32 → Int32 → Int32 → Option (Int32 × sd_Mem)
  | 0, _, _, _, _, _ => none
  | n + 1, M, x1, x2, x4, x5 => if (1 : Int32) < 0 ∨ 2 ≤ (1 : Int32).toNatClampNeg then none else (if (M.1 107 (1 : Int32).toNatClampNeg) ≤ x5 then some (x4, M) else (fn_X11_setBestOfOwners M x2 x5).bind fun q35 => (fn_X11_whoAll q35 (0 : Int32)).bind fun q40 => fn_X11_answer_48 (fn_X11_answer_20 n) sd_FU q35 x1 x2 x4 x5 q40 (1 : Int32))
def fn_X11_answer_0   (M : sd_Mem) (x1 : Int32) (x2 : Int32) : Option (Int32 × sd_Mem) := (fn_X11_askedTwo M x1 x2 (0 : Int32)).bind fun q4 => (if 0 ≤ q4.1 then fn_X11_answer_20 sd_FU q4.2 x1 x2 (0 : Int32) (0 : Int32) else some (q4.1, q4.2))
def fn_X11_answer (M : sd_Mem) (x1 : Int32) (x2 : Int32) : Option (Int32 × sd_Mem) := fn_X11_answer_0 M x1 x2

def rm_X11_wanted : Room := { frames := 2, cells := 0, slots := 0, locals := 50 }
def fn_X11_wanted_7 (M : sd_Mem)  : Nat → Int32 → Int32 → Int32 → Int32 → Int32 → Option Int32
  | 0, _, _, _, _, _ => none
  | n + 1, x1, x2, x3, x4, x5 => if (1 : Int32) < 0 ∨ 2 ≤ (1 : Int32).toNatClampNeg then none else (if (M.1 107 (1 : Int32).toNatClampNeg) ≤ x5 then some x4 else (if x3 < (M.1 100 14) then some x4 else (fn_X11_last M).bind fun q28 => (if q28 < x3 then some x4 else (fn_X11_alikeTo M x1 x5 x3).bind fun q39 => (fn_X11_number M x1 x5 x3).bind fun q49 => (fn_X11_worthOf M (0 : Int32) x2 x3 q49).bind fun q60 => (fn_X11_chances M (1 : Int32) q39).bind fun q67 => (fn_X11_last M).bind fun q73 => (fn_X11_twelve (q73 - x3)).bind fun q78 => if (((8 : Int32) * (x3 + (1 : Int32))) + q39) < 0 ∨ 96 ≤ (((8 : Int32) * (x3 + (1 : Int32))) + q39).toNatClampNeg then none else (if (lg_cmp ((q60 * q67.toInt64) * q78) (M.2 117 (((8 : Int32) * (x3 + (1 : Int32))) + q39).toNatClampNeg)) < 0 then fn_X11_wanted_7 M n x1 x2 x3 x4 (x5 + (1 : Int32)) else (if x4 ≤ q49 then fn_X11_wanted_7 M n x1 x2 x3 x4 (x5 + (1 : Int32)) else fn_X11_wanted_7 M n x1 x2 x3 q49 (x5 + (1 : Int32)))))))
def fn_X11_wanted_0 (M : sd_Mem)  (x1 : Int32) (x2 : Int32) (x3 : Int32) : Option Int32 := fn_X11_wanted_7 M sd_FU x1 x2 x3 (13 : Int32) (0 : Int32)
def fn_X11_wanted (M : sd_Mem) (x1 : Int32) (x2 : Int32) (x3 : Int32) : Option Int32 := fn_X11_wanted_0 M x1 x2 x3

def rm_X11_reply : Room := { frames := 4, cells := 0, slots := 0, locals := 101 }
def fn_X11_reply_41  (k20 : sd_Mem → Int32 → Int32 → Int32 → Int32 → Option (Int32 × sd_Mem)) : Nat → sd_Mem → Int32 → Int32 → Int32 → Int32 → Int32 → Option (Int32 × sd_Mem)
  | 0, _, _, _, _, _, _ => none
  | n + 1, M, x1, x2, x4, x5, x6 => (if (10 : Int32) < x6 then k20 M x1 x2 x4 (x5 + (1 : Int32)) else (fn_X11_wanted M x2 x5 x6).bind fun q62 => (fn_X11_changes M x1 x5 x6 q62).bind fun q65 => fn_X11_reply_41 k20 n q65.2 x1 x2 (x4 + q65.1) x5 (x6 + (1 : Int32)))
def fn_X11_reply_20   : Nat → sd_Mem → Int32 → Int32 → Int32 → Int32 → Option (Int32 × sd_Mem)
  | 0, _, _, _, _, _ => none
  | n + 1, M, x1, x2, x4, x5 => if (0 : Int32) < 0 ∨ 2 ≤ (0 : Int32).toNatClampNeg then none else (if (M.1 107 (0 : Int32).toNatClampNeg) ≤ x5 then some (x4, M) else (fn_X11_setBestOfMen M x2 x5).bind fun q35 => fn_X11_reply_41 (fn_X11_reply_20 n) sd_FU q35 x1 x2 x4 x5 (1 : Int32))
def fn_X11_reply_0   (M : sd_Mem) (x1 : Int32) (x2 : Int32) : Option (Int32 × sd_Mem) := (fn_X11_askedTwo M x2 x1 (0 : Int32)).bind fun q4 => (if 0 ≤ q4.1 then fn_X11_reply_20 sd_FU q4.2 x1 x2 (0 : Int32) (0 : Int32) else some (q4.1, q4.2))
def fn_X11_reply (M : sd_Mem) (x1 : Int32) (x2 : Int32) : Option (Int32 × sd_Mem) := fn_X11_reply_0 M x1 x2

def rm_X11_loses : Room := { frames := 4, cells := 0, slots := 0, locals := 96 }
def fn_X11_loses_37  (k23 : sd_Mem → Int32 → Int32 → Int32 → Int64 → Int32 → Option (Int32 × sd_Mem)) : Nat → sd_Mem → Int32 → Int32 → Int32 → Int64 → Int32 → Int32 → Option (Int32 × sd_Mem)
  | 0, _, _, _, _, _, _, _ => none
  | n + 1, M, x1, x2, x3, l5, x7, x8 => if (0 : Int32) < 0 ∨ 2 ≤ (0 : Int32).toNatClampNeg then none else (if (M.1 107 (0 : Int32).toNatClampNeg) ≤ x8 then k23 M x1 x2 x3 l5 (x7 + (1 : Int32)) else (fn_X11_dayOf M x1 x2 x7 x8).bind fun q55 => if ((3 : Int32) + x7) < 0 ∨ 6 ≤ ((3 : Int32) + x7).toNatClampNeg then none else if x8 < 0 ∨ 6 ≤ x8.toNatClampNeg then none else (if x3 = 0 then fn_X11_loses_37 k23 n M x1 x2 x3 (l5 + (((((q55 - (1 : Int32)).toInt64) * ((M.1 108 ((3 : Int32) + x7).toNatClampNeg).toInt64)) * ((M.1 108 x8.toNatClampNeg).toInt64)) * ((1 : Int32).toInt64))) x7 (x8 + (1 : Int32)) else if (0 : Int32) < 0 ∨ 4 ≤ (0 : Int32).toNatClampNeg then none else if ((3 : Int32) + x7) < 0 ∨ 6 ≤ ((3 : Int32) + x7).toNatClampNeg then none else if x8 < 0 ∨ 6 ≤ x8.toNatClampNeg then none else fn_X11_loses_37 k23 n M x1 x2 x3 (l5 + (((((q55 - (1 : Int32)).toInt64) * ((M.1 108 ((3 : Int32) + x7).toNatClampNeg).toInt64)) * ((M.1 108 x8.toNatClampNeg).toInt64)) * ((((M.1 110 (0 : Int32).toNatClampNeg) + (M.1 109 ((3 : Int32) + x7).toNatClampNeg)) + (M.1 109 x8.toNatClampNeg)).toInt64))) x7 (x8 + (1 : Int32))))
def fn_X11_loses_136   (M : sd_Mem) (l5 : Int64) : Option (Int32 × sd_Mem) := (fn_X11_pairs M).bind fun q140 => (fn_X11_share M l5 q140 (1 : Int32)).bind fun q144 => some (q144.1, q144.2)
def fn_X11_loses_23   : Nat → sd_Mem → Int32 → Int32 → Int32 → Int64 → Int32 → Option (Int32 × sd_Mem)
  | 0, _, _, _, _, _, _ => none
  | n + 1, M, x1, x2, x3, l5, x7 => if (1 : Int32) < 0 ∨ 2 ≤ (1 : Int32).toNatClampNeg then none else (if (M.1 107 (1 : Int32).toNatClampNeg) ≤ x7 then fn_X11_loses_136 M l5 else fn_X11_loses_37 (fn_X11_loses_23 n) sd_FU M x1 x2 x3 l5 x7 (0 : Int32))
def fn_X11_loses_0   (M : sd_Mem) (x1 : Int32) (x2 : Int32) (x3 : Int32) : Option (Int32 × sd_Mem) := (fn_X11_askedTwo M x1 x2 (1 : Int32)).bind fun q4 => (if 0 ≤ q4.1 then fn_X11_loses_23 sd_FU q4.2 x1 x2 x3 (0 : Int64) (0 : Int32) else some (q4.1, q4.2))
def fn_X11_loses (M : sd_Mem) (x1 : Int32) (x2 : Int32) (x3 : Int32) : Option (Int32 × sd_Mem) := fn_X11_loses_0 M x1 x2 x3

def rm_X11_longer : Room := { frames := 5, cells := 0, slots := 0, locals := 126 }
def fn_X11_longer_0   (M : sd_Mem) (x1 : Int32) (x2 : Int32) : Option (Int32 × sd_Mem) := (fn_X11_loses M x1 x2 (0 : Int32)).bind fun q4 => some (q4.1, q4.2)
def fn_X11_longer (M : sd_Mem) (x1 : Int32) (x2 : Int32) : Option (Int32 × sd_Mem) := fn_X11_longer_0 M x1 x2

def rm_X11_lost : Room := { frames := 5, cells := 0, slots := 0, locals := 126 }
def fn_X11_lost_0   (M : sd_Mem) (x1 : Int32) (x2 : Int32) : Option (Int32 × sd_Mem) := (fn_X11_loses M x1 x2 (1 : Int32)).bind fun q4 => some (q4.1, q4.2)
def fn_X11_lost (M : sd_Mem) (x1 : Int32) (x2 : Int32) : Option (Int32 × sd_Mem) := fn_X11_lost_0 M x1 x2

def rm_X11_morning : Room := { frames := 4, cells := 0, slots := 0, locals := 96 }
def fn_X11_morning_154  (k90 : sd_Mem → Int32 → Int32 → Int64 → Int64 → Int32 → Int32 → Option (Int32 × sd_Mem)) (M : sd_Mem) (x3 : Int32) (x4 : Int32) (l8 : Int64) (l10 : Int64) (x13 : Int32) (xs0 : Int32) : Option (Int32 × sd_Mem) := k90 M x3 x4 l8 l10 (xs0 ||| ((1 : Int32) <<< (x13 &&& 31))) (x13 + (1 : Int32))
def fn_X11_morning_90   : Nat → sd_Mem → Int32 → Int32 → Int64 → Int64 → Int32 → Int32 → Option (Int32 × sd_Mem)
  | 0, _, _, _, _, _, _, _ => none
  | n + 1, M, x3, x4, l8, l10, x12, x13 => (if (12 : Int32) < x13 then some (x12, M) else (fn_X11_worthOf M (0 : Int32) x4 (1 : Int32) x13).bind fun q104 => (fn_X11_worthOf M (1 : Int32) x3 (1 : Int32) x13).bind fun q115 => (if (lg_cmp q104 l8) < 0 then fn_X11_morning_90 n M x3 x4 l8 l10 (x12 ||| (0 : Int32)) (x13 + (1 : Int32)) else (if (lg_cmp q115 l10) < 0 then fn_X11_morning_90 n M x3 x4 l8 l10 (x12 ||| (0 : Int32)) (x13 + (1 : Int32)) else (if 0 < (lg_cmp q104 l8) then fn_X11_morning_154 (fn_X11_morning_90 n) M x3 x4 l8 l10 x13 x12 else (if (lg_cmp q115 l10) ≤ 0 then fn_X11_morning_90 n M x3 x4 l8 l10 (x12 ||| (0 : Int32)) (x13 + (1 : Int32)) else fn_X11_morning_154 (fn_X11_morning_90 n) M x3 x4 l8 l10 x13 x12)))))
def fn_X11_morning_0   (M : sd_Mem) (x1 : Int32) (x2 : Int32) (x3 : Int32) (x4 : Int32) : Option (Int32 × sd_Mem) := (fn_X11_isSort M (1 : Int32) x3).bind fun q3 => (if q3 = 0 then some ((-1 : Int32), M) else (fn_X11_isSort M (0 : Int32) x4).bind fun q13 => (if q13 = 0 then some ((-1 : Int32), M) else (fn_X11_askedTwo M x1 x2 (1 : Int32)).bind fun q25 => (if 0 ≤ q25.1 then (fn_X11_dayOf q25.2 x1 x2 x3 x4).bind fun q44 => (fn_X11_wageOn q25.2 x1 x3 q44).bind fun q54 => (fn_X11_worthOf q25.2 (0 : Int32) x4 q44 q54).bind fun q67 => (fn_X11_worthOf q25.2 (1 : Int32) x3 q44 q54).bind fun q79 => fn_X11_morning_90 sd_FU q25.2 x3 x4 q67 q79 (0 : Int32) (0 : Int32) else some (q25.1, q25.2))))
def fn_X11_morning (M : sd_Mem) (x1 : Int32) (x2 : Int32) (x3 : Int32) (x4 : Int32) : Option (Int32 × sd_Mem) := fn_X11_morning_0 M x1 x2 x3 x4

def rm_X11_losesBy : Room := { frames := 4, cells := 0, slots := 0, locals := 96 }
def fn_X11_losesBy_122 (M : sd_Mem) (k6 : Int32 → Int32 → Int32 → Int64 → Int32 → Option Int64) (k20 : Int32 → Int32 → Int32 → Int64 → Int32 → Int32 → Option Int64) (x1 : Int32) (x2 : Int32) (x3 : Int32) (l4 : Int64) (x6 : Int32) (x7 : Int32) (x8 : Int32) (x9 : Int32) (l10 : Int64) (l12 : Int64) : Option Int64 := (fn_X11_last M).bind fun q133 => (fn_X11_twelve (q133 - x9)).bind fun q139 => if ((3 : Int32) + x6) < 0 ∨ 6 ≤ ((3 : Int32) + x6).toNatClampNeg then none else if x7 < 0 ∨ 6 ≤ x7.toNatClampNeg then none else k20 x1 x2 x3 (l4 + (((l10 + ((l12 * ((x8 - (1 : Int32)).toInt64)) * q139)) * ((M.1 108 ((3 : Int32) + x6).toNatClampNeg).toInt64)) * ((M.1 108 x7.toNatClampNeg).toInt64))) x6 (x7 + (1 : Int32))
def fn_X11_losesBy_72 (M : sd_Mem) (k6 : Int32 → Int32 → Int32 → Int64 → Int32 → Option Int64) (k20 : Int32 → Int32 → Int32 → Int64 → Int32 → Int32 → Option Int64) : Nat → Int32 → Int32 → Int32 → Int64 → Int32 → Int32 → Int32 → Int32 → Int64 → Int64 → Int32 → Option Int64
  | 0, _, _, _, _, _, _, _, _, _, _, _ => none
  | n + 1, x1, x2, x3, l4, x6, x7, x8, x9, l10, l12, x14 => (if x9 < x14 then fn_X11_losesBy_122 M k6 k20 x1 x2 x3 l4 x6 x7 x8 x9 l10 l12 else (fn_X11_last M).bind fun q93 => (fn_X11_twelve (q93 - x14)).bind fun q99 => fn_X11_losesBy_72 M k6 k20 n x1 x2 x3 l4 x6 x7 x8 x9 (l10 + (((l12 * x3.toInt64) * ((x14 - (1 : Int32)).toInt64)) * q99)) (l12 * (((12 : Int32) - x3).toInt64)) (x14 + (1 : Int32)))
def fn_X11_losesBy_61 (M : sd_Mem) (k6 : Int32 → Int32 → Int32 → Int64 → Int32 → Option Int64) (k20 : Int32 → Int32 → Int32 → Int64 → Int32 → Int32 → Option Int64) (x1 : Int32) (x2 : Int32) (x3 : Int32) (l4 : Int64) (x6 : Int32) (x7 : Int32) (x8 : Int32) (xs0 : Int32) : Option Int64 := fn_X11_losesBy_72 M k6 k20 sd_FU x1 x2 x3 l4 x6 x7 x8 xs0 (0 : Int64) (1 : Int64) (1 : Int32)
def fn_X11_losesBy_20 (M : sd_Mem) (k6 : Int32 → Int32 → Int32 → Int64 → Int32 → Option Int64) : Nat → Int32 → Int32 → Int32 → Int64 → Int32 → Int32 → Option Int64
  | 0, _, _, _, _, _, _ => none
  | n + 1, x1, x2, x3, l4, x6, x7 => if (0 : Int32) < 0 ∨ 2 ≤ (0 : Int32).toNatClampNeg then none else (if (M.1 107 (0 : Int32).toNatClampNeg) ≤ x7 then k6 x1 x2 x3 l4 (x6 + (1 : Int32)) else (fn_X11_dayOf M x1 x2 x6 x7).bind fun q38 => (fn_X11_last M).bind fun q46 => (if q46 ≤ q38 then (fn_X11_last M).bind fun q58 => fn_X11_losesBy_61 M k6 (fn_X11_losesBy_20 M k6 n) x1 x2 x3 l4 x6 x7 q38 q58 else fn_X11_losesBy_61 M k6 (fn_X11_losesBy_20 M k6 n) x1 x2 x3 l4 x6 x7 q38 q38))
def fn_X11_losesBy_6 (M : sd_Mem)  : Nat → Int32 → Int32 → Int32 → Int64 → Int32 → Option Int64
  | 0, _, _, _, _, _ => none
  | n + 1, x1, x2, x3, l4, x6 => if (1 : Int32) < 0 ∨ 2 ≤ (1 : Int32).toNatClampNeg then none else (if (M.1 107 (1 : Int32).toNatClampNeg) ≤ x6 then some l4 else fn_X11_losesBy_20 M (fn_X11_losesBy_6 M n) sd_FU x1 x2 x3 l4 x6 (0 : Int32))
def fn_X11_losesBy_0 (M : sd_Mem)  (x1 : Int32) (x2 : Int32) (x3 : Int32) : Option Int64 := fn_X11_losesBy_6 M sd_FU x1 x2 x3 (0 : Int64) (0 : Int32)
def fn_X11_losesBy (M : sd_Mem) (x1 : Int32) (x2 : Int32) (x3 : Int32) : Option Int64 := fn_X11_losesBy_0 M x1 x2 x3

def rm_X11_law : Room := { frames := 5, cells := 0, slots := 0, locals := 130 }
def fn_X11_law_74  (k30 : sd_Mem → Int32 → Int32 → Int32 → Int32 → Int64 → Int32 → Option (Int32 × sd_Mem)) (k39 : sd_Mem → Int32 → Int32 → Int32 → Int32 → Int64 → Int32 → Int32 → Option (Int32 × sd_Mem)) (M : sd_Mem) (x1 : Int32) (x2 : Int32) (x4 : Int32) (x8 : Int32) (x9 : Int32) (l10 : Int64) : Option (Int32 × sd_Mem) := k39 M x1 x2 x4 (((10 : Int32) * x8) + x9) l10 x8 (x9 + (3 : Int32))
def fn_X11_law_39  (k30 : sd_Mem → Int32 → Int32 → Int32 → Int32 → Int64 → Int32 → Option (Int32 × sd_Mem)) : Nat → sd_Mem → Int32 → Int32 → Int32 → Int32 → Int64 → Int32 → Int32 → Option (Int32 × sd_Mem)
  | 0, _, _, _, _, _, _, _, _ => none
  | n + 1, M, x1, x2, x4, x5, l6, x8, x9 => (if (3 : Int32) < x9 then k30 M x1 x2 x4 x5 l6 (x8 + (1 : Int32)) else (fn_X11_losesBy (sd_setI M 100 14 x8) x1 x2 x9).bind fun q56 => (if x5 < 0 then fn_X11_law_74 k30 (fn_X11_law_39 k30 n) (sd_setI M 100 14 x8) x1 x2 x4 x8 x9 q56 else (if 0 ≤ (lg_cmp q56 l6) then fn_X11_law_39 k30 n (sd_setI M 100 14 x8) x1 x2 x4 x5 l6 x8 (x9 + (3 : Int32)) else fn_X11_law_74 k30 (fn_X11_law_39 k30 n) (sd_setI M 100 14 x8) x1 x2 x4 x8 x9 q56)))
def fn_X11_law_100   (M : sd_Mem) (x4 : Int32) (x5 : Int32) (l6 : Int64) : Option (Int32 × sd_Mem) := (fn_X11_last (sd_setI M 100 14 x4)).bind fun q110 => (fn_X11_twelve q110).bind fun q113 => (fn_X11_pairs (sd_setI M 100 14 x4)).bind fun q117 => (fn_X11_share (sd_setI M 100 14 x4) l6 (q113 * q117) x5).bind fun q123 => some (q123.1, q123.2)
def fn_X11_law_30   : Nat → sd_Mem → Int32 → Int32 → Int32 → Int32 → Int64 → Int32 → Option (Int32 × sd_Mem)
  | 0, _, _, _, _, _, _, _ => none
  | n + 1, M, x1, x2, x4, x5, l6, x8 => (if (4 : Int32) < x8 then fn_X11_law_100 M x4 x5 l6 else fn_X11_law_39 (fn_X11_law_30 n) sd_FU M x1 x2 x4 x5 l6 x8 (0 : Int32))
def fn_X11_law_0   (M : sd_Mem) (x1 : Int32) (x2 : Int32) : Option (Int32 × sd_Mem) := (fn_X11_askedTwo M x1 x2 (1 : Int32)).bind fun q4 => (if 0 ≤ q4.1 then fn_X11_law_30 sd_FU q4.2 x1 x2 (q4.2.1 100 14) (-9 : Int32) (0 : Int64) (1 : Int32) else some (q4.1, q4.2))
def fn_X11_law (M : sd_Mem) (x1 : Int32) (x2 : Int32) : Option (Int32 × sd_Mem) := fn_X11_law_0 M x1 x2

def rm_X11_isKindOfMen : Room := { frames := 1, cells := 0, slots := 0, locals := 22 }
def fn_X11_isKindOfMen_0   (x0 : Int32) : Option Int32 := (fn_X11_in x0 (0 : Int32) (5 : Int32)).bind fun q3 => if q3 &&& 1 ≠ q3 then none else some q3
def fn_X11_isKindOfMen (x0 : Int32) : Option Int32 := fn_X11_isKindOfMen_0 x0

def rm_X11_men : Room := { frames := 2, cells := 0, slots := 0, locals := 42 }
def fn_X11_men_0   (M : sd_Mem) (x1 : Int32) (x2 : Int32) (x3 : Int32) (x4 : Int32) : Option (Int32 × sd_Mem) := (fn_X11_isKindOfMen x1).bind fun q1 => (if q1 = 0 then some ((-1 : Int32), M) else (fn_X11_in x2 (0 : Int32) (99 : Int32)).bind fun q11 => (if q11 = 0 then some ((-1 : Int32), M) else (fn_X11_in x3 (0 : Int32) (99 : Int32)).bind fun q21 => (if q21 = 0 then some ((-1 : Int32), M) else (fn_X11_in x4 (0 : Int32) (100 : Int32)).bind fun q32 => (if q32 = 0 then some ((-1 : Int32), M) else if x1 < 0 ∨ 6 ≤ x1.toNatClampNeg then none else if x1 < 0 ∨ 6 ≤ x1.toNatClampNeg then none else if x1 < 0 ∨ 6 ≤ x1.toNatClampNeg then none else some ((1 : Int32), sd_setI (sd_setI (sd_setI M 119 x1.toNatClampNeg x2) 120 x1.toNatClampNeg x3) 121 x1.toNatClampNeg x4)))))
def fn_X11_men (M : sd_Mem) (x1 : Int32) (x2 : Int32) (x3 : Int32) (x4 : Int32) : Option (Int32 × sd_Mem) := fn_X11_men_0 M x1 x2 x3 x4

def rm_X11_leftBy : Room := { frames := 3, cells := 0, slots := 0, locals := 63 }
def fn_X11_leftBy_0   (M : sd_Mem) (x1 : Int32) (x2 : Int32) (x3 : Int32) (x4 : Int32) : Option (Int32 × sd_Mem) := (fn_X11_isKindOfMen x1).bind fun q1 => (if q1 = 0 then some ((-1 : Int32), M) else (fn_X11_isPlace x3 x4).bind fun q10 => (if q10 = 0 then some ((-1 : Int32), M) else (fn_X11_askedWay M x2).bind fun q20 => (if 0 ≤ q20.1 then if x2 < 0 ∨ 8 ≤ x2.toNatClampNeg then none else (if (q20.2.1 115 x2.toNatClampNeg) = (4 : Int32) then (fn_X11_number q20.2 x2 x3 x4).bind fun q59 => if x1 < 0 ∨ 6 ≤ x1.toNatClampNeg then none else if x1 < 0 ∨ 6 ≤ x1.toNatClampNeg then none else some ((sd_setI q20.2 120 x1.toNatClampNeg q59).1 120 x1.toNatClampNeg, sd_setI q20.2 120 x1.toNatClampNeg q59) else (fn_X11_meets q20.2 (3 : Int32)).bind fun q45 => some (q45.1, q45.2)) else some (q20.1, q20.2))))
def fn_X11_leftBy (M : sd_Mem) (x1 : Int32) (x2 : Int32) (x3 : Int32) (x4 : Int32) : Option (Int32 × sd_Mem) := fn_X11_leftBy_0 M x1 x2 x3 x4

def rm_X11_isFund : Room := { frames := 1, cells := 0, slots := 0, locals := 22 }
def fn_X11_isFund_0   (x0 : Int32) (x1 : Int32) : Option Int32 := (fn_X11_in x0 (0 : Int32) (9999 : Int32)).bind fun q5 => (if q5 = 0 then some (0 : Int32) else (fn_X11_in x1 (0 : Int32) (999 : Int32)).bind fun q16 => (if q16 = 0 then some (0 : Int32) else some (1 : Int32)))
def fn_X11_isFund (x0 : Int32) (x1 : Int32) : Option Int32 := fn_X11_isFund_0 x0 x1

def rm_X11_begins : Room := { frames := 0, cells := 0, slots := 0, locals := 0 }
def fn_X11_begins_22   : Nat → sd_Mem → Int32 → Option sd_Mem
  | 0, _, _ => none
  | n + 1, M, x2 => (if (6 : Int32) ≤ x2 then some M else if x2 < 0 ∨ 6 ≤ x2.toNatClampNeg then none else if x2 < 0 ∨ 6 ≤ x2.toNatClampNeg then none else fn_X11_begins_22 n (sd_setI M 122 x2.toNatClampNeg (M.1 120 x2.toNatClampNeg)) (x2 + (1 : Int32)))
def fn_X11_begins_0   (M : sd_Mem) (x1 : Int32) : Option sd_Mem := fn_X11_begins_22 sd_FU (sd_setI (sd_setI (sd_setI (sd_setI M 100 30 (0 : Int32)) 100 32 x1) 100 33 (0 : Int32)) 100 34 (0 : Int32)) (0 : Int32)
def fn_X11_begins (M : sd_Mem) (x1 : Int32) : Option sd_Mem := fn_X11_begins_0 M x1

def rm_X11_menOf : Room := { frames := 1, cells := 0, slots := 0, locals := 21 }
def fn_X11_menOf_4 (M : sd_Mem)  : Nat → Int32 → Int32 → Int32 → Option Int32
  | 0, _, _, _ => none
  | n + 1, x1, x2, x3 => (if (6 : Int32) ≤ x3 then some x2 else (fn_X11_isIn x1 x3).bind fun q13 => (if q13 = 0 then fn_X11_menOf_4 M n x1 (x2 + (0 : Int32)) (x3 + (1 : Int32)) else if x3 < 0 ∨ 6 ≤ x3.toNatClampNeg then none else fn_X11_menOf_4 M n x1 (x2 + (M.1 119 x3.toNatClampNeg)) (x3 + (1 : Int32))))
def fn_X11_menOf_0 (M : sd_Mem)  (x1 : Int32) : Option Int32 := fn_X11_menOf_4 M sd_FU x1 (0 : Int32) (0 : Int32)
def fn_X11_menOf (M : sd_Mem) (x1 : Int32) : Option Int32 := fn_X11_menOf_0 M x1

def rm_X11_goesOn : Room := { frames := 2, cells := 0, slots := 0, locals := 44 }
def fn_X11_goesOn_111  (k41 : sd_Mem → Int32 → Int32 → Option sd_Mem) (M : sd_Mem) (x1 : Int32) (x3 : Int32) : Option sd_Mem := (if (M.1 100 30) = x3 then k41 M x1 (0 : Int32) else k41 M x1 (1 : Int32))
def fn_X11_goesOn_53  (k41 : sd_Mem → Int32 → Int32 → Option sd_Mem) : Nat → sd_Mem → Int32 → Int32 → Int32 → Option sd_Mem
  | 0, _, _, _, _ => none
  | n + 1, M, x1, x3, x4 => (if (6 : Int32) ≤ x4 then fn_X11_goesOn_111 k41 M x1 x3 else (fn_X11_menOf M (M.1 100 30)).bind fun q72 => if x4 < 0 ∨ 6 ≤ x4.toNatClampNeg then none else (fn_X11_menOf M (63 : Int32)).bind fun q86 => (if ((100 : Int32) * q72) < ((M.1 121 x4.toNatClampNeg) * q86) then fn_X11_goesOn_53 k41 n (sd_setI M 100 30 ((M.1 100 30) ||| (0 : Int32))) x1 x3 (x4 + (1 : Int32)) else fn_X11_goesOn_53 k41 n (sd_setI M 100 30 ((M.1 100 30) ||| ((1 : Int32) <<< (x4 &&& 31)))) x1 x3 (x4 + (1 : Int32))))
def fn_X11_goesOn_233   : Nat → sd_Mem → Int32 → Int32 → Option sd_Mem
  | 0, _, _, _ => none
  | n + 1, M, x4, x5 => (if (6 : Int32) ≤ x5 then some M else if x5 < 0 ∨ 6 ≤ x5.toNatClampNeg then none else (if x4 = 0 then (fn_X11_isIn (M.1 100 30) x5).bind fun q259 => (if q259 = 0 then if x5 < 0 ∨ 6 ≤ x5.toNatClampNeg then none else fn_X11_goesOn_233 n (sd_setI M 122 x5.toNatClampNeg ((M.1 122 x5.toNatClampNeg) - (1 : Int32))) x4 (x5 + (1 : Int32)) else if x5 < 0 ∨ 6 ≤ x5.toNatClampNeg then none else fn_X11_goesOn_233 n (sd_setI M 122 x5.toNatClampNeg ((M.1 122 x5.toNatClampNeg) - (0 : Int32))) x4 (x5 + (1 : Int32))) else if x5 < 0 ∨ 6 ≤ x5.toNatClampNeg then none else fn_X11_goesOn_233 n (sd_setI M 122 x5.toNatClampNeg ((M.1 122 x5.toNatClampNeg) - (0 : Int32))) x4 (x5 + (1 : Int32))))
def fn_X11_goesOn_206   (M : sd_Mem) (x4 : Int32) (xs0 : Int32) : Option sd_Mem := if xs0 &&& 1 ≠ xs0 then none else (if ((sd_setI M 100 34 xs0).1 100 34) = 0 then fn_X11_goesOn_233 sd_FU (sd_setI (sd_setI M 100 34 xs0) 100 33 (((sd_setI M 100 34 xs0).1 100 33) + (1 : Int32))) x4 (0 : Int32) else fn_X11_goesOn_233 sd_FU (sd_setI (sd_setI M 100 34 xs0) 100 33 (((sd_setI M 100 34 xs0).1 100 33) + (0 : Int32))) x4 (0 : Int32))
def fn_X11_goesOn_184   (M : sd_Mem) (x4 : Int32) (xs0 : Int32) (xs1 : Int32) : Option sd_Mem := (if ((sd_setI M 100 32 (xs1 - xs0)).1 100 34) = 0 then (if x4 = 0 then fn_X11_goesOn_206 (sd_setI M 100 32 (xs1 - xs0)) x4 (1 : Int32) else fn_X11_goesOn_206 (sd_setI M 100 32 (xs1 - xs0)) x4 (0 : Int32)) else fn_X11_goesOn_206 (sd_setI M 100 32 (xs1 - xs0)) x4 (1 : Int32))
def fn_X11_goesOn_167   (M : sd_Mem) (x3 : Int32) (xs0 : Int32) : Option sd_Mem := (if xs0 = 0 then fn_X11_goesOn_184 M xs0 (0 : Int32) (M.1 100 32) else fn_X11_goesOn_184 M xs0 x3 (M.1 100 32))
def fn_X11_goesOn_128   (M : sd_Mem) (x1 : Int32) : Option sd_Mem := (fn_X11_menOf M (63 : Int32)).bind fun q131 => (fn_X11_menOf M (M.1 100 30)).bind fun q139 => (if ((sd_setI M 100 32 ((M.1 100 32) + x1)).1 100 32) < (q131 - q139) then fn_X11_goesOn_167 (sd_setI M 100 32 ((M.1 100 32) + x1)) (q131 - q139) (0 : Int32) else fn_X11_goesOn_167 (sd_setI M 100 32 ((M.1 100 32) + x1)) (q131 - q139) (1 : Int32))
def fn_X11_goesOn_41   : Nat → sd_Mem → Int32 → Int32 → Option sd_Mem
  | 0, _, _, _ => none
  | n + 1, M, x1, x2 => (if x2 = 0 then fn_X11_goesOn_128 M x1 else fn_X11_goesOn_53 (fn_X11_goesOn_41 n) sd_FU M x1 (M.1 100 30) (0 : Int32))
def fn_X11_goesOn_2   : Nat → sd_Mem → Int32 → Int32 → Option sd_Mem
  | 0, _, _, _ => none
  | n + 1, M, x1, x2 => (if (6 : Int32) ≤ x2 then fn_X11_goesOn_41 sd_FU M x1 (1 : Int32) else if x2 < 0 ∨ 6 ≤ x2.toNatClampNeg then none else (if (M.1 122 x2.toNatClampNeg) = 0 then fn_X11_goesOn_2 n (sd_setI M 100 30 ((M.1 100 30) ||| ((1 : Int32) <<< (x2 &&& 31)))) x1 (x2 + (1 : Int32)) else fn_X11_goesOn_2 n (sd_setI M 100 30 ((M.1 100 30) ||| (0 : Int32))) x1 (x2 + (1 : Int32))))
def fn_X11_goesOn_0   (M : sd_Mem) (x1 : Int32) : Option sd_Mem := fn_X11_goesOn_2 sd_FU M x1 (0 : Int32)
def fn_X11_goesOn (M : sd_Mem) (x1 : Int32) : Option sd_Mem := fn_X11_goesOn_0 M x1

def rm_X11_gone : Room := { frames := 3, cells := 0, slots := 0, locals := 69 }
def fn_X11_gone_99   (M : sd_Mem) (x4 : Int32) : Option (Int32 × sd_Mem) := (fn_X11_menOf M (M.1 100 30)).bind fun q107 => (fn_X11_ask M x4 q107).bind fun q110 => some (q110.1, q110.2)
def fn_X11_gone_51   : Nat → sd_Mem → Int32 → Int32 → Option (Int32 × sd_Mem)
  | 0, _, _, _ => none
  | n + 1, M, x4, x5 => (if (6 : Int32) ≤ x5 then fn_X11_gone_99 M x4 else (fn_X11_isIn (M.1 100 30) x5).bind fun q66 => (if q66 = 0 then fn_X11_gone_51 n M (x4 ||| (0 : Int32)) (x5 + (1 : Int32)) else if x5 < 0 ∨ 6 ≤ x5.toNatClampNeg then none else (if (M.1 119 x5.toNatClampNeg) ≤ 0 then fn_X11_gone_51 n M (x4 ||| (0 : Int32)) (x5 + (1 : Int32)) else fn_X11_gone_51 n M (x4 ||| ((1 : Int32) <<< (x5 &&& 31))) (x5 + (1 : Int32)))))
def fn_X11_gone_28   : Nat → sd_Mem → Int32 → Int32 → Int32 → Option (Int32 × sd_Mem)
  | 0, _, _, _, _ => none
  | n + 1, M, x1, x3, x4 => (if x1 < x4 then fn_X11_gone_51 sd_FU M (0 : Int32) (0 : Int32) else (fn_X11_goesOn M x3).bind fun q36 => fn_X11_gone_28 n q36 x1 x3 (x4 + (1 : Int32)))
def fn_X11_gone_0   (M : sd_Mem) (x1 : Int32) (x2 : Int32) (x3 : Int32) : Option (Int32 × sd_Mem) := (fn_X11_in x1 (1 : Int32) (99 : Int32)).bind fun q4 => (if q4 = 0 then some ((-1 : Int32), M) else (fn_X11_isFund x2 x3).bind fun q12 => (if q12 = 0 then some ((-1 : Int32), M) else (fn_X11_begins M x2).bind fun q22 => fn_X11_gone_28 sd_FU q22 x1 x3 (1 : Int32)))
def fn_X11_gone (M : sd_Mem) (x1 : Int32) (x2 : Int32) (x3 : Int32) : Option (Int32 × sd_Mem) := fn_X11_gone_0 M x1 x2 x3

def rm_X11_all : Room := { frames := 3, cells := 0, slots := 0, locals := 69 }
def fn_X11_all_17   : Nat → sd_Mem → Int32 → Int32 → Option (Int32 × sd_Mem)
  | 0, _, _, _ => none
  | n + 1, M, x2, x3 => (if (99 : Int32) < x3 then some ((-9 : Int32), M) else (fn_X11_goesOn M x2).bind fun q25 => (fn_X11_menOf q25 (q25.1 100 30)).bind fun q33 => (fn_X11_menOf q25 (63 : Int32)).bind fun q39 => (if q33 = q39 then some (x3, q25) else fn_X11_all_17 n q25 x2 (x3 + (1 : Int32))))
def fn_X11_all_0   (M : sd_Mem) (x1 : Int32) (x2 : Int32) : Option (Int32 × sd_Mem) := (fn_X11_isFund x1 x2).bind fun q2 => (if q2 = 0 then some ((-1 : Int32), M) else (fn_X11_begins M x1).bind fun q12 => fn_X11_all_17 sd_FU q12 x2 (1 : Int32))
def fn_X11_all (M : sd_Mem) (x1 : Int32) (x2 : Int32) : Option (Int32 × sd_Mem) := fn_X11_all_0 M x1 x2

def rm_X11_turnsAll : Room := { frames := 3, cells := 0, slots := 0, locals := 69 }
def fn_X11_turnsAll_34   (M : sd_Mem) : Option (Int32 × sd_Mem) := (fn_X11_menOf M (M.1 100 30)).bind fun q39 => (fn_X11_menOf M (63 : Int32)).bind fun q45 => (if q39 = q45 then some ((1 : Int32), M) else some ((0 : Int32), M))
def fn_X11_turnsAll_18   : Nat → sd_Mem → Int32 → Int32 → Option (Int32 × sd_Mem)
  | 0, _, _, _ => none
  | n + 1, M, x1, x3 => (if x1 < x3 then fn_X11_turnsAll_34 M else (fn_X11_goesOn M (0 : Int32)).bind fun q25 => fn_X11_turnsAll_18 n q25 x1 (x3 + (1 : Int32)))
def fn_X11_turnsAll_0   (M : sd_Mem) (x1 : Int32) (x2 : Int32) : Option (Int32 × sd_Mem) := (fn_X11_begins M (0 : Int32)).bind fun q2 => (if x2 < 0 then fn_X11_turnsAll_18 sd_FU q2 x1 (1 : Int32) else if x2 < 0 ∨ 6 ≤ x2.toNatClampNeg then none else fn_X11_turnsAll_18 sd_FU (sd_setI q2 122 x2.toNatClampNeg (0 : Int32)) x1 (1 : Int32))
def fn_X11_turnsAll (M : sd_Mem) (x1 : Int32) (x2 : Int32) : Option (Int32 × sd_Mem) := fn_X11_turnsAll_0 M x1 x2

def rm_X11_turns : Room := { frames := 4, cells := 0, slots := 0, locals := 92 }
def fn_X11_turns_17   : Nat → sd_Mem → Int32 → Int32 → Int32 → Option (Int32 × sd_Mem)
  | 0, _, _, _, _ => none
  | n + 1, M, x1, x2, x3 => (if (6 : Int32) ≤ x3 then some (x2, M) else (fn_X11_turnsAll M x1 (-9 : Int32)).bind fun q27 => (if q27.1 = 0 then if x3 < 0 ∨ 6 ≤ x3.toNatClampNeg then none else (if (q27.2.1 119 x3.toNatClampNeg) ≤ 0 then fn_X11_turns_17 n q27.2 x1 x2 (x3 + (1 : Int32)) else (fn_X11_turnsAll q27.2 x1 x3).bind fun q45 => (if q45.1 = 0 then fn_X11_turns_17 n q45.2 x1 x2 (x3 + (1 : Int32)) else (if x2 < 0 then fn_X11_turns_17 n q45.2 x1 x3 (x3 + (1 : Int32)) else if x3 < 0 ∨ 6 ≤ x3.toNatClampNeg then none else if x2 < 0 ∨ 6 ≤ x2.toNatClampNeg then none else (if (q45.2.1 119 x2.toNatClampNeg) ≤ (q45.2.1 119 x3.toNatClampNeg) then fn_X11_turns_17 n q45.2 x1 x2 (x3 + (1 : Int32)) else fn_X11_turns_17 n q45.2 x1 x3 (x3 + (1 : Int32)))))) else some (x2, q27.2)))
def fn_X11_turns_0   (M : sd_Mem) (x1 : Int32) : Option (Int32 × sd_Mem) := (fn_X11_in x1 (1 : Int32) (99 : Int32)).bind fun q4 => (if q4 = 0 then some ((-1 : Int32), M) else fn_X11_turns_17 sd_FU M x1 (-9 : Int32) (0 : Int32))
def fn_X11_turns (M : sd_Mem) (x1 : Int32) : Option (Int32 × sd_Mem) := fn_X11_turns_0 M x1

def rm_X11_fund : Room := { frames := 3, cells := 0, slots := 0, locals := 69 }
def fn_X11_fund_17   : Nat → sd_Mem → Int32 → Int32 → Option (Int32 × sd_Mem)
  | 0, _, _, _ => none
  | n + 1, M, x2, x3 => (if (99 : Int32) < x3 then some (M.1 100 33, M) else (fn_X11_goesOn M x2).bind fun q25 => fn_X11_fund_17 n q25 x2 (x3 + (1 : Int32)))
def fn_X11_fund_0   (M : sd_Mem) (x1 : Int32) (x2 : Int32) : Option (Int32 × sd_Mem) := (fn_X11_isFund x1 x2).bind fun q2 => (if q2 = 0 then some ((-1 : Int32), M) else (fn_X11_begins M x1).bind fun q12 => fn_X11_fund_17 sd_FU q12 x2 (1 : Int32))
def fn_X11_fund (M : sd_Mem) (x1 : Int32) (x2 : Int32) : Option (Int32 × sd_Mem) := fn_X11_fund_0 M x1 x2

def rm_X11_pact : Room := { frames := 1, cells := 0, slots := 0, locals := 22 }
def fn_X11_pact_35   : Nat → Int32 → Int32 → Int32 → Int32 → Option Int32
  | 0, _, _, _, _ => none
  | n + 1, x1, x2, x3, x4 => (if (99 : Int32) < x4 then some (-9 : Int32) else (if (x2 * x4) < (x3 * (x1 - (1 : Int32))) then fn_X11_pact_35 n x1 x2 x3 (x4 + (1 : Int32)) else some x4))
def fn_X11_pact_0   (x1 : Int32) (x2 : Int32) (x3 : Int32) : Option Int32 := (fn_X11_in x1 (1 : Int32) (9 : Int32)).bind fun q4 => (if q4 = 0 then some (-1 : Int32) else (fn_X11_in x2 (0 : Int32) (99 : Int32)).bind fun q14 => (if q14 = 0 then some (-1 : Int32) else (fn_X11_in x3 (0 : Int32) (99 : Int32)).bind fun q24 => (if q24 = 0 then some (-1 : Int32) else fn_X11_pact_35 sd_FU x1 x2 x3 (1 : Int32))))
def fn_X11_pact (x1 : Int32) (x2 : Int32) (x3 : Int32) : Option Int32 := fn_X11_pact_0 x1 x2 x3

def rm_X11_asked : Room := { frames := 0, cells := 0, slots := 0, locals := 0 }
def fn_X11_asked_0 (M : sd_Mem)   : Option Int32 := some (M.1 100 2)
def fn_X11_asked (M : sd_Mem) : Option Int32 := fn_X11_asked_0 M

def rm_X11_upper : Room := { frames := 0, cells := 0, slots := 0, locals := 0 }
def fn_X11_upper_0 (M : sd_Mem)   : Option Int64 := some (M.2 100 3)
def fn_X11_upper (M : sd_Mem) : Option Int64 := fn_X11_upper_0 M

def rm_X11_lower : Room := { frames := 0, cells := 0, slots := 0, locals := 0 }
def fn_X11_lower_0 (M : sd_Mem)   : Option Int64 := some (M.2 100 4)
def fn_X11_lower (M : sd_Mem) : Option Int64 := fn_X11_lower_0 M

def rm_X11_counts : Room := { frames := 2, cells := 0, slots := 0, locals := 44 }
def fn_X11_counts_95 (M : sd_Mem) (k74 : Int32 → Int32 → Int32 → Option Int32) (x1 : Int32) (x3 : Int32) (xs0 : Int32) : Option Int32 := (if x1 = (3 : Int32) then if x3 < 0 ∨ 8 ≤ x3.toNatClampNeg then none else (fn_X11_in (M.1 115 x3.toNatClampNeg) (2 : Int32) (3 : Int32)).bind fun q108 => (if q108 = 0 then k74 x1 (xs0 + (0 : Int32)) (x3 + (1 : Int32)) else k74 x1 (xs0 + (1 : Int32)) (x3 + (1 : Int32))) else k74 x1 (xs0 + (0 : Int32)) (x3 + (1 : Int32)))
def fn_X11_counts_127 (M : sd_Mem)  (x1 : Int32) (x2 : Int32) : Option Int32 := (if x1 = (4 : Int32) then (fn_X11_menOf M (63 : Int32)).bind fun q135 => some q135 else some x2)
def fn_X11_counts_74 (M : sd_Mem)  : Nat → Int32 → Int32 → Int32 → Option Int32
  | 0, _, _, _ => none
  | n + 1, x1, x2, x3 => (if (8 : Int32) ≤ x3 then fn_X11_counts_127 M x1 x2 else (if x1 = (2 : Int32) then if x3 < 0 ∨ 8 ≤ x3.toNatClampNeg then none else (if 0 ≤ (M.1 115 x3.toNatClampNeg) then fn_X11_counts_74 M n x1 (x2 + (1 : Int32)) (x3 + (1 : Int32)) else fn_X11_counts_95 M (fn_X11_counts_74 M n) x1 x3 x2) else fn_X11_counts_95 M (fn_X11_counts_74 M n) x1 x3 x2))
def fn_X11_counts_39 (M : sd_Mem)  : Nat → Int32 → Int32 → Int32 → Option Int32
  | 0, _, _, _ => none
  | n + 1, x1, x2, x3 => (if (4 : Int32) ≤ x3 then fn_X11_counts_74 M sd_FU x1 x2 (0 : Int32) else (if x1 = (1 : Int32) then if x3 < 0 ∨ 4 ≤ x3.toNatClampNeg then none else (if (M.1 105 x3.toNatClampNeg) < 0 then fn_X11_counts_39 M n x1 (x2 + (0 : Int32)) (x3 + (1 : Int32)) else fn_X11_counts_39 M n x1 (x2 + (1 : Int32)) (x3 + (1 : Int32))) else fn_X11_counts_39 M n x1 (x2 + (0 : Int32)) (x3 + (1 : Int32))))
def fn_X11_counts_4 (M : sd_Mem)  : Nat → Int32 → Int32 → Int32 → Option Int32
  | 0, _, _, _ => none
  | n + 1, x1, x2, x3 => (if (6 : Int32) ≤ x3 then fn_X11_counts_39 M sd_FU x1 x2 (0 : Int32) else (if x1 = 0 then if x3 < 0 ∨ 6 ≤ x3.toNatClampNeg then none else (if (M.1 102 x3.toNatClampNeg) < 0 then fn_X11_counts_4 M n x1 (x2 + (0 : Int32)) (x3 + (1 : Int32)) else fn_X11_counts_4 M n x1 (x2 + (1 : Int32)) (x3 + (1 : Int32))) else fn_X11_counts_4 M n x1 (x2 + (0 : Int32)) (x3 + (1 : Int32))))
def fn_X11_counts_0 (M : sd_Mem)  (x1 : Int32) : Option Int32 := fn_X11_counts_4 M sd_FU x1 (0 : Int32) (0 : Int32)
def fn_X11_counts (M : sd_Mem) (x1 : Int32) : Option Int32 := fn_X11_counts_0 M x1

def rm_X11_count : Room := { frames := 3, cells := 0, slots := 0, locals := 67 }
def fn_X11_count_0 (M : sd_Mem)  (x1 : Int32) : Option Int32 := (fn_X11_in x1 (0 : Int32) (4 : Int32)).bind fun q3 => (if q3 = 0 then some (-1 : Int32) else (fn_X11_counts M x1).bind fun q11 => some q11)
def fn_X11_count (M : sd_Mem) (x1 : Int32) : Option Int32 := fn_X11_count_0 M x1

def rm_X11_finding : Room := { frames := 0, cells := 0, slots := 0, locals := 0 }
def fn_X11_finding_0 (M : sd_Mem)   : Option Int32 := some (M.1 100 0)
def fn_X11_finding (M : sd_Mem) : Option Int32 := fn_X11_finding_0 M

def rm_X11_findings : Room := { frames := 1, cells := 0, slots := 0, locals := 22 }
def fn_X11_findings_0 (M : sd_Mem)  (x1 : Int32) : Option Int32 := (fn_X11_in x1 (1 : Int32) (5 : Int32)).bind fun q3 => (if q3 = 0 then some (-1 : Int32) else if x1 < 0 ∨ 6 ≤ x1.toNatClampNeg then none else some (M.1 101 x1.toNatClampNeg))
def fn_X11_findings (M : sd_Mem) (x1 : Int32) : Option Int32 := fn_X11_findings_0 M x1

def rm_X11_mix : Room := { frames := 0, cells := 0, slots := 0, locals := 0 }
def fn_X11_mix_0   (M : sd_Mem) (x1 : Int32) : Option sd_Mem := some (sd_setL M 100 35 (((31 : Int64) * (M.2 100 35)) + x1.toInt64))
def fn_X11_mix (M : sd_Mem) (x1 : Int32) : Option sd_Mem := fn_X11_mix_0 M x1

def rm_X11_mixQuarrel : Room := { frames := 1, cells := 0, slots := 0, locals := 21 }
def fn_X11_mixQuarrel_32  (k25 : sd_Mem → Int32 → Option sd_Mem) : Nat → sd_Mem → Int32 → Int32 → Option sd_Mem
  | 0, _, _, _ => none
  | n + 1, M, x1, x2 => if x1 < 0 ∨ 2 ≤ x1.toNatClampNeg then none else (if (M.1 107 x1.toNatClampNeg) ≤ x2 then k25 M (x1 + (1 : Int32)) else if (((3 : Int32) * x1) + x2) < 0 ∨ 6 ≤ (((3 : Int32) * x1) + x2).toNatClampNeg then none else (fn_X11_mix M (M.1 108 (((3 : Int32) * x1) + x2).toNatClampNeg)).bind fun q53 => if (((3 : Int32) * x1) + x2) < 0 ∨ 6 ≤ (((3 : Int32) * x1) + x2).toNatClampNeg then none else (fn_X11_mix q53 (q53.1 109 (((3 : Int32) * x1) + x2).toNatClampNeg)).bind fun q67 => fn_X11_mixQuarrel_32 k25 n q67 x1 (x2 + (1 : Int32)))
def fn_X11_mixQuarrel_115  (k84 : sd_Mem → Int32 → Option sd_Mem) : Nat → sd_Mem → Int32 → Int32 → Option sd_Mem
  | 0, _, _, _ => none
  | n + 1, M, x1, x2 => (if (30 : Int32) ≤ x2 then k84 M (x1 + (1 : Int32)) else if x1 < 0 ∨ 8 ≤ x1.toNatClampNeg then none else (if (M.1 115 x1.toNatClampNeg) < 0 then k84 M (x1 + (1 : Int32)) else if (((30 : Int32) * x1) + x2) < 0 ∨ 240 ≤ (((30 : Int32) * x1) + x2).toNatClampNeg then none else (fn_X11_mix M (M.1 116 (((30 : Int32) * x1) + x2).toNatClampNeg)).bind fun q142 => fn_X11_mixQuarrel_115 k84 n q142 x1 (x2 + (1 : Int32))))
def fn_X11_mixQuarrel_159   : Nat → sd_Mem → Int32 → Option sd_Mem
  | 0, _, _ => none
  | n + 1, M, x1 => (if (6 : Int32) ≤ x1 then some M else if x1 < 0 ∨ 6 ≤ x1.toNatClampNeg then none else (fn_X11_mix M (M.1 119 x1.toNatClampNeg)).bind fun q172 => if x1 < 0 ∨ 6 ≤ x1.toNatClampNeg then none else (fn_X11_mix q172 (q172.1 120 x1.toNatClampNeg)).bind fun q182 => if x1 < 0 ∨ 6 ≤ x1.toNatClampNeg then none else (fn_X11_mix q182 (q182.1 121 x1.toNatClampNeg)).bind fun q192 => fn_X11_mixQuarrel_159 n q192 (x1 + (1 : Int32)))
def fn_X11_mixQuarrel_84   : Nat → sd_Mem → Int32 → Option sd_Mem
  | 0, _, _ => none
  | n + 1, M, x1 => (if (8 : Int32) ≤ x1 then fn_X11_mixQuarrel_159 sd_FU M (0 : Int32) else if x1 < 0 ∨ 8 ≤ x1.toNatClampNeg then none else (if 0 ≤ (M.1 115 x1.toNatClampNeg) then if x1 < 0 ∨ 8 ≤ x1.toNatClampNeg then none else (fn_X11_mix M (M.1 115 x1.toNatClampNeg)).bind fun q110 => fn_X11_mixQuarrel_115 (fn_X11_mixQuarrel_84 n) sd_FU q110 x1 (0 : Int32) else (fn_X11_mix M (-1 : Int32)).bind fun q110 => fn_X11_mixQuarrel_115 (fn_X11_mixQuarrel_84 n) sd_FU q110 x1 (0 : Int32)))
def fn_X11_mixQuarrel_25   : Nat → sd_Mem → Int32 → Option sd_Mem
  | 0, _, _ => none
  | n + 1, M, x1 => (if (2 : Int32) ≤ x1 then fn_X11_mixQuarrel_84 sd_FU M (0 : Int32) else fn_X11_mixQuarrel_32 (fn_X11_mixQuarrel_25 n) sd_FU M x1 (0 : Int32))
def fn_X11_mixQuarrel_2   : Nat → sd_Mem → Int32 → Option sd_Mem
  | 0, _, _ => none
  | n + 1, M, x1 => (if (8 : Int32) < x1 then fn_X11_mixQuarrel_25 sd_FU M (0 : Int32) else (fn_X11_tells M x1).bind fun q11 => (fn_X11_mix M q11).bind fun q14 => fn_X11_mixQuarrel_2 n q14 (x1 + (1 : Int32)))
def fn_X11_mixQuarrel_0   (M : sd_Mem) : Option sd_Mem := fn_X11_mixQuarrel_2 sd_FU M (0 : Int32)
def fn_X11_mixQuarrel (M : sd_Mem) : Option sd_Mem := fn_X11_mixQuarrel_0 M

def rm_X11_digest : Room := { frames := 3, cells := 0, slots := 0, locals := 67 }
def fn_X11_digest_66  (k35 : sd_Mem → Int32 → Option (Int64 × sd_Mem)) : Nat → sd_Mem → Int32 → Int32 → Option (Int64 × sd_Mem)
  | 0, _, _, _ => none
  | n + 1, M, x1, x2 => if x1 < 0 ∨ 6 ≤ x1.toNatClampNeg then none else (if (M.1 102 x1.toNatClampNeg) ≤ x2 then k35 M (x1 + (1 : Int32)) else (fn_X11_rowAt M x1 x2).bind fun q80 => (fn_X11_mix M q80).bind fun q83 => fn_X11_digest_66 k35 n q83 x1 (x2 + (1 : Int32)))
def fn_X11_digest_130  (k100 : sd_Mem → Int32 → Option (Int64 × sd_Mem)) : Nat → sd_Mem → Int32 → Int32 → Option (Int64 × sd_Mem)
  | 0, _, _, _ => none
  | n + 1, M, x1, x2 => if x1 < 0 ∨ 4 ≤ x1.toNatClampNeg then none else (if (M.1 105 x1.toNatClampNeg) ≤ x2 then k100 M (x1 + (1 : Int32)) else if (((60 : Int32) * x1) + x2) < 0 ∨ 240 ≤ (((60 : Int32) * x1) + x2).toNatClampNeg then none else (fn_X11_mix M (M.1 106 (((60 : Int32) * x1) + x2).toNatClampNeg)).bind fun q152 => fn_X11_digest_130 k100 n q152 x1 (x2 + (1 : Int32)))
def fn_X11_digest_100   : Nat → sd_Mem → Int32 → Option (Int64 × sd_Mem)
  | 0, _, _ => none
  | n + 1, M, x1 => (if (4 : Int32) ≤ x1 then some (M.2 100 35, M) else if x1 < 0 ∨ 4 ≤ x1.toNatClampNeg then none else (if 0 ≤ (M.1 105 x1.toNatClampNeg) then if x1 < 0 ∨ 4 ≤ x1.toNatClampNeg then none else (fn_X11_mix M (M.1 105 x1.toNatClampNeg)).bind fun q125 => fn_X11_digest_130 (fn_X11_digest_100 n) sd_FU q125 x1 (0 : Int32) else (fn_X11_mix M (-1 : Int32)).bind fun q125 => fn_X11_digest_130 (fn_X11_digest_100 n) sd_FU q125 x1 (0 : Int32)))
def fn_X11_digest_35   : Nat → sd_Mem → Int32 → Option (Int64 × sd_Mem)
  | 0, _, _ => none
  | n + 1, M, x1 => (if (6 : Int32) ≤ x1 then fn_X11_digest_100 sd_FU M (0 : Int32) else if x1 < 0 ∨ 6 ≤ x1.toNatClampNeg then none else (if 0 ≤ (M.1 102 x1.toNatClampNeg) then if x1 < 0 ∨ 6 ≤ x1.toNatClampNeg then none else (fn_X11_mix M (M.1 102 x1.toNatClampNeg)).bind fun q61 => fn_X11_digest_66 (fn_X11_digest_35 n) sd_FU q61 x1 (0 : Int32) else (fn_X11_mix M (-1 : Int32)).bind fun q61 => fn_X11_digest_66 (fn_X11_digest_35 n) sd_FU q61 x1 (0 : Int32)))
def fn_X11_digest_9   : Nat → sd_Mem → Int32 → Option (Int64 × sd_Mem)
  | 0, _, _ => none
  | n + 1, M, x1 => (if (4 : Int32) < x1 then (fn_X11_mixQuarrel M).bind fun q30 => fn_X11_digest_35 sd_FU q30 (0 : Int32) else (fn_X11_counts M x1).bind fun q17 => (fn_X11_mix M q17).bind fun q20 => fn_X11_digest_9 n q20 (x1 + (1 : Int32)))
def fn_X11_digest_0   (M : sd_Mem) : Option (Int64 × sd_Mem) := fn_X11_digest_9 sd_FU (sd_setL M 100 35 (17 : Int64)) (0 : Int32)
def fn_X11_digest (M : sd_Mem) : Option (Int64 × sd_Mem) := fn_X11_digest_0 M
