section SDM
variable {K : sd_K} {R : Room} {E : sd_Env} {L : List Nat} {nL : Nat} {Q : State → Prop} {M : sd_Mem} {pc n' : Nat} {lv lv' : List (Nat × Value)} {st : List Value} {own : String} {cc : ByteArray} {ret : Option FieldType}
theorem sd_mmax (C : sd_C K E L own cc nL ret) {index : Nat} {x y : Int32} (w1 : Cond.methodLink own index Lib.Math.max.name ∈ sd_TW) (w2 : Cond.static Lib.Math.max.name ∈ sd_TW) (w3 : Cond.initialized "java/lang/Math" ∈ sd_TW) (w4 : Cond.code Lib.Math.max.name Lib.Math.max.code 2 (some .int) ∈ sd_TW) (hframes : 1 ≤ R.frames) (hlocals : (st.map fun v => v.category).sum + 15 ≤ R.locals) (hd : decode cc pc = .ok (.invokestatic index, 3)) (hn : pc + 3 = n') (k : sd_Z K R E L nL Q M n' lv (.int (if x < y then y else x) :: st)) : sd_Z K R E L nL Q M pc lv (.int y :: .int x :: st) := by
  subst hn
  intro H locs ls hP hD hS hl
  exact va_mmax C.1 C.2.1 (by rw [hl.1]; exact C.2.2.1) C.2.2.2.1 (C.2.2.2.2.1 _ w1) (C.2.2.2.2.1 _ w2) (C.2.2.2.2.1 _ w3) (C.2.2.2.2.1 _ w4) hframes (by omega) (Nat.zero_le _) (Nat.zero_le _) hd (k H locs ls hP hD hS hl)
theorem sd_mmin (C : sd_C K E L own cc nL ret) {index : Nat} {x y : Int32} (w1 : Cond.methodLink own index Lib.Math.min.name ∈ sd_TW) (w2 : Cond.static Lib.Math.min.name ∈ sd_TW) (w3 : Cond.initialized "java/lang/Math" ∈ sd_TW) (w4 : Cond.code Lib.Math.min.name Lib.Math.min.code 2 (some .int) ∈ sd_TW) (hframes : 1 ≤ R.frames) (hlocals : (st.map fun v => v.category).sum + 15 ≤ R.locals) (hd : decode cc pc = .ok (.invokestatic index, 3)) (hn : pc + 3 = n') (k : sd_Z K R E L nL Q M n' lv (.int (if y < x then y else x) :: st)) : sd_Z K R E L nL Q M pc lv (.int y :: .int x :: st) := by
  subst hn
  intro H locs ls hP hD hS hl
  exact va_mmin C.1 C.2.1 (by rw [hl.1]; exact C.2.2.1) C.2.2.2.1 (C.2.2.2.2.1 _ w1) (C.2.2.2.2.1 _ w2) (C.2.2.2.2.1 _ w3) (C.2.2.2.2.1 _ w4) hframes (by omega) (Nat.zero_le _) (Nat.zero_le _) hd (k H locs ls hP hD hS hl)
theorem sd_mmaxL (C : sd_C K E L own cc nL ret) {index : Nat} {x y : Int64} (w1 : Cond.methodLink own index Lib.MathLoose.max_long.x ∈ sd_TW) (w2 : Cond.static Lib.MathLoose.max_long.x ∈ sd_TW) (w3 : Cond.initialized "java/lang/Math" ∈ sd_TW) (w4 : Cond.code Lib.MathLoose.max_long.x Lib.MathLoose.max_long.code 4 (some .long) ∈ sd_TW) (hframes : 1 ≤ R.frames) (hlocals : (st.map fun v => v.category).sum + 15 ≤ R.locals) (hd : decode cc pc = .ok (.invokestatic index, 3)) (hn : pc + 3 = n') (k : sd_Z K R E L nL Q M n' lv (.long (if y < x then x else y) :: st)) : sd_Z K R E L nL Q M pc lv (.long y :: .long x :: st) := by
  subst hn
  intro H locs ls hP hD hS hl
  exact va_mmax_long C.1 C.2.1 (by rw [hl.1]; exact C.2.2.1) C.2.2.2.1 (C.2.2.2.2.1 _ w1) (C.2.2.2.2.1 _ w2) (C.2.2.2.2.1 _ w3) (C.2.2.2.2.1 _ w4) hframes (by omega) (Nat.zero_le _) (Nat.zero_le _) hd (k H locs ls hP hD hS hl)
theorem sd_mabsL (C : sd_C K E L own cc nL ret) {index : Nat} {x : Int64} (w1 : Cond.methodLink own index Lib.MathLoose.abs_long.x ∈ sd_TW) (w2 : Cond.static Lib.MathLoose.abs_long.x ∈ sd_TW) (w3 : Cond.initialized "java/lang/Math" ∈ sd_TW) (w4 : Cond.code Lib.MathLoose.abs_long.x Lib.MathLoose.abs_long.code 2 (some .long) ∈ sd_TW) (hframes : 1 ≤ R.frames) (hlocals : (st.map fun v => v.category).sum + 15 ≤ R.locals) (hd : decode cc pc = .ok (.invokestatic index, 3)) (hn : pc + 3 = n') (k : sd_Z K R E L nL Q M n' lv (.long (if 0 < x then x else -x) :: st)) : sd_Z K R E L nL Q M pc lv (.long x :: st) := by
  subst hn
  intro H locs ls hP hD hS hl
  exact va_mabs_long C.1 C.2.1 (by rw [hl.1]; exact C.2.2.1) C.2.2.2.1 (C.2.2.2.2.1 _ w1) (C.2.2.2.2.1 _ w2) (C.2.2.2.2.1 _ w3) (C.2.2.2.2.1 _ w4) hframes (by omega) (Nat.zero_le _) (Nat.zero_le _) hd (k H locs ls hP hD hS hl)
end SDM
theorem sd_wm_mmax_s : Cond.static Lib.Math.max.name ∈ sd_TW := sd_tw 307 (by decide +kernel) rfl
theorem sd_wm_mmax_c : Cond.code Lib.Math.max.name Lib.Math.max.code 2 (some .int) ∈ sd_TW := sd_tw 308 (by decide +kernel) rfl
theorem sd_wm_mmin_s : Cond.static Lib.Math.min.name ∈ sd_TW := sd_tw 389 (by decide +kernel) rfl
theorem sd_wm_mmin_c : Cond.code Lib.Math.min.name Lib.Math.min.code 2 (some .int) ∈ sd_TW := sd_tw 390 (by decide +kernel) rfl
theorem sd_wm_mmaxL_s : Cond.static Lib.MathLoose.max_long.x ∈ sd_TW := sd_tw 804 (by decide +kernel) rfl
theorem sd_wm_mmaxL_c : Cond.code Lib.MathLoose.max_long.x Lib.MathLoose.max_long.code 4 (some .long) ∈ sd_TW := sd_tw 805 (by decide +kernel) rfl
theorem sd_wm_mabsL_s : Cond.static Lib.MathLoose.abs_long.x ∈ sd_TW := sd_tw 723 (by decide +kernel) rfl
theorem sd_wm_mabsL_c : Cond.code Lib.MathLoose.abs_long.x Lib.MathLoose.abs_long.code 2 (some .long) ∈ sd_TW := sd_tw 724 (by decide +kernel) rfl
theorem sd_fst {α β : Type} {a : α} {b : β} {r : α × β} (h : some (a, b) = some r) : a = r.1 := by cases h; rfl
theorem sd_snd {α β : Type} {a : α} {b : β} {r : α × β} (h : some (a, b) = some r) : b = r.2 := by cases h; rfl
