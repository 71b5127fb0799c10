theorem sd_mem_X1_init40 {e0 e1 e2 e3 : Nat × va_E} {T : va_W} {E : sd_Env} {q : Nat} {u : Nat → Nat} : (q, (.inr (1, [.ref (u 0), .int (-1 : Int32)]) : va_E)) ∈ e0 :: e1 :: e2 :: e3 :: (T ++ w1_X1_init40 E q u) := by simp [w1_X1_init40]
theorem sd_mem_X1_init60 {e0 e1 e2 e3 : Nat × va_E} {T : va_W} {E : sd_Env} {q : Nat} {u : Nat → Nat} : (q, (.inr (1, [.ref (u 0), .int (-1 : Int32)]) : va_E)) ∈ e0 :: e1 :: e2 :: e3 :: (T ++ w1_X1_init60 E q u) := by simp [w1_X1_init60]
theorem sd_mem_X9_init {e0 e1 e2 e3 : Nat × va_E} {T : va_W} {E : sd_Env} {q : Nat} {u : Nat → Nat} : (q, (.inr (9, [.ref (u 0), .int (-1 : Int32)]) : va_E)) ∈ e0 :: e1 :: e2 :: e3 :: (T ++ w1_X9_init E q u) := by simp [w1_X9_init]
def sd_mW (Q : sd_Mem) (E : sd_Env) (h0 : Nat) (qq : Nat → Nat) (uu : Nat → Nat → Nat) : va_W := ((h0, .inr (10, [.ref (qq 0), .ref (qq 1), .ref (qq 2), .ref (qq 3), .ref (qq 4), .ref (qq 5), .ref (qq 6), .ref (qq 7), .ref (qq 8), .ref (qq 9), .ref (qq 10), .ref (qq 11), .ref (qq 12), .int (0 : Int32)])) :: ((qq 0), .inl (E.2.1 3, 6, .inr (.inr (.inr (.inr (va_up (va_up (va_up (va_up (va_up (va_up (fun _ => none) 0 (some (qq 13))) 1 (some (qq 14))) 2 (some (qq 15))) 3 (some (qq 16))) 4 (some (qq 17))) 5 (some (qq 18)))))))) :: ((qq 1), .inl (E.2.1 3, 4, .inr (.inr (.inr (.inr (va_up (va_up (va_up (va_up (fun _ => none) 0 (some (qq 19))) 1 (some (qq 20))) 2 (some (qq 21))) 3 (some (qq 22)))))))) :: ((qq 2), .inl (E.2.1 4, 8, .inr (.inr (.inr (.inr (va_up (va_up (va_up (va_up (va_up (va_up (va_up (va_up (fun _ => none) 0 (some (qq 23))) 1 (some (qq 24))) 2 (some (qq 25))) 3 (some (qq 26))) 4 (some (qq 27))) 5 (some (qq 28))) 6 (some (qq 29))) 7 (some (qq 30)))))))) :: ((w1_X5g Q E (qq 3) (uu 0)) ++ ((w1_X4_init E (qq 4) (uu 1)) ++ ((w1_X4_init E (qq 5) (uu 2)) ++ ((w1_X6g Q E (qq 6) (uu 3)) ++ ((w1_X7_init E (qq 7) (qq 3) (qq 4) (uu 4)) ++ ((w1_X7_init E (qq 8) (qq 3) (qq 5) (uu 5)) ++ ((w1_X0_init E (qq 9) (qq 3) (qq 4) (uu 6)) ++ ((w1_X8_init E (qq 10) (uu 7)) ++ ((w1_X3_init E (qq 11) (uu 8)) ++ ((w1_X2_init E (qq 12) (uu 9)) ++ ((w1_X1_init40 E (qq 13) (uu 10)) ++ ((w1_X1_init40 E (qq 14) (uu 11)) ++ ((w1_X1_init40 E (qq 15) (uu 12)) ++ ((w1_X1_init40 E (qq 16) (uu 13)) ++ ((w1_X1_init40 E (qq 17) (uu 14)) ++ ((w1_X1_init40 E (qq 18) (uu 15)) ++ ((w1_X1_init60 E (qq 19) (uu 16)) ++ ((w1_X1_init60 E (qq 20) (uu 17)) ++ ((w1_X1_init60 E (qq 21) (uu 18)) ++ ((w1_X1_init60 E (qq 22) (uu 19)) ++ ((w1_X9_init E (qq 23) (uu 20)) ++ ((w1_X9_init E (qq 24) (uu 21)) ++ ((w1_X9_init E (qq 25) (uu 22)) ++ ((w1_X9_init E (qq 26) (uu 23)) ++ ((w1_X9_init E (qq 27) (uu 24)) ++ ((w1_X9_init E (qq 28) (uu 25)) ++ ((w1_X9_init E (qq 29) (uu 26)) ++ (w1_X9_init E (qq 30) (uu 27))))))))))))))))))))))))))))))
def sd_mA (h0 : Nat) (qq : Nat → Nat) (uu : Nat → Nat → Nat) : Nat → Nat := fun id => [h0, (qq 0), (qq 13), ((uu 10) 0), (qq 14), ((uu 11) 0), (qq 15), ((uu 12) 0), (qq 16), ((uu 13) 0), (qq 17), ((uu 14) 0), (qq 18), ((uu 15) 0), (qq 1), (qq 19), ((uu 16) 0), (qq 20), ((uu 17) 0), (qq 21), ((uu 18) 0), (qq 22), ((uu 19) 0), (qq 2), (qq 23), ((uu 20) 0), (qq 24), ((uu 21) 0), (qq 25), ((uu 22) 0), (qq 26), ((uu 23) 0), (qq 27), ((uu 24) 0), (qq 28), ((uu 25) 0), (qq 29), ((uu 26) 0), (qq 30), ((uu 27) 0), (qq 3), ((uu 0) 41), ((uu 0) 42), ((uu 0) 43), ((uu 0) 44), ((uu 0) 45), ((uu 0) 46), ((uu 0) 47), ((uu 0) 48), ((uu 3) 0), ((uu 3) 42), ((uu 3) 43), ((uu 3) 44), ((uu 3) 45), ((uu 3) 46), ((uu 3) 47), ((uu 3) 48), ((uu 3) 49), (qq 4), (qq 5), (qq 6), (qq 7), (qq 8), (qq 9), ((uu 6) 0), ((uu 6) 1), ((uu 6) 2), ((uu 6) 3), ((uu 6) 4), ((uu 6) 5), ((uu 6) 6), ((uu 6) 7), ((uu 6) 8), ((uu 6) 9), ((uu 6) 10), ((uu 6) 11), ((uu 6) 12), ((uu 6) 13), ((uu 6) 14), ((uu 6) 15), ((uu 6) 16), ((uu 6) 17), ((uu 6) 18), ((uu 6) 19), ((uu 6) 20), ((uu 6) 21), ((uu 6) 22), ((uu 6) 23), ((uu 6) 24), ((uu 6) 25), (qq 10), ((uu 7) 0), ((uu 7) 1), ((uu 7) 2), ((uu 7) 3), ((uu 7) 4), (qq 11), (qq 12), ((uu 9) 0)].getD id 0
def sd_mP : List Nat := [0, 1, 63, 64, 65, 66, 67, 68, 69, 70, 71, 72, 73, 74, 2, 75, 76, 77, 78, 79, 80, 81, 82, 3, 83, 84, 85, 86, 87, 88, 89, 90, 91, 92, 93, 94, 95, 96, 97, 98, 4, 5, 6, 7, 8, 9, 10, 11, 12, 16, 17, 18, 19, 20, 21, 22, 23, 24, 13, 14, 15, 25, 26, 27, 28, 29, 30, 31, 32, 33, 34, 35, 36, 37, 38, 39, 40, 41, 42, 43, 44, 45, 46, 47, 48, 49, 50, 51, 52, 53, 54, 55, 56, 57, 58, 59, 60, 61, 62]
def sd_MIg (Q : sd_Mem) : sd_Mem := (fun id => if 40 ≤ id ∧ id < 49 then Q.1 id else if 49 ≤ id ∧ id < 58 then Q.1 (id - 9) else if id = 58 ∨ id = 59 then (fun k => if k = 0 then 1 else if k = 2 then 6 else 0) else if sd_kd id = 2 ∨ sd_kd id = 10 then (fun k => if k = 1 then -1 else 0) else fun _ => 0, fun id k => if id = 96 ∧ k = 1 then 1 else 0)
def sd_Mi0 : sd_Mem := sd_MIg sd_Q3
theorem sd_six {f g : Nat → Option Nat} (h0 : f 0 = g 0) (h1 : f 1 = g 1) (h2 : f 2 = g 2) (h3 : f 3 = g 3) (h4 : f 4 = g 4) (h5 : f 5 = g 5) : ∀ j, j < 6 → f j = g j := fun j hj => by
  rcases (show j = 0 ∨ j = 1 ∨ j = 2 ∨ j = 3 ∨ j = 4 ∨ j = 5 by omega) with rfl | rfl | rfl | rfl | rfl | rfl <;> assumption
theorem sd_four {f g : Nat → Option Nat} (h0 : f 0 = g 0) (h1 : f 1 = g 1) (h2 : f 2 = g 2) (h3 : f 3 = g 3) : ∀ j, j < 4 → f j = g j := fun j hj => by
  rcases (show j = 0 ∨ j = 1 ∨ j = 2 ∨ j = 3 by omega) with rfl | rfl | rfl | rfl <;> assumption
theorem sd_eight {f g : Nat → Option Nat} (h0 : f 0 = g 0) (h1 : f 1 = g 1) (h2 : f 2 = g 2) (h3 : f 3 = g 3) (h4 : f 4 = g 4) (h5 : f 5 = g 5) (h6 : f 6 = g 6) (h7 : f 7 = g 7) : ∀ j, j < 8 → f j = g j := fun j hj => by
  rcases (show j = 0 ∨ j = 1 ∨ j = 2 ∨ j = 3 ∨ j = 4 ∨ j = 5 ∨ j = 6 ∨ j = 7 by omega) with rfl | rfl | rfl | rfl | rfl | rfl | rfl | rfl <;> assumption
def sd_mOk (Q : sd_Mem) (E : sd_Env) (h0 : Nat) (qq : Nat → Nat) (uu : Nat → Nat → Nat) (id : Nat) : Prop := ∃ e : va_E, (sd_mW Q E h0 qq uu)[sd_mP.getD id 0]? = some (sd_mA h0 qq uu id, e) ∧ ∀ H : Heap, va_at E.1 sd_cl (sd_mA h0 qq uu id, e) H → va_at E.1 sd_cl (sd_mA h0 qq uu id, sd_ent (E.1, E.2.1, sd_mA h0 qq uu) id ((sd_MIg Q).1 id) ((sd_MIg Q).2 id)) H
set_option maxRecDepth 100000 in
theorem sd_mOk_0 (Q : sd_Mem) (E : sd_Env) (h0 : Nat) (qq : Nat → Nat) (uu : Nat → Nat → Nat) : sd_mOk Q E h0 qq uu 0 := ⟨_, rfl, fun _ h => h⟩
set_option maxRecDepth 100000 in
theorem sd_mOk_1 (Q : sd_Mem) (E : sd_Env) (h0 : Nat) (qq : Nat → Nat) (uu : Nat → Nat → Nat) : sd_mOk Q E h0 qq uu 1 := ⟨_, rfl, fun _ h => sd_at_congr (sd_six rfl rfl rfl rfl rfl rfl) h⟩
set_option maxRecDepth 100000 in
theorem sd_mOk_2 (Q : sd_Mem) (E : sd_Env) (h0 : Nat) (qq : Nat → Nat) (uu : Nat → Nat → Nat) : sd_mOk Q E h0 qq uu 2 := ⟨_, rfl, fun _ h => h⟩
set_option maxRecDepth 100000 in
theorem sd_mOk_3 (Q : sd_Mem) (E : sd_Env) (h0 : Nat) (qq : Nat → Nat) (uu : Nat → Nat → Nat) : sd_mOk Q E h0 qq uu 3 := ⟨_, rfl, fun _ h => h⟩
set_option maxRecDepth 100000 in
theorem sd_mOk_4 (Q : sd_Mem) (E : sd_Env) (h0 : Nat) (qq : Nat → Nat) (uu : Nat → Nat → Nat) : sd_mOk Q E h0 qq uu 4 := ⟨_, rfl, fun _ h => h⟩
set_option maxRecDepth 100000 in
theorem sd_mOk_5 (Q : sd_Mem) (E : sd_Env) (h0 : Nat) (qq : Nat → Nat) (uu : Nat → Nat → Nat) : sd_mOk Q E h0 qq uu 5 := ⟨_, rfl, fun _ h => h⟩
set_option maxRecDepth 100000 in
theorem sd_mOk_6 (Q : sd_Mem) (E : sd_Env) (h0 : Nat) (qq : Nat → Nat) (uu : Nat → Nat → Nat) : sd_mOk Q E h0 qq uu 6 := ⟨_, rfl, fun _ h => h⟩
set_option maxRecDepth 100000 in
theorem sd_mOk_7 (Q : sd_Mem) (E : sd_Env) (h0 : Nat) (qq : Nat → Nat) (uu : Nat → Nat → Nat) : sd_mOk Q E h0 qq uu 7 := ⟨_, rfl, fun _ h => h⟩
set_option maxRecDepth 100000 in
theorem sd_mOk_8 (Q : sd_Mem) (E : sd_Env) (h0 : Nat) (qq : Nat → Nat) (uu : Nat → Nat → Nat) : sd_mOk Q E h0 qq uu 8 := ⟨_, rfl, fun _ h => h⟩
set_option maxRecDepth 100000 in
theorem sd_mOk_9 (Q : sd_Mem) (E : sd_Env) (h0 : Nat) (qq : Nat → Nat) (uu : Nat → Nat → Nat) : sd_mOk Q E h0 qq uu 9 := ⟨_, rfl, fun _ h => h⟩
set_option maxRecDepth 100000 in
theorem sd_mOk_10 (Q : sd_Mem) (E : sd_Env) (h0 : Nat) (qq : Nat → Nat) (uu : Nat → Nat → Nat) : sd_mOk Q E h0 qq uu 10 := ⟨_, rfl, fun _ h => h⟩
set_option maxRecDepth 100000 in
theorem sd_mOk_11 (Q : sd_Mem) (E : sd_Env) (h0 : Nat) (qq : Nat → Nat) (uu : Nat → Nat → Nat) : sd_mOk Q E h0 qq uu 11 := ⟨_, rfl, fun _ h => h⟩
set_option maxRecDepth 100000 in
theorem sd_mOk_12 (Q : sd_Mem) (E : sd_Env) (h0 : Nat) (qq : Nat → Nat) (uu : Nat → Nat → Nat) : sd_mOk Q E h0 qq uu 12 := ⟨_, rfl, fun _ h => h⟩
set_option maxRecDepth 100000 in
theorem sd_mOk_13 (Q : sd_Mem) (E : sd_Env) (h0 : Nat) (qq : Nat → Nat) (uu : Nat → Nat → Nat) : sd_mOk Q E h0 qq uu 13 := ⟨_, rfl, fun _ h => h⟩
set_option maxRecDepth 100000 in
theorem sd_mOk_14 (Q : sd_Mem) (E : sd_Env) (h0 : Nat) (qq : Nat → Nat) (uu : Nat → Nat → Nat) : sd_mOk Q E h0 qq uu 14 := ⟨_, rfl, fun _ h => sd_at_congr (sd_four rfl rfl rfl rfl) h⟩
set_option maxRecDepth 100000 in
theorem sd_mOk_15 (Q : sd_Mem) (E : sd_Env) (h0 : Nat) (qq : Nat → Nat) (uu : Nat → Nat → Nat) : sd_mOk Q E h0 qq uu 15 := ⟨_, rfl, fun _ h => h⟩
set_option maxRecDepth 100000 in
theorem sd_mOk_16 (Q : sd_Mem) (E : sd_Env) (h0 : Nat) (qq : Nat → Nat) (uu : Nat → Nat → Nat) : sd_mOk Q E h0 qq uu 16 := ⟨_, rfl, fun _ h => h⟩
set_option maxRecDepth 100000 in
theorem sd_mOk_17 (Q : sd_Mem) (E : sd_Env) (h0 : Nat) (qq : Nat → Nat) (uu : Nat → Nat → Nat) : sd_mOk Q E h0 qq uu 17 := ⟨_, rfl, fun _ h => h⟩
set_option maxRecDepth 100000 in
theorem sd_mOk_18 (Q : sd_Mem) (E : sd_Env) (h0 : Nat) (qq : Nat → Nat) (uu : Nat → Nat → Nat) : sd_mOk Q E h0 qq uu 18 := ⟨_, rfl, fun _ h => h⟩
set_option maxRecDepth 100000 in
theorem sd_mOk_19 (Q : sd_Mem) (E : sd_Env) (h0 : Nat) (qq : Nat → Nat) (uu : Nat → Nat → Nat) : sd_mOk Q E h0 qq uu 19 := ⟨_, rfl, fun _ h => h⟩
set_option maxRecDepth 100000 in
theorem sd_mOk_20 (Q : sd_Mem) (E : sd_Env) (h0 : Nat) (qq : Nat → Nat) (uu : Nat → Nat → Nat) : sd_mOk Q E h0 qq uu 20 := ⟨_, rfl, fun _ h => h⟩
set_option maxRecDepth 100000 in
theorem sd_mOk_21 (Q : sd_Mem) (E : sd_Env) (h0 : Nat) (qq : Nat → Nat) (uu : Nat → Nat → Nat) : sd_mOk Q E h0 qq uu 21 := ⟨_, rfl, fun _ h => h⟩
set_option maxRecDepth 100000 in
theorem sd_mOk_22 (Q : sd_Mem) (E : sd_Env) (h0 : Nat) (qq : Nat → Nat) (uu : Nat → Nat → Nat) : sd_mOk Q E h0 qq uu 22 := ⟨_, rfl, fun _ h => h⟩
set_option maxRecDepth 100000 in
theorem sd_mOk_23 (Q : sd_Mem) (E : sd_Env) (h0 : Nat) (qq : Nat → Nat) (uu : Nat → Nat → Nat) : sd_mOk Q E h0 qq uu 23 := ⟨_, rfl, fun _ h => sd_at_congr (sd_eight rfl rfl rfl rfl rfl rfl rfl rfl) h⟩
set_option maxRecDepth 100000 in
theorem sd_mOk_24 (Q : sd_Mem) (E : sd_Env) (h0 : Nat) (qq : Nat → Nat) (uu : Nat → Nat → Nat) : sd_mOk Q E h0 qq uu 24 := ⟨_, rfl, fun _ h => h⟩
set_option maxRecDepth 100000 in
theorem sd_mOk_25 (Q : sd_Mem) (E : sd_Env) (h0 : Nat) (qq : Nat → Nat) (uu : Nat → Nat → Nat) : sd_mOk Q E h0 qq uu 25 := ⟨_, rfl, fun _ h => h⟩
set_option maxRecDepth 100000 in
theorem sd_mOk_26 (Q : sd_Mem) (E : sd_Env) (h0 : Nat) (qq : Nat → Nat) (uu : Nat → Nat → Nat) : sd_mOk Q E h0 qq uu 26 := ⟨_, rfl, fun _ h => h⟩
set_option maxRecDepth 100000 in
theorem sd_mOk_27 (Q : sd_Mem) (E : sd_Env) (h0 : Nat) (qq : Nat → Nat) (uu : Nat → Nat → Nat) : sd_mOk Q E h0 qq uu 27 := ⟨_, rfl, fun _ h => h⟩
set_option maxRecDepth 100000 in
theorem sd_mOk_28 (Q : sd_Mem) (E : sd_Env) (h0 : Nat) (qq : Nat → Nat) (uu : Nat → Nat → Nat) : sd_mOk Q E h0 qq uu 28 := ⟨_, rfl, fun _ h => h⟩
set_option maxRecDepth 100000 in
theorem sd_mOk_29 (Q : sd_Mem) (E : sd_Env) (h0 : Nat) (qq : Nat → Nat) (uu : Nat → Nat → Nat) : sd_mOk Q E h0 qq uu 29 := ⟨_, rfl, fun _ h => h⟩
set_option maxRecDepth 100000 in
theorem sd_mOk_30 (Q : sd_Mem) (E : sd_Env) (h0 : Nat) (qq : Nat → Nat) (uu : Nat → Nat → Nat) : sd_mOk Q E h0 qq uu 30 := ⟨_, rfl, fun _ h => h⟩
set_option maxRecDepth 100000 in
theorem sd_mOk_31 (Q : sd_Mem) (E : sd_Env) (h0 : Nat) (qq : Nat → Nat) (uu : Nat → Nat → Nat) : sd_mOk Q E h0 qq uu 31 := ⟨_, rfl, fun _ h => h⟩
set_option maxRecDepth 100000 in
theorem sd_mOk_32 (Q : sd_Mem) (E : sd_Env) (h0 : Nat) (qq : Nat → Nat) (uu : Nat → Nat → Nat) : sd_mOk Q E h0 qq uu 32 := ⟨_, rfl, fun _ h => h⟩
set_option maxRecDepth 100000 in
theorem sd_mOk_33 (Q : sd_Mem) (E : sd_Env) (h0 : Nat) (qq : Nat → Nat) (uu : Nat → Nat → Nat) : sd_mOk Q E h0 qq uu 33 := ⟨_, rfl, fun _ h => h⟩
set_option maxRecDepth 100000 in
theorem sd_mOk_34 (Q : sd_Mem) (E : sd_Env) (h0 : Nat) (qq : Nat → Nat) (uu : Nat → Nat → Nat) : sd_mOk Q E h0 qq uu 34 := ⟨_, rfl, fun _ h => h⟩
set_option maxRecDepth 100000 in
theorem sd_mOk_35 (Q : sd_Mem) (E : sd_Env) (h0 : Nat) (qq : Nat → Nat) (uu : Nat → Nat → Nat) : sd_mOk Q E h0 qq uu 35 := ⟨_, rfl, fun _ h => h⟩
set_option maxRecDepth 100000 in
theorem sd_mOk_36 (Q : sd_Mem) (E : sd_Env) (h0 : Nat) (qq : Nat → Nat) (uu : Nat → Nat → Nat) : sd_mOk Q E h0 qq uu 36 := ⟨_, rfl, fun _ h => h⟩
set_option maxRecDepth 100000 in
theorem sd_mOk_37 (Q : sd_Mem) (E : sd_Env) (h0 : Nat) (qq : Nat → Nat) (uu : Nat → Nat → Nat) : sd_mOk Q E h0 qq uu 37 := ⟨_, rfl, fun _ h => h⟩
set_option maxRecDepth 100000 in
theorem sd_mOk_38 (Q : sd_Mem) (E : sd_Env) (h0 : Nat) (qq : Nat → Nat) (uu : Nat → Nat → Nat) : sd_mOk Q E h0 qq uu 38 := ⟨_, rfl, fun _ h => h⟩
set_option maxRecDepth 100000 in
theorem sd_mOk_39 (Q : sd_Mem) (E : sd_Env) (h0 : Nat) (qq : Nat → Nat) (uu : Nat → Nat → Nat) : sd_mOk Q E h0 qq uu 39 := ⟨_, rfl, fun _ h => h⟩
set_option maxRecDepth 100000 in
theorem sd_mOk_40 (Q : sd_Mem) (E : sd_Env) (h0 : Nat) (qq : Nat → Nat) (uu : Nat → Nat → Nat) : sd_mOk Q E h0 qq uu 40 := ⟨_, rfl, fun _ h => h⟩
set_option maxRecDepth 100000 in
theorem sd_mOk_41 (Q : sd_Mem) (E : sd_Env) (h0 : Nat) (qq : Nat → Nat) (uu : Nat → Nat → Nat) : sd_mOk Q E h0 qq uu 41 := ⟨_, rfl, fun _ h => h⟩
set_option maxRecDepth 100000 in
theorem sd_mOk_42 (Q : sd_Mem) (E : sd_Env) (h0 : Nat) (qq : Nat → Nat) (uu : Nat → Nat → Nat) : sd_mOk Q E h0 qq uu 42 := ⟨_, rfl, fun _ h => h⟩
set_option maxRecDepth 100000 in
theorem sd_mOk_43 (Q : sd_Mem) (E : sd_Env) (h0 : Nat) (qq : Nat → Nat) (uu : Nat → Nat → Nat) : sd_mOk Q E h0 qq uu 43 := ⟨_, rfl, fun _ h => sd_at_congr (sd_two rfl rfl) h⟩
set_option maxRecDepth 100000 in
theorem sd_mOk_44 (Q : sd_Mem) (E : sd_Env) (h0 : Nat) (qq : Nat → Nat) (uu : Nat → Nat → Nat) : sd_mOk Q E h0 qq uu 44 := ⟨_, rfl, fun _ h => h⟩
set_option maxRecDepth 100000 in
theorem sd_mOk_45 (Q : sd_Mem) (E : sd_Env) (h0 : Nat) (qq : Nat → Nat) (uu : Nat → Nat → Nat) : sd_mOk Q E h0 qq uu 45 := ⟨_, rfl, fun _ h => h⟩
set_option maxRecDepth 100000 in
theorem sd_mOk_46 (Q : sd_Mem) (E : sd_Env) (h0 : Nat) (qq : Nat → Nat) (uu : Nat → Nat → Nat) : sd_mOk Q E h0 qq uu 46 := ⟨_, rfl, fun _ h => sd_at_congr (sd_two rfl rfl) h⟩
set_option maxRecDepth 100000 in
theorem sd_mOk_47 (Q : sd_Mem) (E : sd_Env) (h0 : Nat) (qq : Nat → Nat) (uu : Nat → Nat → Nat) : sd_mOk Q E h0 qq uu 47 := ⟨_, rfl, fun _ h => h⟩
set_option maxRecDepth 100000 in
theorem sd_mOk_48 (Q : sd_Mem) (E : sd_Env) (h0 : Nat) (qq : Nat → Nat) (uu : Nat → Nat → Nat) : sd_mOk Q E h0 qq uu 48 := ⟨_, rfl, fun _ h => h⟩
set_option maxRecDepth 100000 in
theorem sd_mOk_49 (Q : sd_Mem) (E : sd_Env) (h0 : Nat) (qq : Nat → Nat) (uu : Nat → Nat → Nat) : sd_mOk Q E h0 qq uu 49 := ⟨_, rfl, fun _ h => h⟩
set_option maxRecDepth 100000 in
theorem sd_mOk_50 (Q : sd_Mem) (E : sd_Env) (h0 : Nat) (qq : Nat → Nat) (uu : Nat → Nat → Nat) : sd_mOk Q E h0 qq uu 50 := ⟨_, rfl, fun _ h => h⟩
set_option maxRecDepth 100000 in
theorem sd_mOk_51 (Q : sd_Mem) (E : sd_Env) (h0 : Nat) (qq : Nat → Nat) (uu : Nat → Nat → Nat) : sd_mOk Q E h0 qq uu 51 := ⟨_, rfl, fun _ h => h⟩
set_option maxRecDepth 100000 in
theorem sd_mOk_52 (Q : sd_Mem) (E : sd_Env) (h0 : Nat) (qq : Nat → Nat) (uu : Nat → Nat → Nat) : sd_mOk Q E h0 qq uu 52 := ⟨_, rfl, fun _ h => sd_at_congr (sd_two rfl rfl) h⟩
set_option maxRecDepth 100000 in
theorem sd_mOk_53 (Q : sd_Mem) (E : sd_Env) (h0 : Nat) (qq : Nat → Nat) (uu : Nat → Nat → Nat) : sd_mOk Q E h0 qq uu 53 := ⟨_, rfl, fun _ h => h⟩
set_option maxRecDepth 100000 in
theorem sd_mOk_54 (Q : sd_Mem) (E : sd_Env) (h0 : Nat) (qq : Nat → Nat) (uu : Nat → Nat → Nat) : sd_mOk Q E h0 qq uu 54 := ⟨_, rfl, fun _ h => h⟩
set_option maxRecDepth 100000 in
theorem sd_mOk_55 (Q : sd_Mem) (E : sd_Env) (h0 : Nat) (qq : Nat → Nat) (uu : Nat → Nat → Nat) : sd_mOk Q E h0 qq uu 55 := ⟨_, rfl, fun _ h => sd_at_congr (sd_two rfl rfl) h⟩
set_option maxRecDepth 100000 in
theorem sd_mOk_56 (Q : sd_Mem) (E : sd_Env) (h0 : Nat) (qq : Nat → Nat) (uu : Nat → Nat → Nat) : sd_mOk Q E h0 qq uu 56 := ⟨_, rfl, fun _ h => h⟩
set_option maxRecDepth 100000 in
theorem sd_mOk_57 (Q : sd_Mem) (E : sd_Env) (h0 : Nat) (qq : Nat → Nat) (uu : Nat → Nat → Nat) : sd_mOk Q E h0 qq uu 57 := ⟨_, rfl, fun _ h => h⟩
set_option maxRecDepth 100000 in
theorem sd_mOk_58 (Q : sd_Mem) (E : sd_Env) (h0 : Nat) (qq : Nat → Nat) (uu : Nat → Nat → Nat) : sd_mOk Q E h0 qq uu 58 := ⟨_, rfl, fun _ h => h⟩
set_option maxRecDepth 100000 in
theorem sd_mOk_59 (Q : sd_Mem) (E : sd_Env) (h0 : Nat) (qq : Nat → Nat) (uu : Nat → Nat → Nat) : sd_mOk Q E h0 qq uu 59 := ⟨_, rfl, fun _ h => h⟩
set_option maxRecDepth 100000 in
theorem sd_mOk_60 (Q : sd_Mem) (E : sd_Env) (h0 : Nat) (qq : Nat → Nat) (uu : Nat → Nat → Nat) : sd_mOk Q E h0 qq uu 60 := ⟨_, rfl, fun _ h => h⟩
set_option maxRecDepth 100000 in
theorem sd_mOk_61 (Q : sd_Mem) (E : sd_Env) (h0 : Nat) (qq : Nat → Nat) (uu : Nat → Nat → Nat) : sd_mOk Q E h0 qq uu 61 := ⟨_, rfl, fun _ h => h⟩
set_option maxRecDepth 100000 in
theorem sd_mOk_62 (Q : sd_Mem) (E : sd_Env) (h0 : Nat) (qq : Nat → Nat) (uu : Nat → Nat → Nat) : sd_mOk Q E h0 qq uu 62 := ⟨_, rfl, fun _ h => h⟩
set_option maxRecDepth 100000 in
theorem sd_mOk_63 (Q : sd_Mem) (E : sd_Env) (h0 : Nat) (qq : Nat → Nat) (uu : Nat → Nat → Nat) : sd_mOk Q E h0 qq uu 63 := ⟨_, rfl, fun _ h => h⟩
set_option maxRecDepth 100000 in
theorem sd_mOk_64 (Q : sd_Mem) (E : sd_Env) (h0 : Nat) (qq : Nat → Nat) (uu : Nat → Nat → Nat) : sd_mOk Q E h0 qq uu 64 := ⟨_, rfl, fun _ h => sd_at_congr (sd_twelve rfl rfl rfl rfl rfl rfl rfl rfl rfl rfl rfl rfl) h⟩
set_option maxRecDepth 100000 in
theorem sd_mOk_65 (Q : sd_Mem) (E : sd_Env) (h0 : Nat) (qq : Nat → Nat) (uu : Nat → Nat → Nat) : sd_mOk Q E h0 qq uu 65 := ⟨_, rfl, fun _ h => h⟩
set_option maxRecDepth 100000 in
theorem sd_mOk_66 (Q : sd_Mem) (E : sd_Env) (h0 : Nat) (qq : Nat → Nat) (uu : Nat → Nat → Nat) : sd_mOk Q E h0 qq uu 66 := ⟨_, rfl, fun _ h => h⟩
set_option maxRecDepth 100000 in
theorem sd_mOk_67 (Q : sd_Mem) (E : sd_Env) (h0 : Nat) (qq : Nat → Nat) (uu : Nat → Nat → Nat) : sd_mOk Q E h0 qq uu 67 := ⟨_, rfl, fun _ h => h⟩
set_option maxRecDepth 100000 in
theorem sd_mOk_68 (Q : sd_Mem) (E : sd_Env) (h0 : Nat) (qq : Nat → Nat) (uu : Nat → Nat → Nat) : sd_mOk Q E h0 qq uu 68 := ⟨_, rfl, fun _ h => h⟩
set_option maxRecDepth 100000 in
theorem sd_mOk_69 (Q : sd_Mem) (E : sd_Env) (h0 : Nat) (qq : Nat → Nat) (uu : Nat → Nat → Nat) : sd_mOk Q E h0 qq uu 69 := ⟨_, rfl, fun _ h => h⟩
set_option maxRecDepth 100000 in
theorem sd_mOk_70 (Q : sd_Mem) (E : sd_Env) (h0 : Nat) (qq : Nat → Nat) (uu : Nat → Nat → Nat) : sd_mOk Q E h0 qq uu 70 := ⟨_, rfl, fun _ h => h⟩
set_option maxRecDepth 100000 in
theorem sd_mOk_71 (Q : sd_Mem) (E : sd_Env) (h0 : Nat) (qq : Nat → Nat) (uu : Nat → Nat → Nat) : sd_mOk Q E h0 qq uu 71 := ⟨_, rfl, fun _ h => h⟩
set_option maxRecDepth 100000 in
theorem sd_mOk_72 (Q : sd_Mem) (E : sd_Env) (h0 : Nat) (qq : Nat → Nat) (uu : Nat → Nat → Nat) : sd_mOk Q E h0 qq uu 72 := ⟨_, rfl, fun _ h => h⟩
set_option maxRecDepth 100000 in
theorem sd_mOk_73 (Q : sd_Mem) (E : sd_Env) (h0 : Nat) (qq : Nat → Nat) (uu : Nat → Nat → Nat) : sd_mOk Q E h0 qq uu 73 := ⟨_, rfl, fun _ h => h⟩
set_option maxRecDepth 100000 in
theorem sd_mOk_74 (Q : sd_Mem) (E : sd_Env) (h0 : Nat) (qq : Nat → Nat) (uu : Nat → Nat → Nat) : sd_mOk Q E h0 qq uu 74 := ⟨_, rfl, fun _ h => h⟩
set_option maxRecDepth 100000 in
theorem sd_mOk_75 (Q : sd_Mem) (E : sd_Env) (h0 : Nat) (qq : Nat → Nat) (uu : Nat → Nat → Nat) : sd_mOk Q E h0 qq uu 75 := ⟨_, rfl, fun _ h => h⟩
set_option maxRecDepth 100000 in
theorem sd_mOk_76 (Q : sd_Mem) (E : sd_Env) (h0 : Nat) (qq : Nat → Nat) (uu : Nat → Nat → Nat) : sd_mOk Q E h0 qq uu 76 := ⟨_, rfl, fun _ h => h⟩
set_option maxRecDepth 100000 in
theorem sd_mOk_77 (Q : sd_Mem) (E : sd_Env) (h0 : Nat) (qq : Nat → Nat) (uu : Nat → Nat → Nat) : sd_mOk Q E h0 qq uu 77 := ⟨_, rfl, fun _ h => sd_at_congr (sd_twelve rfl rfl rfl rfl rfl rfl rfl rfl rfl rfl rfl rfl) h⟩
set_option maxRecDepth 100000 in
theorem sd_mOk_78 (Q : sd_Mem) (E : sd_Env) (h0 : Nat) (qq : Nat → Nat) (uu : Nat → Nat → Nat) : sd_mOk Q E h0 qq uu 78 := ⟨_, rfl, fun _ h => h⟩
set_option maxRecDepth 100000 in
theorem sd_mOk_79 (Q : sd_Mem) (E : sd_Env) (h0 : Nat) (qq : Nat → Nat) (uu : Nat → Nat → Nat) : sd_mOk Q E h0 qq uu 79 := ⟨_, rfl, fun _ h => h⟩
set_option maxRecDepth 100000 in
theorem sd_mOk_80 (Q : sd_Mem) (E : sd_Env) (h0 : Nat) (qq : Nat → Nat) (uu : Nat → Nat → Nat) : sd_mOk Q E h0 qq uu 80 := ⟨_, rfl, fun _ h => h⟩
set_option maxRecDepth 100000 in
theorem sd_mOk_81 (Q : sd_Mem) (E : sd_Env) (h0 : Nat) (qq : Nat → Nat) (uu : Nat → Nat → Nat) : sd_mOk Q E h0 qq uu 81 := ⟨_, rfl, fun _ h => h⟩
set_option maxRecDepth 100000 in
theorem sd_mOk_82 (Q : sd_Mem) (E : sd_Env) (h0 : Nat) (qq : Nat → Nat) (uu : Nat → Nat → Nat) : sd_mOk Q E h0 qq uu 82 := ⟨_, rfl, fun _ h => h⟩
set_option maxRecDepth 100000 in
theorem sd_mOk_83 (Q : sd_Mem) (E : sd_Env) (h0 : Nat) (qq : Nat → Nat) (uu : Nat → Nat → Nat) : sd_mOk Q E h0 qq uu 83 := ⟨_, rfl, fun _ h => h⟩
set_option maxRecDepth 100000 in
theorem sd_mOk_84 (Q : sd_Mem) (E : sd_Env) (h0 : Nat) (qq : Nat → Nat) (uu : Nat → Nat → Nat) : sd_mOk Q E h0 qq uu 84 := ⟨_, rfl, fun _ h => h⟩
set_option maxRecDepth 100000 in
theorem sd_mOk_85 (Q : sd_Mem) (E : sd_Env) (h0 : Nat) (qq : Nat → Nat) (uu : Nat → Nat → Nat) : sd_mOk Q E h0 qq uu 85 := ⟨_, rfl, fun _ h => h⟩
set_option maxRecDepth 100000 in
theorem sd_mOk_86 (Q : sd_Mem) (E : sd_Env) (h0 : Nat) (qq : Nat → Nat) (uu : Nat → Nat → Nat) : sd_mOk Q E h0 qq uu 86 := ⟨_, rfl, fun _ h => h⟩
set_option maxRecDepth 100000 in
theorem sd_mOk_87 (Q : sd_Mem) (E : sd_Env) (h0 : Nat) (qq : Nat → Nat) (uu : Nat → Nat → Nat) : sd_mOk Q E h0 qq uu 87 := ⟨_, rfl, fun _ h => h⟩
set_option maxRecDepth 100000 in
theorem sd_mOk_88 (Q : sd_Mem) (E : sd_Env) (h0 : Nat) (qq : Nat → Nat) (uu : Nat → Nat → Nat) : sd_mOk Q E h0 qq uu 88 := ⟨_, rfl, fun _ h => h⟩
set_option maxRecDepth 100000 in
theorem sd_mOk_89 (Q : sd_Mem) (E : sd_Env) (h0 : Nat) (qq : Nat → Nat) (uu : Nat → Nat → Nat) : sd_mOk Q E h0 qq uu 89 := ⟨_, rfl, fun _ h => h⟩
set_option maxRecDepth 100000 in
theorem sd_mOk_90 (Q : sd_Mem) (E : sd_Env) (h0 : Nat) (qq : Nat → Nat) (uu : Nat → Nat → Nat) : sd_mOk Q E h0 qq uu 90 := ⟨_, rfl, fun _ h => h⟩
set_option maxRecDepth 100000 in
theorem sd_mOk_91 (Q : sd_Mem) (E : sd_Env) (h0 : Nat) (qq : Nat → Nat) (uu : Nat → Nat → Nat) : sd_mOk Q E h0 qq uu 91 := ⟨_, rfl, fun _ h => h⟩
set_option maxRecDepth 100000 in
theorem sd_mOk_92 (Q : sd_Mem) (E : sd_Env) (h0 : Nat) (qq : Nat → Nat) (uu : Nat → Nat → Nat) : sd_mOk Q E h0 qq uu 92 := ⟨_, rfl, fun _ h => h⟩
set_option maxRecDepth 100000 in
theorem sd_mOk_93 (Q : sd_Mem) (E : sd_Env) (h0 : Nat) (qq : Nat → Nat) (uu : Nat → Nat → Nat) : sd_mOk Q E h0 qq uu 93 := ⟨_, rfl, fun _ h => h⟩
set_option maxRecDepth 100000 in
theorem sd_mOk_94 (Q : sd_Mem) (E : sd_Env) (h0 : Nat) (qq : Nat → Nat) (uu : Nat → Nat → Nat) : sd_mOk Q E h0 qq uu 94 := ⟨_, rfl, fun _ h => h⟩
set_option maxRecDepth 100000 in
theorem sd_mOk_95 (Q : sd_Mem) (E : sd_Env) (h0 : Nat) (qq : Nat → Nat) (uu : Nat → Nat → Nat) : sd_mOk Q E h0 qq uu 95 := ⟨_, rfl, fun _ h => h⟩
set_option maxRecDepth 100000 in
theorem sd_mOk_96 (Q : sd_Mem) (E : sd_Env) (h0 : Nat) (qq : Nat → Nat) (uu : Nat → Nat → Nat) : sd_mOk Q E h0 qq uu 96 := ⟨_, rfl, fun _ h => h⟩
set_option maxRecDepth 100000 in
theorem sd_mOk_97 (Q : sd_Mem) (E : sd_Env) (h0 : Nat) (qq : Nat → Nat) (uu : Nat → Nat → Nat) : sd_mOk Q E h0 qq uu 97 := ⟨_, rfl, fun _ h => h⟩
set_option maxRecDepth 100000 in
theorem sd_mOk_98 (Q : sd_Mem) (E : sd_Env) (h0 : Nat) (qq : Nat → Nat) (uu : Nat → Nat → Nat) : sd_mOk Q E h0 qq uu 98 := ⟨_, rfl, fun _ h => h⟩
theorem sd_mOk_all (Q : sd_Mem) (E : sd_Env) (h0 : Nat) (qq : Nat → Nat) (uu : Nat → Nat → Nat) : ∀ id, id < 99 → sd_mOk Q E h0 qq uu id
  | 0, _ => sd_mOk_0 Q E h0 qq uu
  | 1, _ => sd_mOk_1 Q E h0 qq uu
  | 2, _ => sd_mOk_2 Q E h0 qq uu
  | 3, _ => sd_mOk_3 Q E h0 qq uu
  | 4, _ => sd_mOk_4 Q E h0 qq uu
  | 5, _ => sd_mOk_5 Q E h0 qq uu
  | 6, _ => sd_mOk_6 Q E h0 qq uu
  | 7, _ => sd_mOk_7 Q E h0 qq uu
  | 8, _ => sd_mOk_8 Q E h0 qq uu
  | 9, _ => sd_mOk_9 Q E h0 qq uu
  | 10, _ => sd_mOk_10 Q E h0 qq uu
  | 11, _ => sd_mOk_11 Q E h0 qq uu
  | 12, _ => sd_mOk_12 Q E h0 qq uu
  | 13, _ => sd_mOk_13 Q E h0 qq uu
  | 14, _ => sd_mOk_14 Q E h0 qq uu
  | 15, _ => sd_mOk_15 Q E h0 qq uu
  | 16, _ => sd_mOk_16 Q E h0 qq uu
  | 17, _ => sd_mOk_17 Q E h0 qq uu
  | 18, _ => sd_mOk_18 Q E h0 qq uu
  | 19, _ => sd_mOk_19 Q E h0 qq uu
  | 20, _ => sd_mOk_20 Q E h0 qq uu
  | 21, _ => sd_mOk_21 Q E h0 qq uu
  | 22, _ => sd_mOk_22 Q E h0 qq uu
  | 23, _ => sd_mOk_23 Q E h0 qq uu
  | 24, _ => sd_mOk_24 Q E h0 qq uu
  | 25, _ => sd_mOk_25 Q E h0 qq uu
  | 26, _ => sd_mOk_26 Q E h0 qq uu
  | 27, _ => sd_mOk_27 Q E h0 qq uu
  | 28, _ => sd_mOk_28 Q E h0 qq uu
  | 29, _ => sd_mOk_29 Q E h0 qq uu
  | 30, _ => sd_mOk_30 Q E h0 qq uu
  | 31, _ => sd_mOk_31 Q E h0 qq uu
  | 32, _ => sd_mOk_32 Q E h0 qq uu
  | 33, _ => sd_mOk_33 Q E h0 qq uu
  | 34, _ => sd_mOk_34 Q E h0 qq uu
  | 35, _ => sd_mOk_35 Q E h0 qq uu
  | 36, _ => sd_mOk_36 Q E h0 qq uu
  | 37, _ => sd_mOk_37 Q E h0 qq uu
  | 38, _ => sd_mOk_38 Q E h0 qq uu
  | 39, _ => sd_mOk_39 Q E h0 qq uu
  | 40, _ => sd_mOk_40 Q E h0 qq uu
  | 41, _ => sd_mOk_41 Q E h0 qq uu
  | 42, _ => sd_mOk_42 Q E h0 qq uu
  | 43, _ => sd_mOk_43 Q E h0 qq uu
  | 44, _ => sd_mOk_44 Q E h0 qq uu
  | 45, _ => sd_mOk_45 Q E h0 qq uu
  | 46, _ => sd_mOk_46 Q E h0 qq uu
  | 47, _ => sd_mOk_47 Q E h0 qq uu
  | 48, _ => sd_mOk_48 Q E h0 qq uu
  | 49, _ => sd_mOk_49 Q E h0 qq uu
  | 50, _ => sd_mOk_50 Q E h0 qq uu
  | 51, _ => sd_mOk_51 Q E h0 qq uu
  | 52, _ => sd_mOk_52 Q E h0 qq uu
  | 53, _ => sd_mOk_53 Q E h0 qq uu
  | 54, _ => sd_mOk_54 Q E h0 qq uu
  | 55, _ => sd_mOk_55 Q E h0 qq uu
  | 56, _ => sd_mOk_56 Q E h0 qq uu
  | 57, _ => sd_mOk_57 Q E h0 qq uu
  | 58, _ => sd_mOk_58 Q E h0 qq uu
  | 59, _ => sd_mOk_59 Q E h0 qq uu
  | 60, _ => sd_mOk_60 Q E h0 qq uu
  | 61, _ => sd_mOk_61 Q E h0 qq uu
  | 62, _ => sd_mOk_62 Q E h0 qq uu
  | 63, _ => sd_mOk_63 Q E h0 qq uu
  | 64, _ => sd_mOk_64 Q E h0 qq uu
  | 65, _ => sd_mOk_65 Q E h0 qq uu
  | 66, _ => sd_mOk_66 Q E h0 qq uu
  | 67, _ => sd_mOk_67 Q E h0 qq uu
  | 68, _ => sd_mOk_68 Q E h0 qq uu
  | 69, _ => sd_mOk_69 Q E h0 qq uu
  | 70, _ => sd_mOk_70 Q E h0 qq uu
  | 71, _ => sd_mOk_71 Q E h0 qq uu
  | 72, _ => sd_mOk_72 Q E h0 qq uu
  | 73, _ => sd_mOk_73 Q E h0 qq uu
  | 74, _ => sd_mOk_74 Q E h0 qq uu
  | 75, _ => sd_mOk_75 Q E h0 qq uu
  | 76, _ => sd_mOk_76 Q E h0 qq uu
  | 77, _ => sd_mOk_77 Q E h0 qq uu
  | 78, _ => sd_mOk_78 Q E h0 qq uu
  | 79, _ => sd_mOk_79 Q E h0 qq uu
  | 80, _ => sd_mOk_80 Q E h0 qq uu
  | 81, _ => sd_mOk_81 Q E h0 qq uu
  | 82, _ => sd_mOk_82 Q E h0 qq uu
  | 83, _ => sd_mOk_83 Q E h0 qq uu
  | 84, _ => sd_mOk_84 Q E h0 qq uu
  | 85, _ => sd_mOk_85 Q E h0 qq uu
  | 86, _ => sd_mOk_86 Q E h0 qq uu
  | 87, _ => sd_mOk_87 Q E h0 qq uu
  | 88, _ => sd_mOk_88 Q E h0 qq uu
  | 89, _ => sd_mOk_89 Q E h0 qq uu
  | 90, _ => sd_mOk_90 Q E h0 qq uu
  | 91, _ => sd_mOk_91 Q E h0 qq uu
  | 92, _ => sd_mOk_92 Q E h0 qq uu
  | 93, _ => sd_mOk_93 Q E h0 qq uu
  | 94, _ => sd_mOk_94 Q E h0 qq uu
  | 95, _ => sd_mOk_95 Q E h0 qq uu
  | 96, _ => sd_mOk_96 Q E h0 qq uu
  | 97, _ => sd_mOk_97 Q E h0 qq uu
  | 98, _ => sd_mOk_98 Q E h0 qq uu
  | n + 99, h => absurd h (by omega)
theorem sd_mP_inj : ∀ i, i < 99 → ∀ j, j < 99 → sd_mP.getD i 0 = sd_mP.getD j 0 → i = j := by decide +kernel
theorem sd_mPD {Q : sd_Mem} {E : sd_Env} {h0 : Nat} {qq : Nat → Nat} {uu : Nat → Nat → Nat} {H : Heap} {A : Nat → Prop} (hP : va_P E.1 sd_cl (sd_mW Q E h0 qq uu) H) (hD : va_D A (sd_mW Q E h0 qq uu)) : va_P E.1 sd_cl (sd_pic (E.1, E.2.1, sd_mA h0 qq uu) sd_LC (sd_MIg Q)) H ∧ va_D A (sd_pic (E.1, E.2.1, sd_mA h0 qq uu) sd_LC (sd_MIg Q)) := by
  have key : ∀ (k : Nat) (q : Nat × va_E), (sd_pic (E.1, E.2.1, sd_mA h0 qq uu) sd_LC (sd_MIg Q))[k]? = some q → k < 99 ∧ q = (sd_mA h0 qq uu k, sd_ent (E.1, E.2.1, sd_mA h0 qq uu) k ((sd_MIg Q).1 k) ((sd_MIg Q).2 k)) := by
    intro k q hk
    unfold sd_pic sd_LC at hk
    rw [List.getElem?_map] at hk
    by_cases h : k < 99
    · rw [List.getElem?_range h] at hk
      cases hk
      exact ⟨h, rfl⟩
    · rw [List.getElem?_eq_none (by rw [List.length_range]; omega)] at hk
      cases hk
  refine ⟨fun k q hk => ?_, fun i j x y hi hj hxy => ?_, fun k q hk => ?_⟩
  · obtain ⟨h, rfl⟩ := key k q hk
    obtain ⟨e, h1, h2⟩ := sd_mOk_all Q E h0 qq uu k h
    exact h2 H (hP _ _ h1)
  · obtain ⟨h, rfl⟩ := key i x hi
    obtain ⟨h', rfl⟩ := key j y hj
    obtain ⟨e, h1, -⟩ := sd_mOk_all Q E h0 qq uu i h
    obtain ⟨e', h1', -⟩ := sd_mOk_all Q E h0 qq uu j h'
    exact sd_mP_inj i h j h' (hD.1 _ _ _ _ h1 h1' hxy)
  · obtain ⟨h, rfl⟩ := key k q hk
    obtain ⟨e, h1, -⟩ := sd_mOk_all Q E h0 qq uu k h
    exact hD.2 _ (sd_mA h0 qq uu k, e) h1
theorem sd_ypicC {K : sd_K} {R : Room} {E : sd_Env} {A0 : Nat → Prop} {nL : Nat} {Qp : State → Prop} {ws : va_W} {cells slots pc : Nat} {lv : List (Nat × Value)} {st : List Value} (Q : sd_Mem) (h0 : Nat) (qq : Nat → Nat) (uu : Nat → Nat → Nat) (h : ws = sd_mW Q E h0 qq uu) (k : sd_Y K R E A0 nL Qp (sd_pic (E.1, E.2.1, sd_mA h0 qq uu) sd_LC (sd_MIg Q)) cells slots pc lv st) : sd_Y K R E A0 nL Qp ws cells slots pc lv st := by
  subst h
  intro H locs ls hP hD hS hl
  obtain ⟨h1, h2⟩ := sd_mPD hP hD
  exact k H locs ls h1 h2 hS hl
