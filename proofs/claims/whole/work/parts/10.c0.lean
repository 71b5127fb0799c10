def rm_X9_init : Room := { frames := 1, cells := 1, slots := 30, locals := 20 }
def w1_X9_init (E : sd_Env) (h0 : Nat)  (u : Nat → Nat) : va_W := [(h0, .inr (9, [.ref (u 0), .int (-1 : Int32)])), ((u 0), .inl (E.2.1 0, 30, .inl (fun _ => 0)))]
theorem dX9_init_0 : decode cX9_init 0 = .ok (.aload_n 0, 1) := by decide +kernel
theorem dX9_init_1 : decode cX9_init 1 = .ok (.invokespecial 3, 3) := by decide +kernel
theorem dX9_init_4 : decode cX9_init 4 = .ok (.aload_n 0, 1) := by decide +kernel
theorem dX9_init_5 : decode cX9_init 5 = .ok (.bipush 30, 2) := by decide +kernel
theorem dX9_init_7 : decode cX9_init 7 = .ok (.newarray .int, 2) := by decide +kernel
theorem dX9_init_9 : decode cX9_init 9 = .ok (.putfield 9, 3) := by decide +kernel
theorem dX9_init_12 : decode cX9_init 12 = .ok (.aload_n 0, 1) := by decide +kernel
theorem dX9_init_13 : decode cX9_init 13 = .ok (.iconst (-1), 1) := by decide +kernel
theorem dX9_init_14 : decode cX9_init 14 = .ok (.putfield 15, 3) := by decide +kernel
theorem dX9_init_17 : decode cX9_init 17 = .ok (.return_, 1) := by decide +kernel
set_option maxRecDepth 100000 in
set_option maxHeartbeats 8000000 in
theorem cc_X9_init {l : Launch} {E : sd_Env} (h0 : Nat)  : sd_MC l E yX9_init cX9_init 1 rm_X9_init [.ref h0] [(h0, .inr (9, [.null, .int 0]))] 1 30 (w1_X9_init E h0 ) := by
  refine sd_entC (by decide +kernel) (Nat.le_of_ble_eq_true rfl) ?_
  intro p e s m below meth c G hin
  show sd_Y _ _ _ _ _ _ _ _ _ _ [(0, .ref h0)] _
  refine sd_yaload_n G 0 dX9_init_0 rfl rfl rfl (n' := 1) ?_
  refine sd_yobj G sd_w320 sd_wob1 sd_wob2 (Nat.le_of_ble_eq_true rfl) (Nat.le_of_ble_eq_true rfl) dX9_init_1 rfl (n' := 4) ?_
  refine sd_yaload_n G 0 dX9_init_4 rfl rfl rfl (n' := 5) ?_
  refine sd_ybipush G (v := 30) dX9_init_5 rfl rfl (n' := 7) ?_
  refine sd_ynewa [] G (ty := .int) (a0 := (30, .inl (fun _ => 0))) (N' := 30) 0 sd_w167 rfl rfl (fun _ => rfl) (by decide) (by decide) (by decide) (Nat.le_of_ble_eq_true rfl) (Nat.le_of_ble_eq_true rfl) dX9_init_7 rfl (n' := 9) (fun q0 => ?_)
  refine sd_yw (ws' := [(h0, .inr (9, [.null, .int 0])), (q0, .inl (E.2.1 0, 30, .inl (fun _ => 0)))]) rfl ?_
  refine sd_yputF ([(h0, .inr (9, [.ref q0, .int 0])), (q0, .inl (E.2.1 0, 30, .inl (fun _ => 0)))]) G (T := TX9) (N := 2) 0 0 rfl rfl sd_in9 tyX9_ok nmX9 (by decide) sd_w321 rfl hin rfl (tyX9_ok 0 (by decide)) rfl rfl (Nat.le_of_ble_eq_true rfl) rfl dX9_init_9 rfl (n' := 12) ?_
  refine sd_yaload_n G 0 dX9_init_12 rfl rfl rfl (n' := 13) ?_
  refine sd_yiconst G (v := -1) dX9_init_13 rfl rfl (n' := 14) ?_
  refine sd_yput ([(h0, .inr (9, [.ref q0, .int (-1 : Int32)])), (q0, .inl (E.2.1 0, 30, .inl (fun _ => 0)))]) G (T := TX9) (N := 2) (ty := .int) 0 1 rfl rfl sd_in9 tyX9_ok nmX9 (by decide) sd_w322 rfl (tyX9_ok 1 (by decide)) rfl rfl (Nat.le_of_ble_eq_true rfl) rfl dX9_init_14 rfl (n' := 17) ?_
  exact sd_yret (below := below) (fun k => [q0].getD k 0) G dX9_init_17 rfl
def rm_X4_init : Room := { frames := 1, cells := 0, slots := 0, locals := 20 }
def w1_X4_init (E : sd_Env) (h0 : Nat)  (u : Nat → Nat) : va_W := [(h0, .inr (4, [.int (1 : Int32), .int (0 : Int32), .int (6 : Int32)]))]
theorem dX4_init_0 : decode cX4_init 0 = .ok (.aload_n 0, 1) := by decide +kernel
theorem dX4_init_1 : decode cX4_init 1 = .ok (.invokespecial 1, 3) := by decide +kernel
theorem dX4_init_4 : decode cX4_init 4 = .ok (.aload_n 0, 1) := by decide +kernel
theorem dX4_init_5 : decode cX4_init 5 = .ok (.iconst 1, 1) := by decide +kernel
theorem dX4_init_6 : decode cX4_init 6 = .ok (.putfield 7, 3) := by decide +kernel
theorem dX4_init_9 : decode cX4_init 9 = .ok (.aload_n 0, 1) := by decide +kernel
theorem dX4_init_10 : decode cX4_init 10 = .ok (.iconst 0, 1) := by decide +kernel
theorem dX4_init_11 : decode cX4_init 11 = .ok (.putfield 13, 3) := by decide +kernel
theorem dX4_init_14 : decode cX4_init 14 = .ok (.aload_n 0, 1) := by decide +kernel
theorem dX4_init_15 : decode cX4_init 15 = .ok (.bipush 6, 2) := by decide +kernel
theorem dX4_init_17 : decode cX4_init 17 = .ok (.putfield 16, 3) := by decide +kernel
theorem dX4_init_20 : decode cX4_init 20 = .ok (.return_, 1) := by decide +kernel
set_option maxRecDepth 100000 in
set_option maxHeartbeats 8000000 in
theorem cc_X4_init {l : Launch} {E : sd_Env} (h0 : Nat)  : sd_MC l E yX4_init cX4_init 1 rm_X4_init [.ref h0] [(h0, .inr (4, [.int 0, .int 0, .int 0]))] 0 0 (w1_X4_init E h0 ) := by
  refine sd_entC (by decide +kernel) (Nat.le_of_ble_eq_true rfl) ?_
  intro p e s m below meth c G hin
  show sd_Y _ _ _ _ _ _ _ _ _ _ [(0, .ref h0)] _
  refine sd_yaload_n G 0 dX4_init_0 rfl rfl rfl (n' := 1) ?_
  refine sd_yobj G sd_w173 sd_wob1 sd_wob2 (Nat.le_of_ble_eq_true rfl) (Nat.le_of_ble_eq_true rfl) dX4_init_1 rfl (n' := 4) ?_
  refine sd_yaload_n G 0 dX4_init_4 rfl rfl rfl (n' := 5) ?_
  refine sd_yiconst G (v := 1) dX4_init_5 rfl rfl (n' := 6) ?_
  refine sd_yput ([(h0, .inr (4, [.int (1 : Int32), .int 0, .int 0]))]) G (T := TX4) (N := 3) (ty := .int) 0 0 rfl rfl sd_in4 tyX4_ok nmX4 (by decide) sd_w174 rfl (tyX4_ok 0 (by decide)) rfl rfl (Nat.le_of_ble_eq_true rfl) rfl dX4_init_6 rfl (n' := 9) ?_
  refine sd_yaload_n G 0 dX4_init_9 rfl rfl rfl (n' := 10) ?_
  refine sd_yiconst G (v := 0) dX4_init_10 rfl rfl (n' := 11) ?_
  refine sd_yput ([(h0, .inr (4, [.int (1 : Int32), .int (0 : Int32), .int 0]))]) G (T := TX4) (N := 3) (ty := .int) 0 1 rfl rfl sd_in4 tyX4_ok nmX4 (by decide) sd_w178 rfl (tyX4_ok 1 (by decide)) rfl rfl (Nat.le_of_ble_eq_true rfl) rfl dX4_init_11 rfl (n' := 14) ?_
  refine sd_yaload_n G 0 dX4_init_14 rfl rfl rfl (n' := 15) ?_
  refine sd_ybipush G (v := 6) dX4_init_15 rfl rfl (n' := 17) ?_
  refine sd_yput ([(h0, .inr (4, [.int (1 : Int32), .int (0 : Int32), .int (6 : Int32)]))]) G (T := TX4) (N := 3) (ty := .int) 0 2 rfl rfl sd_in4 tyX4_ok nmX4 (by decide) sd_w182 rfl (tyX4_ok 2 (by decide)) rfl rfl (Nat.le_of_ble_eq_true rfl) rfl dX4_init_17 rfl (n' := 20) ?_
  exact sd_yret (below := below) (fun k => [].getD k 0) G dX4_init_20 rfl
def rm_X3_init : Room := { frames := 1, cells := 0, slots := 0, locals := 20 }
def w1_X3_init (E : sd_Env) (h0 : Nat)  (u : Nat → Nat) : va_W := [(h0, .inr (3, [.long (0 : Int64), .long (1 : Int64)]))]
theorem dX3_init_0 : decode cX3_init 0 = .ok (.aload_n 0, 1) := by decide +kernel
theorem dX3_init_1 : decode cX3_init 1 = .ok (.invokespecial 1, 3) := by decide +kernel
theorem dX3_init_4 : decode cX3_init 4 = .ok (.aload_n 0, 1) := by decide +kernel
theorem dX3_init_5 : decode cX3_init 5 = .ok (.lconst 0, 1) := by decide +kernel
theorem dX3_init_6 : decode cX3_init 6 = .ok (.putfield 7, 3) := by decide +kernel
theorem dX3_init_9 : decode cX3_init 9 = .ok (.aload_n 0, 1) := by decide +kernel
theorem dX3_init_10 : decode cX3_init 10 = .ok (.lconst 1, 1) := by decide +kernel
theorem dX3_init_11 : decode cX3_init 11 = .ok (.putfield 13, 3) := by decide +kernel
theorem dX3_init_14 : decode cX3_init 14 = .ok (.return_, 1) := by decide +kernel
set_option maxRecDepth 100000 in
set_option maxHeartbeats 8000000 in
theorem cc_X3_init {l : Launch} {E : sd_Env} (h0 : Nat)  : sd_MC l E yX3_init cX3_init 1 rm_X3_init [.ref h0] [(h0, .inr (3, [.long 0, .long 0]))] 0 0 (w1_X3_init E h0 ) := by
  refine sd_entC (by decide +kernel) (Nat.le_of_ble_eq_true rfl) ?_
  intro p e s m below meth c G hin
  show sd_Y _ _ _ _ _ _ _ _ _ _ [(0, .ref h0)] _
  refine sd_yaload_n G 0 dX3_init_0 rfl rfl rfl (n' := 1) ?_
  refine sd_yobj G sd_w278 sd_wob1 sd_wob2 (Nat.le_of_ble_eq_true rfl) (Nat.le_of_ble_eq_true rfl) dX3_init_1 rfl (n' := 4) ?_
  refine sd_yaload_n G 0 dX3_init_4 rfl rfl rfl (n' := 5) ?_
  refine sd_ylconst G (v := 0) dX3_init_5 rfl rfl (n' := 6) ?_
  refine sd_yput ([(h0, .inr (3, [.long (0 : Int64), .long 0]))]) G (T := TX3) (N := 2) (ty := .long) 0 0 rfl rfl sd_in3 tyX3_ok nmX3 (by decide) sd_w279 rfl (tyX3_ok 0 (by decide)) rfl rfl (Nat.le_of_ble_eq_true rfl) rfl dX3_init_6 rfl (n' := 9) ?_
  refine sd_yaload_n G 0 dX3_init_9 rfl rfl rfl (n' := 10) ?_
  refine sd_ylconst G (v := 1) dX3_init_10 rfl rfl (n' := 11) ?_
  refine sd_yput ([(h0, .inr (3, [.long (0 : Int64), .long (1 : Int64)]))]) G (T := TX3) (N := 2) (ty := .long) 0 1 rfl rfl sd_in3 tyX3_ok nmX3 (by decide) sd_w281 rfl (tyX3_ok 1 (by decide)) rfl rfl (Nat.le_of_ble_eq_true rfl) rfl dX3_init_11 rfl (n' := 14) ?_
  exact sd_yret (below := below) (fun k => [].getD k 0) G dX3_init_14 rfl
def rm_X2_init : Room := { frames := 1, cells := 1, slots := 6, locals := 20 }
def w1_X2_init (E : sd_Env) (h0 : Nat)  (u : Nat → Nat) : va_W := [(h0, .inr (2, [.ref (u 0), .int (0 : Int32)])), ((u 0), .inl (E.2.1 0, 6, .inl (fun _ => 0)))]
theorem dX2_init_0 : decode cX2_init 0 = .ok (.aload_n 0, 1) := by decide +kernel
theorem dX2_init_1 : decode cX2_init 1 = .ok (.invokespecial 3, 3) := by decide +kernel
theorem dX2_init_4 : decode cX2_init 4 = .ok (.aload_n 0, 1) := by decide +kernel
theorem dX2_init_5 : decode cX2_init 5 = .ok (.bipush 6, 2) := by decide +kernel
theorem dX2_init_7 : decode cX2_init 7 = .ok (.newarray .int, 2) := by decide +kernel
theorem dX2_init_9 : decode cX2_init 9 = .ok (.putfield 9, 3) := by decide +kernel
theorem dX2_init_12 : decode cX2_init 12 = .ok (.aload_n 0, 1) := by decide +kernel
theorem dX2_init_13 : decode cX2_init 13 = .ok (.iconst 0, 1) := by decide +kernel
theorem dX2_init_14 : decode cX2_init 14 = .ok (.putfield 15, 3) := by decide +kernel
theorem dX2_init_17 : decode cX2_init 17 = .ok (.return_, 1) := by decide +kernel
set_option maxRecDepth 100000 in
set_option maxHeartbeats 8000000 in
theorem cc_X2_init {l : Launch} {E : sd_Env} (h0 : Nat)  : sd_MC l E yX2_init cX2_init 1 rm_X2_init [.ref h0] [(h0, .inr (2, [.null, .int 0]))] 1 6 (w1_X2_init E h0 ) := by
  refine sd_entC (by decide +kernel) (Nat.le_of_ble_eq_true rfl) ?_
  intro p e s m below meth c G hin
  show sd_Y _ _ _ _ _ _ _ _ _ _ [(0, .ref h0)] _
  refine sd_yaload_n G 0 dX2_init_0 rfl rfl rfl (n' := 1) ?_
  refine sd_yobj G sd_w293 sd_wob1 sd_wob2 (Nat.le_of_ble_eq_true rfl) (Nat.le_of_ble_eq_true rfl) dX2_init_1 rfl (n' := 4) ?_
  refine sd_yaload_n G 0 dX2_init_4 rfl rfl rfl (n' := 5) ?_
  refine sd_ybipush G (v := 6) dX2_init_5 rfl rfl (n' := 7) ?_
  refine sd_ynewa [] G (ty := .int) (a0 := (6, .inl (fun _ => 0))) (N' := 6) 0 sd_w167 rfl rfl (fun _ => rfl) (by decide) (by decide) (by decide) (Nat.le_of_ble_eq_true rfl) (Nat.le_of_ble_eq_true rfl) dX2_init_7 rfl (n' := 9) (fun q0 => ?_)
  refine sd_yw (ws' := [(h0, .inr (2, [.null, .int 0])), (q0, .inl (E.2.1 0, 6, .inl (fun _ => 0)))]) rfl ?_
  refine sd_yputF ([(h0, .inr (2, [.ref q0, .int 0])), (q0, .inl (E.2.1 0, 6, .inl (fun _ => 0)))]) G (T := TX2) (N := 2) 0 0 rfl rfl sd_in2 tyX2_ok nmX2 (by decide) sd_w294 rfl hin rfl (tyX2_ok 0 (by decide)) rfl rfl (Nat.le_of_ble_eq_true rfl) rfl dX2_init_9 rfl (n' := 12) ?_
  refine sd_yaload_n G 0 dX2_init_12 rfl rfl rfl (n' := 13) ?_
  refine sd_yiconst G (v := 0) dX2_init_13 rfl rfl (n' := 14) ?_
  refine sd_yput ([(h0, .inr (2, [.ref q0, .int (0 : Int32)])), (q0, .inl (E.2.1 0, 6, .inl (fun _ => 0)))]) G (T := TX2) (N := 2) (ty := .int) 0 1 rfl rfl sd_in2 tyX2_ok nmX2 (by decide) sd_w295 rfl (tyX2_ok 1 (by decide)) rfl rfl (Nat.le_of_ble_eq_true rfl) rfl dX2_init_14 rfl (n' := 17) ?_
  exact sd_yret (below := below) (fun k => [q0].getD k 0) G dX2_init_17 rfl
def rm_X8_init : Room := { frames := 1, cells := 5, slots := 30, locals := 20 }
def w1_X8_init (E : sd_Env) (h0 : Nat)  (u : Nat → Nat) : va_W := [(h0, .inr (8, [.ref (u 0), .ref (u 1), .ref (u 2), .ref (u 3), .ref (u 4), .int (0 : Int32)])), ((u 0), .inl (E.2.1 0, 6, .inl (fun _ => 0))), ((u 1), .inl (E.2.1 0, 6, .inl (fun _ => 0))), ((u 2), .inl (E.2.1 0, 6, .inl (fun _ => 0))), ((u 3), .inl (E.2.1 0, 6, .inl (fun _ => 0))), ((u 4), .inl (E.2.1 1, 6, .inl (fun _ => 0)))]
theorem dX8_init_0 : decode cX8_init 0 = .ok (.aload_n 0, 1) := by decide +kernel
theorem dX8_init_1 : decode cX8_init 1 = .ok (.invokespecial 3, 3) := by decide +kernel
theorem dX8_init_4 : decode cX8_init 4 = .ok (.aload_n 0, 1) := by decide +kernel
theorem dX8_init_5 : decode cX8_init 5 = .ok (.bipush 6, 2) := by decide +kernel
theorem dX8_init_7 : decode cX8_init 7 = .ok (.newarray .int, 2) := by decide +kernel
theorem dX8_init_9 : decode cX8_init 9 = .ok (.putfield 9, 3) := by decide +kernel
theorem dX8_init_12 : decode cX8_init 12 = .ok (.aload_n 0, 1) := by decide +kernel
theorem dX8_init_13 : decode cX8_init 13 = .ok (.bipush 6, 2) := by decide +kernel
theorem dX8_init_15 : decode cX8_init 15 = .ok (.newarray .int, 2) := by decide +kernel
theorem dX8_init_17 : decode cX8_init 17 = .ok (.putfield 15, 3) := by decide +kernel
theorem dX8_init_20 : decode cX8_init 20 = .ok (.aload_n 0, 1) := by decide +kernel
theorem dX8_init_21 : decode cX8_init 21 = .ok (.bipush 6, 2) := by decide +kernel
theorem dX8_init_23 : decode cX8_init 23 = .ok (.newarray .int, 2) := by decide +kernel
theorem dX8_init_25 : decode cX8_init 25 = .ok (.putfield 18, 3) := by decide +kernel
theorem dX8_init_28 : decode cX8_init 28 = .ok (.aload_n 0, 1) := by decide +kernel
theorem dX8_init_29 : decode cX8_init 29 = .ok (.bipush 6, 2) := by decide +kernel
theorem dX8_init_31 : decode cX8_init 31 = .ok (.newarray .int, 2) := by decide +kernel
theorem dX8_init_33 : decode cX8_init 33 = .ok (.putfield 21, 3) := by decide +kernel
theorem dX8_init_36 : decode cX8_init 36 = .ok (.aload_n 0, 1) := by decide +kernel
theorem dX8_init_37 : decode cX8_init 37 = .ok (.bipush 6, 2) := by decide +kernel
theorem dX8_init_39 : decode cX8_init 39 = .ok (.newarray .boolean, 2) := by decide +kernel
theorem dX8_init_41 : decode cX8_init 41 = .ok (.putfield 24, 3) := by decide +kernel
theorem dX8_init_44 : decode cX8_init 44 = .ok (.aload_n 0, 1) := by decide +kernel
theorem dX8_init_45 : decode cX8_init 45 = .ok (.iconst 0, 1) := by decide +kernel
theorem dX8_init_46 : decode cX8_init 46 = .ok (.putfield 28, 3) := by decide +kernel
theorem dX8_init_49 : decode cX8_init 49 = .ok (.return_, 1) := by decide +kernel
set_option maxRecDepth 100000 in
set_option maxHeartbeats 8000000 in
theorem cc_X8_init {l : Launch} {E : sd_Env} (h0 : Nat)  : sd_MC l E yX8_init cX8_init 1 rm_X8_init [.ref h0] [(h0, .inr (8, [.null, .null, .null, .null, .null, .int 0]))] 5 30 (w1_X8_init E h0 ) := by
  refine sd_entC (by decide +kernel) (Nat.le_of_ble_eq_true rfl) ?_
  intro p e s m below meth c G hin
  show sd_Y _ _ _ _ _ _ _ _ _ _ [(0, .ref h0)] _
  refine sd_yaload_n G 0 dX8_init_0 rfl rfl rfl (n' := 1) ?_
  refine sd_yobj G sd_w249 sd_wob1 sd_wob2 (Nat.le_of_ble_eq_true rfl) (Nat.le_of_ble_eq_true rfl) dX8_init_1 rfl (n' := 4) ?_
  refine sd_yaload_n G 0 dX8_init_4 rfl rfl rfl (n' := 5) ?_
  refine sd_ybipush G (v := 6) dX8_init_5 rfl rfl (n' := 7) ?_
  refine sd_ynewa [] G (ty := .int) (a0 := (6, .inl (fun _ => 0))) (N' := 6) 0 sd_w167 rfl rfl (fun _ => rfl) (by decide) (by decide) (by decide) (Nat.le_of_ble_eq_true rfl) (Nat.le_of_ble_eq_true rfl) dX8_init_7 rfl (n' := 9) (fun q0 => ?_)
  refine sd_yw (ws' := [(h0, .inr (8, [.null, .null, .null, .null, .null, .int 0])), (q0, .inl (E.2.1 0, 6, .inl (fun _ => 0)))]) rfl ?_
  refine sd_yputF ([(h0, .inr (8, [.ref q0, .null, .null, .null, .null, .int 0])), (q0, .inl (E.2.1 0, 6, .inl (fun _ => 0)))]) G (T := TX8) (N := 6) 0 0 rfl rfl sd_in8 tyX8_ok nmX8 (by decide) sd_w250 rfl hin rfl (tyX8_ok 0 (by decide)) rfl rfl (Nat.le_of_ble_eq_true rfl) rfl dX8_init_9 rfl (n' := 12) ?_
  refine sd_yaload_n G 0 dX8_init_12 rfl rfl rfl (n' := 13) ?_
  refine sd_ybipush G (v := 6) dX8_init_13 rfl rfl (n' := 15) ?_
  refine sd_ynewa [] G (ty := .int) (a0 := (6, .inl (fun _ => 0))) (N' := 6) 0 sd_w167 rfl rfl (fun _ => rfl) (by decide) (by decide) (by decide) (Nat.le_of_ble_eq_true rfl) (Nat.le_of_ble_eq_true rfl) dX8_init_15 rfl (n' := 17) (fun q1 => ?_)
  refine sd_yw (ws' := [(h0, .inr (8, [.ref q0, .null, .null, .null, .null, .int 0])), (q0, .inl (E.2.1 0, 6, .inl (fun _ => 0))), (q1, .inl (E.2.1 0, 6, .inl (fun _ => 0)))]) rfl ?_
  refine sd_yputF ([(h0, .inr (8, [.ref q0, .ref q1, .null, .null, .null, .int 0])), (q0, .inl (E.2.1 0, 6, .inl (fun _ => 0))), (q1, .inl (E.2.1 0, 6, .inl (fun _ => 0)))]) G (T := TX8) (N := 6) 0 1 rfl rfl sd_in8 tyX8_ok nmX8 (by decide) sd_w252 rfl hin rfl (tyX8_ok 1 (by decide)) rfl rfl (Nat.le_of_ble_eq_true rfl) rfl dX8_init_17 rfl (n' := 20) ?_
  refine sd_yaload_n G 0 dX8_init_20 rfl rfl rfl (n' := 21) ?_
  refine sd_ybipush G (v := 6) dX8_init_21 rfl rfl (n' := 23) ?_
  refine sd_ynewa [] G (ty := .int) (a0 := (6, .inl (fun _ => 0))) (N' := 6) 0 sd_w167 rfl rfl (fun _ => rfl) (by decide) (by decide) (by decide) (Nat.le_of_ble_eq_true rfl) (Nat.le_of_ble_eq_true rfl) dX8_init_23 rfl (n' := 25) (fun q2 => ?_)
  refine sd_yw (ws' := [(h0, .inr (8, [.ref q0, .ref q1, .null, .null, .null, .int 0])), (q0, .inl (E.2.1 0, 6, .inl (fun _ => 0))), (q1, .inl (E.2.1 0, 6, .inl (fun _ => 0))), (q2, .inl (E.2.1 0, 6, .inl (fun _ => 0)))]) rfl ?_
  refine sd_yputF ([(h0, .inr (8, [.ref q0, .ref q1, .ref q2, .null, .null, .int 0])), (q0, .inl (E.2.1 0, 6, .inl (fun _ => 0))), (q1, .inl (E.2.1 0, 6, .inl (fun _ => 0))), (q2, .inl (E.2.1 0, 6, .inl (fun _ => 0)))]) G (T := TX8) (N := 6) 0 2 rfl rfl sd_in8 tyX8_ok nmX8 (by decide) sd_w254 rfl hin rfl (tyX8_ok 2 (by decide)) rfl rfl (Nat.le_of_ble_eq_true rfl) rfl dX8_init_25 rfl (n' := 28) ?_
  refine sd_yaload_n G 0 dX8_init_28 rfl rfl rfl (n' := 29) ?_
  refine sd_ybipush G (v := 6) dX8_init_29 rfl rfl (n' := 31) ?_
  refine sd_ynewa [] G (ty := .int) (a0 := (6, .inl (fun _ => 0))) (N' := 6) 0 sd_w167 rfl rfl (fun _ => rfl) (by decide) (by decide) (by decide) (Nat.le_of_ble_eq_true rfl) (Nat.le_of_ble_eq_true rfl) dX8_init_31 rfl (n' := 33) (fun q3 => ?_)
  refine sd_yw (ws' := [(h0, .inr (8, [.ref q0, .ref q1, .ref q2, .null, .null, .int 0])), (q0, .inl (E.2.1 0, 6, .inl (fun _ => 0))), (q1, .inl (E.2.1 0, 6, .inl (fun _ => 0))), (q2, .inl (E.2.1 0, 6, .inl (fun _ => 0))), (q3, .inl (E.2.1 0, 6, .inl (fun _ => 0)))]) rfl ?_
  refine sd_yputF ([(h0, .inr (8, [.ref q0, .ref q1, .ref q2, .ref q3, .null, .int 0])), (q0, .inl (E.2.1 0, 6, .inl (fun _ => 0))), (q1, .inl (E.2.1 0, 6, .inl (fun _ => 0))), (q2, .inl (E.2.1 0, 6, .inl (fun _ => 0))), (q3, .inl (E.2.1 0, 6, .inl (fun _ => 0)))]) G (T := TX8) (N := 6) 0 3 rfl rfl sd_in8 tyX8_ok nmX8 (by decide) sd_w256 rfl hin rfl (tyX8_ok 3 (by decide)) rfl rfl (Nat.le_of_ble_eq_true rfl) rfl dX8_init_33 rfl (n' := 36) ?_
  refine sd_yaload_n G 0 dX8_init_36 rfl rfl rfl (n' := 37) ?_
  refine sd_ybipush G (v := 6) dX8_init_37 rfl rfl (n' := 39) ?_
  refine sd_ynewa [] G (ty := .boolean) (a0 := (6, .inl (fun _ => 0))) (N' := 6) 1 sd_w272 rfl rfl (fun _ => rfl) (by decide) (by decide) (by decide) (Nat.le_of_ble_eq_true rfl) (Nat.le_of_ble_eq_true rfl) dX8_init_39 rfl (n' := 41) (fun q4 => ?_)
  refine sd_yw (ws' := [(h0, .inr (8, [.ref q0, .ref q1, .ref q2, .ref q3, .null, .int 0])), (q0, .inl (E.2.1 0, 6, .inl (fun _ => 0))), (q1, .inl (E.2.1 0, 6, .inl (fun _ => 0))), (q2, .inl (E.2.1 0, 6, .inl (fun _ => 0))), (q3, .inl (E.2.1 0, 6, .inl (fun _ => 0))), (q4, .inl (E.2.1 1, 6, .inl (fun _ => 0)))]) rfl ?_
  refine sd_yputF ([(h0, .inr (8, [.ref q0, .ref q1, .ref q2, .ref q3, .ref q4, .int 0])), (q0, .inl (E.2.1 0, 6, .inl (fun _ => 0))), (q1, .inl (E.2.1 0, 6, .inl (fun _ => 0))), (q2, .inl (E.2.1 0, 6, .inl (fun _ => 0))), (q3, .inl (E.2.1 0, 6, .inl (fun _ => 0))), (q4, .inl (E.2.1 1, 6, .inl (fun _ => 0)))]) G (T := TX8) (N := 6) 0 4 rfl rfl sd_in8 tyX8_ok nmX8 (by decide) sd_w257 rfl hin rfl (tyX8_ok 4 (by decide)) rfl rfl (Nat.le_of_ble_eq_true rfl) rfl dX8_init_41 rfl (n' := 44) ?_
  refine sd_yaload_n G 0 dX8_init_44 rfl rfl rfl (n' := 45) ?_
  refine sd_yiconst G (v := 0) dX8_init_45 rfl rfl (n' := 46) ?_
  refine sd_yput ([(h0, .inr (8, [.ref q0, .ref q1, .ref q2, .ref q3, .ref q4, .int (0 : Int32)])), (q0, .inl (E.2.1 0, 6, .inl (fun _ => 0))), (q1, .inl (E.2.1 0, 6, .inl (fun _ => 0))), (q2, .inl (E.2.1 0, 6, .inl (fun _ => 0))), (q3, .inl (E.2.1 0, 6, .inl (fun _ => 0))), (q4, .inl (E.2.1 1, 6, .inl (fun _ => 0)))]) G (T := TX8) (N := 6) (ty := .int) 0 5 rfl rfl sd_in8 tyX8_ok nmX8 (by decide) sd_w258 rfl (tyX8_ok 5 (by decide)) rfl rfl (Nat.le_of_ble_eq_true rfl) rfl dX8_init_46 rfl (n' := 49) ?_
  exact sd_yret (below := below) (fun k => [q0, q1, q2, q3, q4].getD k 0) G dX8_init_49 rfl
def rm_X7_init : Room := { frames := 1, cells := 0, slots := 0, locals := 20 }
def w1_X7_init (E : sd_Env) (h0 : Nat) (a1 : Nat) (a2 : Nat) (u : Nat → Nat) : va_W := [(h0, .inr (7, [.ref a1, .ref a2]))]
theorem dX7_init_0 : decode cX7_init 0 = .ok (.aload_n 0, 1) := by decide +kernel
theorem dX7_init_1 : decode cX7_init 1 = .ok (.invokespecial 3, 3) := by decide +kernel
theorem dX7_init_4 : decode cX7_init 4 = .ok (.aload_n 0, 1) := by decide +kernel
theorem dX7_init_5 : decode cX7_init 5 = .ok (.aload_n 1, 1) := by decide +kernel
theorem dX7_init_6 : decode cX7_init 6 = .ok (.putfield 9, 3) := by decide +kernel
theorem dX7_init_9 : decode cX7_init 9 = .ok (.aload_n 0, 1) := by decide +kernel
theorem dX7_init_10 : decode cX7_init 10 = .ok (.aload_n 2, 1) := by decide +kernel
theorem dX7_init_11 : decode cX7_init 11 = .ok (.putfield 15, 3) := by decide +kernel
theorem dX7_init_14 : decode cX7_init 14 = .ok (.return_, 1) := by decide +kernel
set_option maxRecDepth 100000 in
set_option maxHeartbeats 8000000 in
theorem cc_X7_init {l : Launch} {E : sd_Env} (h0 : Nat) (a1 : Nat) (a2 : Nat) : sd_MC l E yX7_init cX7_init 3 rm_X7_init [.ref h0, .ref a1, .ref a2] [(h0, .inr (7, [.null, .null]))] 0 0 (w1_X7_init E h0 a1 a2) := by
  refine sd_entC (by decide +kernel) (Nat.le_of_ble_eq_true rfl) ?_
  intro p e s m below meth c G hin
  show sd_Y _ _ _ _ _ _ _ _ _ _ [(0, .ref h0), (1, .ref a1), (2, .ref a2)] _
  refine sd_yaload_n G 0 dX7_init_0 rfl rfl rfl (n' := 1) ?_
  refine sd_yobj G sd_w213 sd_wob1 sd_wob2 (Nat.le_of_ble_eq_true rfl) (Nat.le_of_ble_eq_true rfl) dX7_init_1 rfl (n' := 4) ?_
  refine sd_yaload_n G 0 dX7_init_4 rfl rfl rfl (n' := 5) ?_
  refine sd_yaload_n G 1 dX7_init_5 rfl rfl rfl (n' := 6) ?_
  refine sd_yputF ([(h0, .inr (7, [.ref a1, .null]))]) G (T := TX7) (N := 2) 0 0 rfl rfl sd_in7 tyX7_ok nmX7 (by decide) sd_w214 rfl hin rfl (tyX7_ok 0 (by decide)) rfl rfl (Nat.le_of_ble_eq_true rfl) rfl dX7_init_6 rfl (n' := 9) ?_
  refine sd_yaload_n G 0 dX7_init_9 rfl rfl rfl (n' := 10) ?_
  refine sd_yaload_n G 2 dX7_init_10 rfl rfl rfl (n' := 11) ?_
  refine sd_yputF ([(h0, .inr (7, [.ref a1, .ref a2]))]) G (T := TX7) (N := 2) 0 1 rfl rfl sd_in7 tyX7_ok nmX7 (by decide) sd_w215 rfl hin rfl (tyX7_ok 1 (by decide)) rfl rfl (Nat.le_of_ble_eq_true rfl) rfl dX7_init_11 rfl (n' := 14) ?_
  exact sd_yret (below := below) (fun k => [].getD k 0) G dX7_init_14 rfl
def rm_X1_init40 : Room := { frames := 1, cells := 1, slots := 40, locals := 30 }
def w1_X1_init40 (E : sd_Env) (h0 : Nat)  (u : Nat → Nat) : va_W := [(h0, .inr (1, [.ref (u 0), .int (-1 : Int32)])), ((u 0), .inl (E.2.1 0, 40, .inl (fun _ => 0)))]
theorem dX1_init_0 : decode cX1_init 0 = .ok (.aload_n 0, 1) := by decide +kernel
theorem dX1_init_1 : decode cX1_init 1 = .ok (.invokespecial 3, 3) := by decide +kernel
theorem dX1_init_4 : decode cX1_init 4 = .ok (.aload_n 0, 1) := by decide +kernel
theorem dX1_init_5 : decode cX1_init 5 = .ok (.iconst (-1), 1) := by decide +kernel
theorem dX1_init_6 : decode cX1_init 6 = .ok (.putfield 9, 3) := by decide +kernel
theorem dX1_init_9 : decode cX1_init 9 = .ok (.aload_n 0, 1) := by decide +kernel
theorem dX1_init_10 : decode cX1_init 10 = .ok (.iload_n 1, 1) := by decide +kernel
theorem dX1_init_11 : decode cX1_init 11 = .ok (.iconst 0, 1) := by decide +kernel
theorem dX1_init_12 : decode cX1_init 12 = .ok (.invokestatic 15, 3) := by decide +kernel
theorem dX1_init_15 : decode cX1_init 15 = .ok (.newarray .int, 2) := by decide +kernel
theorem dX1_init_17 : decode cX1_init 17 = .ok (.putfield 21, 3) := by decide +kernel
theorem dX1_init_20 : decode cX1_init 20 = .ok (.return_, 1) := by decide +kernel
set_option maxRecDepth 100000 in
set_option maxHeartbeats 8000000 in
theorem cc_X1_init40 {l : Launch} {E : sd_Env} (h0 : Nat)  : sd_MC l E yX1_init cX1_init 2 rm_X1_init40 [.ref h0, .int (40 : Int32)] [(h0, .inr (1, [.null, .int 0]))] 1 40 (w1_X1_init40 E h0 ) := by
  refine sd_entC (by decide +kernel) (Nat.le_of_ble_eq_true rfl) ?_
  intro p e s m below meth c G hin
  show sd_Y _ _ _ _ _ _ _ _ _ _ [(0, .ref h0), (1, .int (40 : Int32))] _
  refine sd_yaload_n G 0 dX1_init_0 rfl rfl rfl (n' := 1) ?_
  refine sd_yobj G sd_w305 sd_wob1 sd_wob2 (Nat.le_of_ble_eq_true rfl) (Nat.le_of_ble_eq_true rfl) dX1_init_1 rfl (n' := 4) ?_
  refine sd_yaload_n G 0 dX1_init_4 rfl rfl rfl (n' := 5) ?_
  refine sd_yiconst G (v := -1) dX1_init_5 rfl rfl (n' := 6) ?_
  refine sd_yput ([(h0, .inr (1, [.null, .int (-1 : Int32)]))]) G (T := TX1) (N := 2) (ty := .int) 0 1 rfl rfl sd_in1 tyX1_ok nmX1 (by decide) sd_w310 rfl (tyX1_ok 1 (by decide)) rfl rfl (Nat.le_of_ble_eq_true rfl) rfl dX1_init_6 rfl (n' := 9) ?_
  refine sd_yaload_n G 0 dX1_init_9 rfl rfl rfl (n' := 10) ?_
  refine sd_yiload_n G 1 dX1_init_10 rfl rfl rfl (n' := 11) ?_
  refine sd_yiconst G (v := 0) dX1_init_11 rfl rfl (n' := 12) ?_
  refine sd_ymax G sd_w306 sd_w87 (Nat.le_of_ble_eq_true rfl) (Nat.le_of_ble_eq_true rfl) (Nat.le_of_ble_eq_true rfl) (Nat.le_of_ble_eq_true rfl) dX1_init_12 rfl (n' := 15) ?_
  refine sd_ynewa [] G (ty := .int) (a0 := (40, .inl (fun _ => 0))) (N' := 40) 0 sd_w167 rfl rfl (fun _ => rfl) (by decide) (by decide) (by decide) (Nat.le_of_ble_eq_true rfl) (Nat.le_of_ble_eq_true rfl) dX1_init_15 rfl (n' := 17) (fun q0 => ?_)
  refine sd_yw (ws' := [(h0, .inr (1, [.null, .int (-1 : Int32)])), (q0, .inl (E.2.1 0, 40, .inl (fun _ => 0)))]) rfl ?_
  refine sd_yputF ([(h0, .inr (1, [.ref q0, .int (-1 : Int32)])), (q0, .inl (E.2.1 0, 40, .inl (fun _ => 0)))]) G (T := TX1) (N := 2) 0 0 rfl rfl sd_in1 tyX1_ok nmX1 (by decide) sd_w309 rfl hin rfl (tyX1_ok 0 (by decide)) rfl rfl (Nat.le_of_ble_eq_true rfl) rfl dX1_init_17 rfl (n' := 20) ?_
  exact sd_yret (below := below) (fun k => [q0].getD k 0) G dX1_init_20 rfl
def rm_X1_init60 : Room := { frames := 1, cells := 1, slots := 60, locals := 30 }
def w1_X1_init60 (E : sd_Env) (h0 : Nat)  (u : Nat → Nat) : va_W := [(h0, .inr (1, [.ref (u 0), .int (-1 : Int32)])), ((u 0), .inl (E.2.1 0, 60, .inl (fun _ => 0)))]
set_option maxRecDepth 100000 in
set_option maxHeartbeats 8000000 in
theorem cc_X1_init60 {l : Launch} {E : sd_Env} (h0 : Nat)  : sd_MC l E yX1_init cX1_init 2 rm_X1_init60 [.ref h0, .int (60 : Int32)] [(h0, .inr (1, [.null, .int 0]))] 1 60 (w1_X1_init60 E h0 ) := by
  refine sd_entC (by decide +kernel) (Nat.le_of_ble_eq_true rfl) ?_
  intro p e s m below meth c G hin
  show sd_Y _ _ _ _ _ _ _ _ _ _ [(0, .ref h0), (1, .int (60 : Int32))] _
  refine sd_yaload_n G 0 dX1_init_0 rfl rfl rfl (n' := 1) ?_
  refine sd_yobj G sd_w305 sd_wob1 sd_wob2 (Nat.le_of_ble_eq_true rfl) (Nat.le_of_ble_eq_true rfl) dX1_init_1 rfl (n' := 4) ?_
  refine sd_yaload_n G 0 dX1_init_4 rfl rfl rfl (n' := 5) ?_
  refine sd_yiconst G (v := -1) dX1_init_5 rfl rfl (n' := 6) ?_
  refine sd_yput ([(h0, .inr (1, [.null, .int (-1 : Int32)]))]) G (T := TX1) (N := 2) (ty := .int) 0 1 rfl rfl sd_in1 tyX1_ok nmX1 (by decide) sd_w310 rfl (tyX1_ok 1 (by decide)) rfl rfl (Nat.le_of_ble_eq_true rfl) rfl dX1_init_6 rfl (n' := 9) ?_
  refine sd_yaload_n G 0 dX1_init_9 rfl rfl rfl (n' := 10) ?_
  refine sd_yiload_n G 1 dX1_init_10 rfl rfl rfl (n' := 11) ?_
  refine sd_yiconst G (v := 0) dX1_init_11 rfl rfl (n' := 12) ?_
  refine sd_ymax G sd_w306 sd_w87 (Nat.le_of_ble_eq_true rfl) (Nat.le_of_ble_eq_true rfl) (Nat.le_of_ble_eq_true rfl) (Nat.le_of_ble_eq_true rfl) dX1_init_12 rfl (n' := 15) ?_
  refine sd_ynewa [] G (ty := .int) (a0 := (60, .inl (fun _ => 0))) (N' := 60) 0 sd_w167 rfl rfl (fun _ => rfl) (by decide) (by decide) (by decide) (Nat.le_of_ble_eq_true rfl) (Nat.le_of_ble_eq_true rfl) dX1_init_15 rfl (n' := 17) (fun q0 => ?_)
  refine sd_yw (ws' := [(h0, .inr (1, [.null, .int (-1 : Int32)])), (q0, .inl (E.2.1 0, 60, .inl (fun _ => 0)))]) rfl ?_
  refine sd_yputF ([(h0, .inr (1, [.ref q0, .int (-1 : Int32)])), (q0, .inl (E.2.1 0, 60, .inl (fun _ => 0)))]) G (T := TX1) (N := 2) 0 0 rfl rfl sd_in1 tyX1_ok nmX1 (by decide) sd_w309 rfl hin rfl (tyX1_ok 0 (by decide)) rfl rfl (Nat.le_of_ble_eq_true rfl) rfl dX1_init_17 rfl (n' := 20) ?_
  exact sd_yret (below := below) (fun k => [q0].getD k 0) G dX1_init_20 rfl
