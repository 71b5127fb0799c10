theorem dJ7_fill_53178_0 : decode cJ7_fill_53178 0 = .ok (.iconst 0, 1) := by decide +kernel
theorem dJ7_fill_53178_1 : decode cJ7_fill_53178 1 = .ok (.istore_n 2, 1) := by decide +kernel
theorem dJ7_fill_53178_2 : decode cJ7_fill_53178 2 = .ok (.aload_n 0, 1) := by decide +kernel
theorem dJ7_fill_53178_3 : decode cJ7_fill_53178 3 = .ok (.arraylength, 1) := by decide +kernel
theorem dJ7_fill_53178_4 : decode cJ7_fill_53178 4 = .ok (.istore_n 3, 1) := by decide +kernel
theorem dJ7_fill_53178_5 : decode cJ7_fill_53178 5 = .ok (.iload_n 2, 1) := by decide +kernel
theorem dJ7_fill_53178_6 : decode cJ7_fill_53178 6 = .ok (.iload_n 3, 1) := by decide +kernel
theorem dJ7_fill_53178_7 : decode cJ7_fill_53178 7 = .ok (.if_icmp .ge 13, 3) := by decide +kernel
theorem dJ7_fill_53178_10 : decode cJ7_fill_53178 10 = .ok (.aload_n 0, 1) := by decide +kernel
theorem dJ7_fill_53178_11 : decode cJ7_fill_53178 11 = .ok (.iload_n 2, 1) := by decide +kernel
theorem dJ7_fill_53178_12 : decode cJ7_fill_53178 12 = .ok (.iload_n 1, 1) := by decide +kernel
theorem dJ7_fill_53178_13 : decode cJ7_fill_53178 13 = .ok (.iastore, 1) := by decide +kernel
theorem dJ7_fill_53178_14 : decode cJ7_fill_53178 14 = .ok (.iinc 2 1, 3) := by decide +kernel
theorem dJ7_fill_53178_17 : decode cJ7_fill_53178 17 = .ok (.goto (-12), 3) := by decide +kernel
theorem dJ7_fill_53178_20 : decode cJ7_fill_53178 20 = .ok (.return_, 1) := by decide +kernel
set_option maxRecDepth 100000 in
set_option maxHeartbeats 4000000 in
theorem tb_J7_fill_53178_5 {K : sd_K} {E : sd_Env}  {h0 : Nat} {r : sd_Mem} (C : sd_C K E sd_LC RJ7 cJ7_fill_53178 4 none) (k0 : sd_kd h0 = 20) (m0 : h0 ∈ sd_LC) : ∀ (n : Nat), ∀ (M : sd_Mem) (x1 : Int32) (x2 : Int32) (x3 : Int32), fn_J7_fill_53178_5 h0 n M x1 x2 x3 = some r → sd_Z K rm_J7_fill_53178 E sd_LC 4 (sd_QV K E sd_LC r) M 5 [(0, .ref (E.2.2 h0)), (1, .int x1), (2, .int x2), (3, .int x3)] [] := by
  intro n
  induction n with
  | zero => intro M x1 x2 x3 hF; cases hF
  | succ n ih =>
    intro M x1 x2 x3 hF
    unfold fn_J7_fill_53178_5 at hF
    refine sd_iload_n C 2 dJ7_fill_53178_5 rfl rfl rfl (n' := 6) ?_
    refine sd_iload_n C 3 dJ7_fill_53178_6 rfl rfl rfl (n' := 7) ?_
    refine sd_icmp_ge C (n' := 10) (tgt := 20) dJ7_fill_53178_7 rfl rfl (fun c7 => ?_) (fun c7 => ?_)
    · replace hF := sd_pos hF c7
      exact sd_vret C dJ7_fill_53178_20 (Option.some.inj hF)
    · replace hF := sd_neg hF c7
      refine sd_aload_n C 0 dJ7_fill_53178_10 rfl rfl rfl (n' := 11) ?_
      refine sd_iload_n C 2 dJ7_fill_53178_11 rfl rfl rfl (n' := 12) ?_
      refine sd_iload_n C 1 dJ7_fill_53178_12 rfl rfl rfl (n' := 13) ?_
      obtain ⟨b13, hF⟩ := sd_ok hF
      refine sd_iast C m0 k0 rfl b13 dJ7_fill_53178_13 rfl (n' := 14) ?_
      refine sd_iinc [(2, .int (x2 + (1 : Int32))), (0, .ref (E.2.2 h0)), (1, .int x1), (3, .int x3)] 2 C dJ7_fill_53178_14 rfl rfl (by decide) rfl rfl (n' := 17) ?_
      refine sd_goto C (tgt := 5) dJ7_fill_53178_17 rfl ?_
      refine sd_sub [1, 2, 0, 3] rfl ?_
      exact ih (sd_setI M h0 x2.toNatClampNeg x1) x1 (x2 + (1 : Int32)) x3 hF
set_option maxRecDepth 100000 in
set_option maxHeartbeats 4000000 in
theorem tb_J7_fill_53178_0 {K : sd_K} {E : sd_Env}  {h0 : Nat} {r : sd_Mem} (C : sd_C K E sd_LC RJ7 cJ7_fill_53178 4 none) (k0 : sd_kd h0 = 20) (m0 : h0 ∈ sd_LC) : ∀ (M : sd_Mem) (x1 : Int32), fn_J7_fill_53178_0 h0 M x1 = some r → sd_Z K rm_J7_fill_53178 E sd_LC 4 (sd_QV K E sd_LC r) M 0 [(0, .ref (E.2.2 h0)), (1, .int x1)] [] := by
  intro M x1 hF
  unfold fn_J7_fill_53178_0 at hF
  refine sd_iconst C (v := 0) dJ7_fill_53178_0 rfl rfl (n' := 1) ?_
  refine sd_istore_n [(2, .int (0 : Int32)), (0, .ref (E.2.2 h0)), (1, .int x1)] C dJ7_fill_53178_1 rfl (by decide) rfl rfl (n' := 2) ?_
  refine sd_aload_n C 1 dJ7_fill_53178_2 rfl rfl rfl (n' := 3) ?_
  refine sd_alen C m0 k0 rfl rfl dJ7_fill_53178_3 rfl (n' := 4) ?_
  refine sd_istore_n [(3, .int (Int32.ofNat (sd_ln h0))), (2, .int (0 : Int32)), (0, .ref (E.2.2 h0)), (1, .int x1)] C dJ7_fill_53178_4 rfl (by decide) rfl rfl (n' := 5) ?_
  refine sd_sub [2, 3, 1, 0] rfl ?_
  exact tb_J7_fill_53178_5 C k0 m0 sd_FU M x1 (0 : Int32) (Int32.ofNat (sd_ln h0)) hF
theorem ct_J7_fill_53178 {l : Launch} {E : sd_Env} (M : sd_Mem) (h0 : Nat) (x1 : Int32) (k0 : sd_kd h0 = 20) (m0 : h0 ∈ sd_LC) {r : sd_Mem} (hF : fn_J7_fill_53178 M h0 x1 = some r) : sd_MV l E sd_LC yJ7_fill_53178 cJ7_fill_53178 4 none rm_J7_fill_53178 [.ref (E.2.2 h0), .int x1] M r := sd_ent0 (by decide +kernel) (Nat.le_of_ble_eq_true rfl) (fun p e s m below meth c C => tb_J7_fill_53178_0 C k0 m0 M x1 hF)
theorem dX5_clear_0 : decode cX5_clear 0 = .ok (.aload_n 0, 1) := by decide +kernel
theorem dX5_clear_1 : decode cX5_clear 1 = .ok (.getfield 9, 3) := by decide +kernel
theorem dX5_clear_4 : decode cX5_clear 4 = .ok (.iconst 0, 1) := by decide +kernel
theorem dX5_clear_5 : decode cX5_clear 5 = .ok (.invokestatic 33, 3) := by decide +kernel
theorem dX5_clear_8 : decode cX5_clear 8 = .ok (.aload_n 0, 1) := by decide +kernel
theorem dX5_clear_9 : decode cX5_clear 9 = .ok (.getfield 15, 3) := by decide +kernel
theorem dX5_clear_12 : decode cX5_clear 12 = .ok (.iconst 0, 1) := by decide +kernel
theorem dX5_clear_13 : decode cX5_clear 13 = .ok (.invokestatic 33, 3) := by decide +kernel
theorem dX5_clear_16 : decode cX5_clear 16 = .ok (.aload_n 0, 1) := by decide +kernel
theorem dX5_clear_17 : decode cX5_clear 17 = .ok (.bipush 10, 2) := by decide +kernel
theorem dX5_clear_19 : decode cX5_clear 19 = .ok (.putfield 39, 3) := by decide +kernel
theorem dX5_clear_22 : decode cX5_clear 22 = .ok (.aload_n 0, 1) := by decide +kernel
theorem dX5_clear_23 : decode cX5_clear 23 = .ok (.bipush 20, 2) := by decide +kernel
theorem dX5_clear_25 : decode cX5_clear 25 = .ok (.putfield 43, 3) := by decide +kernel
theorem dX5_clear_28 : decode cX5_clear 28 = .ok (.aload_n 0, 1) := by decide +kernel
theorem dX5_clear_29 : decode cX5_clear 29 = .ok (.iconst 5, 1) := by decide +kernel
theorem dX5_clear_30 : decode cX5_clear 30 = .ok (.putfield 46, 3) := by decide +kernel
theorem dX5_clear_33 : decode cX5_clear 33 = .ok (.aload_n 0, 1) := by decide +kernel
theorem dX5_clear_34 : decode cX5_clear 34 = .ok (.iconst 5, 1) := by decide +kernel
theorem dX5_clear_35 : decode cX5_clear 35 = .ok (.putfield 49, 3) := by decide +kernel
theorem dX5_clear_38 : decode cX5_clear 38 = .ok (.return_, 1) := by decide +kernel
set_option maxRecDepth 100000 in
set_option maxHeartbeats 4000000 in
theorem tb_X5_clear_0 {K : sd_K} {E : sd_Env}  {h0 : Nat} {r : sd_Mem} (C : sd_C K E sd_LC RX5 cX5_clear 1 none) (k0 : sd_kd h0 = 6) : ∀ (M : sd_Mem), fn_X5_clear_0 h0 M = some r → sd_Z K rm_X5_clear E sd_LC 1 (sd_QV K E sd_LC r) M 0 [(0, .ref (E.2.2 h0))] [] := by
  intro M hF
  unfold fn_X5_clear_0 at hF
  refine sd_aload_n C 0 dX5_clear_0 rfl rfl rfl (n' := 1) ?_
  refine sd_g5_0 C (sd_mC (sd_m6 k0)) k0 sd_w130 dX5_clear_1 rfl (n' := 4) ?_
  refine sd_iconst C (v := 0) dX5_clear_4 rfl rfl (n' := 5) ?_
  obtain ⟨q5, e5, hF⟩ := sd_bind hF
  refine sd_callSV [.ref (E.2.2 (h0 + 1)), .int (0 : Int32)] [] C (ct_J7_fill_53178 M (h0 + 1) (0 : Int32) ((sd_c6 k0).1.1) (sd_mC (by have := (sd_c6 k0).2.2.2.2; omega)) e5) sd_lX5_33 ⟨rfl, rfl, Nat.le_of_ble_eq_true rfl, Nat.le_of_ble_eq_true rfl⟩ rfl (Nat.le_of_ble_eq_true rfl) dX5_clear_5 rfl (n' := 8) ?_
  refine sd_aload_n C 0 dX5_clear_8 rfl rfl rfl (n' := 9) ?_
  refine sd_g5_1 C (sd_mC (sd_m6 k0)) k0 sd_w131 dX5_clear_9 rfl (n' := 12) ?_
  refine sd_iconst C (v := 0) dX5_clear_12 rfl rfl (n' := 13) ?_
  obtain ⟨q13, e13, hF⟩ := sd_bind hF
  refine sd_callSV [.ref (E.2.2 (h0 + 2)), .int (0 : Int32)] [] C (ct_J7_fill_53178 q5 (h0 + 2) (0 : Int32) ((sd_c6 k0).2.1.1) (sd_mC (by have := (sd_c6 k0).2.2.2.2; omega)) e13) sd_lX5_33 ⟨rfl, rfl, Nat.le_of_ble_eq_true rfl, Nat.le_of_ble_eq_true rfl⟩ rfl (Nat.le_of_ble_eq_true rfl) dX5_clear_13 rfl (n' := 16) ?_
  refine sd_aload_n C 0 dX5_clear_16 rfl rfl rfl (n' := 17) ?_
  refine sd_bipush C (v := 10) dX5_clear_17 rfl rfl (n' := 19) ?_
  refine sd_p5_4 C (sd_mC (sd_m6 k0)) k0 sd_w134 dX5_clear_19 rfl (n' := 22) ?_
  refine sd_aload_n C 0 dX5_clear_22 rfl rfl rfl (n' := 23) ?_
  refine sd_bipush C (v := 20) dX5_clear_23 rfl rfl (n' := 25) ?_
  refine sd_p5_5 C (sd_mC (sd_m6 k0)) k0 sd_w138 dX5_clear_25 rfl (n' := 28) ?_
  refine sd_aload_n C 0 dX5_clear_28 rfl rfl rfl (n' := 29) ?_
  refine sd_iconst C (v := 5) dX5_clear_29 rfl rfl (n' := 30) ?_
  refine sd_p5_6 C (sd_mC (sd_m6 k0)) k0 sd_w142 dX5_clear_30 rfl (n' := 33) ?_
  refine sd_aload_n C 0 dX5_clear_33 rfl rfl rfl (n' := 34) ?_
  refine sd_iconst C (v := 5) dX5_clear_34 rfl rfl (n' := 35) ?_
  refine sd_p5_7 C (sd_mC (sd_m6 k0)) k0 sd_w145 dX5_clear_35 rfl (n' := 38) ?_
  exact sd_vret C dX5_clear_38 (Option.some.inj hF)
theorem ct_X5_clear {l : Launch} {E : sd_Env} (M : sd_Mem) (h0 : Nat) (k0 : sd_kd h0 = 6) {r : sd_Mem} (hF : fn_X5_clear M h0 = some r) : sd_MV l E sd_LC yX5_clear cX5_clear 1 none rm_X5_clear [.ref (E.2.2 h0)] M r := sd_ent0 (by decide +kernel) (Nat.le_of_ble_eq_true rfl) (fun p e s m below meth c C => tb_X5_clear_0 C k0 M hF)
theorem dX5_sorts_0 : decode cX5_sorts 0 = .ok (.iload_n 1, 1) := by decide +kernel
theorem dX5_sorts_1 : decode cX5_sorts 1 = .ok (.ifCond .eq 8, 3) := by decide +kernel
theorem dX5_sorts_4 : decode cX5_sorts 4 = .ok (.iload_n 1, 1) := by decide +kernel
theorem dX5_sorts_5 : decode cX5_sorts 5 = .ok (.iconst 1, 1) := by decide +kernel
theorem dX5_sorts_6 : decode cX5_sorts 6 = .ok (.if_icmp .ne 12, 3) := by decide +kernel
theorem dX5_sorts_9 : decode cX5_sorts 9 = .ok (.aload_n 0, 1) := by decide +kernel
theorem dX5_sorts_10 : decode cX5_sorts 10 = .ok (.getfield 9, 3) := by decide +kernel
theorem dX5_sorts_13 : decode cX5_sorts 13 = .ok (.iload_n 1, 1) := by decide +kernel
theorem dX5_sorts_14 : decode cX5_sorts 14 = .ok (.iaload, 1) := by decide +kernel
theorem dX5_sorts_15 : decode cX5_sorts 15 = .ok (.goto 4, 3) := by decide +kernel
theorem dX5_sorts_18 : decode cX5_sorts 18 = .ok (.iconst 0, 1) := by decide +kernel
theorem dX5_sorts_19 : decode cX5_sorts 19 = .ok (.ireturn, 1) := by decide +kernel
set_option maxRecDepth 100000 in
set_option maxHeartbeats 4000000 in
theorem tb_X5_sorts_0 {K : sd_K} {E : sd_Env} {M : sd_Mem} {h0 : Nat} {r : Int32} (C : sd_C K E sd_LC RX5 cX5_sorts 2 (some .int)) (k0 : sd_kd h0 = 6) : ∀ (x1 : Int32), fn_X5_sorts_0 M h0 x1 = some r → sd_Z K rm_X5_sorts E sd_LC 2 (sd_QI K E sd_LC r M) M 0 [(0, .ref (E.2.2 h0)), (1, .int x1)] [] := by
  intro x1 hF
  unfold fn_X5_sorts_0 at hF
  refine sd_iload_n C 1 dX5_sorts_0 rfl rfl rfl (n' := 1) ?_
  refine sd_if_eq C (n' := 4) (tgt := 9) dX5_sorts_1 rfl rfl (fun c1 => ?_) (fun c1 => ?_)
  · replace hF := sd_pos hF c1
    refine sd_aload_n C 0 dX5_sorts_9 rfl rfl rfl (n' := 10) ?_
    refine sd_g5_0 C (sd_mC (sd_m6 k0)) k0 sd_w130 dX5_sorts_10 rfl (n' := 13) ?_
    refine sd_iload_n C 1 dX5_sorts_13 rfl rfl rfl (n' := 14) ?_
    obtain ⟨b14, hF⟩ := sd_ok hF
    refine sd_iald C (sd_mC (by have := (sd_c6 k0).2.2.2.2; omega)) ((sd_c6 k0).1.1) ((sd_c6 k0).1.2) b14 dX5_sorts_14 rfl (n' := 15) ?_
    refine sd_goto C (tgt := 19) dX5_sorts_15 rfl ?_
    exact sd_iret C dX5_sorts_19 (Option.some.inj hF) rfl
  · replace hF := sd_neg hF c1
    refine sd_iload_n C 1 dX5_sorts_4 rfl rfl rfl (n' := 5) ?_
    refine sd_iconst C (v := 1) dX5_sorts_5 rfl rfl (n' := 6) ?_
    refine sd_icmp_ne C (n' := 9) (tgt := 18) dX5_sorts_6 rfl rfl (fun c6 => ?_) (fun c6 => ?_)
    · replace hF := sd_neg hF c6
      refine sd_iconst C (v := 0) dX5_sorts_18 rfl rfl (n' := 19) ?_
      exact sd_iret C dX5_sorts_19 (Option.some.inj hF) rfl
    · replace hF := sd_pos hF c6
      refine sd_aload_n C 0 dX5_sorts_9 rfl rfl rfl (n' := 10) ?_
      refine sd_g5_0 C (sd_mC (sd_m6 k0)) k0 sd_w130 dX5_sorts_10 rfl (n' := 13) ?_
      refine sd_iload_n C 1 dX5_sorts_13 rfl rfl rfl (n' := 14) ?_
      obtain ⟨b14, hF⟩ := sd_ok hF
      refine sd_iald C (sd_mC (by have := (sd_c6 k0).2.2.2.2; omega)) ((sd_c6 k0).1.1) ((sd_c6 k0).1.2) b14 dX5_sorts_14 rfl (n' := 15) ?_
      refine sd_goto C (tgt := 19) dX5_sorts_15 rfl ?_
      exact sd_iret C dX5_sorts_19 (Option.some.inj hF) rfl
theorem ct_X5_sorts {l : Launch} {E : sd_Env} (M : sd_Mem) (h0 : Nat) (x1 : Int32) (k0 : sd_kd h0 = 6) {r : Int32} (hF : fn_X5_sorts M h0 x1 = some r) : sd_MI l E sd_LC yX5_sorts cX5_sorts 2 (some .int) rm_X5_sorts [.ref (E.2.2 h0), .int x1] M r M := sd_ent0 (by decide +kernel) (Nat.le_of_ble_eq_true rfl) (fun p e s m below meth c C => tb_X5_sorts_0 C k0 x1 hF)
theorem dX10_within_0 : decode cX10_within 0 = .ok (.iload_n 0, 1) := by decide +kernel
theorem dX10_within_1 : decode cX10_within 1 = .ok (.iload_n 1, 1) := by decide +kernel
theorem dX10_within_2 : decode cX10_within 2 = .ok (.if_icmp .lt 12, 3) := by decide +kernel
theorem dX10_within_5 : decode cX10_within 5 = .ok (.iload_n 0, 1) := by decide +kernel
theorem dX10_within_6 : decode cX10_within 6 = .ok (.iload_n 2, 1) := by decide +kernel
theorem dX10_within_7 : decode cX10_within 7 = .ok (.if_icmp .gt 7, 3) := by decide +kernel
theorem dX10_within_10 : decode cX10_within 10 = .ok (.iconst 1, 1) := by decide +kernel
theorem dX10_within_11 : decode cX10_within 11 = .ok (.goto 4, 3) := by decide +kernel
theorem dX10_within_14 : decode cX10_within 14 = .ok (.iconst 0, 1) := by decide +kernel
theorem dX10_within_15 : decode cX10_within 15 = .ok (.ireturn, 1) := by decide +kernel
set_option maxRecDepth 100000 in
set_option maxHeartbeats 4000000 in
theorem tb_X10_within_0 {K : sd_K} {E : sd_Env} {M : sd_Mem}  {r : Int32} (C : sd_C K E sd_LC RX10 cX10_within 3 (some .boolean))  : ∀ (x0 : Int32) (x1 : Int32) (x2 : Int32), fn_X10_within_0 x0 x1 x2 = some r → sd_Z K rm_X10_within E sd_LC 3 (sd_QI K E sd_LC r M) M 0 [(0, .int x0), (1, .int x1), (2, .int x2)] [] := by
  intro x0 x1 x2 hF
  unfold fn_X10_within_0 at hF
  refine sd_iload_n C 0 dX10_within_0 rfl rfl rfl (n' := 1) ?_
  refine sd_iload_n C 1 dX10_within_1 rfl rfl rfl (n' := 2) ?_
  refine sd_icmp_lt C (n' := 5) (tgt := 14) dX10_within_2 rfl rfl (fun c2 => ?_) (fun c2 => ?_)
  · replace hF := sd_pos hF c2
    refine sd_iconst C (v := 0) dX10_within_14 rfl rfl (n' := 15) ?_
    exact sd_zret C dX10_within_15 rfl (Option.some.inj hF) rfl
  · replace hF := sd_neg hF c2
    refine sd_iload_n C 0 dX10_within_5 rfl rfl rfl (n' := 6) ?_
    refine sd_iload_n C 2 dX10_within_6 rfl rfl rfl (n' := 7) ?_
    refine sd_icmp_gt C (n' := 10) (tgt := 14) dX10_within_7 rfl rfl (fun c7 => ?_) (fun c7 => ?_)
    · replace hF := sd_pos hF c7
      refine sd_iconst C (v := 0) dX10_within_14 rfl rfl (n' := 15) ?_
      exact sd_zret C dX10_within_15 rfl (Option.some.inj hF) rfl
    · replace hF := sd_neg hF c7
      refine sd_iconst C (v := 1) dX10_within_10 rfl rfl (n' := 11) ?_
      refine sd_goto C (tgt := 15) dX10_within_11 rfl ?_
      exact sd_zret C dX10_within_15 rfl (Option.some.inj hF) rfl
theorem ct_X10_within {l : Launch} {E : sd_Env} (M : sd_Mem) (x0 : Int32) (x1 : Int32) (x2 : Int32)  {r : Int32} (hF : fn_X10_within x0 x1 x2 = some r) : sd_MI l E sd_LC yX10_within cX10_within 3 (some .boolean) rm_X10_within [.int x0, .int x1, .int x2] M r M := sd_ent0 (by decide +kernel) (Nat.le_of_ble_eq_true rfl) (fun p e s m below meth c C => tb_X10_within_0 C x0 x1 x2 hF)
theorem dX5_addSort_0 : decode cX5_addSort 0 = .ok (.aload_n 0, 1) := by decide +kernel
theorem dX5_addSort_1 : decode cX5_addSort 1 = .ok (.iload_n 1, 1) := by decide +kernel
theorem dX5_addSort_2 : decode cX5_addSort 2 = .ok (.invokevirtual 52, 3) := by decide +kernel
theorem dX5_addSort_5 : decode cX5_addSort 5 = .ok (.istore 4, 2) := by decide +kernel
theorem dX5_addSort_7 : decode cX5_addSort 7 = .ok (.iload_n 1, 1) := by decide +kernel
theorem dX5_addSort_8 : decode cX5_addSort 8 = .ok (.iconst 0, 1) := by decide +kernel
theorem dX5_addSort_9 : decode cX5_addSort 9 = .ok (.iconst 1, 1) := by decide +kernel
theorem dX5_addSort_10 : decode cX5_addSort 10 = .ok (.invokestatic 55, 3) := by decide +kernel
theorem dX5_addSort_13 : decode cX5_addSort 13 = .ok (.ifCond .eq 49, 3) := by decide +kernel
theorem dX5_addSort_16 : decode cX5_addSort 16 = .ok (.iload 4, 2) := by decide +kernel
theorem dX5_addSort_18 : decode cX5_addSort 18 = .ok (.iconst 3, 1) := by decide +kernel
theorem dX5_addSort_19 : decode cX5_addSort 19 = .ok (.if_icmp .ge 43, 3) := by decide +kernel
theorem dX5_addSort_22 : decode cX5_addSort 22 = .ok (.aload_n 0, 1) := by decide +kernel
theorem dX5_addSort_23 : decode cX5_addSort 23 = .ok (.getfield 20, 3) := by decide +kernel
theorem dX5_addSort_26 : decode cX5_addSort 26 = .ok (.iload_n 1, 1) := by decide +kernel
theorem dX5_addSort_27 : decode cX5_addSort 27 = .ok (.aaload, 1) := by decide +kernel
theorem dX5_addSort_28 : decode cX5_addSort 28 = .ok (.iload 4, 2) := by decide +kernel
theorem dX5_addSort_30 : decode cX5_addSort 30 = .ok (.iload_n 2, 1) := by decide +kernel
theorem dX5_addSort_31 : decode cX5_addSort 31 = .ok (.iastore, 1) := by decide +kernel
theorem dX5_addSort_32 : decode cX5_addSort 32 = .ok (.aload_n 0, 1) := by decide +kernel
theorem dX5_addSort_33 : decode cX5_addSort 33 = .ok (.getfield 23, 3) := by decide +kernel
theorem dX5_addSort_36 : decode cX5_addSort 36 = .ok (.iload_n 1, 1) := by decide +kernel
theorem dX5_addSort_37 : decode cX5_addSort 37 = .ok (.aaload, 1) := by decide +kernel
theorem dX5_addSort_38 : decode cX5_addSort 38 = .ok (.iload 4, 2) := by decide +kernel
theorem dX5_addSort_40 : decode cX5_addSort 40 = .ok (.iload_n 3, 1) := by decide +kernel
theorem dX5_addSort_41 : decode cX5_addSort 41 = .ok (.iastore, 1) := by decide +kernel
theorem dX5_addSort_42 : decode cX5_addSort 42 = .ok (.aload_n 0, 1) := by decide +kernel
theorem dX5_addSort_43 : decode cX5_addSort 43 = .ok (.getfield 9, 3) := by decide +kernel
theorem dX5_addSort_46 : decode cX5_addSort 46 = .ok (.iload_n 1, 1) := by decide +kernel
theorem dX5_addSort_47 : decode cX5_addSort 47 = .ok (.iload 4, 2) := by decide +kernel
theorem dX5_addSort_49 : decode cX5_addSort 49 = .ok (.iconst 1, 1) := by decide +kernel
theorem dX5_addSort_50 : decode cX5_addSort 50 = .ok (.iadd, 1) := by decide +kernel
theorem dX5_addSort_51 : decode cX5_addSort 51 = .ok (.iastore, 1) := by decide +kernel
theorem dX5_addSort_52 : decode cX5_addSort 52 = .ok (.aload_n 0, 1) := by decide +kernel
theorem dX5_addSort_53 : decode cX5_addSort 53 = .ok (.getfield 15, 3) := by decide +kernel
theorem dX5_addSort_56 : decode cX5_addSort 56 = .ok (.iload_n 1, 1) := by decide +kernel
theorem dX5_addSort_57 : decode cX5_addSort 57 = .ok (.dup2, 1) := by decide +kernel
theorem dX5_addSort_58 : decode cX5_addSort 58 = .ok (.iaload, 1) := by decide +kernel
theorem dX5_addSort_59 : decode cX5_addSort 59 = .ok (.iload_n 2, 1) := by decide +kernel
theorem dX5_addSort_60 : decode cX5_addSort 60 = .ok (.iadd, 1) := by decide +kernel
theorem dX5_addSort_61 : decode cX5_addSort 61 = .ok (.iastore, 1) := by decide +kernel
theorem dX5_addSort_62 : decode cX5_addSort 62 = .ok (.return_, 1) := by decide +kernel
set_option maxRecDepth 100000 in
set_option maxHeartbeats 4000000 in
theorem tb_X5_addSort_0 {K : sd_K} {E : sd_Env}  {h0 : Nat} {r : sd_Mem} (C : sd_C K E sd_LC RX5 cX5_addSort 5 none) (k0 : sd_kd h0 = 6) : ∀ (M : sd_Mem) (x1 : Int32) (x2 : Int32) (x3 : Int32), fn_X5_addSort_0 h0 M x1 x2 x3 = some r → sd_Z K rm_X5_addSort E sd_LC 5 (sd_QV K E sd_LC r) M 0 [(0, .ref (E.2.2 h0)), (1, .int x1), (2, .int x2), (3, .int x3)] [] := by
  intro M x1 x2 x3 hF
  unfold fn_X5_addSort_0 at hF
  refine sd_aload_n C 0 dX5_addSort_0 rfl rfl rfl (n' := 1) ?_
  refine sd_iload_n C 1 dX5_addSort_1 rfl rfl rfl (n' := 2) ?_
  obtain ⟨q2, e2, hF⟩ := sd_bind hF
  refine sd_callVI [.int x1] [] C (ct_X5_sorts M h0 x1 k0 e2) sd_lX5_52 ⟨rfl, rfl, Nat.le_of_ble_eq_true rfl, Nat.le_of_ble_eq_true rfl⟩ (sd_mC (sd_m6 k0)) (sd_e6 k0) rfl rfl rfl (Nat.le_of_ble_eq_true rfl) dX5_addSort_2 rfl (n' := 5) ?_
  refine sd_istore [(4, .int q2), (0, .ref (E.2.2 h0)), (1, .int x1), (2, .int x2), (3, .int x3)] C dX5_addSort_5 (by decide) rfl rfl (n' := 7) ?_
  refine sd_iload_n C 2 dX5_addSort_7 rfl rfl rfl (n' := 8) ?_
  refine sd_iconst C (v := 0) dX5_addSort_8 rfl rfl (n' := 9) ?_
  refine sd_iconst C (v := 1) dX5_addSort_9 rfl rfl (n' := 10) ?_
  obtain ⟨q10, e10, hF⟩ := sd_bind hF
  refine sd_callNI [.int x1, .int (0 : Int32), .int (1 : Int32)] [] C (ct_X10_within M x1 (0 : Int32) (1 : Int32)  e10) sd_lX5_55 ⟨rfl, rfl, Nat.le_of_ble_eq_true rfl, Nat.le_of_ble_eq_true rfl⟩ rfl (Nat.le_of_ble_eq_true rfl) dX5_addSort_10 rfl (n' := 13) ?_
  refine sd_if_eq C (n' := 16) (tgt := 62) dX5_addSort_13 rfl rfl (fun c13 => ?_) (fun c13 => ?_)
  · replace hF := sd_pos hF c13
    exact sd_vret C dX5_addSort_62 (Option.some.inj hF)
  · replace hF := sd_neg hF c13
    refine sd_iload C 0 dX5_addSort_16 rfl rfl (n' := 18) ?_
    refine sd_iconst C (v := 3) dX5_addSort_18 rfl rfl (n' := 19) ?_
    refine sd_icmp_ge C (n' := 22) (tgt := 62) dX5_addSort_19 rfl rfl (fun c19 => ?_) (fun c19 => ?_)
    · replace hF := sd_pos hF c19
      exact sd_vret C dX5_addSort_62 (Option.some.inj hF)
    · replace hF := sd_neg hF c19
      refine sd_aload_n C 1 dX5_addSort_22 rfl rfl rfl (n' := 23) ?_
      refine sd_g5_2 C (sd_mC (sd_m6 k0)) k0 sd_w132 dX5_addSort_23 rfl (n' := 26) ?_
      refine sd_iload_n C 2 dX5_addSort_26 rfl rfl rfl (n' := 27) ?_
      obtain ⟨b27, hF⟩ := sd_ok hF
      refine sd_gald C (sd_mC (by have := (sd_c6 k0).2.2.2.2; omega)) ((sd_c6 k0).2.2.1.1) ((sd_c6 k0).2.2.1.2) b27 dX5_addSort_27 rfl (n' := 28) ?_
      refine sd_iload C 0 dX5_addSort_28 rfl rfl (n' := 30) ?_
      refine sd_iload_n C 3 dX5_addSort_30 rfl rfl rfl (n' := 31) ?_
      obtain ⟨b31, hF⟩ := sd_ok hF
      refine sd_iast C (sd_mC (by have := (sd_c6 k0).2.2.2.2; have := sd_in_lt b27; omega)) ((sd_c6j k0 (sd_in_lt b27)).1.1) ((sd_c6j k0 (sd_in_lt b27)).1.2) b31 dX5_addSort_31 rfl (n' := 32) ?_
      refine sd_aload_n C 1 dX5_addSort_32 rfl rfl rfl (n' := 33) ?_
      refine sd_g5_3 C (sd_mC (sd_m6 k0)) k0 sd_w133 dX5_addSort_33 rfl (n' := 36) ?_
      refine sd_iload_n C 2 dX5_addSort_36 rfl rfl rfl (n' := 37) ?_
      obtain ⟨b37, hF⟩ := sd_ok hF
      refine sd_gald C (sd_mC (by have := (sd_c6 k0).2.2.2.2; omega)) ((sd_c6 k0).2.2.2.1.1) ((sd_c6 k0).2.2.2.1.2) b37 dX5_addSort_37 rfl (n' := 38) ?_
      refine sd_iload C 0 dX5_addSort_38 rfl rfl (n' := 40) ?_
      refine sd_iload_n C 4 dX5_addSort_40 rfl rfl rfl (n' := 41) ?_
      obtain ⟨b41, hF⟩ := sd_ok hF
      refine sd_iast C (sd_mC (by have := (sd_c6 k0).2.2.2.2; have := sd_in_lt b37; omega)) ((sd_c6j k0 (sd_in_lt b37)).2.1) ((sd_c6j k0 (sd_in_lt b37)).2.2) b41 dX5_addSort_41 rfl (n' := 42) ?_
      refine sd_aload_n C 1 dX5_addSort_42 rfl rfl rfl (n' := 43) ?_
      refine sd_g5_0 C (sd_mC (sd_m6 k0)) k0 sd_w130 dX5_addSort_43 rfl (n' := 46) ?_
      refine sd_iload_n C 2 dX5_addSort_46 rfl rfl rfl (n' := 47) ?_
      refine sd_iload C 0 dX5_addSort_47 rfl rfl (n' := 49) ?_
      refine sd_iconst C (v := 1) dX5_addSort_49 rfl rfl (n' := 50) ?_
      refine sd_iadd C dX5_addSort_50 rfl (n' := 51) ?_
      obtain ⟨b51, hF⟩ := sd_ok hF
      refine sd_iast C (sd_mC (by have := (sd_c6 k0).2.2.2.2; omega)) ((sd_c6 k0).1.1) ((sd_c6 k0).1.2) b51 dX5_addSort_51 rfl (n' := 52) ?_
      refine sd_aload_n C 1 dX5_addSort_52 rfl rfl rfl (n' := 53) ?_
      refine sd_g5_1 C (sd_mC (sd_m6 k0)) k0 sd_w131 dX5_addSort_53 rfl (n' := 56) ?_
      refine sd_iload_n C 2 dX5_addSort_56 rfl rfl rfl (n' := 57) ?_
      refine sd_dup2 C dX5_addSort_57 rfl rfl rfl (n' := 58) ?_
      obtain ⟨b58, hF⟩ := sd_ok hF
      refine sd_iald C (sd_mC (by have := (sd_c6 k0).2.2.2.2; omega)) ((sd_c6 k0).2.1.1) ((sd_c6 k0).2.1.2) b58 dX5_addSort_58 rfl (n' := 59) ?_
      refine sd_iload_n C 3 dX5_addSort_59 rfl rfl rfl (n' := 60) ?_
      refine sd_iadd C dX5_addSort_60 rfl (n' := 61) ?_
      obtain ⟨b61, hF⟩ := sd_ok hF
      refine sd_iast C (sd_mC (by have := (sd_c6 k0).2.2.2.2; omega)) ((sd_c6 k0).2.1.1) ((sd_c6 k0).2.1.2) b61 dX5_addSort_61 rfl (n' := 62) ?_
      exact sd_vret C dX5_addSort_62 (Option.some.inj hF)
theorem ct_X5_addSort {l : Launch} {E : sd_Env} (M : sd_Mem) (h0 : Nat) (x1 : Int32) (x2 : Int32) (x3 : Int32) (k0 : sd_kd h0 = 6) {r : sd_Mem} (hF : fn_X5_addSort M h0 x1 x2 x3 = some r) : sd_MV l E sd_LC yX5_addSort cX5_addSort 5 none rm_X5_addSort [.ref (E.2.2 h0), .int x1, .int x2, .int x3] M r := sd_ent0 (by decide +kernel) (Nat.le_of_ble_eq_true rfl) (fun p e s m below meth c C => tb_X5_addSort_0 C k0 M x1 x2 x3 hF)
theorem dX10_isRow_0 : decode cX10_isRow 0 = .ok (.iload_n 0, 1) := by decide +kernel
theorem dX10_isRow_1 : decode cX10_isRow 1 = .ok (.iconst 0, 1) := by decide +kernel
theorem dX10_isRow_2 : decode cX10_isRow 2 = .ok (.iconst 5, 1) := by decide +kernel
theorem dX10_isRow_3 : decode cX10_isRow 3 = .ok (.invokestatic 152, 3) := by decide +kernel
theorem dX10_isRow_6 : decode cX10_isRow 6 = .ok (.ireturn, 1) := by decide +kernel
set_option maxRecDepth 100000 in
set_option maxHeartbeats 4000000 in
theorem tb_X10_isRow_0 {K : sd_K} {E : sd_Env} {M : sd_Mem}  {r : Int32} (C : sd_C K E sd_LC RX10 cX10_isRow 1 (some .boolean))  : ∀ (x0 : Int32), fn_X10_isRow_0 x0 = some r → sd_Z K rm_X10_isRow E sd_LC 1 (sd_QI K E sd_LC r M) M 0 [(0, .int x0)] [] := by
  intro x0 hF
  unfold fn_X10_isRow_0 at hF
  refine sd_iload_n C 0 dX10_isRow_0 rfl rfl rfl (n' := 1) ?_
  refine sd_iconst C (v := 0) dX10_isRow_1 rfl rfl (n' := 2) ?_
  refine sd_iconst C (v := 5) dX10_isRow_2 rfl rfl (n' := 3) ?_
  obtain ⟨q3, e3, hF⟩ := sd_bind hF
  refine sd_callSI [.int x0, .int (0 : Int32), .int (5 : Int32)] [] C (ct_X10_within M x0 (0 : Int32) (5 : Int32)  e3) sd_lX10_152 ⟨rfl, rfl, Nat.le_of_ble_eq_true rfl, Nat.le_of_ble_eq_true rfl⟩ rfl (Nat.le_of_ble_eq_true rfl) dX10_isRow_3 rfl (n' := 6) ?_
  obtain ⟨b6, hF⟩ := sd_ok hF
  exact sd_zret C dX10_isRow_6 (Decidable.of_not_not b6) (Option.some.inj hF) rfl
theorem ct_X10_isRow {l : Launch} {E : sd_Env} (M : sd_Mem) (x0 : Int32)  {r : Int32} (hF : fn_X10_isRow x0 = some r) : sd_MI l E sd_LC yX10_isRow cX10_isRow 1 (some .boolean) rm_X10_isRow [.int x0] M r M := sd_ent0 (by decide +kernel) (Nat.le_of_ble_eq_true rfl) (fun p e s m below meth c C => tb_X10_isRow_0 C x0 hF)
theorem dX2_tell_0 : decode cX2_tell 0 = .ok (.iload_n 1, 1) := by decide +kernel
theorem dX2_tell_1 : decode cX2_tell 1 = .ok (.iconst 1, 1) := by decide +kernel
theorem dX2_tell_2 : decode cX2_tell 2 = .ok (.iconst 5, 1) := by decide +kernel
theorem dX2_tell_3 : decode cX2_tell 3 = .ok (.invokestatic 19, 3) := by decide +kernel
theorem dX2_tell_6 : decode cX2_tell 6 = .ok (.ifCond .eq 18, 3) := by decide +kernel
theorem dX2_tell_9 : decode cX2_tell 9 = .ok (.aload_n 0, 1) := by decide +kernel
theorem dX2_tell_10 : decode cX2_tell 10 = .ok (.iload_n 1, 1) := by decide +kernel
theorem dX2_tell_11 : decode cX2_tell 11 = .ok (.putfield 15, 3) := by decide +kernel
theorem dX2_tell_14 : decode cX2_tell 14 = .ok (.aload_n 0, 1) := by decide +kernel
theorem dX2_tell_15 : decode cX2_tell 15 = .ok (.getfield 9, 3) := by decide +kernel
theorem dX2_tell_18 : decode cX2_tell 18 = .ok (.iload_n 1, 1) := by decide +kernel
theorem dX2_tell_19 : decode cX2_tell 19 = .ok (.dup2, 1) := by decide +kernel
theorem dX2_tell_20 : decode cX2_tell 20 = .ok (.iaload, 1) := by decide +kernel
theorem dX2_tell_21 : decode cX2_tell 21 = .ok (.iconst 1, 1) := by decide +kernel
theorem dX2_tell_22 : decode cX2_tell 22 = .ok (.iadd, 1) := by decide +kernel
theorem dX2_tell_23 : decode cX2_tell 23 = .ok (.iastore, 1) := by decide +kernel
theorem dX2_tell_24 : decode cX2_tell 24 = .ok (.bipush (-3), 2) := by decide +kernel
theorem dX2_tell_26 : decode cX2_tell 26 = .ok (.ireturn, 1) := by decide +kernel
set_option maxRecDepth 100000 in
set_option maxHeartbeats 4000000 in
theorem tb_X2_tell_0 {K : sd_K} {E : sd_Env}   {r : (Int32 × sd_Mem)} (C : sd_C K E sd_LC RX2 cX2_tell 2 (some .int))  : ∀ (M : sd_Mem) (x1 : Int32), fn_X2_tell_0 M x1 = some r → sd_Z K rm_X2_tell E sd_LC 2 (sd_QI K E sd_LC r.1 r.2) M 0 [(0, .ref (E.2.2 97)), (1, .int x1)] [] := by
  intro M x1 hF
  unfold fn_X2_tell_0 at hF
  refine sd_iload_n C 1 dX2_tell_0 rfl rfl rfl (n' := 1) ?_
  refine sd_iconst C (v := 1) dX2_tell_1 rfl rfl (n' := 2) ?_
  refine sd_iconst C (v := 5) dX2_tell_2 rfl rfl (n' := 3) ?_
  obtain ⟨q3, e3, hF⟩ := sd_bind hF
  refine sd_callNI [.int x1, .int (1 : Int32), .int (5 : Int32)] [] C (ct_X10_within M x1 (1 : Int32) (5 : Int32)  e3) sd_lX2_19 ⟨rfl, rfl, Nat.le_of_ble_eq_true rfl, Nat.le_of_ble_eq_true rfl⟩ rfl (Nat.le_of_ble_eq_true rfl) dX2_tell_3 rfl (n' := 6) ?_
  refine sd_if_eq C (n' := 9) (tgt := 24) dX2_tell_6 rfl rfl (fun c6 => ?_) (fun c6 => ?_)
  · replace hF := sd_pos hF c6
    refine sd_bipush C (v := -3) dX2_tell_24 rfl rfl (n' := 26) ?_
    exact sd_iret C dX2_tell_26 (sd_fst hF) (sd_snd hF)
  · replace hF := sd_neg hF c6
    refine sd_aload_n C 0 dX2_tell_9 rfl rfl rfl (n' := 10) ?_
    refine sd_iload_n C 1 dX2_tell_10 rfl rfl rfl (n' := 11) ?_
    refine sd_p2_1 C sd_i97 sd_k97 sd_w295 dX2_tell_11 rfl (n' := 14) ?_
    refine sd_aload_n C 0 dX2_tell_14 rfl rfl rfl (n' := 15) ?_
    refine sd_g2_0 C sd_i97 sd_k97 sd_w294 dX2_tell_15 rfl (n' := 18) ?_
    refine sd_iload_n C 1 dX2_tell_18 rfl rfl rfl (n' := 19) ?_
    refine sd_dup2 C dX2_tell_19 rfl rfl rfl (n' := 20) ?_
    obtain ⟨b20, hF⟩ := sd_ok hF
    refine sd_iald C sd_i98 sd_k98 sd_n98 b20 dX2_tell_20 rfl (n' := 21) ?_
    refine sd_iconst C (v := 1) dX2_tell_21 rfl rfl (n' := 22) ?_
    refine sd_iadd C dX2_tell_22 rfl (n' := 23) ?_
    obtain ⟨b23, hF⟩ := sd_ok hF
    refine sd_iast C sd_i98 sd_k98 sd_n98 b23 dX2_tell_23 rfl (n' := 24) ?_
    refine sd_bipush C (v := -3) dX2_tell_24 rfl rfl (n' := 26) ?_
    exact sd_iret C dX2_tell_26 (sd_fst hF) (sd_snd hF)
theorem ct_X2_tell {l : Launch} {E : sd_Env} (M : sd_Mem) (x1 : Int32)  {r : (Int32 × sd_Mem)} (hF : fn_X2_tell M x1 = some r) : sd_MI l E sd_LC yX2_tell cX2_tell 2 (some .int) rm_X2_tell [.ref (E.2.2 97), .int x1] M r.1 r.2 := sd_ent0 (by decide +kernel) (Nat.le_of_ble_eq_true rfl) (fun p e s m below meth c C => tb_X2_tell_0 C M x1 hF)
theorem dX1_make_0 : decode cX1_make 0 = .ok (.aload_n 0, 1) := by decide +kernel
theorem dX1_make_1 : decode cX1_make 1 = .ok (.iconst 0, 1) := by decide +kernel
theorem dX1_make_2 : decode cX1_make 2 = .ok (.iload_n 1, 1) := by decide +kernel
theorem dX1_make_3 : decode cX1_make 3 = .ok (.aload_n 0, 1) := by decide +kernel
theorem dX1_make_4 : decode cX1_make 4 = .ok (.getfield 21, 3) := by decide +kernel
theorem dX1_make_7 : decode cX1_make 7 = .ok (.arraylength, 1) := by decide +kernel
theorem dX1_make_8 : decode cX1_make 8 = .ok (.invokestatic 25, 3) := by decide +kernel
theorem dX1_make_11 : decode cX1_make 11 = .ok (.invokestatic 15, 3) := by decide +kernel
theorem dX1_make_14 : decode cX1_make 14 = .ok (.putfield 9, 3) := by decide +kernel
theorem dX1_make_17 : decode cX1_make 17 = .ok (.aload_n 0, 1) := by decide +kernel
theorem dX1_make_18 : decode cX1_make 18 = .ok (.getfield 21, 3) := by decide +kernel
theorem dX1_make_21 : decode cX1_make 21 = .ok (.iload_n 2, 1) := by decide +kernel
theorem dX1_make_22 : decode cX1_make 22 = .ok (.invokestatic 28, 3) := by decide +kernel
theorem dX1_make_25 : decode cX1_make 25 = .ok (.return_, 1) := by decide +kernel
set_option maxRecDepth 100000 in
set_option maxHeartbeats 4000000 in
theorem tb_X1_make_0 {K : sd_K} {E : sd_Env}  {h0 : Nat} {r : sd_Mem} (C : sd_C K E sd_LC RX1 cX1_make 3 none) (k0 : sd_kd h0 = 2) : ∀ (M : sd_Mem) (x1 : Int32) (x2 : Int32), fn_X1_make_0 h0 M x1 x2 = some r → sd_Z K rm_X1_make E sd_LC 3 (sd_QV K E sd_LC r) M 0 [(0, .ref (E.2.2 h0)), (1, .int x1), (2, .int x2)] [] := by
  intro M x1 x2 hF
  unfold fn_X1_make_0 at hF
  refine sd_aload_n C 0 dX1_make_0 rfl rfl rfl (n' := 1) ?_
  refine sd_iconst C (v := 0) dX1_make_1 rfl rfl (n' := 2) ?_
  refine sd_iload_n C 1 dX1_make_2 rfl rfl rfl (n' := 3) ?_
  refine sd_aload_n C 0 dX1_make_3 rfl rfl rfl (n' := 4) ?_
  refine sd_g1_0 C (sd_mC (sd_m2 k0)) k0 sd_w309 dX1_make_4 rfl (n' := 7) ?_
  refine sd_alen C (sd_mC (sd_c2 k0).2.2) ((sd_c2 k0).1) rfl rfl dX1_make_7 rfl (n' := 8) ?_
  refine sd_mmin C sd_w388 sd_wm_mmin_s sd_w87 sd_wm_mmin_c (Nat.le_of_ble_eq_true rfl) (Nat.le_of_ble_eq_true rfl) dX1_make_8 rfl (n' := 11) ?_
  refine sd_mmax C sd_w306 sd_wm_mmax_s sd_w87 sd_wm_mmax_c (Nat.le_of_ble_eq_true rfl) (Nat.le_of_ble_eq_true rfl) dX1_make_11 rfl (n' := 14) ?_
  refine sd_p1_1 C (sd_mC (sd_m2 k0)) k0 sd_w310 dX1_make_14 rfl (n' := 17) ?_
  refine sd_aload_n C 0 dX1_make_17 rfl rfl rfl (n' := 18) ?_
  refine sd_g1_0 C (sd_mC (sd_m2 k0)) k0 sd_w309 dX1_make_18 rfl (n' := 21) ?_
  refine sd_iload_n C 2 dX1_make_21 rfl rfl rfl (n' := 22) ?_
  obtain ⟨q22, e22, hF⟩ := sd_bind hF
  refine sd_callSV [.ref (E.2.2 (h0 + 1)), .int x2] [] C (ct_J7_fill_53178 (sd_setI M h0 1 (if (0 : Int32) < (if (Int32.ofNat (sd_ln (h0 + 1))) < x1 then (Int32.ofNat (sd_ln (h0 + 1))) else x1) then (if (Int32.ofNat (sd_ln (h0 + 1))) < x1 then (Int32.ofNat (sd_ln (h0 + 1))) else x1) else (0 : Int32))) (h0 + 1) x2 ((sd_c2 k0).1) (sd_mC (sd_c2 k0).2.2) e22) sd_lX1_28 ⟨rfl, rfl, Nat.le_of_ble_eq_true rfl, Nat.le_of_ble_eq_true rfl⟩ rfl (Nat.le_of_ble_eq_true rfl) dX1_make_22 rfl (n' := 25) ?_
  exact sd_vret C dX1_make_25 (Option.some.inj hF)
theorem ct_X1_make {l : Launch} {E : sd_Env} (M : sd_Mem) (h0 : Nat) (x1 : Int32) (x2 : Int32) (k0 : sd_kd h0 = 2) {r : sd_Mem} (hF : fn_X1_make M h0 x1 x2 = some r) : sd_MV l E sd_LC yX1_make cX1_make 3 none rm_X1_make [.ref (E.2.2 h0), .int x1, .int x2] M r := sd_ent0 (by decide +kernel) (Nat.le_of_ble_eq_true rfl) (fun p e s m below meth c C => tb_X1_make_0 C k0 M x1 x2 hF)
theorem dX10_row_0 : decode cX10_row 0 = .ok (.iload_n 1, 1) := by decide +kernel
theorem dX10_row_1 : decode cX10_row 1 = .ok (.invokestatic 96, 3) := by decide +kernel
theorem dX10_row_4 : decode cX10_row 4 = .ok (.ifCond .eq 9, 3) := by decide +kernel
theorem dX10_row_7 : decode cX10_row 7 = .ok (.iload_n 2, 1) := by decide +kernel
theorem dX10_row_8 : decode cX10_row 8 = .ok (.bipush 40, 2) := by decide +kernel
theorem dX10_row_10 : decode cX10_row 10 = .ok (.if_icmp .le 5, 3) := by decide +kernel
theorem dX10_row_13 : decode cX10_row 13 = .ok (.iconst (-1), 1) := by decide +kernel
theorem dX10_row_14 : decode cX10_row 14 = .ok (.ireturn, 1) := by decide +kernel
theorem dX10_row_15 : decode cX10_row 15 = .ok (.iload_n 2, 1) := by decide +kernel
theorem dX10_row_16 : decode cX10_row 16 = .ok (.ifCond .ge 12, 3) := by decide +kernel
theorem dX10_row_19 : decode cX10_row 19 = .ok (.aload_n 0, 1) := by decide +kernel
theorem dX10_row_20 : decode cX10_row 20 = .ok (.getfield 84, 3) := by decide +kernel
theorem dX10_row_23 : decode cX10_row 23 = .ok (.iconst 5, 1) := by decide +kernel
theorem dX10_row_24 : decode cX10_row 24 = .ok (.invokevirtual 100, 3) := by decide +kernel
theorem dX10_row_27 : decode cX10_row 27 = .ok (.ireturn, 1) := by decide +kernel
theorem dX10_row_28 : decode cX10_row 28 = .ok (.aload_n 0, 1) := by decide +kernel
theorem dX10_row_29 : decode cX10_row 29 = .ok (.getfield 11, 3) := by decide +kernel
theorem dX10_row_32 : decode cX10_row 32 = .ok (.iload_n 1, 1) := by decide +kernel
theorem dX10_row_33 : decode cX10_row 33 = .ok (.aaload, 1) := by decide +kernel
theorem dX10_row_34 : decode cX10_row 34 = .ok (.iload_n 2, 1) := by decide +kernel
theorem dX10_row_35 : decode cX10_row 35 = .ok (.iconst 0, 1) := by decide +kernel
theorem dX10_row_36 : decode cX10_row 36 = .ok (.invokevirtual 104, 3) := by decide +kernel
theorem dX10_row_39 : decode cX10_row 39 = .ok (.iload_n 2, 1) := by decide +kernel
theorem dX10_row_40 : decode cX10_row 40 = .ok (.ireturn, 1) := by decide +kernel
set_option maxRecDepth 100000 in
set_option maxHeartbeats 4000000 in
theorem tb_X10_row_0 {K : sd_K} {E : sd_Env}   {r : (Int32 × sd_Mem)} (C : sd_C K E sd_LC RX10 cX10_row 3 (some .int))  : ∀ (M : sd_Mem) (x1 : Int32) (x2 : Int32), fn_X10_row_0 M x1 x2 = some r → sd_Z K rm_X10_row E sd_LC 3 (sd_QI K E sd_LC r.1 r.2) M 0 [(0, .ref (E.2.2 0)), (1, .int x1), (2, .int x2)] [] := by
  intro M x1 x2 hF
  unfold fn_X10_row_0 at hF
  refine sd_iload_n C 1 dX10_row_0 rfl rfl rfl (n' := 1) ?_
  obtain ⟨q1, e1, hF⟩ := sd_bind hF
  refine sd_callSI [.int x1] [] C (ct_X10_isRow M x1  e1) sd_lX10_96 ⟨rfl, rfl, Nat.le_of_ble_eq_true rfl, Nat.le_of_ble_eq_true rfl⟩ rfl (Nat.le_of_ble_eq_true rfl) dX10_row_1 rfl (n' := 4) ?_
  refine sd_if_eq C (n' := 7) (tgt := 13) dX10_row_4 rfl rfl (fun c4 => ?_) (fun c4 => ?_)
  · replace hF := sd_pos hF c4
    refine sd_iconst C (v := -1) dX10_row_13 rfl rfl (n' := 14) ?_
    exact sd_iret C dX10_row_14 (sd_fst hF) (sd_snd hF)
  · replace hF := sd_neg hF c4
    refine sd_iload_n C 2 dX10_row_7 rfl rfl rfl (n' := 8) ?_
    refine sd_bipush C (v := 40) dX10_row_8 rfl rfl (n' := 10) ?_
    refine sd_icmp_le C (n' := 13) (tgt := 15) dX10_row_10 rfl rfl (fun c10 => ?_) (fun c10 => ?_)
    · replace hF := sd_pos hF c10
      refine sd_iload_n C 2 dX10_row_15 rfl rfl rfl (n' := 16) ?_
      refine sd_if_ge C (n' := 19) (tgt := 28) dX10_row_16 rfl rfl (fun c16 => ?_) (fun c16 => ?_)
      · replace hF := sd_pos hF c16
        refine sd_aload_n C 0 dX10_row_28 rfl rfl rfl (n' := 29) ?_
        refine sd_g10_0 C sd_i0 sd_k0 sd_w328 dX10_row_29 rfl (n' := 32) ?_
        refine sd_iload_n C 1 dX10_row_32 rfl rfl rfl (n' := 33) ?_
        obtain ⟨b33, hF⟩ := sd_ok hF
        refine sd_cald C sd_i1 sd_k1 sd_n1 b33 dX10_row_33 rfl (n' := 34) ?_
        refine sd_iload_n C 2 dX10_row_34 rfl rfl rfl (n' := 35) ?_
        refine sd_iconst C (v := 0) dX10_row_35 rfl rfl (n' := 36) ?_
        obtain ⟨q36, e36, hF⟩ := sd_bind hF
        refine sd_callVV [.int x2, .int (0 : Int32)] [] C (ct_X1_make M (1 + 1 + 2 * x1.toNatClampNeg) x2 (0 : Int32) ((sd_r1 _ (sd_in_lt b33)).1) e36) sd_lX10_104 ⟨rfl, rfl, Nat.le_of_ble_eq_true rfl, Nat.le_of_ble_eq_true rfl⟩ (sd_mC (sd_r1 _ (sd_in_lt b33)).2) (sd_e2 ((sd_r1 _ (sd_in_lt b33)).1)) rfl rfl rfl (Nat.le_of_ble_eq_true rfl) dX10_row_36 rfl (n' := 39) ?_
        refine sd_iload_n C 2 dX10_row_39 rfl rfl rfl (n' := 40) ?_
        exact sd_iret C dX10_row_40 (sd_fst hF) (sd_snd hF)
      · replace hF := sd_neg hF c16
        refine sd_aload_n C 0 dX10_row_19 rfl rfl rfl (n' := 20) ?_
        refine sd_g10_12 C sd_i0 sd_k0 sd_w340 dX10_row_20 rfl (n' := 23) ?_
        refine sd_iconst C (v := 5) dX10_row_23 rfl rfl (n' := 24) ?_
        obtain ⟨q24, e24, hF⟩ := sd_bind hF
        refine sd_callVI [.int (5 : Int32)] [] C (ct_X2_tell M (5 : Int32)  e24) sd_lX10_100 ⟨rfl, rfl, Nat.le_of_ble_eq_true rfl, Nat.le_of_ble_eq_true rfl⟩ sd_i97 (sd_e3 sd_k97) rfl rfl rfl (Nat.le_of_ble_eq_true rfl) dX10_row_24 rfl (n' := 27) ?_
        exact sd_iret C dX10_row_27 (sd_fst hF) (sd_snd hF)
    · replace hF := sd_neg hF c10
      refine sd_iconst C (v := -1) dX10_row_13 rfl rfl (n' := 14) ?_
      exact sd_iret C dX10_row_14 (sd_fst hF) (sd_snd hF)
theorem ct_X10_row {l : Launch} {E : sd_Env} (M : sd_Mem) (x1 : Int32) (x2 : Int32)  {r : (Int32 × sd_Mem)} (hF : fn_X10_row M x1 x2 = some r) : sd_MI l E sd_LC yX10_row cX10_row 3 (some .int) rm_X10_row [.ref (E.2.2 0), .int x1, .int x2] M r.1 r.2 := sd_ent0 (by decide +kernel) (Nat.le_of_ble_eq_true rfl) (fun p e s m below meth c C => tb_X10_row_0 C M x1 x2 hF)
theorem dX1_isMissing_0 : decode cX1_isMissing 0 = .ok (.aload_n 0, 1) := by decide +kernel
theorem dX1_isMissing_1 : decode cX1_isMissing 1 = .ok (.getfield 9, 3) := by decide +kernel
theorem dX1_isMissing_4 : decode cX1_isMissing 4 = .ok (.iconst (-1), 1) := by decide +kernel
theorem dX1_isMissing_5 : decode cX1_isMissing 5 = .ok (.if_icmp .ne 7, 3) := by decide +kernel
theorem dX1_isMissing_8 : decode cX1_isMissing 8 = .ok (.iconst 1, 1) := by decide +kernel
theorem dX1_isMissing_9 : decode cX1_isMissing 9 = .ok (.goto 4, 3) := by decide +kernel
theorem dX1_isMissing_12 : decode cX1_isMissing 12 = .ok (.iconst 0, 1) := by decide +kernel
theorem dX1_isMissing_13 : decode cX1_isMissing 13 = .ok (.ireturn, 1) := by decide +kernel
set_option maxRecDepth 100000 in
set_option maxHeartbeats 4000000 in
theorem tb_X1_isMissing_0 {K : sd_K} {E : sd_Env} {M : sd_Mem} {h0 : Nat} {r : Int32} (C : sd_C K E sd_LC RX1 cX1_isMissing 1 (some .boolean)) (k0 : sd_kd h0 = 2) : fn_X1_isMissing_0 M h0 = some r → sd_Z K rm_X1_isMissing E sd_LC 1 (sd_QI K E sd_LC r M) M 0 [(0, .ref (E.2.2 h0))] [] := by
  intro hF
  unfold fn_X1_isMissing_0 at hF
  refine sd_aload_n C 0 dX1_isMissing_0 rfl rfl rfl (n' := 1) ?_
  refine sd_g1_1 C (sd_mC (sd_m2 k0)) k0 sd_w310 dX1_isMissing_1 rfl (n' := 4) ?_
  refine sd_iconst C (v := -1) dX1_isMissing_4 rfl rfl (n' := 5) ?_
  refine sd_icmp_ne C (n' := 8) (tgt := 12) dX1_isMissing_5 rfl rfl (fun c5 => ?_) (fun c5 => ?_)
  · replace hF := sd_neg hF c5
    refine sd_iconst C (v := 0) dX1_isMissing_12 rfl rfl (n' := 13) ?_
    exact sd_zret C dX1_isMissing_13 rfl (Option.some.inj hF) rfl
  · replace hF := sd_pos hF c5
    refine sd_iconst C (v := 1) dX1_isMissing_8 rfl rfl (n' := 9) ?_
    refine sd_goto C (tgt := 13) dX1_isMissing_9 rfl ?_
    exact sd_zret C dX1_isMissing_13 rfl (Option.some.inj hF) rfl
theorem ct_X1_isMissing {l : Launch} {E : sd_Env} (M : sd_Mem) (h0 : Nat) (k0 : sd_kd h0 = 2) {r : Int32} (hF : fn_X1_isMissing M h0 = some r) : sd_MI l E sd_LC yX1_isMissing cX1_isMissing 1 (some .boolean) rm_X1_isMissing [.ref (E.2.2 h0)] M r M := sd_ent0 (by decide +kernel) (Nat.le_of_ble_eq_true rfl) (fun p e s m below meth c C => tb_X1_isMissing_0 C k0 hF)
theorem dX1_holds_0 : decode cX1_holds 0 = .ok (.iload_n 2, 1) := by decide +kernel
theorem dX1_holds_1 : decode cX1_holds 1 = .ok (.ifCond .lt 29, 3) := by decide +kernel
theorem dX1_holds_4 : decode cX1_holds 4 = .ok (.iload_n 2, 1) := by decide +kernel
theorem dX1_holds_5 : decode cX1_holds 5 = .ok (.aload_n 0, 1) := by decide +kernel
theorem dX1_holds_6 : decode cX1_holds 6 = .ok (.getfield 9, 3) := by decide +kernel
theorem dX1_holds_9 : decode cX1_holds 9 = .ok (.if_icmp .gt 21, 3) := by decide +kernel
theorem dX1_holds_12 : decode cX1_holds 12 = .ok (.iload_n 1, 1) := by decide +kernel
theorem dX1_holds_13 : decode cX1_holds 13 = .ok (.ifCond .lt 17, 3) := by decide +kernel
theorem dX1_holds_16 : decode cX1_holds 16 = .ok (.iload_n 1, 1) := by decide +kernel
theorem dX1_holds_17 : decode cX1_holds 17 = .ok (.aload_n 0, 1) := by decide +kernel
theorem dX1_holds_18 : decode cX1_holds 18 = .ok (.getfield 9, 3) := by decide +kernel
theorem dX1_holds_21 : decode cX1_holds 21 = .ok (.iload_n 2, 1) := by decide +kernel
theorem dX1_holds_22 : decode cX1_holds 22 = .ok (.isub, 1) := by decide +kernel
theorem dX1_holds_23 : decode cX1_holds 23 = .ok (.if_icmp .gt 7, 3) := by decide +kernel
theorem dX1_holds_26 : decode cX1_holds 26 = .ok (.iconst 1, 1) := by decide +kernel
theorem dX1_holds_27 : decode cX1_holds 27 = .ok (.goto 4, 3) := by decide +kernel
theorem dX1_holds_30 : decode cX1_holds 30 = .ok (.iconst 0, 1) := by decide +kernel
theorem dX1_holds_31 : decode cX1_holds 31 = .ok (.ireturn, 1) := by decide +kernel
set_option maxRecDepth 100000 in
set_option maxHeartbeats 4000000 in
theorem tb_X1_holds_0 {K : sd_K} {E : sd_Env} {M : sd_Mem} {h0 : Nat} {r : Int32} (C : sd_C K E sd_LC RX1 cX1_holds 3 (some .boolean)) (k0 : sd_kd h0 = 2) : ∀ (x1 : Int32) (x2 : Int32), fn_X1_holds_0 M h0 x1 x2 = some r → sd_Z K rm_X1_holds E sd_LC 3 (sd_QI K E sd_LC r M) M 0 [(0, .ref (E.2.2 h0)), (1, .int x1), (2, .int x2)] [] := by
  intro x1 x2 hF
  unfold fn_X1_holds_0 at hF
  refine sd_iload_n C 2 dX1_holds_0 rfl rfl rfl (n' := 1) ?_
  refine sd_if_lt C (n' := 4) (tgt := 30) dX1_holds_1 rfl rfl (fun c1 => ?_) (fun c1 => ?_)
  · replace hF := sd_pos hF c1
    refine sd_iconst C (v := 0) dX1_holds_30 rfl rfl (n' := 31) ?_
    exact sd_zret C dX1_holds_31 rfl (Option.some.inj hF) rfl
  · replace hF := sd_neg hF c1
    refine sd_iload_n C 2 dX1_holds_4 rfl rfl rfl (n' := 5) ?_
    refine sd_aload_n C 0 dX1_holds_5 rfl rfl rfl (n' := 6) ?_
    refine sd_g1_1 C (sd_mC (sd_m2 k0)) k0 sd_w310 dX1_holds_6 rfl (n' := 9) ?_
    refine sd_icmp_gt C (n' := 12) (tgt := 30) dX1_holds_9 rfl rfl (fun c9 => ?_) (fun c9 => ?_)
    · replace hF := sd_pos hF c9
      refine sd_iconst C (v := 0) dX1_holds_30 rfl rfl (n' := 31) ?_
      exact sd_zret C dX1_holds_31 rfl (Option.some.inj hF) rfl
    · replace hF := sd_neg hF c9
      refine sd_iload_n C 1 dX1_holds_12 rfl rfl rfl (n' := 13) ?_
      refine sd_if_lt C (n' := 16) (tgt := 30) dX1_holds_13 rfl rfl (fun c13 => ?_) (fun c13 => ?_)
      · replace hF := sd_pos hF c13
        refine sd_iconst C (v := 0) dX1_holds_30 rfl rfl (n' := 31) ?_
        exact sd_zret C dX1_holds_31 rfl (Option.some.inj hF) rfl
      · replace hF := sd_neg hF c13
        refine sd_iload_n C 1 dX1_holds_16 rfl rfl rfl (n' := 17) ?_
        refine sd_aload_n C 0 dX1_holds_17 rfl rfl rfl (n' := 18) ?_
        refine sd_g1_1 C (sd_mC (sd_m2 k0)) k0 sd_w310 dX1_holds_18 rfl (n' := 21) ?_
        refine sd_iload_n C 2 dX1_holds_21 rfl rfl rfl (n' := 22) ?_
        refine sd_isub C dX1_holds_22 rfl (n' := 23) ?_
        refine sd_icmp_gt C (n' := 26) (tgt := 30) dX1_holds_23 rfl rfl (fun c23 => ?_) (fun c23 => ?_)
        · replace hF := sd_pos hF c23
          refine sd_iconst C (v := 0) dX1_holds_30 rfl rfl (n' := 31) ?_
          exact sd_zret C dX1_holds_31 rfl (Option.some.inj hF) rfl
        · replace hF := sd_neg hF c23
          refine sd_iconst C (v := 1) dX1_holds_26 rfl rfl (n' := 27) ?_
          refine sd_goto C (tgt := 31) dX1_holds_27 rfl ?_
          exact sd_zret C dX1_holds_31 rfl (Option.some.inj hF) rfl
theorem ct_X1_holds {l : Launch} {E : sd_Env} (M : sd_Mem) (h0 : Nat) (x1 : Int32) (x2 : Int32) (k0 : sd_kd h0 = 2) {r : Int32} (hF : fn_X1_holds M h0 x1 x2 = some r) : sd_MI l E sd_LC yX1_holds cX1_holds 3 (some .boolean) rm_X1_holds [.ref (E.2.2 h0), .int x1, .int x2] M r M := sd_ent0 (by decide +kernel) (Nat.le_of_ble_eq_true rfl) (fun p e s m below meth c C => tb_X1_holds_0 C k0 x1 x2 hF)
theorem dX1_swap_0 : decode cX1_swap 0 = .ok (.aload_n 0, 1) := by decide +kernel
theorem dX1_swap_1 : decode cX1_swap 1 = .ok (.iload_n 1, 1) := by decide +kernel
theorem dX1_swap_2 : decode cX1_swap 2 = .ok (.iconst 1, 1) := by decide +kernel
theorem dX1_swap_3 : decode cX1_swap 3 = .ok (.invokevirtual 34, 3) := by decide +kernel
theorem dX1_swap_6 : decode cX1_swap 6 = .ok (.ifCond .ne 5, 3) := by decide +kernel
theorem dX1_swap_9 : decode cX1_swap 9 = .ok (.iconst 0, 1) := by decide +kernel
theorem dX1_swap_10 : decode cX1_swap 10 = .ok (.ireturn, 1) := by decide +kernel
theorem dX1_swap_11 : decode cX1_swap 11 = .ok (.aload_n 0, 1) := by decide +kernel
theorem dX1_swap_12 : decode cX1_swap 12 = .ok (.getfield 21, 3) := by decide +kernel
theorem dX1_swap_15 : decode cX1_swap 15 = .ok (.iload_n 1, 1) := by decide +kernel
theorem dX1_swap_16 : decode cX1_swap 16 = .ok (.iaload, 1) := by decide +kernel
theorem dX1_swap_17 : decode cX1_swap 17 = .ok (.istore_n 3, 1) := by decide +kernel
theorem dX1_swap_18 : decode cX1_swap 18 = .ok (.aload_n 0, 1) := by decide +kernel
theorem dX1_swap_19 : decode cX1_swap 19 = .ok (.getfield 21, 3) := by decide +kernel
theorem dX1_swap_22 : decode cX1_swap 22 = .ok (.iload_n 1, 1) := by decide +kernel
theorem dX1_swap_23 : decode cX1_swap 23 = .ok (.iload_n 2, 1) := by decide +kernel
theorem dX1_swap_24 : decode cX1_swap 24 = .ok (.iastore, 1) := by decide +kernel
theorem dX1_swap_25 : decode cX1_swap 25 = .ok (.iload_n 3, 1) := by decide +kernel
theorem dX1_swap_26 : decode cX1_swap 26 = .ok (.ireturn, 1) := by decide +kernel
set_option maxRecDepth 100000 in
set_option maxHeartbeats 4000000 in
theorem tb_X1_swap_0 {K : sd_K} {E : sd_Env}  {h0 : Nat} {r : (Int32 × sd_Mem)} (C : sd_C K E sd_LC RX1 cX1_swap 4 (some .int)) (k0 : sd_kd h0 = 2) : ∀ (M : sd_Mem) (x1 : Int32) (x2 : Int32), fn_X1_swap_0 h0 M x1 x2 = some r → sd_Z K rm_X1_swap E sd_LC 4 (sd_QI K E sd_LC r.1 r.2) M 0 [(0, .ref (E.2.2 h0)), (1, .int x1), (2, .int x2)] [] := by
  intro M x1 x2 hF
  unfold fn_X1_swap_0 at hF
  refine sd_aload_n C 0 dX1_swap_0 rfl rfl rfl (n' := 1) ?_
  refine sd_iload_n C 1 dX1_swap_1 rfl rfl rfl (n' := 2) ?_
  refine sd_iconst C (v := 1) dX1_swap_2 rfl rfl (n' := 3) ?_
  obtain ⟨q3, e3, hF⟩ := sd_bind hF
  refine sd_callVI [.int x1, .int (1 : Int32)] [] C (ct_X1_holds M h0 x1 (1 : Int32) k0 e3) sd_lX1_34 ⟨rfl, rfl, Nat.le_of_ble_eq_true rfl, Nat.le_of_ble_eq_true rfl⟩ (sd_mC (sd_m2 k0)) (sd_e2 k0) rfl rfl rfl (Nat.le_of_ble_eq_true rfl) dX1_swap_3 rfl (n' := 6) ?_
  refine sd_if_ne C (n' := 9) (tgt := 11) dX1_swap_6 rfl rfl (fun c6 => ?_) (fun c6 => ?_)
  · replace hF := sd_neg hF c6
    refine sd_aload_n C 0 dX1_swap_11 rfl rfl rfl (n' := 12) ?_
    refine sd_g1_0 C (sd_mC (sd_m2 k0)) k0 sd_w309 dX1_swap_12 rfl (n' := 15) ?_
    refine sd_iload_n C 1 dX1_swap_15 rfl rfl rfl (n' := 16) ?_
    obtain ⟨b16, hF⟩ := sd_ok hF
    refine sd_iald C (sd_mC (sd_c2 k0).2.2) ((sd_c2 k0).1) rfl b16 dX1_swap_16 rfl (n' := 17) ?_
    refine sd_istore_n [(3, .int (M.1 (h0 + 1) x1.toNatClampNeg)), (0, .ref (E.2.2 h0)), (1, .int x1), (2, .int x2)] C dX1_swap_17 rfl (by decide) rfl rfl (n' := 18) ?_
    refine sd_aload_n C 1 dX1_swap_18 rfl rfl rfl (n' := 19) ?_
    refine sd_g1_0 C (sd_mC (sd_m2 k0)) k0 sd_w309 dX1_swap_19 rfl (n' := 22) ?_
    refine sd_iload_n C 2 dX1_swap_22 rfl rfl rfl (n' := 23) ?_
    refine sd_iload_n C 3 dX1_swap_23 rfl rfl rfl (n' := 24) ?_
    obtain ⟨b24, hF⟩ := sd_ok hF
    refine sd_iast C (sd_mC (sd_c2 k0).2.2) ((sd_c2 k0).1) rfl b24 dX1_swap_24 rfl (n' := 25) ?_
    refine sd_iload_n C 0 dX1_swap_25 rfl rfl rfl (n' := 26) ?_
    exact sd_iret C dX1_swap_26 (sd_fst hF) (sd_snd hF)
  · replace hF := sd_pos hF c6
    refine sd_iconst C (v := 0) dX1_swap_9 rfl rfl (n' := 10) ?_
    exact sd_iret C dX1_swap_10 (sd_fst hF) (sd_snd hF)
theorem ct_X1_swap {l : Launch} {E : sd_Env} (M : sd_Mem) (h0 : Nat) (x1 : Int32) (x2 : Int32) (k0 : sd_kd h0 = 2) {r : (Int32 × sd_Mem)} (hF : fn_X1_swap M h0 x1 x2 = some r) : sd_MI l E sd_LC yX1_swap cX1_swap 4 (some .int) rm_X1_swap [.ref (E.2.2 h0), .int x1, .int x2] M r.1 r.2 := sd_ent0 (by decide +kernel) (Nat.le_of_ble_eq_true rfl) (fun p e s m below meth c C => tb_X1_swap_0 C k0 M x1 x2 hF)
theorem dX10_lay_0 : decode cX10_lay 0 = .ok (.iload_n 1, 1) := by decide +kernel
theorem dX10_lay_1 : decode cX10_lay 1 = .ok (.invokestatic 96, 3) := by decide +kernel
theorem dX10_lay_4 : decode cX10_lay 4 = .ok (.ifCond .ne 5, 3) := by decide +kernel
theorem dX10_lay_7 : decode cX10_lay 7 = .ok (.iconst (-1), 1) := by decide +kernel
theorem dX10_lay_8 : decode cX10_lay 8 = .ok (.ireturn, 1) := by decide +kernel
theorem dX10_lay_9 : decode cX10_lay 9 = .ok (.aload_n 0, 1) := by decide +kernel
theorem dX10_lay_10 : decode cX10_lay 10 = .ok (.getfield 11, 3) := by decide +kernel
theorem dX10_lay_13 : decode cX10_lay 13 = .ok (.iload_n 1, 1) := by decide +kernel
theorem dX10_lay_14 : decode cX10_lay 14 = .ok (.aaload, 1) := by decide +kernel
theorem dX10_lay_15 : decode cX10_lay 15 = .ok (.invokevirtual 108, 3) := by decide +kernel
theorem dX10_lay_18 : decode cX10_lay 18 = .ok (.ifCond .eq 12, 3) := by decide +kernel
theorem dX10_lay_21 : decode cX10_lay 21 = .ok (.aload_n 0, 1) := by decide +kernel
theorem dX10_lay_22 : decode cX10_lay 22 = .ok (.getfield 84, 3) := by decide +kernel
theorem dX10_lay_25 : decode cX10_lay 25 = .ok (.iconst 1, 1) := by decide +kernel
theorem dX10_lay_26 : decode cX10_lay 26 = .ok (.invokevirtual 100, 3) := by decide +kernel
theorem dX10_lay_29 : decode cX10_lay 29 = .ok (.ireturn, 1) := by decide +kernel
theorem dX10_lay_30 : decode cX10_lay 30 = .ok (.aload_n 0, 1) := by decide +kernel
theorem dX10_lay_31 : decode cX10_lay 31 = .ok (.getfield 11, 3) := by decide +kernel
theorem dX10_lay_34 : decode cX10_lay 34 = .ok (.iload_n 1, 1) := by decide +kernel
theorem dX10_lay_35 : decode cX10_lay 35 = .ok (.aaload, 1) := by decide +kernel
theorem dX10_lay_36 : decode cX10_lay 36 = .ok (.iload_n 2, 1) := by decide +kernel
theorem dX10_lay_37 : decode cX10_lay 37 = .ok (.iconst 1, 1) := by decide +kernel
theorem dX10_lay_38 : decode cX10_lay 38 = .ok (.invokevirtual 112, 3) := by decide +kernel
theorem dX10_lay_41 : decode cX10_lay 41 = .ok (.ifCond .ne 12, 3) := by decide +kernel
theorem dX10_lay_44 : decode cX10_lay 44 = .ok (.aload_n 0, 1) := by decide +kernel
theorem dX10_lay_45 : decode cX10_lay 45 = .ok (.getfield 84, 3) := by decide +kernel
theorem dX10_lay_48 : decode cX10_lay 48 = .ok (.iconst 2, 1) := by decide +kernel
theorem dX10_lay_49 : decode cX10_lay 49 = .ok (.invokevirtual 100, 3) := by decide +kernel
theorem dX10_lay_52 : decode cX10_lay 52 = .ok (.ireturn, 1) := by decide +kernel
theorem dX10_lay_53 : decode cX10_lay 53 = .ok (.aload_n 0, 1) := by decide +kernel
theorem dX10_lay_54 : decode cX10_lay 54 = .ok (.aload_n 0, 1) := by decide +kernel
theorem dX10_lay_55 : decode cX10_lay 55 = .ok (.getfield 11, 3) := by decide +kernel
theorem dX10_lay_58 : decode cX10_lay 58 = .ok (.iload_n 1, 1) := by decide +kernel
theorem dX10_lay_59 : decode cX10_lay 59 = .ok (.aaload, 1) := by decide +kernel
theorem dX10_lay_60 : decode cX10_lay 60 = .ok (.iload_n 2, 1) := by decide +kernel
theorem dX10_lay_61 : decode cX10_lay 61 = .ok (.iload_n 3, 1) := by decide +kernel
theorem dX10_lay_62 : decode cX10_lay 62 = .ok (.invokevirtual 116, 3) := by decide +kernel
theorem dX10_lay_65 : decode cX10_lay 65 = .ok (.putfield 88, 3) := by decide +kernel
theorem dX10_lay_68 : decode cX10_lay 68 = .ok (.iconst 1, 1) := by decide +kernel
theorem dX10_lay_69 : decode cX10_lay 69 = .ok (.ireturn, 1) := by decide +kernel
set_option maxRecDepth 100000 in
set_option maxHeartbeats 4000000 in
theorem tb_X10_lay_0 {K : sd_K} {E : sd_Env}   {r : (Int32 × sd_Mem)} (C : sd_C K E sd_LC RX10 cX10_lay 4 (some .int))  : ∀ (M : sd_Mem) (x1 : Int32) (x2 : Int32) (x3 : Int32), fn_X10_lay_0 M x1 x2 x3 = some r → sd_Z K rm_X10_lay E sd_LC 4 (sd_QI K E sd_LC r.1 r.2) M 0 [(0, .ref (E.2.2 0)), (1, .int x1), (2, .int x2), (3, .int x3)] [] := by
  intro M x1 x2 x3 hF
  unfold fn_X10_lay_0 at hF
  refine sd_iload_n C 1 dX10_lay_0 rfl rfl rfl (n' := 1) ?_
  obtain ⟨q1, e1, hF⟩ := sd_bind hF
  refine sd_callSI [.int x1] [] C (ct_X10_isRow M x1  e1) sd_lX10_96 ⟨rfl, rfl, Nat.le_of_ble_eq_true rfl, Nat.le_of_ble_eq_true rfl⟩ rfl (Nat.le_of_ble_eq_true rfl) dX10_lay_1 rfl (n' := 4) ?_
  refine sd_if_ne C (n' := 7) (tgt := 9) dX10_lay_4 rfl rfl (fun c4 => ?_) (fun c4 => ?_)
  · replace hF := sd_neg hF c4
    refine sd_aload_n C 0 dX10_lay_9 rfl rfl rfl (n' := 10) ?_
    refine sd_g10_0 C sd_i0 sd_k0 sd_w328 dX10_lay_10 rfl (n' := 13) ?_
    refine sd_iload_n C 1 dX10_lay_13 rfl rfl rfl (n' := 14) ?_
    obtain ⟨b14, hF⟩ := sd_ok hF
    refine sd_cald C sd_i1 sd_k1 sd_n1 b14 dX10_lay_14 rfl (n' := 15) ?_
    obtain ⟨q15, e15, hF⟩ := sd_bind hF
    refine sd_callVI [] [] C (ct_X1_isMissing M (1 + 1 + 2 * x1.toNatClampNeg) ((sd_r1 _ (sd_in_lt b14)).1) e15) sd_lX10_108 ⟨rfl, rfl, Nat.le_of_ble_eq_true rfl, Nat.le_of_ble_eq_true rfl⟩ (sd_mC (sd_r1 _ (sd_in_lt b14)).2) (sd_e2 ((sd_r1 _ (sd_in_lt b14)).1)) rfl rfl rfl (Nat.le_of_ble_eq_true rfl) dX10_lay_15 rfl (n' := 18) ?_
    refine sd_if_eq C (n' := 21) (tgt := 30) dX10_lay_18 rfl rfl (fun c18 => ?_) (fun c18 => ?_)
    · replace hF := sd_pos hF c18
      refine sd_aload_n C 0 dX10_lay_30 rfl rfl rfl (n' := 31) ?_
      refine sd_g10_0 C sd_i0 sd_k0 sd_w328 dX10_lay_31 rfl (n' := 34) ?_
      refine sd_iload_n C 1 dX10_lay_34 rfl rfl rfl (n' := 35) ?_
      obtain ⟨b35, hF⟩ := sd_ok hF
      refine sd_cald C sd_i1 sd_k1 sd_n1 b35 dX10_lay_35 rfl (n' := 36) ?_
      refine sd_iload_n C 2 dX10_lay_36 rfl rfl rfl (n' := 37) ?_
      refine sd_iconst C (v := 1) dX10_lay_37 rfl rfl (n' := 38) ?_
      obtain ⟨q38, e38, hF⟩ := sd_bind hF
      refine sd_callVI [.int x2, .int (1 : Int32)] [] C (ct_X1_holds M (1 + 1 + 2 * x1.toNatClampNeg) x2 (1 : Int32) ((sd_r1 _ (sd_in_lt b35)).1) e38) sd_lX10_112 ⟨rfl, rfl, Nat.le_of_ble_eq_true rfl, Nat.le_of_ble_eq_true rfl⟩ (sd_mC (sd_r1 _ (sd_in_lt b35)).2) (sd_e2 ((sd_r1 _ (sd_in_lt b35)).1)) rfl rfl rfl (Nat.le_of_ble_eq_true rfl) dX10_lay_38 rfl (n' := 41) ?_
      refine sd_if_ne C (n' := 44) (tgt := 53) dX10_lay_41 rfl rfl (fun c41 => ?_) (fun c41 => ?_)
      · replace hF := sd_neg hF c41
        refine sd_aload_n C 0 dX10_lay_53 rfl rfl rfl (n' := 54) ?_
        refine sd_aload_n C 0 dX10_lay_54 rfl rfl rfl (n' := 55) ?_
        refine sd_g10_0 C sd_i0 sd_k0 sd_w328 dX10_lay_55 rfl (n' := 58) ?_
        refine sd_iload_n C 1 dX10_lay_58 rfl rfl rfl (n' := 59) ?_
        obtain ⟨b59, hF⟩ := sd_ok hF
        refine sd_cald C sd_i1 sd_k1 sd_n1 b59 dX10_lay_59 rfl (n' := 60) ?_
        refine sd_iload_n C 2 dX10_lay_60 rfl rfl rfl (n' := 61) ?_
        refine sd_iload_n C 3 dX10_lay_61 rfl rfl rfl (n' := 62) ?_
        obtain ⟨q62, e62, hF⟩ := sd_bind hF
        refine sd_callVI [.int x2, .int x3] [.ref (E.2.2 0)] C (ct_X1_swap M (1 + 1 + 2 * x1.toNatClampNeg) x2 x3 ((sd_r1 _ (sd_in_lt b59)).1) e62) sd_lX10_116 ⟨rfl, rfl, Nat.le_of_ble_eq_true rfl, Nat.le_of_ble_eq_true rfl⟩ (sd_mC (sd_r1 _ (sd_in_lt b59)).2) (sd_e2 ((sd_r1 _ (sd_in_lt b59)).1)) rfl rfl rfl (Nat.le_of_ble_eq_true rfl) dX10_lay_62 rfl (n' := 65) ?_
        refine sd_p10_13 C sd_i0 sd_k0 sd_w341 dX10_lay_65 rfl (n' := 68) ?_
        refine sd_iconst C (v := 1) dX10_lay_68 rfl rfl (n' := 69) ?_
        exact sd_iret C dX10_lay_69 (sd_fst hF) (sd_snd hF)
      · replace hF := sd_pos hF c41
        refine sd_aload_n C 0 dX10_lay_44 rfl rfl rfl (n' := 45) ?_
        refine sd_g10_12 C sd_i0 sd_k0 sd_w340 dX10_lay_45 rfl (n' := 48) ?_
        refine sd_iconst C (v := 2) dX10_lay_48 rfl rfl (n' := 49) ?_
        obtain ⟨q49, e49, hF⟩ := sd_bind hF
        refine sd_callVI [.int (2 : Int32)] [] C (ct_X2_tell M (2 : Int32)  e49) sd_lX10_100 ⟨rfl, rfl, Nat.le_of_ble_eq_true rfl, Nat.le_of_ble_eq_true rfl⟩ sd_i97 (sd_e3 sd_k97) rfl rfl rfl (Nat.le_of_ble_eq_true rfl) dX10_lay_49 rfl (n' := 52) ?_
        exact sd_iret C dX10_lay_52 (sd_fst hF) (sd_snd hF)
    · replace hF := sd_neg hF c18
      refine sd_aload_n C 0 dX10_lay_21 rfl rfl rfl (n' := 22) ?_
      refine sd_g10_12 C sd_i0 sd_k0 sd_w340 dX10_lay_22 rfl (n' := 25) ?_
      refine sd_iconst C (v := 1) dX10_lay_25 rfl rfl (n' := 26) ?_
      obtain ⟨q26, e26, hF⟩ := sd_bind hF
      refine sd_callVI [.int (1 : Int32)] [] C (ct_X2_tell M (1 : Int32)  e26) sd_lX10_100 ⟨rfl, rfl, Nat.le_of_ble_eq_true rfl, Nat.le_of_ble_eq_true rfl⟩ sd_i97 (sd_e3 sd_k97) rfl rfl rfl (Nat.le_of_ble_eq_true rfl) dX10_lay_26 rfl (n' := 29) ?_
      exact sd_iret C dX10_lay_29 (sd_fst hF) (sd_snd hF)
  · replace hF := sd_pos hF c4
    refine sd_iconst C (v := -1) dX10_lay_7 rfl rfl (n' := 8) ?_
    exact sd_iret C dX10_lay_8 (sd_fst hF) (sd_snd hF)
theorem ct_X10_lay {l : Launch} {E : sd_Env} (M : sd_Mem) (x1 : Int32) (x2 : Int32) (x3 : Int32)  {r : (Int32 × sd_Mem)} (hF : fn_X10_lay M x1 x2 x3 = some r) : sd_MI l E sd_LC yX10_lay cX10_lay 4 (some .int) rm_X10_lay [.ref (E.2.2 0), .int x1, .int x2, .int x3] M r.1 r.2 := sd_ent0 (by decide +kernel) (Nat.le_of_ble_eq_true rfl) (fun p e s m below meth c C => tb_X10_lay_0 C M x1 x2 x3 hF)
theorem dX1_drop_0 : decode cX1_drop 0 = .ok (.aload_n 0, 1) := by decide +kernel
theorem dX1_drop_1 : decode cX1_drop 1 = .ok (.iconst (-1), 1) := by decide +kernel
theorem dX1_drop_2 : decode cX1_drop 2 = .ok (.putfield 9, 3) := by decide +kernel
theorem dX1_drop_5 : decode cX1_drop 5 = .ok (.return_, 1) := by decide +kernel
set_option maxRecDepth 100000 in
set_option maxHeartbeats 4000000 in
theorem tb_X1_drop_0 {K : sd_K} {E : sd_Env}  {h0 : Nat} {r : sd_Mem} (C : sd_C K E sd_LC RX1 cX1_drop 1 none) (k0 : sd_kd h0 = 2) : ∀ (M : sd_Mem), fn_X1_drop_0 h0 M = some r → sd_Z K rm_X1_drop E sd_LC 1 (sd_QV K E sd_LC r) M 0 [(0, .ref (E.2.2 h0))] [] := by
  intro M hF
  unfold fn_X1_drop_0 at hF
  refine sd_aload_n C 0 dX1_drop_0 rfl rfl rfl (n' := 1) ?_
  refine sd_iconst C (v := -1) dX1_drop_1 rfl rfl (n' := 2) ?_
  refine sd_p1_1 C (sd_mC (sd_m2 k0)) k0 sd_w310 dX1_drop_2 rfl (n' := 5) ?_
  exact sd_vret C dX1_drop_5 (Option.some.inj hF)
theorem ct_X1_drop {l : Launch} {E : sd_Env} (M : sd_Mem) (h0 : Nat) (k0 : sd_kd h0 = 2) {r : sd_Mem} (hF : fn_X1_drop M h0 = some r) : sd_MV l E sd_LC yX1_drop cX1_drop 1 none rm_X1_drop [.ref (E.2.2 h0)] M r := sd_ent0 (by decide +kernel) (Nat.le_of_ble_eq_true rfl) (fun p e s m below meth c C => tb_X1_drop_0 C k0 M hF)
theorem dX10_tear_0 : decode cX10_tear 0 = .ok (.iload_n 1, 1) := by decide +kernel
theorem dX10_tear_1 : decode cX10_tear 1 = .ok (.invokestatic 96, 3) := by decide +kernel
theorem dX10_tear_4 : decode cX10_tear 4 = .ok (.ifCond .ne 5, 3) := by decide +kernel
theorem dX10_tear_7 : decode cX10_tear 7 = .ok (.iconst (-1), 1) := by decide +kernel
theorem dX10_tear_8 : decode cX10_tear 8 = .ok (.ireturn, 1) := by decide +kernel
theorem dX10_tear_9 : decode cX10_tear 9 = .ok (.aload_n 0, 1) := by decide +kernel
theorem dX10_tear_10 : decode cX10_tear 10 = .ok (.getfield 11, 3) := by decide +kernel
theorem dX10_tear_13 : decode cX10_tear 13 = .ok (.iload_n 1, 1) := by decide +kernel
theorem dX10_tear_14 : decode cX10_tear 14 = .ok (.aaload, 1) := by decide +kernel
theorem dX10_tear_15 : decode cX10_tear 15 = .ok (.invokevirtual 108, 3) := by decide +kernel
theorem dX10_tear_18 : decode cX10_tear 18 = .ok (.ifCond .eq 12, 3) := by decide +kernel
theorem dX10_tear_21 : decode cX10_tear 21 = .ok (.aload_n 0, 1) := by decide +kernel
theorem dX10_tear_22 : decode cX10_tear 22 = .ok (.getfield 84, 3) := by decide +kernel
theorem dX10_tear_25 : decode cX10_tear 25 = .ok (.iconst 1, 1) := by decide +kernel
theorem dX10_tear_26 : decode cX10_tear 26 = .ok (.invokevirtual 100, 3) := by decide +kernel
theorem dX10_tear_29 : decode cX10_tear 29 = .ok (.ireturn, 1) := by decide +kernel
theorem dX10_tear_30 : decode cX10_tear 30 = .ok (.aload_n 0, 1) := by decide +kernel
theorem dX10_tear_31 : decode cX10_tear 31 = .ok (.getfield 11, 3) := by decide +kernel
theorem dX10_tear_34 : decode cX10_tear 34 = .ok (.iload_n 1, 1) := by decide +kernel
theorem dX10_tear_35 : decode cX10_tear 35 = .ok (.aaload, 1) := by decide +kernel
theorem dX10_tear_36 : decode cX10_tear 36 = .ok (.invokevirtual 120, 3) := by decide +kernel
theorem dX10_tear_39 : decode cX10_tear 39 = .ok (.iconst 1, 1) := by decide +kernel
theorem dX10_tear_40 : decode cX10_tear 40 = .ok (.ireturn, 1) := by decide +kernel
set_option maxRecDepth 100000 in
set_option maxHeartbeats 4000000 in
theorem tb_X10_tear_0 {K : sd_K} {E : sd_Env}   {r : (Int32 × sd_Mem)} (C : sd_C K E sd_LC RX10 cX10_tear 2 (some .int))  : ∀ (M : sd_Mem) (x1 : Int32), fn_X10_tear_0 M x1 = some r → sd_Z K rm_X10_tear E sd_LC 2 (sd_QI K E sd_LC r.1 r.2) M 0 [(0, .ref (E.2.2 0)), (1, .int x1)] [] := by
  intro M x1 hF
  unfold fn_X10_tear_0 at hF
  refine sd_iload_n C 1 dX10_tear_0 rfl rfl rfl (n' := 1) ?_
  obtain ⟨q1, e1, hF⟩ := sd_bind hF
  refine sd_callSI [.int x1] [] C (ct_X10_isRow M x1  e1) sd_lX10_96 ⟨rfl, rfl, Nat.le_of_ble_eq_true rfl, Nat.le_of_ble_eq_true rfl⟩ rfl (Nat.le_of_ble_eq_true rfl) dX10_tear_1 rfl (n' := 4) ?_
  refine sd_if_ne C (n' := 7) (tgt := 9) dX10_tear_4 rfl rfl (fun c4 => ?_) (fun c4 => ?_)
  · replace hF := sd_neg hF c4
    refine sd_aload_n C 0 dX10_tear_9 rfl rfl rfl (n' := 10) ?_
    refine sd_g10_0 C sd_i0 sd_k0 sd_w328 dX10_tear_10 rfl (n' := 13) ?_
    refine sd_iload_n C 1 dX10_tear_13 rfl rfl rfl (n' := 14) ?_
    obtain ⟨b14, hF⟩ := sd_ok hF
    refine sd_cald C sd_i1 sd_k1 sd_n1 b14 dX10_tear_14 rfl (n' := 15) ?_
    obtain ⟨q15, e15, hF⟩ := sd_bind hF
    refine sd_callVI [] [] C (ct_X1_isMissing M (1 + 1 + 2 * x1.toNatClampNeg) ((sd_r1 _ (sd_in_lt b14)).1) e15) sd_lX10_108 ⟨rfl, rfl, Nat.le_of_ble_eq_true rfl, Nat.le_of_ble_eq_true rfl⟩ (sd_mC (sd_r1 _ (sd_in_lt b14)).2) (sd_e2 ((sd_r1 _ (sd_in_lt b14)).1)) rfl rfl rfl (Nat.le_of_ble_eq_true rfl) dX10_tear_15 rfl (n' := 18) ?_
    refine sd_if_eq C (n' := 21) (tgt := 30) dX10_tear_18 rfl rfl (fun c18 => ?_) (fun c18 => ?_)
    · replace hF := sd_pos hF c18
      refine sd_aload_n C 0 dX10_tear_30 rfl rfl rfl (n' := 31) ?_
      refine sd_g10_0 C sd_i0 sd_k0 sd_w328 dX10_tear_31 rfl (n' := 34) ?_
      refine sd_iload_n C 1 dX10_tear_34 rfl rfl rfl (n' := 35) ?_
      obtain ⟨b35, hF⟩ := sd_ok hF
      refine sd_cald C sd_i1 sd_k1 sd_n1 b35 dX10_tear_35 rfl (n' := 36) ?_
      obtain ⟨q36, e36, hF⟩ := sd_bind hF
      refine sd_callVV [] [] C (ct_X1_drop M (1 + 1 + 2 * x1.toNatClampNeg) ((sd_r1 _ (sd_in_lt b35)).1) e36) sd_lX10_120 ⟨rfl, rfl, Nat.le_of_ble_eq_true rfl, Nat.le_of_ble_eq_true rfl⟩ (sd_mC (sd_r1 _ (sd_in_lt b35)).2) (sd_e2 ((sd_r1 _ (sd_in_lt b35)).1)) rfl rfl rfl (Nat.le_of_ble_eq_true rfl) dX10_tear_36 rfl (n' := 39) ?_
      refine sd_iconst C (v := 1) dX10_tear_39 rfl rfl (n' := 40) ?_
      exact sd_iret C dX10_tear_40 (sd_fst hF) (sd_snd hF)
    · replace hF := sd_neg hF c18
      refine sd_aload_n C 0 dX10_tear_21 rfl rfl rfl (n' := 22) ?_
      refine sd_g10_12 C sd_i0 sd_k0 sd_w340 dX10_tear_22 rfl (n' := 25) ?_
      refine sd_iconst C (v := 1) dX10_tear_25 rfl rfl (n' := 26) ?_
      obtain ⟨q26, e26, hF⟩ := sd_bind hF
      refine sd_callVI [.int (1 : Int32)] [] C (ct_X2_tell M (1 : Int32)  e26) sd_lX10_100 ⟨rfl, rfl, Nat.le_of_ble_eq_true rfl, Nat.le_of_ble_eq_true rfl⟩ sd_i97 (sd_e3 sd_k97) rfl rfl rfl (Nat.le_of_ble_eq_true rfl) dX10_tear_26 rfl (n' := 29) ?_
      exact sd_iret C dX10_tear_29 (sd_fst hF) (sd_snd hF)
  · replace hF := sd_pos hF c4
    refine sd_iconst C (v := -1) dX10_tear_7 rfl rfl (n' := 8) ?_
    exact sd_iret C dX10_tear_8 (sd_fst hF) (sd_snd hF)
theorem ct_X10_tear {l : Launch} {E : sd_Env} (M : sd_Mem) (x1 : Int32)  {r : (Int32 × sd_Mem)} (hF : fn_X10_tear M x1 = some r) : sd_MI l E sd_LC yX10_tear cX10_tear 2 (some .int) rm_X10_tear [.ref (E.2.2 0), .int x1] M r.1 r.2 := sd_ent0 (by decide +kernel) (Nat.le_of_ble_eq_true rfl) (fun p e s m below meth c C => tb_X10_tear_0 C M x1 hF)
theorem dX1_take_0 : decode cX1_take 0 = .ok (.aload_n 0, 1) := by decide +kernel
theorem dX1_take_1 : decode cX1_take 1 = .ok (.iload_n 1, 1) := by decide +kernel
theorem dX1_take_2 : decode cX1_take 2 = .ok (.iload 4, 2) := by decide +kernel
theorem dX1_take_4 : decode cX1_take 4 = .ok (.invokevirtual 34, 3) := by decide +kernel
theorem dX1_take_7 : decode cX1_take 7 = .ok (.ifCond .eq 28, 3) := by decide +kernel
theorem dX1_take_10 : decode cX1_take 10 = .ok (.aload_n 2, 1) := by decide +kernel
theorem dX1_take_11 : decode cX1_take 11 = .ok (.iload_n 3, 1) := by decide +kernel
theorem dX1_take_12 : decode cX1_take 12 = .ok (.iload 4, 2) := by decide +kernel
theorem dX1_take_14 : decode cX1_take 14 = .ok (.invokevirtual 34, 3) := by decide +kernel
theorem dX1_take_17 : decode cX1_take 17 = .ok (.ifCond .eq 18, 3) := by decide +kernel
theorem dX1_take_20 : decode cX1_take 20 = .ok (.aload_n 2, 1) := by decide +kernel
theorem dX1_take_21 : decode cX1_take 21 = .ok (.getfield 21, 3) := by decide +kernel
theorem dX1_take_24 : decode cX1_take 24 = .ok (.iload_n 3, 1) := by decide +kernel
theorem dX1_take_25 : decode cX1_take 25 = .ok (.aload_n 0, 1) := by decide +kernel
theorem dX1_take_26 : decode cX1_take 26 = .ok (.getfield 21, 3) := by decide +kernel
theorem dX1_take_29 : decode cX1_take 29 = .ok (.iload_n 1, 1) := by decide +kernel
theorem dX1_take_30 : decode cX1_take 30 = .ok (.iload 4, 2) := by decide +kernel
theorem dX1_take_32 : decode cX1_take 32 = .ok (.invokestatic 38, 3) := by decide +kernel
theorem dX1_take_35 : decode cX1_take 35 = .ok (.return_, 1) := by decide +kernel
set_option maxRecDepth 100000 in
set_option maxHeartbeats 4000000 in
theorem tb_X1_take_0 {K : sd_K} {E : sd_Env}  {h0 h2 : Nat} {r : sd_Mem} (C : sd_C K E sd_LC RX1 cX1_take 5 none) (k0 : sd_kd h0 = 2) (k2 : sd_kd h2 = 2) : ∀ (M : sd_Mem) (x1 : Int32) (x3 : Int32) (x4 : Int32), fn_X1_take_0 h0 h2 M x1 x3 x4 = some r → sd_Z K rm_X1_take E sd_LC 5 (sd_QV K E sd_LC r) M 0 [(0, .ref (E.2.2 h0)), (1, .int x1), (2, .ref (E.2.2 h2)), (3, .int x3), (4, .int x4)] [] := by
  intro M x1 x3 x4 hF
  unfold fn_X1_take_0 at hF
  refine sd_aload_n C 0 dX1_take_0 rfl rfl rfl (n' := 1) ?_
  refine sd_iload_n C 1 dX1_take_1 rfl rfl rfl (n' := 2) ?_
  refine sd_iload C 4 dX1_take_2 rfl rfl (n' := 4) ?_
  obtain ⟨q4, e4, hF⟩ := sd_bind hF
  refine sd_callVI [.int x1, .int x4] [] C (ct_X1_holds M h0 x1 x4 k0 e4) sd_lX1_34 ⟨rfl, rfl, Nat.le_of_ble_eq_true rfl, Nat.le_of_ble_eq_true rfl⟩ (sd_mC (sd_m2 k0)) (sd_e2 k0) rfl rfl rfl (Nat.le_of_ble_eq_true rfl) dX1_take_4 rfl (n' := 7) ?_
  refine sd_if_eq C (n' := 10) (tgt := 35) dX1_take_7 rfl rfl (fun c7 => ?_) (fun c7 => ?_)
  · replace hF := sd_pos hF c7
    exact sd_vret C dX1_take_35 (Option.some.inj hF)
  · replace hF := sd_neg hF c7
    refine sd_aload_n C 2 dX1_take_10 rfl rfl rfl (n' := 11) ?_
    refine sd_iload_n C 3 dX1_take_11 rfl rfl rfl (n' := 12) ?_
    refine sd_iload C 4 dX1_take_12 rfl rfl (n' := 14) ?_
    obtain ⟨q14, e14, hF⟩ := sd_bind hF
    refine sd_callVI [.int x3, .int x4] [] C (ct_X1_holds M h2 x3 x4 k2 e14) sd_lX1_34 ⟨rfl, rfl, Nat.le_of_ble_eq_true rfl, Nat.le_of_ble_eq_true rfl⟩ (sd_mC (sd_m2 k2)) (sd_e2 k2) rfl rfl rfl (Nat.le_of_ble_eq_true rfl) dX1_take_14 rfl (n' := 17) ?_
    refine sd_if_eq C (n' := 20) (tgt := 35) dX1_take_17 rfl rfl (fun c17 => ?_) (fun c17 => ?_)
    · replace hF := sd_pos hF c17
      exact sd_vret C dX1_take_35 (Option.some.inj hF)
    · replace hF := sd_neg hF c17
      refine sd_aload_n C 2 dX1_take_20 rfl rfl rfl (n' := 21) ?_
      refine sd_g1_0 C (sd_mC (sd_m2 k2)) k2 sd_w309 dX1_take_21 rfl (n' := 24) ?_
      refine sd_iload_n C 3 dX1_take_24 rfl rfl rfl (n' := 25) ?_
      refine sd_aload_n C 0 dX1_take_25 rfl rfl rfl (n' := 26) ?_
      refine sd_g1_0 C (sd_mC (sd_m2 k0)) k0 sd_w309 dX1_take_26 rfl (n' := 29) ?_
      refine sd_iload_n C 1 dX1_take_29 rfl rfl rfl (n' := 30) ?_
      refine sd_iload C 4 dX1_take_30 rfl rfl (n' := 32) ?_
      obtain ⟨b32, hF⟩ := sd_ok hF
      refine sd_acopy C (sd_mC (sd_c2 k2).2.2) ((sd_c2 k2).1) (sd_mC (sd_c2 k0).2.2) ((sd_c2 k0).1) sd_w425 sd_w427 sd_w426 sd_w90 b32 (by decide) (by decide) dX1_take_32 rfl (n' := 35) ?_
      exact sd_vret C dX1_take_35 (Option.some.inj hF)
theorem ct_X1_take {l : Launch} {E : sd_Env} (M : sd_Mem) (h0 : Nat) (h2 : Nat) (x1 : Int32) (x3 : Int32) (x4 : Int32) (k0 : sd_kd h0 = 2) (k2 : sd_kd h2 = 2) {r : sd_Mem} (hF : fn_X1_take M h0 h2 x1 x3 x4 = some r) : sd_MV l E sd_LC yX1_take cX1_take 5 none rm_X1_take [.ref (E.2.2 h0), .int x1, .ref (E.2.2 h2), .int x3, .int x4] M r := sd_ent0 (by decide +kernel) (Nat.le_of_ble_eq_true rfl) (fun p e s m below meth c C => tb_X1_take_0 C k0 k2 M x1 x3 x4 hF)
theorem dX10_copy_0 : decode cX10_copy 0 = .ok (.iload_n 1, 1) := by decide +kernel
theorem dX10_copy_1 : decode cX10_copy 1 = .ok (.invokestatic 96, 3) := by decide +kernel
theorem dX10_copy_4 : decode cX10_copy 4 = .ok (.ifCond .eq 10, 3) := by decide +kernel
theorem dX10_copy_7 : decode cX10_copy 7 = .ok (.iload_n 3, 1) := by decide +kernel
theorem dX10_copy_8 : decode cX10_copy 8 = .ok (.invokestatic 96, 3) := by decide +kernel
theorem dX10_copy_11 : decode cX10_copy 11 = .ok (.ifCond .ne 5, 3) := by decide +kernel
theorem dX10_copy_14 : decode cX10_copy 14 = .ok (.iconst (-1), 1) := by decide +kernel
theorem dX10_copy_15 : decode cX10_copy 15 = .ok (.ireturn, 1) := by decide +kernel
theorem dX10_copy_16 : decode cX10_copy 16 = .ok (.iload 5, 2) := by decide +kernel
theorem dX10_copy_18 : decode cX10_copy 18 = .ok (.ifCond .ge 12, 3) := by decide +kernel
theorem dX10_copy_21 : decode cX10_copy 21 = .ok (.aload_n 0, 1) := by decide +kernel
theorem dX10_copy_22 : decode cX10_copy 22 = .ok (.getfield 84, 3) := by decide +kernel
theorem dX10_copy_25 : decode cX10_copy 25 = .ok (.iconst 5, 1) := by decide +kernel
theorem dX10_copy_26 : decode cX10_copy 26 = .ok (.invokevirtual 100, 3) := by decide +kernel
theorem dX10_copy_29 : decode cX10_copy 29 = .ok (.ireturn, 1) := by decide +kernel
theorem dX10_copy_30 : decode cX10_copy 30 = .ok (.aload_n 0, 1) := by decide +kernel
theorem dX10_copy_31 : decode cX10_copy 31 = .ok (.getfield 11, 3) := by decide +kernel
theorem dX10_copy_34 : decode cX10_copy 34 = .ok (.iload_n 1, 1) := by decide +kernel
theorem dX10_copy_35 : decode cX10_copy 35 = .ok (.aaload, 1) := by decide +kernel
theorem dX10_copy_36 : decode cX10_copy 36 = .ok (.invokevirtual 108, 3) := by decide +kernel
theorem dX10_copy_39 : decode cX10_copy 39 = .ok (.ifCond .ne 15, 3) := by decide +kernel
theorem dX10_copy_42 : decode cX10_copy 42 = .ok (.aload_n 0, 1) := by decide +kernel
theorem dX10_copy_43 : decode cX10_copy 43 = .ok (.getfield 11, 3) := by decide +kernel
theorem dX10_copy_46 : decode cX10_copy 46 = .ok (.iload_n 3, 1) := by decide +kernel
theorem dX10_copy_47 : decode cX10_copy 47 = .ok (.aaload, 1) := by decide +kernel
theorem dX10_copy_48 : decode cX10_copy 48 = .ok (.invokevirtual 108, 3) := by decide +kernel
theorem dX10_copy_51 : decode cX10_copy 51 = .ok (.ifCond .eq 12, 3) := by decide +kernel
theorem dX10_copy_54 : decode cX10_copy 54 = .ok (.aload_n 0, 1) := by decide +kernel
theorem dX10_copy_55 : decode cX10_copy 55 = .ok (.getfield 84, 3) := by decide +kernel
theorem dX10_copy_58 : decode cX10_copy 58 = .ok (.iconst 1, 1) := by decide +kernel
theorem dX10_copy_59 : decode cX10_copy 59 = .ok (.invokevirtual 100, 3) := by decide +kernel
theorem dX10_copy_62 : decode cX10_copy 62 = .ok (.ireturn, 1) := by decide +kernel
theorem dX10_copy_63 : decode cX10_copy 63 = .ok (.aload_n 0, 1) := by decide +kernel
theorem dX10_copy_64 : decode cX10_copy 64 = .ok (.getfield 11, 3) := by decide +kernel
theorem dX10_copy_67 : decode cX10_copy 67 = .ok (.iload_n 1, 1) := by decide +kernel
theorem dX10_copy_68 : decode cX10_copy 68 = .ok (.aaload, 1) := by decide +kernel
theorem dX10_copy_69 : decode cX10_copy 69 = .ok (.iload_n 2, 1) := by decide +kernel
theorem dX10_copy_70 : decode cX10_copy 70 = .ok (.iload 5, 2) := by decide +kernel
theorem dX10_copy_72 : decode cX10_copy 72 = .ok (.invokevirtual 112, 3) := by decide +kernel
theorem dX10_copy_75 : decode cX10_copy 75 = .ok (.ifCond .eq 19, 3) := by decide +kernel
theorem dX10_copy_78 : decode cX10_copy 78 = .ok (.aload_n 0, 1) := by decide +kernel
theorem dX10_copy_79 : decode cX10_copy 79 = .ok (.getfield 11, 3) := by decide +kernel
theorem dX10_copy_82 : decode cX10_copy 82 = .ok (.iload_n 3, 1) := by decide +kernel
theorem dX10_copy_83 : decode cX10_copy 83 = .ok (.aaload, 1) := by decide +kernel
theorem dX10_copy_84 : decode cX10_copy 84 = .ok (.iload 4, 2) := by decide +kernel
theorem dX10_copy_86 : decode cX10_copy 86 = .ok (.iload 5, 2) := by decide +kernel
theorem dX10_copy_88 : decode cX10_copy 88 = .ok (.invokevirtual 112, 3) := by decide +kernel
theorem dX10_copy_91 : decode cX10_copy 91 = .ok (.ifCond .ne 12, 3) := by decide +kernel
theorem dX10_copy_94 : decode cX10_copy 94 = .ok (.aload_n 0, 1) := by decide +kernel
theorem dX10_copy_95 : decode cX10_copy 95 = .ok (.getfield 84, 3) := by decide +kernel
theorem dX10_copy_98 : decode cX10_copy 98 = .ok (.iconst 2, 1) := by decide +kernel
theorem dX10_copy_99 : decode cX10_copy 99 = .ok (.invokevirtual 100, 3) := by decide +kernel
theorem dX10_copy_102 : decode cX10_copy 102 = .ok (.ireturn, 1) := by decide +kernel
theorem dX10_copy_103 : decode cX10_copy 103 = .ok (.aload_n 0, 1) := by decide +kernel
theorem dX10_copy_104 : decode cX10_copy 104 = .ok (.getfield 11, 3) := by decide +kernel
theorem dX10_copy_107 : decode cX10_copy 107 = .ok (.iload_n 3, 1) := by decide +kernel
theorem dX10_copy_108 : decode cX10_copy 108 = .ok (.aaload, 1) := by decide +kernel
theorem dX10_copy_109 : decode cX10_copy 109 = .ok (.iload 4, 2) := by decide +kernel
theorem dX10_copy_111 : decode cX10_copy 111 = .ok (.aload_n 0, 1) := by decide +kernel
theorem dX10_copy_112 : decode cX10_copy 112 = .ok (.getfield 11, 3) := by decide +kernel
theorem dX10_copy_115 : decode cX10_copy 115 = .ok (.iload_n 1, 1) := by decide +kernel
theorem dX10_copy_116 : decode cX10_copy 116 = .ok (.aaload, 1) := by decide +kernel
theorem dX10_copy_117 : decode cX10_copy 117 = .ok (.iload_n 2, 1) := by decide +kernel
theorem dX10_copy_118 : decode cX10_copy 118 = .ok (.iload 5, 2) := by decide +kernel
theorem dX10_copy_120 : decode cX10_copy 120 = .ok (.invokevirtual 123, 3) := by decide +kernel
theorem dX10_copy_123 : decode cX10_copy 123 = .ok (.iconst 1, 1) := by decide +kernel
theorem dX10_copy_124 : decode cX10_copy 124 = .ok (.ireturn, 1) := by decide +kernel
set_option maxRecDepth 100000 in
set_option maxHeartbeats 4000000 in
theorem tb_X10_copy_0 {K : sd_K} {E : sd_Env}   {r : (Int32 × sd_Mem)} (C : sd_C K E sd_LC RX10 cX10_copy 6 (some .int))  : ∀ (M : sd_Mem) (x1 : Int32) (x2 : Int32) (x3 : Int32) (x4 : Int32) (x5 : Int32), fn_X10_copy_0 M x1 x2 x3 x4 x5 = some r → sd_Z K rm_X10_copy E sd_LC 6 (sd_QI K E sd_LC r.1 r.2) M 0 [(0, .ref (E.2.2 0)), (1, .int x1), (2, .int x2), (3, .int x3), (4, .int x4), (5, .int x5)] [] := by
  intro M x1 x2 x3 x4 x5 hF
  unfold fn_X10_copy_0 at hF
  refine sd_iload_n C 1 dX10_copy_0 rfl rfl rfl (n' := 1) ?_
  obtain ⟨q1, e1, hF⟩ := sd_bind hF
  refine sd_callSI [.int x1] [] C (ct_X10_isRow M x1  e1) sd_lX10_96 ⟨rfl, rfl, Nat.le_of_ble_eq_true rfl, Nat.le_of_ble_eq_true rfl⟩ rfl (Nat.le_of_ble_eq_true rfl) dX10_copy_1 rfl (n' := 4) ?_
  refine sd_if_eq C (n' := 7) (tgt := 14) dX10_copy_4 rfl rfl (fun c4 => ?_) (fun c4 => ?_)
  · replace hF := sd_pos hF c4
    refine sd_iconst C (v := -1) dX10_copy_14 rfl rfl (n' := 15) ?_
    exact sd_iret C dX10_copy_15 (sd_fst hF) (sd_snd hF)
  · replace hF := sd_neg hF c4
    refine sd_iload_n C 3 dX10_copy_7 rfl rfl rfl (n' := 8) ?_
    obtain ⟨q8, e8, hF⟩ := sd_bind hF
    refine sd_callSI [.int x3] [] C (ct_X10_isRow M x3  e8) sd_lX10_96 ⟨rfl, rfl, Nat.le_of_ble_eq_true rfl, Nat.le_of_ble_eq_true rfl⟩ rfl (Nat.le_of_ble_eq_true rfl) dX10_copy_8 rfl (n' := 11) ?_
    refine sd_if_ne C (n' := 14) (tgt := 16) dX10_copy_11 rfl rfl (fun c11 => ?_) (fun c11 => ?_)
    · replace hF := sd_neg hF c11
      refine sd_iload C 5 dX10_copy_16 rfl rfl (n' := 18) ?_
      refine sd_if_ge C (n' := 21) (tgt := 30) dX10_copy_18 rfl rfl (fun c18 => ?_) (fun c18 => ?_)
      · replace hF := sd_pos hF c18
        refine sd_aload_n C 0 dX10_copy_30 rfl rfl rfl (n' := 31) ?_
        refine sd_g10_0 C sd_i0 sd_k0 sd_w328 dX10_copy_31 rfl (n' := 34) ?_
        refine sd_iload_n C 1 dX10_copy_34 rfl rfl rfl (n' := 35) ?_
        obtain ⟨b35, hF⟩ := sd_ok hF
        refine sd_cald C sd_i1 sd_k1 sd_n1 b35 dX10_copy_35 rfl (n' := 36) ?_
        obtain ⟨q36, e36, hF⟩ := sd_bind hF
        refine sd_callVI [] [] C (ct_X1_isMissing M (1 + 1 + 2 * x1.toNatClampNeg) ((sd_r1 _ (sd_in_lt b35)).1) e36) sd_lX10_108 ⟨rfl, rfl, Nat.le_of_ble_eq_true rfl, Nat.le_of_ble_eq_true rfl⟩ (sd_mC (sd_r1 _ (sd_in_lt b35)).2) (sd_e2 ((sd_r1 _ (sd_in_lt b35)).1)) rfl rfl rfl (Nat.le_of_ble_eq_true rfl) dX10_copy_36 rfl (n' := 39) ?_
        refine sd_if_ne C (n' := 42) (tgt := 54) dX10_copy_39 rfl rfl (fun c39 => ?_) (fun c39 => ?_)
        · replace hF := sd_neg hF c39
          refine sd_aload_n C 0 dX10_copy_54 rfl rfl rfl (n' := 55) ?_
          refine sd_g10_12 C sd_i0 sd_k0 sd_w340 dX10_copy_55 rfl (n' := 58) ?_
          refine sd_iconst C (v := 1) dX10_copy_58 rfl rfl (n' := 59) ?_
          obtain ⟨q59, e59, hF⟩ := sd_bind hF
          refine sd_callVI [.int (1 : Int32)] [] C (ct_X2_tell M (1 : Int32)  e59) sd_lX10_100 ⟨rfl, rfl, Nat.le_of_ble_eq_true rfl, Nat.le_of_ble_eq_true rfl⟩ sd_i97 (sd_e3 sd_k97) rfl rfl rfl (Nat.le_of_ble_eq_true rfl) dX10_copy_59 rfl (n' := 62) ?_
          exact sd_iret C dX10_copy_62 (sd_fst hF) (sd_snd hF)
        · replace hF := sd_pos hF c39
          refine sd_aload_n C 0 dX10_copy_42 rfl rfl rfl (n' := 43) ?_
          refine sd_g10_0 C sd_i0 sd_k0 sd_w328 dX10_copy_43 rfl (n' := 46) ?_
          refine sd_iload_n C 3 dX10_copy_46 rfl rfl rfl (n' := 47) ?_
          obtain ⟨b47, hF⟩ := sd_ok hF
          refine sd_cald C sd_i1 sd_k1 sd_n1 b47 dX10_copy_47 rfl (n' := 48) ?_
          obtain ⟨q48, e48, hF⟩ := sd_bind hF
          refine sd_callVI [] [] C (ct_X1_isMissing M (1 + 1 + 2 * x3.toNatClampNeg) ((sd_r1 _ (sd_in_lt b47)).1) e48) sd_lX10_108 ⟨rfl, rfl, Nat.le_of_ble_eq_true rfl, Nat.le_of_ble_eq_true rfl⟩ (sd_mC (sd_r1 _ (sd_in_lt b47)).2) (sd_e2 ((sd_r1 _ (sd_in_lt b47)).1)) rfl rfl rfl (Nat.le_of_ble_eq_true rfl) dX10_copy_48 rfl (n' := 51) ?_
          refine sd_if_eq C (n' := 54) (tgt := 63) dX10_copy_51 rfl rfl (fun c51 => ?_) (fun c51 => ?_)
          · replace hF := sd_pos hF c51
            refine sd_aload_n C 0 dX10_copy_63 rfl rfl rfl (n' := 64) ?_
            refine sd_g10_0 C sd_i0 sd_k0 sd_w328 dX10_copy_64 rfl (n' := 67) ?_
            refine sd_iload_n C 1 dX10_copy_67 rfl rfl rfl (n' := 68) ?_
            obtain ⟨b68, hF⟩ := sd_ok hF
            refine sd_cald C sd_i1 sd_k1 sd_n1 b68 dX10_copy_68 rfl (n' := 69) ?_
            refine sd_iload_n C 2 dX10_copy_69 rfl rfl rfl (n' := 70) ?_
            refine sd_iload C 5 dX10_copy_70 rfl rfl (n' := 72) ?_
            obtain ⟨q72, e72, hF⟩ := sd_bind hF
            refine sd_callVI [.int x2, .int x5] [] C (ct_X1_holds M (1 + 1 + 2 * x1.toNatClampNeg) x2 x5 ((sd_r1 _ (sd_in_lt b68)).1) e72) sd_lX10_112 ⟨rfl, rfl, Nat.le_of_ble_eq_true rfl, Nat.le_of_ble_eq_true rfl⟩ (sd_mC (sd_r1 _ (sd_in_lt b68)).2) (sd_e2 ((sd_r1 _ (sd_in_lt b68)).1)) rfl rfl rfl (Nat.le_of_ble_eq_true rfl) dX10_copy_72 rfl (n' := 75) ?_
            refine sd_if_eq C (n' := 78) (tgt := 94) dX10_copy_75 rfl rfl (fun c75 => ?_) (fun c75 => ?_)
            · replace hF := sd_pos hF c75
              refine sd_aload_n C 0 dX10_copy_94 rfl rfl rfl (n' := 95) ?_
              refine sd_g10_12 C sd_i0 sd_k0 sd_w340 dX10_copy_95 rfl (n' := 98) ?_
              refine sd_iconst C (v := 2) dX10_copy_98 rfl rfl (n' := 99) ?_
              obtain ⟨q99, e99, hF⟩ := sd_bind hF
              refine sd_callVI [.int (2 : Int32)] [] C (ct_X2_tell M (2 : Int32)  e99) sd_lX10_100 ⟨rfl, rfl, Nat.le_of_ble_eq_true rfl, Nat.le_of_ble_eq_true rfl⟩ sd_i97 (sd_e3 sd_k97) rfl rfl rfl (Nat.le_of_ble_eq_true rfl) dX10_copy_99 rfl (n' := 102) ?_
              exact sd_iret C dX10_copy_102 (sd_fst hF) (sd_snd hF)
            · replace hF := sd_neg hF c75
              refine sd_aload_n C 0 dX10_copy_78 rfl rfl rfl (n' := 79) ?_
              refine sd_g10_0 C sd_i0 sd_k0 sd_w328 dX10_copy_79 rfl (n' := 82) ?_
              refine sd_iload_n C 3 dX10_copy_82 rfl rfl rfl (n' := 83) ?_
              obtain ⟨b83, hF⟩ := sd_ok hF
              refine sd_cald C sd_i1 sd_k1 sd_n1 b83 dX10_copy_83 rfl (n' := 84) ?_
              refine sd_iload C 4 dX10_copy_84 rfl rfl (n' := 86) ?_
              refine sd_iload C 5 dX10_copy_86 rfl rfl (n' := 88) ?_
              obtain ⟨q88, e88, hF⟩ := sd_bind hF
              refine sd_callVI [.int x4, .int x5] [] C (ct_X1_holds M (1 + 1 + 2 * x3.toNatClampNeg) x4 x5 ((sd_r1 _ (sd_in_lt b83)).1) e88) sd_lX10_112 ⟨rfl, rfl, Nat.le_of_ble_eq_true rfl, Nat.le_of_ble_eq_true rfl⟩ (sd_mC (sd_r1 _ (sd_in_lt b83)).2) (sd_e2 ((sd_r1 _ (sd_in_lt b83)).1)) rfl rfl rfl (Nat.le_of_ble_eq_true rfl) dX10_copy_88 rfl (n' := 91) ?_
              refine sd_if_ne C (n' := 94) (tgt := 103) dX10_copy_91 rfl rfl (fun c91 => ?_) (fun c91 => ?_)
              · replace hF := sd_neg hF c91
                refine sd_aload_n C 0 dX10_copy_103 rfl rfl rfl (n' := 104) ?_
                refine sd_g10_0 C sd_i0 sd_k0 sd_w328 dX10_copy_104 rfl (n' := 107) ?_
                refine sd_iload_n C 3 dX10_copy_107 rfl rfl rfl (n' := 108) ?_
                obtain ⟨b108, hF⟩ := sd_ok hF
                refine sd_cald C sd_i1 sd_k1 sd_n1 b108 dX10_copy_108 rfl (n' := 109) ?_
                refine sd_iload C 4 dX10_copy_109 rfl rfl (n' := 111) ?_
                refine sd_aload_n C 0 dX10_copy_111 rfl rfl rfl (n' := 112) ?_
                refine sd_g10_0 C sd_i0 sd_k0 sd_w328 dX10_copy_112 rfl (n' := 115) ?_
                refine sd_iload_n C 1 dX10_copy_115 rfl rfl rfl (n' := 116) ?_
                obtain ⟨b116, hF⟩ := sd_ok hF
                refine sd_cald C sd_i1 sd_k1 sd_n1 b116 dX10_copy_116 rfl (n' := 117) ?_
                refine sd_iload_n C 2 dX10_copy_117 rfl rfl rfl (n' := 118) ?_
                refine sd_iload C 5 dX10_copy_118 rfl rfl (n' := 120) ?_
                obtain ⟨q120, e120, hF⟩ := sd_bind hF
                refine sd_callVV [.int x4, .ref (E.2.2 (1 + 1 + 2 * x1.toNatClampNeg)), .int x2, .int x5] [] C (ct_X1_take M (1 + 1 + 2 * x3.toNatClampNeg) (1 + 1 + 2 * x1.toNatClampNeg) x4 x2 x5 ((sd_r1 _ (sd_in_lt b108)).1) ((sd_r1 _ (sd_in_lt b116)).1) e120) sd_lX10_123 ⟨rfl, rfl, Nat.le_of_ble_eq_true rfl, Nat.le_of_ble_eq_true rfl⟩ (sd_mC (sd_r1 _ (sd_in_lt b108)).2) (sd_e2 ((sd_r1 _ (sd_in_lt b108)).1)) rfl rfl rfl (Nat.le_of_ble_eq_true rfl) dX10_copy_120 rfl (n' := 123) ?_
                refine sd_iconst C (v := 1) dX10_copy_123 rfl rfl (n' := 124) ?_
                exact sd_iret C dX10_copy_124 (sd_fst hF) (sd_snd hF)
              · replace hF := sd_pos hF c91
                refine sd_aload_n C 0 dX10_copy_94 rfl rfl rfl (n' := 95) ?_
                refine sd_g10_12 C sd_i0 sd_k0 sd_w340 dX10_copy_95 rfl (n' := 98) ?_
                refine sd_iconst C (v := 2) dX10_copy_98 rfl rfl (n' := 99) ?_
                obtain ⟨q99, e99, hF⟩ := sd_bind hF
                refine sd_callVI [.int (2 : Int32)] [] C (ct_X2_tell M (2 : Int32)  e99) sd_lX10_100 ⟨rfl, rfl, Nat.le_of_ble_eq_true rfl, Nat.le_of_ble_eq_true rfl⟩ sd_i97 (sd_e3 sd_k97) rfl rfl rfl (Nat.le_of_ble_eq_true rfl) dX10_copy_99 rfl (n' := 102) ?_
                exact sd_iret C dX10_copy_102 (sd_fst hF) (sd_snd hF)
          · replace hF := sd_neg hF c51
            refine sd_aload_n C 0 dX10_copy_54 rfl rfl rfl (n' := 55) ?_
            refine sd_g10_12 C sd_i0 sd_k0 sd_w340 dX10_copy_55 rfl (n' := 58) ?_
            refine sd_iconst C (v := 1) dX10_copy_58 rfl rfl (n' := 59) ?_
            obtain ⟨q59, e59, hF⟩ := sd_bind hF
            refine sd_callVI [.int (1 : Int32)] [] C (ct_X2_tell M (1 : Int32)  e59) sd_lX10_100 ⟨rfl, rfl, Nat.le_of_ble_eq_true rfl, Nat.le_of_ble_eq_true rfl⟩ sd_i97 (sd_e3 sd_k97) rfl rfl rfl (Nat.le_of_ble_eq_true rfl) dX10_copy_59 rfl (n' := 62) ?_
            exact sd_iret C dX10_copy_62 (sd_fst hF) (sd_snd hF)
      · replace hF := sd_neg hF c18
        refine sd_aload_n C 0 dX10_copy_21 rfl rfl rfl (n' := 22) ?_
        refine sd_g10_12 C sd_i0 sd_k0 sd_w340 dX10_copy_22 rfl (n' := 25) ?_
        refine sd_iconst C (v := 5) dX10_copy_25 rfl rfl (n' := 26) ?_
        obtain ⟨q26, e26, hF⟩ := sd_bind hF
        refine sd_callVI [.int (5 : Int32)] [] C (ct_X2_tell M (5 : Int32)  e26) sd_lX10_100 ⟨rfl, rfl, Nat.le_of_ble_eq_true rfl, Nat.le_of_ble_eq_true rfl⟩ sd_i97 (sd_e3 sd_k97) rfl rfl rfl (Nat.le_of_ble_eq_true rfl) dX10_copy_26 rfl (n' := 29) ?_
        exact sd_iret C dX10_copy_29 (sd_fst hF) (sd_snd hF)
    · replace hF := sd_pos hF c11
      refine sd_iconst C (v := -1) dX10_copy_14 rfl rfl (n' := 15) ?_
      exact sd_iret C dX10_copy_15 (sd_fst hF) (sd_snd hF)
theorem ct_X10_copy {l : Launch} {E : sd_Env} (M : sd_Mem) (x1 : Int32) (x2 : Int32) (x3 : Int32) (x4 : Int32) (x5 : Int32)  {r : (Int32 × sd_Mem)} (hF : fn_X10_copy M x1 x2 x3 x4 x5 = some r) : sd_MI l E sd_LC yX10_copy cX10_copy 6 (some .int) rm_X10_copy [.ref (E.2.2 0), .int x1, .int x2, .int x3, .int x4, .int x5] M r.1 r.2 := sd_ent0 (by decide +kernel) (Nat.le_of_ble_eq_true rfl) (fun p e s m below meth c C => tb_X10_copy_0 C M x1 x2 x3 x4 x5 hF)
theorem dX1_size_0 : decode cX1_size 0 = .ok (.aload_n 0, 1) := by decide +kernel
theorem dX1_size_1 : decode cX1_size 1 = .ok (.getfield 9, 3) := by decide +kernel
theorem dX1_size_4 : decode cX1_size 4 = .ok (.ireturn, 1) := by decide +kernel
set_option maxRecDepth 100000 in
set_option maxHeartbeats 4000000 in
theorem tb_X1_size_0 {K : sd_K} {E : sd_Env} {M : sd_Mem} {h0 : Nat} {r : Int32} (C : sd_C K E sd_LC RX1 cX1_size 1 (some .int)) (k0 : sd_kd h0 = 2) : fn_X1_size_0 M h0 = some r → sd_Z K rm_X1_size E sd_LC 1 (sd_QI K E sd_LC r M) M 0 [(0, .ref (E.2.2 h0))] [] := by
  intro hF
  unfold fn_X1_size_0 at hF
  refine sd_aload_n C 0 dX1_size_0 rfl rfl rfl (n' := 1) ?_
  refine sd_g1_1 C (sd_mC (sd_m2 k0)) k0 sd_w310 dX1_size_1 rfl (n' := 4) ?_
  exact sd_iret C dX1_size_4 (Option.some.inj hF) rfl
theorem ct_X1_size {l : Launch} {E : sd_Env} (M : sd_Mem) (h0 : Nat) (k0 : sd_kd h0 = 2) {r : Int32} (hF : fn_X1_size M h0 = some r) : sd_MI l E sd_LC yX1_size cX1_size 1 (some .int) rm_X1_size [.ref (E.2.2 h0)] M r M := sd_ent0 (by decide +kernel) (Nat.le_of_ble_eq_true rfl) (fun p e s m below meth c C => tb_X1_size_0 C k0 hF)
theorem dX1_middle_0 : decode cX1_middle 0 = .ok (.lconst 0, 1) := by decide +kernel
theorem dX1_middle_1 : decode cX1_middle 1 = .ok (.lstore_n 1, 1) := by decide +kernel
theorem dX1_middle_2 : decode cX1_middle 2 = .ok (.iconst 0, 1) := by decide +kernel
theorem dX1_middle_3 : decode cX1_middle 3 = .ok (.istore_n 3, 1) := by decide +kernel
theorem dX1_middle_4 : decode cX1_middle 4 = .ok (.iload_n 3, 1) := by decide +kernel
theorem dX1_middle_5 : decode cX1_middle 5 = .ok (.aload_n 0, 1) := by decide +kernel
theorem dX1_middle_6 : decode cX1_middle 6 = .ok (.getfield 9, 3) := by decide +kernel
theorem dX1_middle_9 : decode cX1_middle 9 = .ok (.if_icmp .ge 19, 3) := by decide +kernel
theorem dX1_middle_12 : decode cX1_middle 12 = .ok (.lload_n 1, 1) := by decide +kernel
theorem dX1_middle_13 : decode cX1_middle 13 = .ok (.aload_n 0, 1) := by decide +kernel
theorem dX1_middle_14 : decode cX1_middle 14 = .ok (.getfield 21, 3) := by decide +kernel
theorem dX1_middle_17 : decode cX1_middle 17 = .ok (.iload_n 3, 1) := by decide +kernel
theorem dX1_middle_18 : decode cX1_middle 18 = .ok (.iaload, 1) := by decide +kernel
theorem dX1_middle_19 : decode cX1_middle 19 = .ok (.i2l, 1) := by decide +kernel
theorem dX1_middle_20 : decode cX1_middle 20 = .ok (.ladd, 1) := by decide +kernel
theorem dX1_middle_21 : decode cX1_middle 21 = .ok (.lstore_n 1, 1) := by decide +kernel
theorem dX1_middle_22 : decode cX1_middle 22 = .ok (.iinc 3 1, 3) := by decide +kernel
theorem dX1_middle_25 : decode cX1_middle 25 = .ok (.goto (-21), 3) := by decide +kernel
theorem dX1_middle_28 : decode cX1_middle 28 = .ok (.aload_n 0, 1) := by decide +kernel
theorem dX1_middle_29 : decode cX1_middle 29 = .ok (.getfield 9, 3) := by decide +kernel
theorem dX1_middle_32 : decode cX1_middle 32 = .ok (.ifCond .le 14, 3) := by decide +kernel
theorem dX1_middle_35 : decode cX1_middle 35 = .ok (.lload_n 1, 1) := by decide +kernel
theorem dX1_middle_36 : decode cX1_middle 36 = .ok (.aload_n 0, 1) := by decide +kernel
theorem dX1_middle_37 : decode cX1_middle 37 = .ok (.getfield 9, 3) := by decide +kernel
theorem dX1_middle_40 : decode cX1_middle 40 = .ok (.i2l, 1) := by decide +kernel
theorem dX1_middle_41 : decode cX1_middle 41 = .ok (.ldiv, 1) := by decide +kernel
theorem dX1_middle_42 : decode cX1_middle 42 = .ok (.l2i, 1) := by decide +kernel
theorem dX1_middle_43 : decode cX1_middle 43 = .ok (.goto 4, 3) := by decide +kernel
theorem dX1_middle_46 : decode cX1_middle 46 = .ok (.iconst 0, 1) := by decide +kernel
theorem dX1_middle_47 : decode cX1_middle 47 = .ok (.ireturn, 1) := by decide +kernel
set_option maxRecDepth 100000 in
set_option maxHeartbeats 4000000 in
theorem tb_X1_middle_28 {K : sd_K} {E : sd_Env} {M : sd_Mem} {h0 : Nat} {r : Int32} (C : sd_C K E sd_LC RX1 cX1_middle 4 (some .int)) (k0 : sd_kd h0 = 2) : ∀ (l1 : Int64), fn_X1_middle_28 M h0 l1 = some r → sd_Z K rm_X1_middle E sd_LC 4 (sd_QI K E sd_LC r M) M 28 [(0, .ref (E.2.2 h0)), (1, .long l1)] [] := by
  intro l1 hF
  unfold fn_X1_middle_28 at hF
  refine sd_aload_n C 0 dX1_middle_28 rfl rfl rfl (n' := 29) ?_
  refine sd_g1_1 C (sd_mC (sd_m2 k0)) k0 sd_w310 dX1_middle_29 rfl (n' := 32) ?_
  refine sd_if_le C (n' := 35) (tgt := 46) dX1_middle_32 rfl rfl (fun c32 => ?_) (fun c32 => ?_)
  · replace hF := sd_pos hF c32
    refine sd_iconst C (v := 0) dX1_middle_46 rfl rfl (n' := 47) ?_
    exact sd_iret C dX1_middle_47 (Option.some.inj hF) rfl
  · replace hF := sd_neg hF c32
    refine sd_lload_n C 1 dX1_middle_35 rfl rfl rfl (n' := 36) ?_
    refine sd_aload_n C 0 dX1_middle_36 rfl rfl rfl (n' := 37) ?_
    refine sd_g1_1 C (sd_mC (sd_m2 k0)) k0 sd_w310 dX1_middle_37 rfl (n' := 40) ?_
    refine sd_i2l C dX1_middle_40 rfl (n' := 41) ?_
    obtain ⟨b41, hF⟩ := sd_ok hF
    refine sd_ldiv C dX1_middle_41 b41 rfl (n' := 42) ?_
    refine sd_l2i C dX1_middle_42 rfl (n' := 43) ?_
    refine sd_goto C (tgt := 47) dX1_middle_43 rfl ?_
    exact sd_iret C dX1_middle_47 (Option.some.inj hF) rfl
set_option maxRecDepth 100000 in
set_option maxHeartbeats 4000000 in
theorem tb_X1_middle_4 {K : sd_K} {E : sd_Env} {M : sd_Mem} {h0 : Nat} {r : Int32} (C : sd_C K E sd_LC RX1 cX1_middle 4 (some .int)) (k0 : sd_kd h0 = 2) : ∀ (n : Nat), ∀ (l1 : Int64) (x3 : Int32), fn_X1_middle_4 M h0 n l1 x3 = some r → sd_Z K rm_X1_middle E sd_LC 4 (sd_QI K E sd_LC r M) M 4 [(0, .ref (E.2.2 h0)), (1, .long l1), (3, .int x3)] [] := by
  intro n
  induction n with
  | zero => intro l1 x3 hF; cases hF
  | succ n ih =>
    intro l1 x3 hF
    unfold fn_X1_middle_4 at hF
    refine sd_iload_n C 2 dX1_middle_4 rfl rfl rfl (n' := 5) ?_
    refine sd_aload_n C 0 dX1_middle_5 rfl rfl rfl (n' := 6) ?_
    refine sd_g1_1 C (sd_mC (sd_m2 k0)) k0 sd_w310 dX1_middle_6 rfl (n' := 9) ?_
    refine sd_icmp_ge C (n' := 12) (tgt := 28) dX1_middle_9 rfl rfl (fun c9 => ?_) (fun c9 => ?_)
    · replace hF := sd_pos hF c9
      refine sd_sub [0, 1] rfl ?_
      exact tb_X1_middle_28 C k0 l1 hF
    · replace hF := sd_neg hF c9
      refine sd_lload_n C 1 dX1_middle_12 rfl rfl rfl (n' := 13) ?_
      refine sd_aload_n C 0 dX1_middle_13 rfl rfl rfl (n' := 14) ?_
      refine sd_g1_0 C (sd_mC (sd_m2 k0)) k0 sd_w309 dX1_middle_14 rfl (n' := 17) ?_
      refine sd_iload_n C 2 dX1_middle_17 rfl rfl rfl (n' := 18) ?_
      obtain ⟨b18, hF⟩ := sd_ok hF
      refine sd_iald C (sd_mC (sd_c2 k0).2.2) ((sd_c2 k0).1) rfl b18 dX1_middle_18 rfl (n' := 19) ?_
      refine sd_i2l C dX1_middle_19 rfl (n' := 20) ?_
      refine sd_ladd C dX1_middle_20 rfl (n' := 21) ?_
      refine sd_lstore_n [(1, .long (l1 + ((M.1 (h0 + 1) x3.toNatClampNeg).toInt64))), (0, .ref (E.2.2 h0)), (3, .int x3)] C dX1_middle_21 rfl (by decide) rfl rfl (n' := 22) ?_
      refine sd_iinc [(3, .int (x3 + (1 : Int32))), (1, .long (l1 + ((M.1 (h0 + 1) x3.toNatClampNeg).toInt64))), (0, .ref (E.2.2 h0))] 2 C dX1_middle_22 rfl rfl (by decide) rfl rfl (n' := 25) ?_
      refine sd_goto C (tgt := 4) dX1_middle_25 rfl ?_
      refine sd_sub [2, 1, 0] rfl ?_
      exact ih (l1 + ((M.1 (h0 + 1) x3.toNatClampNeg).toInt64)) (x3 + (1 : Int32)) hF
set_option maxRecDepth 100000 in
set_option maxHeartbeats 4000000 in
theorem tb_X1_middle_0 {K : sd_K} {E : sd_Env} {M : sd_Mem} {h0 : Nat} {r : Int32} (C : sd_C K E sd_LC RX1 cX1_middle 4 (some .int)) (k0 : sd_kd h0 = 2) : fn_X1_middle_0 M h0 = some r → sd_Z K rm_X1_middle E sd_LC 4 (sd_QI K E sd_LC r M) M 0 [(0, .ref (E.2.2 h0))] [] := by
  intro hF
  unfold fn_X1_middle_0 at hF
  refine sd_lconst C (v := 0) dX1_middle_0 rfl rfl (n' := 1) ?_
  refine sd_lstore_n [(1, .long (0 : Int64)), (0, .ref (E.2.2 h0))] C dX1_middle_1 rfl (by decide) rfl rfl (n' := 2) ?_
  refine sd_iconst C (v := 0) dX1_middle_2 rfl rfl (n' := 3) ?_
  refine sd_istore_n [(3, .int (0 : Int32)), (1, .long (0 : Int64)), (0, .ref (E.2.2 h0))] C dX1_middle_3 rfl (by decide) rfl rfl (n' := 4) ?_
  refine sd_sub [2, 1, 0] rfl ?_
  exact tb_X1_middle_4 C k0 sd_FU (0 : Int64) (0 : Int32) hF
theorem ct_X1_middle {l : Launch} {E : sd_Env} (M : sd_Mem) (h0 : Nat) (k0 : sd_kd h0 = 2) {r : Int32} (hF : fn_X1_middle M h0 = some r) : sd_MI l E sd_LC yX1_middle cX1_middle 4 (some .int) rm_X1_middle [.ref (E.2.2 h0)] M r M := sd_ent0 (by decide +kernel) (Nat.le_of_ble_eq_true rfl) (fun p e s m below meth c C => tb_X1_middle_0 C k0 hF)
theorem dX10_mean_0 : decode cX10_mean 0 = .ok (.iload_n 1, 1) := by decide +kernel
theorem dX10_mean_1 : decode cX10_mean 1 = .ok (.invokestatic 96, 3) := by decide +kernel
theorem dX10_mean_4 : decode cX10_mean 4 = .ok (.ifCond .ne 5, 3) := by decide +kernel
theorem dX10_mean_7 : decode cX10_mean 7 = .ok (.iconst (-1), 1) := by decide +kernel
theorem dX10_mean_8 : decode cX10_mean 8 = .ok (.ireturn, 1) := by decide +kernel
theorem dX10_mean_9 : decode cX10_mean 9 = .ok (.aload_n 0, 1) := by decide +kernel
theorem dX10_mean_10 : decode cX10_mean 10 = .ok (.getfield 11, 3) := by decide +kernel
theorem dX10_mean_13 : decode cX10_mean 13 = .ok (.iload_n 1, 1) := by decide +kernel
theorem dX10_mean_14 : decode cX10_mean 14 = .ok (.aaload, 1) := by decide +kernel
theorem dX10_mean_15 : decode cX10_mean 15 = .ok (.invokevirtual 108, 3) := by decide +kernel
theorem dX10_mean_18 : decode cX10_mean 18 = .ok (.ifCond .eq 12, 3) := by decide +kernel
theorem dX10_mean_21 : decode cX10_mean 21 = .ok (.aload_n 0, 1) := by decide +kernel
theorem dX10_mean_22 : decode cX10_mean 22 = .ok (.getfield 84, 3) := by decide +kernel
theorem dX10_mean_25 : decode cX10_mean 25 = .ok (.iconst 1, 1) := by decide +kernel
theorem dX10_mean_26 : decode cX10_mean 26 = .ok (.invokevirtual 100, 3) := by decide +kernel
theorem dX10_mean_29 : decode cX10_mean 29 = .ok (.ireturn, 1) := by decide +kernel
theorem dX10_mean_30 : decode cX10_mean 30 = .ok (.aload_n 0, 1) := by decide +kernel
theorem dX10_mean_31 : decode cX10_mean 31 = .ok (.getfield 11, 3) := by decide +kernel
theorem dX10_mean_34 : decode cX10_mean 34 = .ok (.iload_n 1, 1) := by decide +kernel
theorem dX10_mean_35 : decode cX10_mean 35 = .ok (.aaload, 1) := by decide +kernel
theorem dX10_mean_36 : decode cX10_mean 36 = .ok (.invokevirtual 127, 3) := by decide +kernel
theorem dX10_mean_39 : decode cX10_mean 39 = .ok (.ifCond .ne 12, 3) := by decide +kernel
theorem dX10_mean_42 : decode cX10_mean 42 = .ok (.aload_n 0, 1) := by decide +kernel
theorem dX10_mean_43 : decode cX10_mean 43 = .ok (.getfield 84, 3) := by decide +kernel
theorem dX10_mean_46 : decode cX10_mean 46 = .ok (.iconst 4, 1) := by decide +kernel
theorem dX10_mean_47 : decode cX10_mean 47 = .ok (.invokevirtual 100, 3) := by decide +kernel
theorem dX10_mean_50 : decode cX10_mean 50 = .ok (.ireturn, 1) := by decide +kernel
theorem dX10_mean_51 : decode cX10_mean 51 = .ok (.aload_n 0, 1) := by decide +kernel
theorem dX10_mean_52 : decode cX10_mean 52 = .ok (.aload_n 0, 1) := by decide +kernel
theorem dX10_mean_53 : decode cX10_mean 53 = .ok (.getfield 11, 3) := by decide +kernel
theorem dX10_mean_56 : decode cX10_mean 56 = .ok (.iload_n 1, 1) := by decide +kernel
theorem dX10_mean_57 : decode cX10_mean 57 = .ok (.aaload, 1) := by decide +kernel
theorem dX10_mean_58 : decode cX10_mean 58 = .ok (.invokevirtual 131, 3) := by decide +kernel
theorem dX10_mean_61 : decode cX10_mean 61 = .ok (.putfield 88, 3) := by decide +kernel
theorem dX10_mean_64 : decode cX10_mean 64 = .ok (.iconst 1, 1) := by decide +kernel
theorem dX10_mean_65 : decode cX10_mean 65 = .ok (.ireturn, 1) := by decide +kernel
set_option maxRecDepth 100000 in
set_option maxHeartbeats 4000000 in
theorem tb_X10_mean_0 {K : sd_K} {E : sd_Env}   {r : (Int32 × sd_Mem)} (C : sd_C K E sd_LC RX10 cX10_mean 2 (some .int))  : ∀ (M : sd_Mem) (x1 : Int32), fn_X10_mean_0 M x1 = some r → sd_Z K rm_X10_mean E sd_LC 2 (sd_QI K E sd_LC r.1 r.2) M 0 [(0, .ref (E.2.2 0)), (1, .int x1)] [] := by
  intro M x1 hF
  unfold fn_X10_mean_0 at hF
  refine sd_iload_n C 1 dX10_mean_0 rfl rfl rfl (n' := 1) ?_
  obtain ⟨q1, e1, hF⟩ := sd_bind hF
  refine sd_callSI [.int x1] [] C (ct_X10_isRow M x1  e1) sd_lX10_96 ⟨rfl, rfl, Nat.le_of_ble_eq_true rfl, Nat.le_of_ble_eq_true rfl⟩ rfl (Nat.le_of_ble_eq_true rfl) dX10_mean_1 rfl (n' := 4) ?_
  refine sd_if_ne C (n' := 7) (tgt := 9) dX10_mean_4 rfl rfl (fun c4 => ?_) (fun c4 => ?_)
  · replace hF := sd_neg hF c4
    refine sd_aload_n C 0 dX10_mean_9 rfl rfl rfl (n' := 10) ?_
    refine sd_g10_0 C sd_i0 sd_k0 sd_w328 dX10_mean_10 rfl (n' := 13) ?_
    refine sd_iload_n C 1 dX10_mean_13 rfl rfl rfl (n' := 14) ?_
    obtain ⟨b14, hF⟩ := sd_ok hF
    refine sd_cald C sd_i1 sd_k1 sd_n1 b14 dX10_mean_14 rfl (n' := 15) ?_
    obtain ⟨q15, e15, hF⟩ := sd_bind hF
    refine sd_callVI [] [] C (ct_X1_isMissing M (1 + 1 + 2 * x1.toNatClampNeg) ((sd_r1 _ (sd_in_lt b14)).1) e15) sd_lX10_108 ⟨rfl, rfl, Nat.le_of_ble_eq_true rfl, Nat.le_of_ble_eq_true rfl⟩ (sd_mC (sd_r1 _ (sd_in_lt b14)).2) (sd_e2 ((sd_r1 _ (sd_in_lt b14)).1)) rfl rfl rfl (Nat.le_of_ble_eq_true rfl) dX10_mean_15 rfl (n' := 18) ?_
    refine sd_if_eq C (n' := 21) (tgt := 30) dX10_mean_18 rfl rfl (fun c18 => ?_) (fun c18 => ?_)
    · replace hF := sd_pos hF c18
      refine sd_aload_n C 0 dX10_mean_30 rfl rfl rfl (n' := 31) ?_
      refine sd_g10_0 C sd_i0 sd_k0 sd_w328 dX10_mean_31 rfl (n' := 34) ?_
      refine sd_iload_n C 1 dX10_mean_34 rfl rfl rfl (n' := 35) ?_
      obtain ⟨b35, hF⟩ := sd_ok hF
      refine sd_cald C sd_i1 sd_k1 sd_n1 b35 dX10_mean_35 rfl (n' := 36) ?_
      obtain ⟨q36, e36, hF⟩ := sd_bind hF
      refine sd_callVI [] [] C (ct_X1_size M (1 + 1 + 2 * x1.toNatClampNeg) ((sd_r1 _ (sd_in_lt b35)).1) e36) sd_lX10_127 ⟨rfl, rfl, Nat.le_of_ble_eq_true rfl, Nat.le_of_ble_eq_true rfl⟩ (sd_mC (sd_r1 _ (sd_in_lt b35)).2) (sd_e2 ((sd_r1 _ (sd_in_lt b35)).1)) rfl rfl rfl (Nat.le_of_ble_eq_true rfl) dX10_mean_36 rfl (n' := 39) ?_
      refine sd_if_ne C (n' := 42) (tgt := 51) dX10_mean_39 rfl rfl (fun c39 => ?_) (fun c39 => ?_)
      · replace hF := sd_neg hF c39
        refine sd_aload_n C 0 dX10_mean_51 rfl rfl rfl (n' := 52) ?_
        refine sd_aload_n C 0 dX10_mean_52 rfl rfl rfl (n' := 53) ?_
        refine sd_g10_0 C sd_i0 sd_k0 sd_w328 dX10_mean_53 rfl (n' := 56) ?_
        refine sd_iload_n C 1 dX10_mean_56 rfl rfl rfl (n' := 57) ?_
        obtain ⟨b57, hF⟩ := sd_ok hF
        refine sd_cald C sd_i1 sd_k1 sd_n1 b57 dX10_mean_57 rfl (n' := 58) ?_
        obtain ⟨q58, e58, hF⟩ := sd_bind hF
        refine sd_callVI [] [.ref (E.2.2 0)] C (ct_X1_middle M (1 + 1 + 2 * x1.toNatClampNeg) ((sd_r1 _ (sd_in_lt b57)).1) e58) sd_lX10_131 ⟨rfl, rfl, Nat.le_of_ble_eq_true rfl, Nat.le_of_ble_eq_true rfl⟩ (sd_mC (sd_r1 _ (sd_in_lt b57)).2) (sd_e2 ((sd_r1 _ (sd_in_lt b57)).1)) rfl rfl rfl (Nat.le_of_ble_eq_true rfl) dX10_mean_58 rfl (n' := 61) ?_
        refine sd_p10_13 C sd_i0 sd_k0 sd_w341 dX10_mean_61 rfl (n' := 64) ?_
        refine sd_iconst C (v := 1) dX10_mean_64 rfl rfl (n' := 65) ?_
        exact sd_iret C dX10_mean_65 (sd_fst hF) (sd_snd hF)
      · replace hF := sd_pos hF c39
        refine sd_aload_n C 0 dX10_mean_42 rfl rfl rfl (n' := 43) ?_
        refine sd_g10_12 C sd_i0 sd_k0 sd_w340 dX10_mean_43 rfl (n' := 46) ?_
        refine sd_iconst C (v := 4) dX10_mean_46 rfl rfl (n' := 47) ?_
        obtain ⟨q47, e47, hF⟩ := sd_bind hF
        refine sd_callVI [.int (4 : Int32)] [] C (ct_X2_tell M (4 : Int32)  e47) sd_lX10_100 ⟨rfl, rfl, Nat.le_of_ble_eq_true rfl, Nat.le_of_ble_eq_true rfl⟩ sd_i97 (sd_e3 sd_k97) rfl rfl rfl (Nat.le_of_ble_eq_true rfl) dX10_mean_47 rfl (n' := 50) ?_
        exact sd_iret C dX10_mean_50 (sd_fst hF) (sd_snd hF)
    · replace hF := sd_neg hF c18
      refine sd_aload_n C 0 dX10_mean_21 rfl rfl rfl (n' := 22) ?_
      refine sd_g10_12 C sd_i0 sd_k0 sd_w340 dX10_mean_22 rfl (n' := 25) ?_
      refine sd_iconst C (v := 1) dX10_mean_25 rfl rfl (n' := 26) ?_
      obtain ⟨q26, e26, hF⟩ := sd_bind hF
      refine sd_callVI [.int (1 : Int32)] [] C (ct_X2_tell M (1 : Int32)  e26) sd_lX10_100 ⟨rfl, rfl, Nat.le_of_ble_eq_true rfl, Nat.le_of_ble_eq_true rfl⟩ sd_i97 (sd_e3 sd_k97) rfl rfl rfl (Nat.le_of_ble_eq_true rfl) dX10_mean_26 rfl (n' := 29) ?_
      exact sd_iret C dX10_mean_29 (sd_fst hF) (sd_snd hF)
  · replace hF := sd_pos hF c4
    refine sd_iconst C (v := -1) dX10_mean_7 rfl rfl (n' := 8) ?_
    exact sd_iret C dX10_mean_8 (sd_fst hF) (sd_snd hF)
theorem ct_X10_mean {l : Launch} {E : sd_Env} (M : sd_Mem) (x1 : Int32)  {r : (Int32 × sd_Mem)} (hF : fn_X10_mean M x1 = some r) : sd_MI l E sd_LC yX10_mean cX10_mean 2 (some .int) rm_X10_mean [.ref (E.2.2 0), .int x1] M r.1 r.2 := sd_ent0 (by decide +kernel) (Nat.le_of_ble_eq_true rfl) (fun p e s m below meth c C => tb_X10_mean_0 C M x1 hF)
theorem dX10_isText_0 : decode cX10_isText 0 = .ok (.iload_n 0, 1) := by decide +kernel
theorem dX10_isText_1 : decode cX10_isText 1 = .ok (.iconst 0, 1) := by decide +kernel
theorem dX10_isText_2 : decode cX10_isText 2 = .ok (.iconst 3, 1) := by decide +kernel
theorem dX10_isText_3 : decode cX10_isText 3 = .ok (.invokestatic 152, 3) := by decide +kernel
theorem dX10_isText_6 : decode cX10_isText 6 = .ok (.ireturn, 1) := by decide +kernel
set_option maxRecDepth 100000 in
set_option maxHeartbeats 4000000 in
theorem tb_X10_isText_0 {K : sd_K} {E : sd_Env} {M : sd_Mem}  {r : Int32} (C : sd_C K E sd_LC RX10 cX10_isText 1 (some .boolean))  : ∀ (x0 : Int32), fn_X10_isText_0 x0 = some r → sd_Z K rm_X10_isText E sd_LC 1 (sd_QI K E sd_LC r M) M 0 [(0, .int x0)] [] := by
  intro x0 hF
  unfold fn_X10_isText_0 at hF
  refine sd_iload_n C 0 dX10_isText_0 rfl rfl rfl (n' := 1) ?_
  refine sd_iconst C (v := 0) dX10_isText_1 rfl rfl (n' := 2) ?_
  refine sd_iconst C (v := 3) dX10_isText_2 rfl rfl (n' := 3) ?_
  obtain ⟨q3, e3, hF⟩ := sd_bind hF
  refine sd_callSI [.int x0, .int (0 : Int32), .int (3 : Int32)] [] C (ct_X10_within M x0 (0 : Int32) (3 : Int32)  e3) sd_lX10_152 ⟨rfl, rfl, Nat.le_of_ble_eq_true rfl, Nat.le_of_ble_eq_true rfl⟩ rfl (Nat.le_of_ble_eq_true rfl) dX10_isText_3 rfl (n' := 6) ?_
  obtain ⟨b6, hF⟩ := sd_ok hF
  exact sd_zret C dX10_isText_6 (Decidable.of_not_not b6) (Option.some.inj hF) rfl
theorem ct_X10_isText {l : Launch} {E : sd_Env} (M : sd_Mem) (x0 : Int32)  {r : Int32} (hF : fn_X10_isText x0 = some r) : sd_MI l E sd_LC yX10_isText cX10_isText 1 (some .boolean) rm_X10_isText [.int x0] M r M := sd_ent0 (by decide +kernel) (Nat.le_of_ble_eq_true rfl) (fun p e s m below meth c C => tb_X10_isText_0 C x0 hF)
theorem dX10_text_0 : decode cX10_text 0 = .ok (.iload_n 1, 1) := by decide +kernel
theorem dX10_text_1 : decode cX10_text 1 = .ok (.invokestatic 134, 3) := by decide +kernel
theorem dX10_text_4 : decode cX10_text 4 = .ok (.ifCond .eq 9, 3) := by decide +kernel
theorem dX10_text_7 : decode cX10_text 7 = .ok (.iload_n 2, 1) := by decide +kernel
theorem dX10_text_8 : decode cX10_text 8 = .ok (.bipush 60, 2) := by decide +kernel
theorem dX10_text_10 : decode cX10_text 10 = .ok (.if_icmp .le 5, 3) := by decide +kernel
theorem dX10_text_13 : decode cX10_text 13 = .ok (.iconst (-1), 1) := by decide +kernel
theorem dX10_text_14 : decode cX10_text 14 = .ok (.ireturn, 1) := by decide +kernel
theorem dX10_text_15 : decode cX10_text 15 = .ok (.iload_n 2, 1) := by decide +kernel
theorem dX10_text_16 : decode cX10_text 16 = .ok (.ifCond .ge 12, 3) := by decide +kernel
theorem dX10_text_19 : decode cX10_text 19 = .ok (.aload_n 0, 1) := by decide +kernel
theorem dX10_text_20 : decode cX10_text 20 = .ok (.getfield 84, 3) := by decide +kernel
theorem dX10_text_23 : decode cX10_text 23 = .ok (.iconst 5, 1) := by decide +kernel
theorem dX10_text_24 : decode cX10_text 24 = .ok (.invokevirtual 100, 3) := by decide +kernel
theorem dX10_text_27 : decode cX10_text 27 = .ok (.ireturn, 1) := by decide +kernel
theorem dX10_text_28 : decode cX10_text 28 = .ok (.aload_n 0, 1) := by decide +kernel
theorem dX10_text_29 : decode cX10_text 29 = .ok (.getfield 15, 3) := by decide +kernel
theorem dX10_text_32 : decode cX10_text 32 = .ok (.iload_n 1, 1) := by decide +kernel
theorem dX10_text_33 : decode cX10_text 33 = .ok (.aaload, 1) := by decide +kernel
theorem dX10_text_34 : decode cX10_text 34 = .ok (.iload_n 2, 1) := by decide +kernel
theorem dX10_text_35 : decode cX10_text 35 = .ok (.bipush 32, 2) := by decide +kernel
theorem dX10_text_37 : decode cX10_text 37 = .ok (.invokevirtual 104, 3) := by decide +kernel
theorem dX10_text_40 : decode cX10_text 40 = .ok (.iload_n 2, 1) := by decide +kernel
theorem dX10_text_41 : decode cX10_text 41 = .ok (.ireturn, 1) := by decide +kernel
set_option maxRecDepth 100000 in
set_option maxHeartbeats 4000000 in
theorem tb_X10_text_0 {K : sd_K} {E : sd_Env}   {r : (Int32 × sd_Mem)} (C : sd_C K E sd_LC RX10 cX10_text 3 (some .int))  : ∀ (M : sd_Mem) (x1 : Int32) (x2 : Int32), fn_X10_text_0 M x1 x2 = some r → sd_Z K rm_X10_text E sd_LC 3 (sd_QI K E sd_LC r.1 r.2) M 0 [(0, .ref (E.2.2 0)), (1, .int x1), (2, .int x2)] [] := by
  intro M x1 x2 hF
  unfold fn_X10_text_0 at hF
  refine sd_iload_n C 1 dX10_text_0 rfl rfl rfl (n' := 1) ?_
  obtain ⟨q1, e1, hF⟩ := sd_bind hF
  refine sd_callSI [.int x1] [] C (ct_X10_isText M x1  e1) sd_lX10_134 ⟨rfl, rfl, Nat.le_of_ble_eq_true rfl, Nat.le_of_ble_eq_true rfl⟩ rfl (Nat.le_of_ble_eq_true rfl) dX10_text_1 rfl (n' := 4) ?_
  refine sd_if_eq C (n' := 7) (tgt := 13) dX10_text_4 rfl rfl (fun c4 => ?_) (fun c4 => ?_)
  · replace hF := sd_pos hF c4
    refine sd_iconst C (v := -1) dX10_text_13 rfl rfl (n' := 14) ?_
    exact sd_iret C dX10_text_14 (sd_fst hF) (sd_snd hF)
  · replace hF := sd_neg hF c4
    refine sd_iload_n C 2 dX10_text_7 rfl rfl rfl (n' := 8) ?_
    refine sd_bipush C (v := 60) dX10_text_8 rfl rfl (n' := 10) ?_
    refine sd_icmp_le C (n' := 13) (tgt := 15) dX10_text_10 rfl rfl (fun c10 => ?_) (fun c10 => ?_)
    · replace hF := sd_pos hF c10
      refine sd_iload_n C 2 dX10_text_15 rfl rfl rfl (n' := 16) ?_
      refine sd_if_ge C (n' := 19) (tgt := 28) dX10_text_16 rfl rfl (fun c16 => ?_) (fun c16 => ?_)
      · replace hF := sd_pos hF c16
        refine sd_aload_n C 0 dX10_text_28 rfl rfl rfl (n' := 29) ?_
        refine sd_g10_1 C sd_i0 sd_k0 sd_w329 dX10_text_29 rfl (n' := 32) ?_
        refine sd_iload_n C 1 dX10_text_32 rfl rfl rfl (n' := 33) ?_
        obtain ⟨b33, hF⟩ := sd_ok hF
        refine sd_cald C sd_i14 sd_k14 sd_n14 b33 dX10_text_33 rfl (n' := 34) ?_
        refine sd_iload_n C 2 dX10_text_34 rfl rfl rfl (n' := 35) ?_
        refine sd_bipush C (v := 32) dX10_text_35 rfl rfl (n' := 37) ?_
        obtain ⟨q37, e37, hF⟩ := sd_bind hF
        refine sd_callVV [.int x2, .int (32 : Int32)] [] C (ct_X1_make M (14 + 1 + 2 * x1.toNatClampNeg) x2 (32 : Int32) ((sd_r14 _ (sd_in_lt b33)).1) e37) sd_lX10_104 ⟨rfl, rfl, Nat.le_of_ble_eq_true rfl, Nat.le_of_ble_eq_true rfl⟩ (sd_mC (sd_r14 _ (sd_in_lt b33)).2) (sd_e2 ((sd_r14 _ (sd_in_lt b33)).1)) rfl rfl rfl (Nat.le_of_ble_eq_true rfl) dX10_text_37 rfl (n' := 40) ?_
        refine sd_iload_n C 2 dX10_text_40 rfl rfl rfl (n' := 41) ?_
        exact sd_iret C dX10_text_41 (sd_fst hF) (sd_snd hF)
      · replace hF := sd_neg hF c16
        refine sd_aload_n C 0 dX10_text_19 rfl rfl rfl (n' := 20) ?_
        refine sd_g10_12 C sd_i0 sd_k0 sd_w340 dX10_text_20 rfl (n' := 23) ?_
        refine sd_iconst C (v := 5) dX10_text_23 rfl rfl (n' := 24) ?_
        obtain ⟨q24, e24, hF⟩ := sd_bind hF
        refine sd_callVI [.int (5 : Int32)] [] C (ct_X2_tell M (5 : Int32)  e24) sd_lX10_100 ⟨rfl, rfl, Nat.le_of_ble_eq_true rfl, Nat.le_of_ble_eq_true rfl⟩ sd_i97 (sd_e3 sd_k97) rfl rfl rfl (Nat.le_of_ble_eq_true rfl) dX10_text_24 rfl (n' := 27) ?_
        exact sd_iret C dX10_text_27 (sd_fst hF) (sd_snd hF)
    · replace hF := sd_neg hF c10
      refine sd_iconst C (v := -1) dX10_text_13 rfl rfl (n' := 14) ?_
      exact sd_iret C dX10_text_14 (sd_fst hF) (sd_snd hF)
theorem ct_X10_text {l : Launch} {E : sd_Env} (M : sd_Mem) (x1 : Int32) (x2 : Int32)  {r : (Int32 × sd_Mem)} (hF : fn_X10_text M x1 x2 = some r) : sd_MI l E sd_LC yX10_text cX10_text 3 (some .int) rm_X10_text [.ref (E.2.2 0), .int x1, .int x2] M r.1 r.2 := sd_ent0 (by decide +kernel) (Nat.le_of_ble_eq_true rfl) (fun p e s m below meth c C => tb_X10_text_0 C M x1 x2 hF)
theorem dX10_put_0 : decode cX10_put 0 = .ok (.iload_n 1, 1) := by decide +kernel
theorem dX10_put_1 : decode cX10_put 1 = .ok (.invokestatic 134, 3) := by decide +kernel
theorem dX10_put_4 : decode cX10_put 4 = .ok (.ifCond .ne 5, 3) := by decide +kernel
theorem dX10_put_7 : decode cX10_put 7 = .ok (.iconst (-1), 1) := by decide +kernel
theorem dX10_put_8 : decode cX10_put 8 = .ok (.ireturn, 1) := by decide +kernel
theorem dX10_put_9 : decode cX10_put 9 = .ok (.aload_n 0, 1) := by decide +kernel
theorem dX10_put_10 : decode cX10_put 10 = .ok (.getfield 15, 3) := by decide +kernel
theorem dX10_put_13 : decode cX10_put 13 = .ok (.iload_n 1, 1) := by decide +kernel
theorem dX10_put_14 : decode cX10_put 14 = .ok (.aaload, 1) := by decide +kernel
theorem dX10_put_15 : decode cX10_put 15 = .ok (.invokevirtual 108, 3) := by decide +kernel
theorem dX10_put_18 : decode cX10_put 18 = .ok (.ifCond .eq 12, 3) := by decide +kernel
theorem dX10_put_21 : decode cX10_put 21 = .ok (.aload_n 0, 1) := by decide +kernel
theorem dX10_put_22 : decode cX10_put 22 = .ok (.getfield 84, 3) := by decide +kernel
theorem dX10_put_25 : decode cX10_put 25 = .ok (.iconst 1, 1) := by decide +kernel
theorem dX10_put_26 : decode cX10_put 26 = .ok (.invokevirtual 100, 3) := by decide +kernel
theorem dX10_put_29 : decode cX10_put 29 = .ok (.ireturn, 1) := by decide +kernel
theorem dX10_put_30 : decode cX10_put 30 = .ok (.aload_n 0, 1) := by decide +kernel
theorem dX10_put_31 : decode cX10_put 31 = .ok (.getfield 15, 3) := by decide +kernel
theorem dX10_put_34 : decode cX10_put 34 = .ok (.iload_n 1, 1) := by decide +kernel
theorem dX10_put_35 : decode cX10_put 35 = .ok (.aaload, 1) := by decide +kernel
theorem dX10_put_36 : decode cX10_put 36 = .ok (.iload_n 2, 1) := by decide +kernel
theorem dX10_put_37 : decode cX10_put 37 = .ok (.iconst 1, 1) := by decide +kernel
theorem dX10_put_38 : decode cX10_put 38 = .ok (.invokevirtual 112, 3) := by decide +kernel
theorem dX10_put_41 : decode cX10_put 41 = .ok (.ifCond .ne 12, 3) := by decide +kernel
theorem dX10_put_44 : decode cX10_put 44 = .ok (.aload_n 0, 1) := by decide +kernel
theorem dX10_put_45 : decode cX10_put 45 = .ok (.getfield 84, 3) := by decide +kernel
theorem dX10_put_48 : decode cX10_put 48 = .ok (.iconst 2, 1) := by decide +kernel
theorem dX10_put_49 : decode cX10_put 49 = .ok (.invokevirtual 100, 3) := by decide +kernel
theorem dX10_put_52 : decode cX10_put 52 = .ok (.ireturn, 1) := by decide +kernel
theorem dX10_put_53 : decode cX10_put 53 = .ok (.sipush 1000, 3) := by decide +kernel
theorem dX10_put_56 : decode cX10_put 56 = .ok (.aload_n 0, 1) := by decide +kernel
theorem dX10_put_57 : decode cX10_put 57 = .ok (.getfield 15, 3) := by decide +kernel
theorem dX10_put_60 : decode cX10_put 60 = .ok (.iload_n 1, 1) := by decide +kernel
theorem dX10_put_61 : decode cX10_put 61 = .ok (.aaload, 1) := by decide +kernel
theorem dX10_put_62 : decode cX10_put 62 = .ok (.iload_n 2, 1) := by decide +kernel
theorem dX10_put_63 : decode cX10_put 63 = .ok (.iload_n 3, 1) := by decide +kernel
theorem dX10_put_64 : decode cX10_put 64 = .ok (.i2b, 1) := by decide +kernel
theorem dX10_put_65 : decode cX10_put 65 = .ok (.invokevirtual 116, 3) := by decide +kernel
theorem dX10_put_68 : decode cX10_put 68 = .ok (.iadd, 1) := by decide +kernel
theorem dX10_put_69 : decode cX10_put 69 = .ok (.ireturn, 1) := by decide +kernel
set_option maxRecDepth 100000 in
set_option maxHeartbeats 4000000 in
theorem tb_X10_put_0 {K : sd_K} {E : sd_Env}   {r : (Int32 × sd_Mem)} (C : sd_C K E sd_LC RX10 cX10_put 4 (some .int))  : ∀ (M : sd_Mem) (x1 : Int32) (x2 : Int32) (x3 : Int32), fn_X10_put_0 M x1 x2 x3 = some r → sd_Z K rm_X10_put E sd_LC 4 (sd_QI K E sd_LC r.1 r.2) M 0 [(0, .ref (E.2.2 0)), (1, .int x1), (2, .int x2), (3, .int x3)] [] := by
  intro M x1 x2 x3 hF
  unfold fn_X10_put_0 at hF
  refine sd_iload_n C 1 dX10_put_0 rfl rfl rfl (n' := 1) ?_
  obtain ⟨q1, e1, hF⟩ := sd_bind hF
  refine sd_callSI [.int x1] [] C (ct_X10_isText M x1  e1) sd_lX10_134 ⟨rfl, rfl, Nat.le_of_ble_eq_true rfl, Nat.le_of_ble_eq_true rfl⟩ rfl (Nat.le_of_ble_eq_true rfl) dX10_put_1 rfl (n' := 4) ?_
  refine sd_if_ne C (n' := 7) (tgt := 9) dX10_put_4 rfl rfl (fun c4 => ?_) (fun c4 => ?_)
  · replace hF := sd_neg hF c4
    refine sd_aload_n C 0 dX10_put_9 rfl rfl rfl (n' := 10) ?_
    refine sd_g10_1 C sd_i0 sd_k0 sd_w329 dX10_put_10 rfl (n' := 13) ?_
    refine sd_iload_n C 1 dX10_put_13 rfl rfl rfl (n' := 14) ?_
    obtain ⟨b14, hF⟩ := sd_ok hF
    refine sd_cald C sd_i14 sd_k14 sd_n14 b14 dX10_put_14 rfl (n' := 15) ?_
    obtain ⟨q15, e15, hF⟩ := sd_bind hF
    refine sd_callVI [] [] C (ct_X1_isMissing M (14 + 1 + 2 * x1.toNatClampNeg) ((sd_r14 _ (sd_in_lt b14)).1) e15) sd_lX10_108 ⟨rfl, rfl, Nat.le_of_ble_eq_true rfl, Nat.le_of_ble_eq_true rfl⟩ (sd_mC (sd_r14 _ (sd_in_lt b14)).2) (sd_e2 ((sd_r14 _ (sd_in_lt b14)).1)) rfl rfl rfl (Nat.le_of_ble_eq_true rfl) dX10_put_15 rfl (n' := 18) ?_
    refine sd_if_eq C (n' := 21) (tgt := 30) dX10_put_18 rfl rfl (fun c18 => ?_) (fun c18 => ?_)
    · replace hF := sd_pos hF c18
      refine sd_aload_n C 0 dX10_put_30 rfl rfl rfl (n' := 31) ?_
      refine sd_g10_1 C sd_i0 sd_k0 sd_w329 dX10_put_31 rfl (n' := 34) ?_
      refine sd_iload_n C 1 dX10_put_34 rfl rfl rfl (n' := 35) ?_
      obtain ⟨b35, hF⟩ := sd_ok hF
      refine sd_cald C sd_i14 sd_k14 sd_n14 b35 dX10_put_35 rfl (n' := 36) ?_
      refine sd_iload_n C 2 dX10_put_36 rfl rfl rfl (n' := 37) ?_
      refine sd_iconst C (v := 1) dX10_put_37 rfl rfl (n' := 38) ?_
      obtain ⟨q38, e38, hF⟩ := sd_bind hF
      refine sd_callVI [.int x2, .int (1 : Int32)] [] C (ct_X1_holds M (14 + 1 + 2 * x1.toNatClampNeg) x2 (1 : Int32) ((sd_r14 _ (sd_in_lt b35)).1) e38) sd_lX10_112 ⟨rfl, rfl, Nat.le_of_ble_eq_true rfl, Nat.le_of_ble_eq_true rfl⟩ (sd_mC (sd_r14 _ (sd_in_lt b35)).2) (sd_e2 ((sd_r14 _ (sd_in_lt b35)).1)) rfl rfl rfl (Nat.le_of_ble_eq_true rfl) dX10_put_38 rfl (n' := 41) ?_
      refine sd_if_ne C (n' := 44) (tgt := 53) dX10_put_41 rfl rfl (fun c41 => ?_) (fun c41 => ?_)
      · replace hF := sd_neg hF c41
        refine sd_sipush C (v := 1000) dX10_put_53 rfl rfl (n' := 56) ?_
        refine sd_aload_n C 0 dX10_put_56 rfl rfl rfl (n' := 57) ?_
        refine sd_g10_1 C sd_i0 sd_k0 sd_w329 dX10_put_57 rfl (n' := 60) ?_
        refine sd_iload_n C 1 dX10_put_60 rfl rfl rfl (n' := 61) ?_
        obtain ⟨b61, hF⟩ := sd_ok hF
        refine sd_cald C sd_i14 sd_k14 sd_n14 b61 dX10_put_61 rfl (n' := 62) ?_
        refine sd_iload_n C 2 dX10_put_62 rfl rfl rfl (n' := 63) ?_
        refine sd_iload_n C 3 dX10_put_63 rfl rfl rfl (n' := 64) ?_
        refine sd_i2b C dX10_put_64 rfl (n' := 65) ?_
        obtain ⟨q65, e65, hF⟩ := sd_bind hF
        refine sd_callVI [.int x2, .int x3.toInt8.toInt32] [.int (1000 : Int32)] C (ct_X1_swap M (14 + 1 + 2 * x1.toNatClampNeg) x2 x3.toInt8.toInt32 ((sd_r14 _ (sd_in_lt b61)).1) e65) sd_lX10_116 ⟨rfl, rfl, Nat.le_of_ble_eq_true rfl, Nat.le_of_ble_eq_true rfl⟩ (sd_mC (sd_r14 _ (sd_in_lt b61)).2) (sd_e2 ((sd_r14 _ (sd_in_lt b61)).1)) rfl rfl rfl (Nat.le_of_ble_eq_true rfl) dX10_put_65 rfl (n' := 68) ?_
        refine sd_iadd C dX10_put_68 rfl (n' := 69) ?_
        exact sd_iret C dX10_put_69 (sd_fst hF) (sd_snd hF)
      · replace hF := sd_pos hF c41
        refine sd_aload_n C 0 dX10_put_44 rfl rfl rfl (n' := 45) ?_
        refine sd_g10_12 C sd_i0 sd_k0 sd_w340 dX10_put_45 rfl (n' := 48) ?_
        refine sd_iconst C (v := 2) dX10_put_48 rfl rfl (n' := 49) ?_
        obtain ⟨q49, e49, hF⟩ := sd_bind hF
        refine sd_callVI [.int (2 : Int32)] [] C (ct_X2_tell M (2 : Int32)  e49) sd_lX10_100 ⟨rfl, rfl, Nat.le_of_ble_eq_true rfl, Nat.le_of_ble_eq_true rfl⟩ sd_i97 (sd_e3 sd_k97) rfl rfl rfl (Nat.le_of_ble_eq_true rfl) dX10_put_49 rfl (n' := 52) ?_
        exact sd_iret C dX10_put_52 (sd_fst hF) (sd_snd hF)
    · replace hF := sd_neg hF c18
      refine sd_aload_n C 0 dX10_put_21 rfl rfl rfl (n' := 22) ?_
      refine sd_g10_12 C sd_i0 sd_k0 sd_w340 dX10_put_22 rfl (n' := 25) ?_
      refine sd_iconst C (v := 1) dX10_put_25 rfl rfl (n' := 26) ?_
      obtain ⟨q26, e26, hF⟩ := sd_bind hF
      refine sd_callVI [.int (1 : Int32)] [] C (ct_X2_tell M (1 : Int32)  e26) sd_lX10_100 ⟨rfl, rfl, Nat.le_of_ble_eq_true rfl, Nat.le_of_ble_eq_true rfl⟩ sd_i97 (sd_e3 sd_k97) rfl rfl rfl (Nat.le_of_ble_eq_true rfl) dX10_put_26 rfl (n' := 29) ?_
      exact sd_iret C dX10_put_29 (sd_fst hF) (sd_snd hF)
  · replace hF := sd_pos hF c4
    refine sd_iconst C (v := -1) dX10_put_7 rfl rfl (n' := 8) ?_
    exact sd_iret C dX10_put_8 (sd_fst hF) (sd_snd hF)
theorem ct_X10_put {l : Launch} {E : sd_Env} (M : sd_Mem) (x1 : Int32) (x2 : Int32) (x3 : Int32)  {r : (Int32 × sd_Mem)} (hF : fn_X10_put M x1 x2 x3 = some r) : sd_MI l E sd_LC yX10_put cX10_put 4 (some .int) rm_X10_put [.ref (E.2.2 0), .int x1, .int x2, .int x3] M r.1 r.2 := sd_ent0 (by decide +kernel) (Nat.le_of_ble_eq_true rfl) (fun p e s m below meth c C => tb_X10_put_0 C M x1 x2 x3 hF)
theorem dX1_cell_0 : decode cX1_cell 0 = .ok (.iload_n 1, 1) := by decide +kernel
theorem dX1_cell_1 : decode cX1_cell 1 = .ok (.ifCond .lt 20, 3) := by decide +kernel
theorem dX1_cell_4 : decode cX1_cell 4 = .ok (.iload_n 1, 1) := by decide +kernel
theorem dX1_cell_5 : decode cX1_cell 5 = .ok (.aload_n 0, 1) := by decide +kernel
theorem dX1_cell_6 : decode cX1_cell 6 = .ok (.getfield 9, 3) := by decide +kernel
theorem dX1_cell_9 : decode cX1_cell 9 = .ok (.if_icmp .ge 12, 3) := by decide +kernel
theorem dX1_cell_12 : decode cX1_cell 12 = .ok (.aload_n 0, 1) := by decide +kernel
theorem dX1_cell_13 : decode cX1_cell 13 = .ok (.getfield 21, 3) := by decide +kernel
theorem dX1_cell_16 : decode cX1_cell 16 = .ok (.iload_n 1, 1) := by decide +kernel
theorem dX1_cell_17 : decode cX1_cell 17 = .ok (.iaload, 1) := by decide +kernel
theorem dX1_cell_18 : decode cX1_cell 18 = .ok (.goto 4, 3) := by decide +kernel
theorem dX1_cell_21 : decode cX1_cell 21 = .ok (.iconst 0, 1) := by decide +kernel
theorem dX1_cell_22 : decode cX1_cell 22 = .ok (.ireturn, 1) := by decide +kernel
set_option maxRecDepth 100000 in
set_option maxHeartbeats 4000000 in
theorem tb_X1_cell_0 {K : sd_K} {E : sd_Env} {M : sd_Mem} {h0 : Nat} {r : Int32} (C : sd_C K E sd_LC RX1 cX1_cell 2 (some .int)) (k0 : sd_kd h0 = 2) : ∀ (x1 : Int32), fn_X1_cell_0 M h0 x1 = some r → sd_Z K rm_X1_cell E sd_LC 2 (sd_QI K E sd_LC r M) M 0 [(0, .ref (E.2.2 h0)), (1, .int x1)] [] := by
  intro x1 hF
  unfold fn_X1_cell_0 at hF
  refine sd_iload_n C 1 dX1_cell_0 rfl rfl rfl (n' := 1) ?_
  refine sd_if_lt C (n' := 4) (tgt := 21) dX1_cell_1 rfl rfl (fun c1 => ?_) (fun c1 => ?_)
  · replace hF := sd_pos hF c1
    refine sd_iconst C (v := 0) dX1_cell_21 rfl rfl (n' := 22) ?_
    exact sd_iret C dX1_cell_22 (Option.some.inj hF) rfl
  · replace hF := sd_neg hF c1
    refine sd_iload_n C 1 dX1_cell_4 rfl rfl rfl (n' := 5) ?_
    refine sd_aload_n C 0 dX1_cell_5 rfl rfl rfl (n' := 6) ?_
    refine sd_g1_1 C (sd_mC (sd_m2 k0)) k0 sd_w310 dX1_cell_6 rfl (n' := 9) ?_
    refine sd_icmp_ge C (n' := 12) (tgt := 21) dX1_cell_9 rfl rfl (fun c9 => ?_) (fun c9 => ?_)
    · replace hF := sd_pos hF c9
      refine sd_iconst C (v := 0) dX1_cell_21 rfl rfl (n' := 22) ?_
      exact sd_iret C dX1_cell_22 (Option.some.inj hF) rfl
    · replace hF := sd_neg hF c9
      refine sd_aload_n C 0 dX1_cell_12 rfl rfl rfl (n' := 13) ?_
      refine sd_g1_0 C (sd_mC (sd_m2 k0)) k0 sd_w309 dX1_cell_13 rfl (n' := 16) ?_
      refine sd_iload_n C 1 dX1_cell_16 rfl rfl rfl (n' := 17) ?_
      obtain ⟨b17, hF⟩ := sd_ok hF
      refine sd_iald C (sd_mC (sd_c2 k0).2.2) ((sd_c2 k0).1) rfl b17 dX1_cell_17 rfl (n' := 18) ?_
      refine sd_goto C (tgt := 22) dX1_cell_18 rfl ?_
      exact sd_iret C dX1_cell_22 (Option.some.inj hF) rfl
theorem ct_X1_cell {l : Launch} {E : sd_Env} (M : sd_Mem) (h0 : Nat) (x1 : Int32) (k0 : sd_kd h0 = 2) {r : Int32} (hF : fn_X1_cell M h0 x1 = some r) : sd_MI l E sd_LC yX1_cell cX1_cell 2 (some .int) rm_X1_cell [.ref (E.2.2 h0), .int x1] M r M := sd_ent0 (by decide +kernel) (Nat.le_of_ble_eq_true rfl) (fun p e s m below meth c C => tb_X1_cell_0 C k0 x1 hF)
theorem dX6_skipBlanks_0 : decode cX6_skipBlanks 0 = .ok (.aload_n 0, 1) := by decide +kernel
theorem dX6_skipBlanks_1 : decode cX6_skipBlanks 1 = .ok (.getfield 18, 3) := by decide +kernel
theorem dX6_skipBlanks_4 : decode cX6_skipBlanks 4 = .ok (.aload_n 1, 1) := by decide +kernel
theorem dX6_skipBlanks_5 : decode cX6_skipBlanks 5 = .ok (.invokevirtual 29, 3) := by decide +kernel
theorem dX6_skipBlanks_8 : decode cX6_skipBlanks 8 = .ok (.if_icmp .ge 29, 3) := by decide +kernel
theorem dX6_skipBlanks_11 : decode cX6_skipBlanks 11 = .ok (.aload_n 1, 1) := by decide +kernel
theorem dX6_skipBlanks_12 : decode cX6_skipBlanks 12 = .ok (.aload_n 0, 1) := by decide +kernel
theorem dX6_skipBlanks_13 : decode cX6_skipBlanks 13 = .ok (.getfield 18, 3) := by decide +kernel
theorem dX6_skipBlanks_16 : decode cX6_skipBlanks 16 = .ok (.invokevirtual 53, 3) := by decide +kernel
theorem dX6_skipBlanks_19 : decode cX6_skipBlanks 19 = .ok (.bipush 32, 2) := by decide +kernel
theorem dX6_skipBlanks_21 : decode cX6_skipBlanks 21 = .ok (.if_icmp .ne 16, 3) := by decide +kernel
theorem dX6_skipBlanks_24 : decode cX6_skipBlanks 24 = .ok (.aload_n 0, 1) := by decide +kernel
theorem dX6_skipBlanks_25 : decode cX6_skipBlanks 25 = .ok (.dup, 1) := by decide +kernel
theorem dX6_skipBlanks_26 : decode cX6_skipBlanks 26 = .ok (.getfield 18, 3) := by decide +kernel
theorem dX6_skipBlanks_29 : decode cX6_skipBlanks 29 = .ok (.iconst 1, 1) := by decide +kernel
theorem dX6_skipBlanks_30 : decode cX6_skipBlanks 30 = .ok (.iadd, 1) := by decide +kernel
theorem dX6_skipBlanks_31 : decode cX6_skipBlanks 31 = .ok (.putfield 18, 3) := by decide +kernel
theorem dX6_skipBlanks_34 : decode cX6_skipBlanks 34 = .ok (.goto (-34), 3) := by decide +kernel
theorem dX6_skipBlanks_37 : decode cX6_skipBlanks 37 = .ok (.return_, 1) := by decide +kernel
set_option maxRecDepth 100000 in
set_option maxHeartbeats 4000000 in
theorem tb_X6_skipBlanks_0 {K : sd_K} {E : sd_Env}  {h1 : Nat} {r : sd_Mem} (C : sd_C K E sd_LC RX6 cX6_skipBlanks 2 none) (k1 : sd_kd h1 = 2) : ∀ (n : Nat), ∀ (M : sd_Mem), fn_X6_skipBlanks_0 h1 n M = some r → sd_Z K rm_X6_skipBlanks E sd_LC 2 (sd_QV K E sd_LC r) M 0 [(0, .ref (E.2.2 60)), (1, .ref (E.2.2 h1))] [] := by
  intro n
  induction n with
  | zero => intro M hF; cases hF
  | succ n ih =>
    intro M hF
    unfold fn_X6_skipBlanks_0 at hF
    refine sd_aload_n C 0 dX6_skipBlanks_0 rfl rfl rfl (n' := 1) ?_
    refine sd_g6_1 C sd_i60 sd_k60 sd_w202 dX6_skipBlanks_1 rfl (n' := 4) ?_
    refine sd_aload_n C 1 dX6_skipBlanks_4 rfl rfl rfl (n' := 5) ?_
    obtain ⟨q5, e5, hF⟩ := sd_bind hF
    refine sd_callVI [] [.int (M.1 60 1)] C (ct_X1_size M h1 k1 e5) sd_lX6_29 ⟨rfl, rfl, Nat.le_of_ble_eq_true rfl, Nat.le_of_ble_eq_true rfl⟩ (sd_mC (sd_m2 k1)) (sd_e2 k1) rfl rfl rfl (Nat.le_of_ble_eq_true rfl) dX6_skipBlanks_5 rfl (n' := 8) ?_
    refine sd_icmp_ge C (n' := 11) (tgt := 37) dX6_skipBlanks_8 rfl rfl (fun c8 => ?_) (fun c8 => ?_)
    · replace hF := sd_pos hF c8
      exact sd_vret C dX6_skipBlanks_37 (Option.some.inj hF)
    · replace hF := sd_neg hF c8
      refine sd_aload_n C 1 dX6_skipBlanks_11 rfl rfl rfl (n' := 12) ?_
      refine sd_aload_n C 0 dX6_skipBlanks_12 rfl rfl rfl (n' := 13) ?_
      refine sd_g6_1 C sd_i60 sd_k60 sd_w202 dX6_skipBlanks_13 rfl (n' := 16) ?_
      obtain ⟨q16, e16, hF⟩ := sd_bind hF
      refine sd_callVI [.int (M.1 60 1)] [] C (ct_X1_cell M h1 (M.1 60 1) k1 e16) sd_lX6_53 ⟨rfl, rfl, Nat.le_of_ble_eq_true rfl, Nat.le_of_ble_eq_true rfl⟩ (sd_mC (sd_m2 k1)) (sd_e2 k1) rfl rfl rfl (Nat.le_of_ble_eq_true rfl) dX6_skipBlanks_16 rfl (n' := 19) ?_
      refine sd_bipush C (v := 32) dX6_skipBlanks_19 rfl rfl (n' := 21) ?_
      refine sd_icmp_ne C (n' := 24) (tgt := 37) dX6_skipBlanks_21 rfl rfl (fun c21 => ?_) (fun c21 => ?_)
      · replace hF := sd_neg hF c21
        exact sd_vret C dX6_skipBlanks_37 (Option.some.inj hF)
      · replace hF := sd_pos hF c21
        refine sd_aload_n C 0 dX6_skipBlanks_24 rfl rfl rfl (n' := 25) ?_
        refine sd_dup C dX6_skipBlanks_25 rfl rfl (n' := 26) ?_
        refine sd_g6_1 C sd_i60 sd_k60 sd_w202 dX6_skipBlanks_26 rfl (n' := 29) ?_
        refine sd_iconst C (v := 1) dX6_skipBlanks_29 rfl rfl (n' := 30) ?_
        refine sd_iadd C dX6_skipBlanks_30 rfl (n' := 31) ?_
        refine sd_p6_1 C sd_i60 sd_k60 sd_w202 dX6_skipBlanks_31 rfl (n' := 34) ?_
        refine sd_goto C (tgt := 0) dX6_skipBlanks_34 rfl ?_
        exact ih (sd_setI M 60 1 ((M.1 60 1) + (1 : Int32))) hF
theorem ct_X6_skipBlanks {l : Launch} {E : sd_Env} (M : sd_Mem) (h1 : Nat) (k1 : sd_kd h1 = 2) {r : sd_Mem} (hF : fn_X6_skipBlanks M h1 = some r) : sd_MV l E sd_LC yX6_skipBlanks cX6_skipBlanks 2 none rm_X6_skipBlanks [.ref (E.2.2 60), .ref (E.2.2 h1)] M r := sd_ent0 (by decide +kernel) (Nat.le_of_ble_eq_true rfl) (fun p e s m below meth c C => tb_X6_skipBlanks_0 C k1 sd_FU M hF)
theorem dX6_isWhole_0 : decode cX6_isWhole 0 = .ok (.aload_n 0, 1) := by decide +kernel
theorem dX6_isWhole_1 : decode cX6_isWhole 1 = .ok (.getfield 12, 3) := by decide +kernel
theorem dX6_isWhole_4 : decode cX6_isWhole 4 = .ok (.iconst 0, 1) := by decide +kernel
theorem dX6_isWhole_5 : decode cX6_isWhole 5 = .ok (.invokevirtual 43, 3) := by decide +kernel
theorem dX6_isWhole_8 : decode cX6_isWhole 8 = .ok (.ifCond .le 35, 3) := by decide +kernel
theorem dX6_isWhole_11 : decode cX6_isWhole 11 = .ok (.aload_n 0, 1) := by decide +kernel
theorem dX6_isWhole_12 : decode cX6_isWhole 12 = .ok (.getfield 12, 3) := by decide +kernel
theorem dX6_isWhole_15 : decode cX6_isWhole 15 = .ok (.iconst 1, 1) := by decide +kernel
theorem dX6_isWhole_16 : decode cX6_isWhole 16 = .ok (.invokevirtual 43, 3) := by decide +kernel
theorem dX6_isWhole_19 : decode cX6_isWhole 19 = .ok (.ifCond .le 24, 3) := by decide +kernel
theorem dX6_isWhole_22 : decode cX6_isWhole 22 = .ok (.aload_n 0, 1) := by decide +kernel
theorem dX6_isWhole_23 : decode cX6_isWhole 23 = .ok (.getfield 12, 3) := by decide +kernel
theorem dX6_isWhole_26 : decode cX6_isWhole 26 = .ok (.getfield 47, 3) := by decide +kernel
theorem dX6_isWhole_29 : decode cX6_isWhole 29 = .ok (.aload_n 0, 1) := by decide +kernel
theorem dX6_isWhole_30 : decode cX6_isWhole 30 = .ok (.getfield 12, 3) := by decide +kernel
theorem dX6_isWhole_33 : decode cX6_isWhole 33 = .ok (.getfield 50, 3) := by decide +kernel
theorem dX6_isWhole_36 : decode cX6_isWhole 36 = .ok (.if_icmp .gt 7, 3) := by decide +kernel
theorem dX6_isWhole_39 : decode cX6_isWhole 39 = .ok (.iconst 1, 1) := by decide +kernel
theorem dX6_isWhole_40 : decode cX6_isWhole 40 = .ok (.goto 4, 3) := by decide +kernel
theorem dX6_isWhole_43 : decode cX6_isWhole 43 = .ok (.iconst 0, 1) := by decide +kernel
theorem dX6_isWhole_44 : decode cX6_isWhole 44 = .ok (.ireturn, 1) := by decide +kernel
set_option maxRecDepth 100000 in
set_option maxHeartbeats 4000000 in
theorem tb_X6_isWhole_0 {K : sd_K} {E : sd_Env} {M : sd_Mem}  {r : Int32} (C : sd_C K E sd_LC RX6 cX6_isWhole 1 (some .boolean))  : fn_X6_isWhole_0 M = some r → sd_Z K rm_X6_isWhole E sd_LC 1 (sd_QI K E sd_LC r M) M 0 [(0, .ref (E.2.2 60))] [] := by
  intro hF
  unfold fn_X6_isWhole_0 at hF
  refine sd_aload_n C 0 dX6_isWhole_0 rfl rfl rfl (n' := 1) ?_
  refine sd_g6_0 C sd_i60 sd_k60 sd_w201 dX6_isWhole_1 rfl (n' := 4) ?_
  refine sd_iconst C (v := 0) dX6_isWhole_4 rfl rfl (n' := 5) ?_
  obtain ⟨q5, e5, hF⟩ := sd_bind hF
  refine sd_callVI [.int (0 : Int32)] [] C (ct_X5_sorts M 49 (0 : Int32) sd_k49 e5) sd_lX6_43 ⟨rfl, rfl, Nat.le_of_ble_eq_true rfl, Nat.le_of_ble_eq_true rfl⟩ sd_i49 (sd_e6 sd_k49) rfl rfl rfl (Nat.le_of_ble_eq_true rfl) dX6_isWhole_5 rfl (n' := 8) ?_
  refine sd_if_le C (n' := 11) (tgt := 43) dX6_isWhole_8 rfl rfl (fun c8 => ?_) (fun c8 => ?_)
  · replace hF := sd_pos hF c8
    refine sd_iconst C (v := 0) dX6_isWhole_43 rfl rfl (n' := 44) ?_
    exact sd_zret C dX6_isWhole_44 rfl (Option.some.inj hF) rfl
  · replace hF := sd_neg hF c8
    refine sd_aload_n C 0 dX6_isWhole_11 rfl rfl rfl (n' := 12) ?_
    refine sd_g6_0 C sd_i60 sd_k60 sd_w201 dX6_isWhole_12 rfl (n' := 15) ?_
    refine sd_iconst C (v := 1) dX6_isWhole_15 rfl rfl (n' := 16) ?_
    obtain ⟨q16, e16, hF⟩ := sd_bind hF
    refine sd_callVI [.int (1 : Int32)] [] C (ct_X5_sorts M 49 (1 : Int32) sd_k49 e16) sd_lX6_43 ⟨rfl, rfl, Nat.le_of_ble_eq_true rfl, Nat.le_of_ble_eq_true rfl⟩ sd_i49 (sd_e6 sd_k49) rfl rfl rfl (Nat.le_of_ble_eq_true rfl) dX6_isWhole_16 rfl (n' := 19) ?_
    refine sd_if_le C (n' := 22) (tgt := 43) dX6_isWhole_19 rfl rfl (fun c19 => ?_) (fun c19 => ?_)
    · replace hF := sd_pos hF c19
      refine sd_iconst C (v := 0) dX6_isWhole_43 rfl rfl (n' := 44) ?_
      exact sd_zret C dX6_isWhole_44 rfl (Option.some.inj hF) rfl
    · replace hF := sd_neg hF c19
      refine sd_aload_n C 0 dX6_isWhole_22 rfl rfl rfl (n' := 23) ?_
      refine sd_g6_0 C sd_i60 sd_k60 sd_w201 dX6_isWhole_23 rfl (n' := 26) ?_
      refine sd_gN5_6 C sd_i49 sd_k49 sd_w143 dX6_isWhole_26 rfl (n' := 29) ?_
      refine sd_aload_n C 0 dX6_isWhole_29 rfl rfl rfl (n' := 30) ?_
      refine sd_g6_0 C sd_i60 sd_k60 sd_w201 dX6_isWhole_30 rfl (n' := 33) ?_
      refine sd_gN5_5 C sd_i49 sd_k49 sd_w139 dX6_isWhole_33 rfl (n' := 36) ?_
      refine sd_icmp_gt C (n' := 39) (tgt := 43) dX6_isWhole_36 rfl rfl (fun c36 => ?_) (fun c36 => ?_)
      · replace hF := sd_pos hF c36
        refine sd_iconst C (v := 0) dX6_isWhole_43 rfl rfl (n' := 44) ?_
        exact sd_zret C dX6_isWhole_44 rfl (Option.some.inj hF) rfl
      · replace hF := sd_neg hF c36
        refine sd_iconst C (v := 1) dX6_isWhole_39 rfl rfl (n' := 40) ?_
        refine sd_goto C (tgt := 44) dX6_isWhole_40 rfl ?_
        exact sd_zret C dX6_isWhole_44 rfl (Option.some.inj hF) rfl
theorem ct_X6_isWhole {l : Launch} {E : sd_Env} (M : sd_Mem)   {r : Int32} (hF : fn_X6_isWhole M = some r) : sd_MI l E sd_LC yX6_isWhole cX6_isWhole 1 (some .boolean) rm_X6_isWhole [.ref (E.2.2 60)] M r M := sd_ent0 (by decide +kernel) (Nat.le_of_ble_eq_true rfl) (fun p e s m below meth c C => tb_X6_isWhole_0 C hF)
theorem dX6_isFigure_0 : decode cX6_isFigure 0 = .ok (.aload_n 1, 1) := by decide +kernel
theorem dX6_isFigure_1 : decode cX6_isFigure 1 = .ok (.aload_n 0, 1) := by decide +kernel
theorem dX6_isFigure_2 : decode cX6_isFigure 2 = .ok (.getfield 18, 3) := by decide +kernel
theorem dX6_isFigure_5 : decode cX6_isFigure 5 = .ok (.invokevirtual 53, 3) := by decide +kernel
theorem dX6_isFigure_8 : decode cX6_isFigure 8 = .ok (.bipush 48, 2) := by decide +kernel
theorem dX6_isFigure_10 : decode cX6_isFigure 10 = .ok (.bipush 57, 2) := by decide +kernel
theorem dX6_isFigure_12 : decode cX6_isFigure 12 = .ok (.invokestatic 67, 3) := by decide +kernel
theorem dX6_isFigure_15 : decode cX6_isFigure 15 = .ok (.ireturn, 1) := by decide +kernel
set_option maxRecDepth 100000 in
set_option maxHeartbeats 4000000 in
theorem tb_X6_isFigure_0 {K : sd_K} {E : sd_Env} {M : sd_Mem} {h1 : Nat} {r : Int32} (C : sd_C K E sd_LC RX6 cX6_isFigure 2 (some .boolean)) (k1 : sd_kd h1 = 2) : fn_X6_isFigure_0 M h1 = some r → sd_Z K rm_X6_isFigure E sd_LC 2 (sd_QI K E sd_LC r M) M 0 [(0, .ref (E.2.2 60)), (1, .ref (E.2.2 h1))] [] := by
  intro hF
  unfold fn_X6_isFigure_0 at hF
  refine sd_aload_n C 1 dX6_isFigure_0 rfl rfl rfl (n' := 1) ?_
  refine sd_aload_n C 0 dX6_isFigure_1 rfl rfl rfl (n' := 2) ?_
  refine sd_g6_1 C sd_i60 sd_k60 sd_w202 dX6_isFigure_2 rfl (n' := 5) ?_
  obtain ⟨q5, e5, hF⟩ := sd_bind hF
  refine sd_callVI [.int (M.1 60 1)] [] C (ct_X1_cell M h1 (M.1 60 1) k1 e5) sd_lX6_53 ⟨rfl, rfl, Nat.le_of_ble_eq_true rfl, Nat.le_of_ble_eq_true rfl⟩ (sd_mC (sd_m2 k1)) (sd_e2 k1) rfl rfl rfl (Nat.le_of_ble_eq_true rfl) dX6_isFigure_5 rfl (n' := 8) ?_
  refine sd_bipush C (v := 48) dX6_isFigure_8 rfl rfl (n' := 10) ?_
  refine sd_bipush C (v := 57) dX6_isFigure_10 rfl rfl (n' := 12) ?_
  obtain ⟨q12, e12, hF⟩ := sd_bind hF
  refine sd_callNI [.int q5, .int (48 : Int32), .int (57 : Int32)] [] C (ct_X10_within M q5 (48 : Int32) (57 : Int32)  e12) sd_lX6_67 ⟨rfl, rfl, Nat.le_of_ble_eq_true rfl, Nat.le_of_ble_eq_true rfl⟩ rfl (Nat.le_of_ble_eq_true rfl) dX6_isFigure_12 rfl (n' := 15) ?_
  obtain ⟨b15, hF⟩ := sd_ok hF
  exact sd_zret C dX6_isFigure_15 (Decidable.of_not_not b15) (Option.some.inj hF) rfl
theorem ct_X6_isFigure {l : Launch} {E : sd_Env} (M : sd_Mem) (h1 : Nat) (k1 : sd_kd h1 = 2) {r : Int32} (hF : fn_X6_isFigure M h1 = some r) : sd_MI l E sd_LC yX6_isFigure cX6_isFigure 2 (some .boolean) rm_X6_isFigure [.ref (E.2.2 60), .ref (E.2.2 h1)] M r M := sd_ent0 (by decide +kernel) (Nat.le_of_ble_eq_true rfl) (fun p e s m below meth c C => tb_X6_isFigure_0 C k1 hF)
theorem dX6_readValue_0 : decode cX6_readValue 0 = .ok (.aload_n 0, 1) := by decide +kernel
theorem dX6_readValue_1 : decode cX6_readValue 1 = .ok (.dup, 1) := by decide +kernel
theorem dX6_readValue_2 : decode cX6_readValue 2 = .ok (.getfield 18, 3) := by decide +kernel
theorem dX6_readValue_5 : decode cX6_readValue 5 = .ok (.iconst 1, 1) := by decide +kernel
theorem dX6_readValue_6 : decode cX6_readValue 6 = .ok (.iadd, 1) := by decide +kernel
theorem dX6_readValue_7 : decode cX6_readValue 7 = .ok (.putfield 18, 3) := by decide +kernel
theorem dX6_readValue_10 : decode cX6_readValue 10 = .ok (.aload_n 0, 1) := by decide +kernel
theorem dX6_readValue_11 : decode cX6_readValue 11 = .ok (.aload_n 1, 1) := by decide +kernel
theorem dX6_readValue_12 : decode cX6_readValue 12 = .ok (.invokevirtual 78, 3) := by decide +kernel
theorem dX6_readValue_15 : decode cX6_readValue 15 = .ok (.ifCond .ne 5, 3) := by decide +kernel
theorem dX6_readValue_18 : decode cX6_readValue 18 = .ok (.iconst (-1), 1) := by decide +kernel
theorem dX6_readValue_19 : decode cX6_readValue 19 = .ok (.ireturn, 1) := by decide +kernel
theorem dX6_readValue_20 : decode cX6_readValue 20 = .ok (.iconst 0, 1) := by decide +kernel
theorem dX6_readValue_21 : decode cX6_readValue 21 = .ok (.istore_n 2, 1) := by decide +kernel
theorem dX6_readValue_22 : decode cX6_readValue 22 = .ok (.iconst 0, 1) := by decide +kernel
theorem dX6_readValue_23 : decode cX6_readValue 23 = .ok (.istore_n 3, 1) := by decide +kernel
theorem dX6_readValue_24 : decode cX6_readValue 24 = .ok (.iload_n 3, 1) := by decide +kernel
theorem dX6_readValue_25 : decode cX6_readValue 25 = .ok (.iconst 2, 1) := by decide +kernel
theorem dX6_readValue_26 : decode cX6_readValue 26 = .ok (.if_icmp .ge 44, 3) := by decide +kernel
theorem dX6_readValue_29 : decode cX6_readValue 29 = .ok (.aload_n 0, 1) := by decide +kernel
theorem dX6_readValue_30 : decode cX6_readValue 30 = .ok (.aload_n 1, 1) := by decide +kernel
theorem dX6_readValue_31 : decode cX6_readValue 31 = .ok (.invokevirtual 78, 3) := by decide +kernel
theorem dX6_readValue_34 : decode cX6_readValue 34 = .ok (.ifCond .eq 36, 3) := by decide +kernel
theorem dX6_readValue_37 : decode cX6_readValue 37 = .ok (.bipush 10, 2) := by decide +kernel
theorem dX6_readValue_39 : decode cX6_readValue 39 = .ok (.iload_n 2, 1) := by decide +kernel
theorem dX6_readValue_40 : decode cX6_readValue 40 = .ok (.imul, 1) := by decide +kernel
theorem dX6_readValue_41 : decode cX6_readValue 41 = .ok (.aload_n 1, 1) := by decide +kernel
theorem dX6_readValue_42 : decode cX6_readValue 42 = .ok (.aload_n 0, 1) := by decide +kernel
theorem dX6_readValue_43 : decode cX6_readValue 43 = .ok (.getfield 18, 3) := by decide +kernel
theorem dX6_readValue_46 : decode cX6_readValue 46 = .ok (.invokevirtual 53, 3) := by decide +kernel
theorem dX6_readValue_49 : decode cX6_readValue 49 = .ok (.iadd, 1) := by decide +kernel
theorem dX6_readValue_50 : decode cX6_readValue 50 = .ok (.bipush 48, 2) := by decide +kernel
theorem dX6_readValue_52 : decode cX6_readValue 52 = .ok (.isub, 1) := by decide +kernel
theorem dX6_readValue_53 : decode cX6_readValue 53 = .ok (.istore_n 2, 1) := by decide +kernel
theorem dX6_readValue_54 : decode cX6_readValue 54 = .ok (.aload_n 0, 1) := by decide +kernel
theorem dX6_readValue_55 : decode cX6_readValue 55 = .ok (.dup, 1) := by decide +kernel
theorem dX6_readValue_56 : decode cX6_readValue 56 = .ok (.getfield 18, 3) := by decide +kernel
theorem dX6_readValue_59 : decode cX6_readValue 59 = .ok (.iconst 1, 1) := by decide +kernel
theorem dX6_readValue_60 : decode cX6_readValue 60 = .ok (.iadd, 1) := by decide +kernel
theorem dX6_readValue_61 : decode cX6_readValue 61 = .ok (.putfield 18, 3) := by decide +kernel
theorem dX6_readValue_64 : decode cX6_readValue 64 = .ok (.iinc 3 1, 3) := by decide +kernel
theorem dX6_readValue_67 : decode cX6_readValue 67 = .ok (.goto (-43), 3) := by decide +kernel
theorem dX6_readValue_70 : decode cX6_readValue 70 = .ok (.iload_n 2, 1) := by decide +kernel
theorem dX6_readValue_71 : decode cX6_readValue 71 = .ok (.ireturn, 1) := by decide +kernel
set_option maxRecDepth 100000 in
set_option maxHeartbeats 4000000 in
theorem tb_X6_readValue_24 {K : sd_K} {E : sd_Env}  {h1 : Nat} {r : (Int32 × sd_Mem)} (C : sd_C K E sd_LC RX6 cX6_readValue 4 (some .int)) (k1 : sd_kd h1 = 2) : ∀ (n : Nat), ∀ (M : sd_Mem) (x2 : Int32) (x3 : Int32), fn_X6_readValue_24 h1 n M x2 x3 = some r → sd_Z K rm_X6_readValue E sd_LC 4 (sd_QI K E sd_LC r.1 r.2) M 24 [(0, .ref (E.2.2 60)), (1, .ref (E.2.2 h1)), (2, .int x2), (3, .int x3)] [] := by
  intro n
  induction n with
  | zero => intro M x2 x3 hF; cases hF
  | succ n ih =>
    intro M x2 x3 hF
    unfold fn_X6_readValue_24 at hF
    refine sd_iload_n C 3 dX6_readValue_24 rfl rfl rfl (n' := 25) ?_
    refine sd_iconst C (v := 2) dX6_readValue_25 rfl rfl (n' := 26) ?_
    refine sd_icmp_ge C (n' := 29) (tgt := 70) dX6_readValue_26 rfl rfl (fun c26 => ?_) (fun c26 => ?_)
    · replace hF := sd_pos hF c26
      refine sd_iload_n C 2 dX6_readValue_70 rfl rfl rfl (n' := 71) ?_
      exact sd_iret C dX6_readValue_71 (sd_fst hF) (sd_snd hF)
    · replace hF := sd_neg hF c26
      refine sd_aload_n C 0 dX6_readValue_29 rfl rfl rfl (n' := 30) ?_
      refine sd_aload_n C 1 dX6_readValue_30 rfl rfl rfl (n' := 31) ?_
      obtain ⟨q31, e31, hF⟩ := sd_bind hF
      refine sd_callVI [.ref (E.2.2 h1)] [] C (ct_X6_isFigure M h1 k1 e31) sd_lX6_78 ⟨rfl, rfl, Nat.le_of_ble_eq_true rfl, Nat.le_of_ble_eq_true rfl⟩ sd_i60 (sd_e7 sd_k60) rfl rfl rfl (Nat.le_of_ble_eq_true rfl) dX6_readValue_31 rfl (n' := 34) ?_
      refine sd_if_eq C (n' := 37) (tgt := 70) dX6_readValue_34 rfl rfl (fun c34 => ?_) (fun c34 => ?_)
      · replace hF := sd_pos hF c34
        refine sd_iload_n C 2 dX6_readValue_70 rfl rfl rfl (n' := 71) ?_
        exact sd_iret C dX6_readValue_71 (sd_fst hF) (sd_snd hF)
      · replace hF := sd_neg hF c34
        refine sd_bipush C (v := 10) dX6_readValue_37 rfl rfl (n' := 39) ?_
        refine sd_iload_n C 2 dX6_readValue_39 rfl rfl rfl (n' := 40) ?_
        refine sd_imul C dX6_readValue_40 rfl (n' := 41) ?_
        refine sd_aload_n C 1 dX6_readValue_41 rfl rfl rfl (n' := 42) ?_
        refine sd_aload_n C 0 dX6_readValue_42 rfl rfl rfl (n' := 43) ?_
        refine sd_g6_1 C sd_i60 sd_k60 sd_w202 dX6_readValue_43 rfl (n' := 46) ?_
        obtain ⟨q46, e46, hF⟩ := sd_bind hF
        refine sd_callVI [.int (M.1 60 1)] [.int ((10 : Int32) * x2)] C (ct_X1_cell M h1 (M.1 60 1) k1 e46) sd_lX6_53 ⟨rfl, rfl, Nat.le_of_ble_eq_true rfl, Nat.le_of_ble_eq_true rfl⟩ (sd_mC (sd_m2 k1)) (sd_e2 k1) rfl rfl rfl (Nat.le_of_ble_eq_true rfl) dX6_readValue_46 rfl (n' := 49) ?_
        refine sd_iadd C dX6_readValue_49 rfl (n' := 50) ?_
        refine sd_bipush C (v := 48) dX6_readValue_50 rfl rfl (n' := 52) ?_
        refine sd_isub C dX6_readValue_52 rfl (n' := 53) ?_
        refine sd_istore_n [(2, .int ((((10 : Int32) * x2) + q46) - (48 : Int32))), (0, .ref (E.2.2 60)), (1, .ref (E.2.2 h1)), (3, .int x3)] C dX6_readValue_53 rfl (by decide) rfl rfl (n' := 54) ?_
        refine sd_aload_n C 1 dX6_readValue_54 rfl rfl rfl (n' := 55) ?_
        refine sd_dup C dX6_readValue_55 rfl rfl (n' := 56) ?_
        refine sd_g6_1 C sd_i60 sd_k60 sd_w202 dX6_readValue_56 rfl (n' := 59) ?_
        refine sd_iconst C (v := 1) dX6_readValue_59 rfl rfl (n' := 60) ?_
        refine sd_iadd C dX6_readValue_60 rfl (n' := 61) ?_
        refine sd_p6_1 C sd_i60 sd_k60 sd_w202 dX6_readValue_61 rfl (n' := 64) ?_
        refine sd_iinc [(3, .int (x3 + (1 : Int32))), (2, .int ((((10 : Int32) * x2) + q46) - (48 : Int32))), (0, .ref (E.2.2 60)), (1, .ref (E.2.2 h1))] 3 C dX6_readValue_64 rfl rfl (by decide) rfl rfl (n' := 67) ?_
        refine sd_goto C (tgt := 24) dX6_readValue_67 rfl ?_
        refine sd_sub [2, 3, 1, 0] rfl ?_
        exact ih (sd_setI M 60 1 ((M.1 60 1) + (1 : Int32))) ((((10 : Int32) * x2) + q46) - (48 : Int32)) (x3 + (1 : Int32)) hF
set_option maxRecDepth 100000 in
set_option maxHeartbeats 4000000 in
theorem tb_X6_readValue_0 {K : sd_K} {E : sd_Env}  {h1 : Nat} {r : (Int32 × sd_Mem)} (C : sd_C K E sd_LC RX6 cX6_readValue 4 (some .int)) (k1 : sd_kd h1 = 2) : ∀ (M : sd_Mem), fn_X6_readValue_0 h1 M = some r → sd_Z K rm_X6_readValue E sd_LC 4 (sd_QI K E sd_LC r.1 r.2) M 0 [(0, .ref (E.2.2 60)), (1, .ref (E.2.2 h1))] [] := by
  intro M hF
  unfold fn_X6_readValue_0 at hF
  refine sd_aload_n C 0 dX6_readValue_0 rfl rfl rfl (n' := 1) ?_
  refine sd_dup C dX6_readValue_1 rfl rfl (n' := 2) ?_
  refine sd_g6_1 C sd_i60 sd_k60 sd_w202 dX6_readValue_2 rfl (n' := 5) ?_
  refine sd_iconst C (v := 1) dX6_readValue_5 rfl rfl (n' := 6) ?_
  refine sd_iadd C dX6_readValue_6 rfl (n' := 7) ?_
  refine sd_p6_1 C sd_i60 sd_k60 sd_w202 dX6_readValue_7 rfl (n' := 10) ?_
  refine sd_aload_n C 0 dX6_readValue_10 rfl rfl rfl (n' := 11) ?_
  refine sd_aload_n C 1 dX6_readValue_11 rfl rfl rfl (n' := 12) ?_
  obtain ⟨q12, e12, hF⟩ := sd_bind hF
  refine sd_callVI [.ref (E.2.2 h1)] [] C (ct_X6_isFigure (sd_setI M 60 1 ((M.1 60 1) + (1 : Int32))) h1 k1 e12) sd_lX6_78 ⟨rfl, rfl, Nat.le_of_ble_eq_true rfl, Nat.le_of_ble_eq_true rfl⟩ sd_i60 (sd_e7 sd_k60) rfl rfl rfl (Nat.le_of_ble_eq_true rfl) dX6_readValue_12 rfl (n' := 15) ?_
  refine sd_if_ne C (n' := 18) (tgt := 20) dX6_readValue_15 rfl rfl (fun c15 => ?_) (fun c15 => ?_)
  · replace hF := sd_neg hF c15
    refine sd_iconst C (v := 0) dX6_readValue_20 rfl rfl (n' := 21) ?_
    refine sd_istore_n [(2, .int (0 : Int32)), (0, .ref (E.2.2 60)), (1, .ref (E.2.2 h1))] C dX6_readValue_21 rfl (by decide) rfl rfl (n' := 22) ?_
    refine sd_iconst C (v := 0) dX6_readValue_22 rfl rfl (n' := 23) ?_
    refine sd_istore_n [(3, .int (0 : Int32)), (2, .int (0 : Int32)), (0, .ref (E.2.2 60)), (1, .ref (E.2.2 h1))] C dX6_readValue_23 rfl (by decide) rfl rfl (n' := 24) ?_
    refine sd_sub [2, 3, 1, 0] rfl ?_
    exact tb_X6_readValue_24 C k1 sd_FU (sd_setI M 60 1 ((M.1 60 1) + (1 : Int32))) (0 : Int32) (0 : Int32) hF
  · replace hF := sd_pos hF c15
    refine sd_iconst C (v := -1) dX6_readValue_18 rfl rfl (n' := 19) ?_
    exact sd_iret C dX6_readValue_19 (sd_fst hF) (sd_snd hF)
theorem ct_X6_readValue {l : Launch} {E : sd_Env} (M : sd_Mem) (h1 : Nat) (k1 : sd_kd h1 = 2) {r : (Int32 × sd_Mem)} (hF : fn_X6_readValue M h1 = some r) : sd_MI l E sd_LC yX6_readValue cX6_readValue 4 (some .int) rm_X6_readValue [.ref (E.2.2 60), .ref (E.2.2 h1)] M r.1 r.2 := sd_ent0 (by decide +kernel) (Nat.le_of_ble_eq_true rfl) (fun p e s m below meth c C => tb_X6_readValue_0 C k1 M hF)
theorem dX6_readSort_0 : decode cX6_readSort 0 = .ok (.aload_n 0, 1) := by decide +kernel
theorem dX6_readSort_1 : decode cX6_readSort 1 = .ok (.getfield 12, 3) := by decide +kernel
theorem dX6_readSort_4 : decode cX6_readSort 4 = .ok (.iload_n 2, 1) := by decide +kernel
theorem dX6_readSort_5 : decode cX6_readSort 5 = .ok (.invokevirtual 43, 3) := by decide +kernel
theorem dX6_readSort_8 : decode cX6_readSort 8 = .ok (.iconst 3, 1) := by decide +kernel
theorem dX6_readSort_9 : decode cX6_readSort 9 = .ok (.if_icmp .lt 5, 3) := by decide +kernel
theorem dX6_readSort_12 : decode cX6_readSort 12 = .ok (.iconst 0, 1) := by decide +kernel
theorem dX6_readSort_13 : decode cX6_readSort 13 = .ok (.ireturn, 1) := by decide +kernel
theorem dX6_readSort_14 : decode cX6_readSort 14 = .ok (.aload_n 0, 1) := by decide +kernel
theorem dX6_readSort_15 : decode cX6_readSort 15 = .ok (.aload_n 1, 1) := by decide +kernel
theorem dX6_readSort_16 : decode cX6_readSort 16 = .ok (.invokevirtual 60, 3) := by decide +kernel
theorem dX6_readSort_19 : decode cX6_readSort 19 = .ok (.istore_n 3, 1) := by decide +kernel
theorem dX6_readSort_20 : decode cX6_readSort 20 = .ok (.iload_n 3, 1) := by decide +kernel
theorem dX6_readSort_21 : decode cX6_readSort 21 = .ok (.iconst 1, 1) := by decide +kernel
theorem dX6_readSort_22 : decode cX6_readSort 22 = .ok (.bipush 9, 2) := by decide +kernel
theorem dX6_readSort_24 : decode cX6_readSort 24 = .ok (.invokestatic 67, 3) := by decide +kernel
theorem dX6_readSort_27 : decode cX6_readSort 27 = .ok (.ifCond .eq 16, 3) := by decide +kernel
theorem dX6_readSort_30 : decode cX6_readSort 30 = .ok (.aload_n 1, 1) := by decide +kernel
theorem dX6_readSort_31 : decode cX6_readSort 31 = .ok (.aload_n 0, 1) := by decide +kernel
theorem dX6_readSort_32 : decode cX6_readSort 32 = .ok (.getfield 18, 3) := by decide +kernel
theorem dX6_readSort_35 : decode cX6_readSort 35 = .ok (.invokevirtual 53, 3) := by decide +kernel
theorem dX6_readSort_38 : decode cX6_readSort 38 = .ok (.bipush 44, 2) := by decide +kernel
theorem dX6_readSort_40 : decode cX6_readSort 40 = .ok (.if_icmp .eq 5, 3) := by decide +kernel
theorem dX6_readSort_43 : decode cX6_readSort 43 = .ok (.iconst 0, 1) := by decide +kernel
theorem dX6_readSort_44 : decode cX6_readSort 44 = .ok (.ireturn, 1) := by decide +kernel
theorem dX6_readSort_45 : decode cX6_readSort 45 = .ok (.aload_n 0, 1) := by decide +kernel
theorem dX6_readSort_46 : decode cX6_readSort 46 = .ok (.aload_n 1, 1) := by decide +kernel
theorem dX6_readSort_47 : decode cX6_readSort 47 = .ok (.invokevirtual 60, 3) := by decide +kernel
theorem dX6_readSort_50 : decode cX6_readSort 50 = .ok (.istore 4, 2) := by decide +kernel
theorem dX6_readSort_52 : decode cX6_readSort 52 = .ok (.aload_n 0, 1) := by decide +kernel
theorem dX6_readSort_53 : decode cX6_readSort 53 = .ok (.getfield 12, 3) := by decide +kernel
theorem dX6_readSort_56 : decode cX6_readSort 56 = .ok (.iload_n 2, 1) := by decide +kernel
theorem dX6_readSort_57 : decode cX6_readSort 57 = .ok (.iload_n 3, 1) := by decide +kernel
theorem dX6_readSort_58 : decode cX6_readSort 58 = .ok (.iload 4, 2) := by decide +kernel
theorem dX6_readSort_60 : decode cX6_readSort 60 = .ok (.invokevirtual 74, 3) := by decide +kernel
theorem dX6_readSort_63 : decode cX6_readSort 63 = .ok (.iload 4, 2) := by decide +kernel
theorem dX6_readSort_65 : decode cX6_readSort 65 = .ok (.iconst (-1), 1) := by decide +kernel
theorem dX6_readSort_66 : decode cX6_readSort 66 = .ok (.if_icmp .eq 7, 3) := by decide +kernel
theorem dX6_readSort_69 : decode cX6_readSort 69 = .ok (.iconst 1, 1) := by decide +kernel
theorem dX6_readSort_70 : decode cX6_readSort 70 = .ok (.goto 4, 3) := by decide +kernel
theorem dX6_readSort_73 : decode cX6_readSort 73 = .ok (.iconst 0, 1) := by decide +kernel
theorem dX6_readSort_74 : decode cX6_readSort 74 = .ok (.ireturn, 1) := by decide +kernel
set_option maxRecDepth 100000 in
set_option maxHeartbeats 4000000 in
theorem tb_X6_readSort_0 {K : sd_K} {E : sd_Env}  {h1 : Nat} {r : (Int32 × sd_Mem)} (C : sd_C K E sd_LC RX6 cX6_readSort 5 (some .boolean)) (k1 : sd_kd h1 = 2) : ∀ (M : sd_Mem) (x2 : Int32), fn_X6_readSort_0 h1 M x2 = some r → sd_Z K rm_X6_readSort E sd_LC 5 (sd_QI K E sd_LC r.1 r.2) M 0 [(0, .ref (E.2.2 60)), (1, .ref (E.2.2 h1)), (2, .int x2)] [] := by
  intro M x2 hF
  unfold fn_X6_readSort_0 at hF
  refine sd_aload_n C 0 dX6_readSort_0 rfl rfl rfl (n' := 1) ?_
  refine sd_g6_0 C sd_i60 sd_k60 sd_w201 dX6_readSort_1 rfl (n' := 4) ?_
  refine sd_iload_n C 2 dX6_readSort_4 rfl rfl rfl (n' := 5) ?_
  obtain ⟨q5, e5, hF⟩ := sd_bind hF
  refine sd_callVI [.int x2] [] C (ct_X5_sorts M 49 x2 sd_k49 e5) sd_lX6_43 ⟨rfl, rfl, Nat.le_of_ble_eq_true rfl, Nat.le_of_ble_eq_true rfl⟩ sd_i49 (sd_e6 sd_k49) rfl rfl rfl (Nat.le_of_ble_eq_true rfl) dX6_readSort_5 rfl (n' := 8) ?_
  refine sd_iconst C (v := 3) dX6_readSort_8 rfl rfl (n' := 9) ?_
  refine sd_icmp_lt C (n' := 12) (tgt := 14) dX6_readSort_9 rfl rfl (fun c9 => ?_) (fun c9 => ?_)
  · replace hF := sd_pos hF c9
    refine sd_aload_n C 0 dX6_readSort_14 rfl rfl rfl (n' := 15) ?_
    refine sd_aload_n C 1 dX6_readSort_15 rfl rfl rfl (n' := 16) ?_
    obtain ⟨q16, e16, hF⟩ := sd_bind hF
    refine sd_callVI [.ref (E.2.2 h1)] [] C (ct_X6_readValue M h1 k1 e16) sd_lX6_60 ⟨rfl, rfl, Nat.le_of_ble_eq_true rfl, Nat.le_of_ble_eq_true rfl⟩ sd_i60 (sd_e7 sd_k60) rfl rfl rfl (Nat.le_of_ble_eq_true rfl) dX6_readSort_16 rfl (n' := 19) ?_
    refine sd_istore_n [(3, .int q16.1), (0, .ref (E.2.2 60)), (1, .ref (E.2.2 h1)), (2, .int x2)] C dX6_readSort_19 rfl (by decide) rfl rfl (n' := 20) ?_
    refine sd_iload_n C 0 dX6_readSort_20 rfl rfl rfl (n' := 21) ?_
    refine sd_iconst C (v := 1) dX6_readSort_21 rfl rfl (n' := 22) ?_
    refine sd_bipush C (v := 9) dX6_readSort_22 rfl rfl (n' := 24) ?_
    obtain ⟨q24, e24, hF⟩ := sd_bind hF
    refine sd_callNI [.int q16.1, .int (1 : Int32), .int (9 : Int32)] [] C (ct_X10_within q16.2 q16.1 (1 : Int32) (9 : Int32)  e24) sd_lX6_67 ⟨rfl, rfl, Nat.le_of_ble_eq_true rfl, Nat.le_of_ble_eq_true rfl⟩ rfl (Nat.le_of_ble_eq_true rfl) dX6_readSort_24 rfl (n' := 27) ?_
    refine sd_if_eq C (n' := 30) (tgt := 43) dX6_readSort_27 rfl rfl (fun c27 => ?_) (fun c27 => ?_)
    · replace hF := sd_pos hF c27
      refine sd_iconst C (v := 0) dX6_readSort_43 rfl rfl (n' := 44) ?_
      exact sd_zret C dX6_readSort_44 rfl (sd_fst hF) (sd_snd hF)
    · replace hF := sd_neg hF c27
      refine sd_aload_n C 2 dX6_readSort_30 rfl rfl rfl (n' := 31) ?_
      refine sd_aload_n C 1 dX6_readSort_31 rfl rfl rfl (n' := 32) ?_
      refine sd_g6_1 C sd_i60 sd_k60 sd_w202 dX6_readSort_32 rfl (n' := 35) ?_
      obtain ⟨q35, e35, hF⟩ := sd_bind hF
      refine sd_callVI [.int (q16.2.1 60 1)] [] C (ct_X1_cell q16.2 h1 (q16.2.1 60 1) k1 e35) sd_lX6_53 ⟨rfl, rfl, Nat.le_of_ble_eq_true rfl, Nat.le_of_ble_eq_true rfl⟩ (sd_mC (sd_m2 k1)) (sd_e2 k1) rfl rfl rfl (Nat.le_of_ble_eq_true rfl) dX6_readSort_35 rfl (n' := 38) ?_
      refine sd_bipush C (v := 44) dX6_readSort_38 rfl rfl (n' := 40) ?_
      refine sd_icmp_eq C (n' := 43) (tgt := 45) dX6_readSort_40 rfl rfl (fun c40 => ?_) (fun c40 => ?_)
      · replace hF := sd_pos hF c40
        refine sd_aload_n C 1 dX6_readSort_45 rfl rfl rfl (n' := 46) ?_
        refine sd_aload_n C 2 dX6_readSort_46 rfl rfl rfl (n' := 47) ?_
        obtain ⟨q47, e47, hF⟩ := sd_bind hF
        refine sd_callVI [.ref (E.2.2 h1)] [] C (ct_X6_readValue q16.2 h1 k1 e47) sd_lX6_60 ⟨rfl, rfl, Nat.le_of_ble_eq_true rfl, Nat.le_of_ble_eq_true rfl⟩ sd_i60 (sd_e7 sd_k60) rfl rfl rfl (Nat.le_of_ble_eq_true rfl) dX6_readSort_47 rfl (n' := 50) ?_
        refine sd_istore [(4, .int q47.1), (3, .int q16.1), (0, .ref (E.2.2 60)), (1, .ref (E.2.2 h1)), (2, .int x2)] C dX6_readSort_50 (by decide) rfl rfl (n' := 52) ?_
        refine sd_aload_n C 2 dX6_readSort_52 rfl rfl rfl (n' := 53) ?_
        refine sd_g6_0 C sd_i60 sd_k60 sd_w201 dX6_readSort_53 rfl (n' := 56) ?_
        refine sd_iload_n C 4 dX6_readSort_56 rfl rfl rfl (n' := 57) ?_
        refine sd_iload_n C 1 dX6_readSort_57 rfl rfl rfl (n' := 58) ?_
        refine sd_iload C 0 dX6_readSort_58 rfl rfl (n' := 60) ?_
        obtain ⟨q60, e60, hF⟩ := sd_bind hF
        refine sd_callVV [.int x2, .int q16.1, .int q47.1] [] C (ct_X5_addSort q47.2 49 x2 q16.1 q47.1 sd_k49 e60) sd_lX6_74 ⟨rfl, rfl, Nat.le_of_ble_eq_true rfl, Nat.le_of_ble_eq_true rfl⟩ sd_i49 (sd_e6 sd_k49) rfl rfl rfl (Nat.le_of_ble_eq_true rfl) dX6_readSort_60 rfl (n' := 63) ?_
        refine sd_iload C 0 dX6_readSort_63 rfl rfl (n' := 65) ?_
        refine sd_iconst C (v := -1) dX6_readSort_65 rfl rfl (n' := 66) ?_
        refine sd_icmp_eq C (n' := 69) (tgt := 73) dX6_readSort_66 rfl rfl (fun c66 => ?_) (fun c66 => ?_)
        · replace hF := sd_pos hF c66
          refine sd_iconst C (v := 0) dX6_readSort_73 rfl rfl (n' := 74) ?_
          exact sd_zret C dX6_readSort_74 rfl (sd_fst hF) (sd_snd hF)
        · replace hF := sd_neg hF c66
          refine sd_iconst C (v := 1) dX6_readSort_69 rfl rfl (n' := 70) ?_
          refine sd_goto C (tgt := 74) dX6_readSort_70 rfl ?_
          exact sd_zret C dX6_readSort_74 rfl (sd_fst hF) (sd_snd hF)
      · replace hF := sd_neg hF c40
        refine sd_iconst C (v := 0) dX6_readSort_43 rfl rfl (n' := 44) ?_
        exact sd_zret C dX6_readSort_44 rfl (sd_fst hF) (sd_snd hF)
  · replace hF := sd_neg hF c9
    refine sd_iconst C (v := 0) dX6_readSort_12 rfl rfl (n' := 13) ?_
    exact sd_zret C dX6_readSort_13 rfl (sd_fst hF) (sd_snd hF)
theorem ct_X6_readSort {l : Launch} {E : sd_Env} (M : sd_Mem) (h1 : Nat) (x2 : Int32) (k1 : sd_kd h1 = 2) {r : (Int32 × sd_Mem)} (hF : fn_X6_readSort M h1 x2 = some r) : sd_MI l E sd_LC yX6_readSort cX6_readSort 5 (some .boolean) rm_X6_readSort [.ref (E.2.2 60), .ref (E.2.2 h1), .int x2] M r.1 r.2 := sd_ent0 (by decide +kernel) (Nat.le_of_ble_eq_true rfl) (fun p e s m below meth c C => tb_X6_readSort_0 C k1 M x2 hF)
