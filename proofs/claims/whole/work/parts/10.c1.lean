set_option maxRecDepth 100000 in
set_option maxHeartbeats 4000000 in
theorem tb_J7_fill_53178_q_5 {K : sd_K} {E : sd_Env}  {h0 : Nat} {r : sd_Mem} (C : sd_C K E sd_LQ RJ7 cJ7_fill_53178 4 none) (k0 : sd_kd h0 = 20) (m0 : h0 ∈ sd_LQ) : ∀ (n : Nat), ∀ (M : sd_Mem) (x1 : Int32) (x2 : Int32) (x3 : Int32), fn_J7_fill_53178_5 h0 n M x1 x2 x3 = some r → sd_Z K rm_J7_fill_53178 E sd_LQ 4 (sd_QV K E sd_LQ r) M 5 [(0, .ref (E.2.2 h0)), (1, .int x1), (2, .int x2), (3, .int x3)] [] := by
  intro n
  induction n with
  | zero => intro M x1 x2 x3 hF; cases hF
  | succ n ih =>
    intro M x1 x2 x3 hF
    unfold fn_J7_fill_53178_5 at hF
    refine sd_iload_n C 2 dJ7_fill_53178_5 rfl rfl rfl (n' := 6) ?_
    refine sd_iload_n C 3 dJ7_fill_53178_6 rfl rfl rfl (n' := 7) ?_
    refine sd_icmp_ge C (n' := 10) (tgt := 20) dJ7_fill_53178_7 rfl rfl (fun c7 => ?_) (fun c7 => ?_)
    · replace hF := sd_pos hF c7
      exact sd_vret C dJ7_fill_53178_20 (Option.some.inj hF)
    · replace hF := sd_neg hF c7
      refine sd_aload_n C 0 dJ7_fill_53178_10 rfl rfl rfl (n' := 11) ?_
      refine sd_iload_n C 2 dJ7_fill_53178_11 rfl rfl rfl (n' := 12) ?_
      refine sd_iload_n C 1 dJ7_fill_53178_12 rfl rfl rfl (n' := 13) ?_
      obtain ⟨b13, hF⟩ := sd_ok hF
      refine sd_iast C m0 k0 rfl b13 dJ7_fill_53178_13 rfl (n' := 14) ?_
      refine sd_iinc [(2, .int (x2 + (1 : Int32))), (0, .ref (E.2.2 h0)), (1, .int x1), (3, .int x3)] 2 C dJ7_fill_53178_14 rfl rfl (by decide) rfl rfl (n' := 17) ?_
      refine sd_goto C (tgt := 5) dJ7_fill_53178_17 rfl ?_
      refine sd_sub [1, 2, 0, 3] rfl ?_
      exact ih (sd_setI M h0 x2.toNatClampNeg x1) x1 (x2 + (1 : Int32)) x3 hF
set_option maxRecDepth 100000 in
set_option maxHeartbeats 4000000 in
theorem tb_J7_fill_53178_q_0 {K : sd_K} {E : sd_Env}  {h0 : Nat} {r : sd_Mem} (C : sd_C K E sd_LQ RJ7 cJ7_fill_53178 4 none) (k0 : sd_kd h0 = 20) (m0 : h0 ∈ sd_LQ) : ∀ (M : sd_Mem) (x1 : Int32), fn_J7_fill_53178_0 h0 M x1 = some r → sd_Z K rm_J7_fill_53178 E sd_LQ 4 (sd_QV K E sd_LQ r) M 0 [(0, .ref (E.2.2 h0)), (1, .int x1)] [] := by
  intro M x1 hF
  unfold fn_J7_fill_53178_0 at hF
  refine sd_iconst C (v := 0) dJ7_fill_53178_0 rfl rfl (n' := 1) ?_
  refine sd_istore_n [(2, .int (0 : Int32)), (0, .ref (E.2.2 h0)), (1, .int x1)] C dJ7_fill_53178_1 rfl (by decide) rfl rfl (n' := 2) ?_
  refine sd_aload_n C 1 dJ7_fill_53178_2 rfl rfl rfl (n' := 3) ?_
  refine sd_alen C m0 k0 rfl rfl dJ7_fill_53178_3 rfl (n' := 4) ?_
  refine sd_istore_n [(3, .int (Int32.ofNat (sd_ln h0))), (2, .int (0 : Int32)), (0, .ref (E.2.2 h0)), (1, .int x1)] C dJ7_fill_53178_4 rfl (by decide) rfl rfl (n' := 5) ?_
  refine sd_sub [2, 3, 1, 0] rfl ?_
  exact tb_J7_fill_53178_q_5 C k0 m0 sd_FU M x1 (0 : Int32) (Int32.ofNat (sd_ln h0)) hF
theorem ct_J7_fill_53178_q {l : Launch} {E : sd_Env} (M : sd_Mem) (h0 : Nat) (x1 : Int32) (k0 : sd_kd h0 = 20) (m0 : h0 ∈ sd_LQ) {r : sd_Mem} (hF : fn_J7_fill_53178 M h0 x1 = some r) : sd_MV l E sd_LQ yJ7_fill_53178 cJ7_fill_53178 4 none rm_J7_fill_53178 [.ref (E.2.2 h0), .int x1] M r := sd_ent0 (by decide +kernel) (Nat.le_of_ble_eq_true rfl) (fun p e s m below meth c C => tb_J7_fill_53178_q_0 C k0 m0 M x1 hF)
set_option maxRecDepth 100000 in
set_option maxHeartbeats 4000000 in
theorem tb_X5_sorts_q_0 {K : sd_K} {E : sd_Env} {M : sd_Mem} {h0 : Nat} {r : Int32} (C : sd_C K E sd_LQ RX5 cX5_sorts 2 (some .int)) (k0 : sd_kd h0 = 6) (m0 : h0 = 40) : ∀ (x1 : Int32), fn_X5_sorts_0 M h0 x1 = some r → sd_Z K rm_X5_sorts E sd_LQ 2 (sd_QI K E sd_LQ r M) M 0 [(0, .ref (E.2.2 h0)), (1, .int x1)] [] := by
  intro x1 hF
  unfold fn_X5_sorts_0 at hF
  refine sd_iload_n C 1 dX5_sorts_0 rfl rfl rfl (n' := 1) ?_
  refine sd_if_eq C (n' := 4) (tgt := 9) dX5_sorts_1 rfl rfl (fun c1 => ?_) (fun c1 => ?_)
  · replace hF := sd_pos hF c1
    refine sd_aload_n C 0 dX5_sorts_9 rfl rfl rfl (n' := 10) ?_
    refine sd_g5_0 C (sd_mQ (by omega) (by omega)) k0 sd_w130 dX5_sorts_10 rfl (n' := 13) ?_
    refine sd_iload_n C 1 dX5_sorts_13 rfl rfl rfl (n' := 14) ?_
    obtain ⟨b14, hF⟩ := sd_ok hF
    refine sd_iald C (sd_mQ (by omega) (by omega)) ((sd_c6 k0).1.1) ((sd_c6 k0).1.2) b14 dX5_sorts_14 rfl (n' := 15) ?_
    refine sd_goto C (tgt := 19) dX5_sorts_15 rfl ?_
    exact sd_iret C dX5_sorts_19 (Option.some.inj hF) rfl
  · replace hF := sd_neg hF c1
    refine sd_iload_n C 1 dX5_sorts_4 rfl rfl rfl (n' := 5) ?_
    refine sd_iconst C (v := 1) dX5_sorts_5 rfl rfl (n' := 6) ?_
    refine sd_icmp_ne C (n' := 9) (tgt := 18) dX5_sorts_6 rfl rfl (fun c6 => ?_) (fun c6 => ?_)
    · replace hF := sd_neg hF c6
      refine sd_iconst C (v := 0) dX5_sorts_18 rfl rfl (n' := 19) ?_
      exact sd_iret C dX5_sorts_19 (Option.some.inj hF) rfl
    · replace hF := sd_pos hF c6
      refine sd_aload_n C 0 dX5_sorts_9 rfl rfl rfl (n' := 10) ?_
      refine sd_g5_0 C (sd_mQ (by omega) (by omega)) k0 sd_w130 dX5_sorts_10 rfl (n' := 13) ?_
      refine sd_iload_n C 1 dX5_sorts_13 rfl rfl rfl (n' := 14) ?_
      obtain ⟨b14, hF⟩ := sd_ok hF
      refine sd_iald C (sd_mQ (by omega) (by omega)) ((sd_c6 k0).1.1) ((sd_c6 k0).1.2) b14 dX5_sorts_14 rfl (n' := 15) ?_
      refine sd_goto C (tgt := 19) dX5_sorts_15 rfl ?_
      exact sd_iret C dX5_sorts_19 (Option.some.inj hF) rfl
theorem ct_X5_sorts_q {l : Launch} {E : sd_Env} (M : sd_Mem) (h0 : Nat) (x1 : Int32) (k0 : sd_kd h0 = 6) (m0 : h0 = 40) {r : Int32} (hF : fn_X5_sorts M h0 x1 = some r) : sd_MI l E sd_LQ yX5_sorts cX5_sorts 2 (some .int) rm_X5_sorts [.ref (E.2.2 h0), .int x1] M r M := sd_ent0 (by decide +kernel) (Nat.le_of_ble_eq_true rfl) (fun p e s m below meth c C => tb_X5_sorts_q_0 C k0 m0 x1 hF)
set_option maxRecDepth 100000 in
set_option maxHeartbeats 4000000 in
theorem tb_X10_within_q_0 {K : sd_K} {E : sd_Env} {M : sd_Mem}  {r : Int32} (C : sd_C K E sd_LQ RX10 cX10_within 3 (some .boolean))  : ∀ (x0 : Int32) (x1 : Int32) (x2 : Int32), fn_X10_within_0 x0 x1 x2 = some r → sd_Z K rm_X10_within E sd_LQ 3 (sd_QI K E sd_LQ r M) M 0 [(0, .int x0), (1, .int x1), (2, .int x2)] [] := by
  intro x0 x1 x2 hF
  unfold fn_X10_within_0 at hF
  refine sd_iload_n C 0 dX10_within_0 rfl rfl rfl (n' := 1) ?_
  refine sd_iload_n C 1 dX10_within_1 rfl rfl rfl (n' := 2) ?_
  refine sd_icmp_lt C (n' := 5) (tgt := 14) dX10_within_2 rfl rfl (fun c2 => ?_) (fun c2 => ?_)
  · replace hF := sd_pos hF c2
    refine sd_iconst C (v := 0) dX10_within_14 rfl rfl (n' := 15) ?_
    exact sd_zret C dX10_within_15 rfl (Option.some.inj hF) rfl
  · replace hF := sd_neg hF c2
    refine sd_iload_n C 0 dX10_within_5 rfl rfl rfl (n' := 6) ?_
    refine sd_iload_n C 2 dX10_within_6 rfl rfl rfl (n' := 7) ?_
    refine sd_icmp_gt C (n' := 10) (tgt := 14) dX10_within_7 rfl rfl (fun c7 => ?_) (fun c7 => ?_)
    · replace hF := sd_pos hF c7
      refine sd_iconst C (v := 0) dX10_within_14 rfl rfl (n' := 15) ?_
      exact sd_zret C dX10_within_15 rfl (Option.some.inj hF) rfl
    · replace hF := sd_neg hF c7
      refine sd_iconst C (v := 1) dX10_within_10 rfl rfl (n' := 11) ?_
      refine sd_goto C (tgt := 15) dX10_within_11 rfl ?_
      exact sd_zret C dX10_within_15 rfl (Option.some.inj hF) rfl
theorem ct_X10_within_q {l : Launch} {E : sd_Env} (M : sd_Mem) (x0 : Int32) (x1 : Int32) (x2 : Int32)  {r : Int32} (hF : fn_X10_within x0 x1 x2 = some r) : sd_MI l E sd_LQ yX10_within cX10_within 3 (some .boolean) rm_X10_within [.int x0, .int x1, .int x2] M r M := sd_ent0 (by decide +kernel) (Nat.le_of_ble_eq_true rfl) (fun p e s m below meth c C => tb_X10_within_q_0 C x0 x1 x2 hF)
set_option maxRecDepth 100000 in
set_option maxHeartbeats 4000000 in
theorem tb_X5_clear_q_0 {K : sd_K} {E : sd_Env}  {h0 : Nat} {r : sd_Mem} (C : sd_C K E sd_LQ RX5 cX5_clear 1 none) (k0 : sd_kd h0 = 6) (m0 : h0 = 40) : ∀ (M : sd_Mem), fn_X5_clear_0 h0 M = some r → sd_Z K rm_X5_clear E sd_LQ 1 (sd_QV K E sd_LQ r) M 0 [(0, .ref (E.2.2 h0))] [] := by
  intro M hF
  unfold fn_X5_clear_0 at hF
  refine sd_aload_n C 0 dX5_clear_0 rfl rfl rfl (n' := 1) ?_
  refine sd_g5_0 C (sd_mQ (by omega) (by omega)) k0 sd_w130 dX5_clear_1 rfl (n' := 4) ?_
  refine sd_iconst C (v := 0) dX5_clear_4 rfl rfl (n' := 5) ?_
  obtain ⟨q5, e5, hF⟩ := sd_bind hF
  refine sd_callSV [.ref (E.2.2 (h0 + 1)), .int (0 : Int32)] [] C (ct_J7_fill_53178_q M (h0 + 1) (0 : Int32) ((sd_c6 k0).1.1) (sd_mQ (by omega) (by omega)) e5) sd_lX5_33 ⟨rfl, rfl, Nat.le_of_ble_eq_true rfl, Nat.le_of_ble_eq_true rfl⟩ rfl (Nat.le_of_ble_eq_true rfl) dX5_clear_5 rfl (n' := 8) ?_
  refine sd_aload_n C 0 dX5_clear_8 rfl rfl rfl (n' := 9) ?_
  refine sd_g5_1 C (sd_mQ (by omega) (by omega)) k0 sd_w131 dX5_clear_9 rfl (n' := 12) ?_
  refine sd_iconst C (v := 0) dX5_clear_12 rfl rfl (n' := 13) ?_
  obtain ⟨q13, e13, hF⟩ := sd_bind hF
  refine sd_callSV [.ref (E.2.2 (h0 + 2)), .int (0 : Int32)] [] C (ct_J7_fill_53178_q q5 (h0 + 2) (0 : Int32) ((sd_c6 k0).2.1.1) (sd_mQ (by omega) (by omega)) e13) sd_lX5_33 ⟨rfl, rfl, Nat.le_of_ble_eq_true rfl, Nat.le_of_ble_eq_true rfl⟩ rfl (Nat.le_of_ble_eq_true rfl) dX5_clear_13 rfl (n' := 16) ?_
  refine sd_aload_n C 0 dX5_clear_16 rfl rfl rfl (n' := 17) ?_
  refine sd_bipush C (v := 10) dX5_clear_17 rfl rfl (n' := 19) ?_
  refine sd_p5_4 C (sd_mQ (by omega) (by omega)) k0 sd_w134 dX5_clear_19 rfl (n' := 22) ?_
  refine sd_aload_n C 0 dX5_clear_22 rfl rfl rfl (n' := 23) ?_
  refine sd_bipush C (v := 20) dX5_clear_23 rfl rfl (n' := 25) ?_
  refine sd_p5_5 C (sd_mQ (by omega) (by omega)) k0 sd_w138 dX5_clear_25 rfl (n' := 28) ?_
  refine sd_aload_n C 0 dX5_clear_28 rfl rfl rfl (n' := 29) ?_
  refine sd_iconst C (v := 5) dX5_clear_29 rfl rfl (n' := 30) ?_
  refine sd_p5_6 C (sd_mQ (by omega) (by omega)) k0 sd_w142 dX5_clear_30 rfl (n' := 33) ?_
  refine sd_aload_n C 0 dX5_clear_33 rfl rfl rfl (n' := 34) ?_
  refine sd_iconst C (v := 5) dX5_clear_34 rfl rfl (n' := 35) ?_
  refine sd_p5_7 C (sd_mQ (by omega) (by omega)) k0 sd_w145 dX5_clear_35 rfl (n' := 38) ?_
  exact sd_vret C dX5_clear_38 (Option.some.inj hF)
theorem ct_X5_clear_q {l : Launch} {E : sd_Env} (M : sd_Mem) (h0 : Nat) (k0 : sd_kd h0 = 6) (m0 : h0 = 40) {r : sd_Mem} (hF : fn_X5_clear M h0 = some r) : sd_MV l E sd_LQ yX5_clear cX5_clear 1 none rm_X5_clear [.ref (E.2.2 h0)] M r := sd_ent0 (by decide +kernel) (Nat.le_of_ble_eq_true rfl) (fun p e s m below meth c C => tb_X5_clear_q_0 C k0 m0 M hF)
set_option maxRecDepth 100000 in
set_option maxHeartbeats 4000000 in
theorem tb_X5_addSort_q_0 {K : sd_K} {E : sd_Env}  {h0 : Nat} {r : sd_Mem} (C : sd_C K E sd_LQ RX5 cX5_addSort 5 none) (k0 : sd_kd h0 = 6) (m0 : h0 = 40) : ∀ (M : sd_Mem) (x1 : Int32) (x2 : Int32) (x3 : Int32), fn_X5_addSort_0 h0 M x1 x2 x3 = some r → sd_Z K rm_X5_addSort E sd_LQ 5 (sd_QV K E sd_LQ r) M 0 [(0, .ref (E.2.2 h0)), (1, .int x1), (2, .int x2), (3, .int x3)] [] := by
  intro M x1 x2 x3 hF
  unfold fn_X5_addSort_0 at hF
  refine sd_aload_n C 0 dX5_addSort_0 rfl rfl rfl (n' := 1) ?_
  refine sd_iload_n C 1 dX5_addSort_1 rfl rfl rfl (n' := 2) ?_
  obtain ⟨q2, e2, hF⟩ := sd_bind hF
  refine sd_callVI [.int x1] [] C (ct_X5_sorts_q M h0 x1 k0 m0 e2) sd_lX5_52 ⟨rfl, rfl, Nat.le_of_ble_eq_true rfl, Nat.le_of_ble_eq_true rfl⟩ (sd_mQ (by omega) (by omega)) (sd_e6 k0) rfl rfl rfl (Nat.le_of_ble_eq_true rfl) dX5_addSort_2 rfl (n' := 5) ?_
  refine sd_istore [(4, .int q2), (0, .ref (E.2.2 h0)), (1, .int x1), (2, .int x2), (3, .int x3)] C dX5_addSort_5 (by decide) rfl rfl (n' := 7) ?_
  refine sd_iload_n C 2 dX5_addSort_7 rfl rfl rfl (n' := 8) ?_
  refine sd_iconst C (v := 0) dX5_addSort_8 rfl rfl (n' := 9) ?_
  refine sd_iconst C (v := 1) dX5_addSort_9 rfl rfl (n' := 10) ?_
  obtain ⟨q10, e10, hF⟩ := sd_bind hF
  refine sd_callNI [.int x1, .int (0 : Int32), .int (1 : Int32)] [] C (ct_X10_within_q M x1 (0 : Int32) (1 : Int32)  e10) sd_lX5_55 ⟨rfl, rfl, Nat.le_of_ble_eq_true rfl, Nat.le_of_ble_eq_true rfl⟩ rfl (Nat.le_of_ble_eq_true rfl) dX5_addSort_10 rfl (n' := 13) ?_
  refine sd_if_eq C (n' := 16) (tgt := 62) dX5_addSort_13 rfl rfl (fun c13 => ?_) (fun c13 => ?_)
  · replace hF := sd_pos hF c13
    exact sd_vret C dX5_addSort_62 (Option.some.inj hF)
  · replace hF := sd_neg hF c13
    refine sd_iload C 0 dX5_addSort_16 rfl rfl (n' := 18) ?_
    refine sd_iconst C (v := 3) dX5_addSort_18 rfl rfl (n' := 19) ?_
    refine sd_icmp_ge C (n' := 22) (tgt := 62) dX5_addSort_19 rfl rfl (fun c19 => ?_) (fun c19 => ?_)
    · replace hF := sd_pos hF c19
      exact sd_vret C dX5_addSort_62 (Option.some.inj hF)
    · replace hF := sd_neg hF c19
      refine sd_aload_n C 1 dX5_addSort_22 rfl rfl rfl (n' := 23) ?_
      refine sd_g5_2 C (sd_mQ (by omega) (by omega)) k0 sd_w132 dX5_addSort_23 rfl (n' := 26) ?_
      refine sd_iload_n C 2 dX5_addSort_26 rfl rfl rfl (n' := 27) ?_
      obtain ⟨b27, hF⟩ := sd_ok hF
      refine sd_gald C (sd_mQ (by omega) (by omega)) ((sd_c6 k0).2.2.1.1) ((sd_c6 k0).2.2.1.2) b27 dX5_addSort_27 rfl (n' := 28) ?_
      refine sd_iload C 0 dX5_addSort_28 rfl rfl (n' := 30) ?_
      refine sd_iload_n C 3 dX5_addSort_30 rfl rfl rfl (n' := 31) ?_
      obtain ⟨b31, hF⟩ := sd_ok hF
      refine sd_iast C (by have := sd_in_lt b27; exact sd_mQ (by omega) (by omega)) ((sd_c6j k0 (sd_in_lt b27)).1.1) ((sd_c6j k0 (sd_in_lt b27)).1.2) b31 dX5_addSort_31 rfl (n' := 32) ?_
      refine sd_aload_n C 1 dX5_addSort_32 rfl rfl rfl (n' := 33) ?_
      refine sd_g5_3 C (sd_mQ (by omega) (by omega)) k0 sd_w133 dX5_addSort_33 rfl (n' := 36) ?_
      refine sd_iload_n C 2 dX5_addSort_36 rfl rfl rfl (n' := 37) ?_
      obtain ⟨b37, hF⟩ := sd_ok hF
      refine sd_gald C (sd_mQ (by omega) (by omega)) ((sd_c6 k0).2.2.2.1.1) ((sd_c6 k0).2.2.2.1.2) b37 dX5_addSort_37 rfl (n' := 38) ?_
      refine sd_iload C 0 dX5_addSort_38 rfl rfl (n' := 40) ?_
      refine sd_iload_n C 4 dX5_addSort_40 rfl rfl rfl (n' := 41) ?_
      obtain ⟨b41, hF⟩ := sd_ok hF
      refine sd_iast C (by have := sd_in_lt b37; exact sd_mQ (by omega) (by omega)) ((sd_c6j k0 (sd_in_lt b37)).2.1) ((sd_c6j k0 (sd_in_lt b37)).2.2) b41 dX5_addSort_41 rfl (n' := 42) ?_
      refine sd_aload_n C 1 dX5_addSort_42 rfl rfl rfl (n' := 43) ?_
      refine sd_g5_0 C (sd_mQ (by omega) (by omega)) k0 sd_w130 dX5_addSort_43 rfl (n' := 46) ?_
      refine sd_iload_n C 2 dX5_addSort_46 rfl rfl rfl (n' := 47) ?_
      refine sd_iload C 0 dX5_addSort_47 rfl rfl (n' := 49) ?_
      refine sd_iconst C (v := 1) dX5_addSort_49 rfl rfl (n' := 50) ?_
      refine sd_iadd C dX5_addSort_50 rfl (n' := 51) ?_
      obtain ⟨b51, hF⟩ := sd_ok hF
      refine sd_iast C (sd_mQ (by omega) (by omega)) ((sd_c6 k0).1.1) ((sd_c6 k0).1.2) b51 dX5_addSort_51 rfl (n' := 52) ?_
      refine sd_aload_n C 1 dX5_addSort_52 rfl rfl rfl (n' := 53) ?_
      refine sd_g5_1 C (sd_mQ (by omega) (by omega)) k0 sd_w131 dX5_addSort_53 rfl (n' := 56) ?_
      refine sd_iload_n C 2 dX5_addSort_56 rfl rfl rfl (n' := 57) ?_
      refine sd_dup2 C dX5_addSort_57 rfl rfl rfl (n' := 58) ?_
      obtain ⟨b58, hF⟩ := sd_ok hF
      refine sd_iald C (sd_mQ (by omega) (by omega)) ((sd_c6 k0).2.1.1) ((sd_c6 k0).2.1.2) b58 dX5_addSort_58 rfl (n' := 59) ?_
      refine sd_iload_n C 3 dX5_addSort_59 rfl rfl rfl (n' := 60) ?_
      refine sd_iadd C dX5_addSort_60 rfl (n' := 61) ?_
      obtain ⟨b61, hF⟩ := sd_ok hF
      refine sd_iast C (sd_mQ (by omega) (by omega)) ((sd_c6 k0).2.1.1) ((sd_c6 k0).2.1.2) b61 dX5_addSort_61 rfl (n' := 62) ?_
      exact sd_vret C dX5_addSort_62 (Option.some.inj hF)
theorem ct_X5_addSort_q {l : Launch} {E : sd_Env} (M : sd_Mem) (h0 : Nat) (x1 : Int32) (x2 : Int32) (x3 : Int32) (k0 : sd_kd h0 = 6) (m0 : h0 = 40) {r : sd_Mem} (hF : fn_X5_addSort M h0 x1 x2 x3 = some r) : sd_MV l E sd_LQ yX5_addSort cX5_addSort 5 none rm_X5_addSort [.ref (E.2.2 h0), .int x1, .int x2, .int x3] M r := sd_ent0 (by decide +kernel) (Nat.le_of_ble_eq_true rfl) (fun p e s m below meth c C => tb_X5_addSort_q_0 C k0 m0 M x1 x2 x3 hF)
theorem sd_getD {α : Type} {o : Option α} {d : α} (h : o.isSome = true) : o = some (o.getD d) := by cases o with | none => cases h | some a => rfl
def sd_Q1 : sd_Mem := (fn_X5_clear sd_M0 40).getD sd_M0
theorem sd_q1 : fn_X5_clear sd_M0 40 = some sd_Q1 := sd_getD (by decide +kernel)
def sd_Q2 : sd_Mem := (fn_X5_addSort sd_Q1 40 (0 : Int32) (1 : Int32) (1 : Int32)).getD sd_M0
theorem sd_q2 : fn_X5_addSort sd_Q1 40 (0 : Int32) (1 : Int32) (1 : Int32) = some sd_Q2 := sd_getD (by decide +kernel)
def sd_Q3 : sd_Mem := (fn_X5_addSort sd_Q2 40 (1 : Int32) (1 : Int32) (1 : Int32)).getD sd_M0
theorem sd_q3 : fn_X5_addSort sd_Q2 40 (1 : Int32) (1 : Int32) (1 : Int32) = some sd_Q3 := sd_getD (by decide +kernel)
theorem sd_al40 {f : Nat → Nat} {h0 : Nat} (h : f 40 = h0) : (fun id => if id = 40 then h0 else f id) = f := funext fun id => by
  by_cases e : id = 40
  · subst e; rw [if_pos rfl, h]
  · rw [if_neg e]
theorem sd_twelve {f g : Nat → Option Nat} (h0 : f 0 = g 0) (h1 : f 1 = g 1) (h2 : f 2 = g 2) (h3 : f 3 = g 3) (h4 : f 4 = g 4) (h5 : f 5 = g 5) (h6 : f 6 = g 6) (h7 : f 7 = g 7) (h8 : f 8 = g 8) (h9 : f 9 = g 9) (h10 : f 10 = g 10) (h11 : f 11 = g 11) : ∀ j, j < 12 → f j = g j := fun j hj => by
  rcases (show j = 0 ∨ j = 1 ∨ j = 2 ∨ j = 3 ∨ j = 4 ∨ j = 5 ∨ j = 6 ∨ j = 7 ∨ j = 8 ∨ j = 9 ∨ j = 10 ∨ j = 11 by omega) with rfl | rfl | rfl | rfl | rfl | rfl | rfl | rfl | rfl | rfl | rfl | rfl <;> assumption
def w1_X5g (Q : sd_Mem) (E : sd_Env) (h0 : Nat) (u : Nat → Nat) : va_W := sd_pic (E.1, E.2.1, fun id => if id = 40 then h0 else u id) sd_LQ Q
def w1_X6g (Q : sd_Mem) (E : sd_Env) (h0 : Nat) (u : Nat → Nat) : va_W := (h0, .inr (6, [.ref (u 0), .int (0 : Int32)])) :: w1_X5g Q E (u 0) (fun j => u (j + 1))
def rm_X5_init : Room := { frames := 2, cells := 8, slots := 20, locals := 46 }
def w1_X5_init (E : sd_Env) (h0 : Nat)  (u : Nat → Nat) : va_W := w1_X5g sd_Q3 E h0 u
theorem dX5_init_0 : decode cX5_init 0 = .ok (.aload_n 0, 1) := by decide +kernel
theorem dX5_init_1 : decode cX5_init 1 = .ok (.invokespecial 3, 3) := by decide +kernel
theorem dX5_init_4 : decode cX5_init 4 = .ok (.aload_n 0, 1) := by decide +kernel
theorem dX5_init_5 : decode cX5_init 5 = .ok (.iconst 2, 1) := by decide +kernel
theorem dX5_init_6 : decode cX5_init 6 = .ok (.newarray .int, 2) := by decide +kernel
theorem dX5_init_8 : decode cX5_init 8 = .ok (.putfield 9, 3) := by decide +kernel
theorem dX5_init_11 : decode cX5_init 11 = .ok (.aload_n 0, 1) := by decide +kernel
theorem dX5_init_12 : decode cX5_init 12 = .ok (.iconst 2, 1) := by decide +kernel
theorem dX5_init_13 : decode cX5_init 13 = .ok (.newarray .int, 2) := by decide +kernel
theorem dX5_init_15 : decode cX5_init 15 = .ok (.putfield 15, 3) := by decide +kernel
theorem dX5_init_18 : decode cX5_init 18 = .ok (.aload_n 0, 1) := by decide +kernel
theorem dX5_init_19 : decode cX5_init 19 = .ok (.iconst 2, 1) := by decide +kernel
theorem dX5_init_20 : decode cX5_init 20 = .ok (.iconst 3, 1) := by decide +kernel
theorem dX5_init_21 : decode cX5_init 21 = .ok (.multianewarray 18 2, 4) := by decide +kernel
theorem dX5_init_25 : decode cX5_init 25 = .ok (.putfield 20, 3) := by decide +kernel
theorem dX5_init_28 : decode cX5_init 28 = .ok (.aload_n 0, 1) := by decide +kernel
theorem dX5_init_29 : decode cX5_init 29 = .ok (.iconst 2, 1) := by decide +kernel
theorem dX5_init_30 : decode cX5_init 30 = .ok (.iconst 3, 1) := by decide +kernel
theorem dX5_init_31 : decode cX5_init 31 = .ok (.multianewarray 18 2, 4) := by decide +kernel
theorem dX5_init_35 : decode cX5_init 35 = .ok (.putfield 23, 3) := by decide +kernel
theorem dX5_init_38 : decode cX5_init 38 = .ok (.aload_n 0, 1) := by decide +kernel
theorem dX5_init_39 : decode cX5_init 39 = .ok (.invokevirtual 26, 3) := by decide +kernel
theorem dX5_init_42 : decode cX5_init 42 = .ok (.aload_n 0, 1) := by decide +kernel
theorem dX5_init_43 : decode cX5_init 43 = .ok (.iconst 0, 1) := by decide +kernel
theorem dX5_init_44 : decode cX5_init 44 = .ok (.iconst 1, 1) := by decide +kernel
theorem dX5_init_45 : decode cX5_init 45 = .ok (.iconst 1, 1) := by decide +kernel
theorem dX5_init_46 : decode cX5_init 46 = .ok (.invokevirtual 29, 3) := by decide +kernel
theorem dX5_init_49 : decode cX5_init 49 = .ok (.aload_n 0, 1) := by decide +kernel
theorem dX5_init_50 : decode cX5_init 50 = .ok (.iconst 1, 1) := by decide +kernel
theorem dX5_init_51 : decode cX5_init 51 = .ok (.iconst 1, 1) := by decide +kernel
theorem dX5_init_52 : decode cX5_init 52 = .ok (.iconst 1, 1) := by decide +kernel
theorem dX5_init_53 : decode cX5_init 53 = .ok (.invokevirtual 29, 3) := by decide +kernel
theorem dX5_init_56 : decode cX5_init 56 = .ok (.return_, 1) := by decide +kernel
set_option maxRecDepth 100000 in
set_option maxHeartbeats 8000000 in
theorem cc_X5_init {l : Launch} {E : sd_Env} (h0 : Nat)  : sd_MC l E yX5_init cX5_init 1 rm_X5_init [.ref h0] [(h0, .inr (5, [.null, .null, .null, .null, .int 0, .int 0, .int 0, .int 0]))] 8 20 (w1_X5_init E h0 ) := by
  refine sd_entC (by decide +kernel) (Nat.le_of_ble_eq_true rfl) ?_
  intro p e s m below meth c G hin
  show sd_Y _ _ _ _ _ _ _ _ _ _ [(0, .ref h0)] _
  refine sd_yaload_n G 0 dX5_init_0 rfl rfl rfl (n' := 1) ?_
  refine sd_yobj G sd_w109 sd_wob1 sd_wob2 (Nat.le_of_ble_eq_true rfl) (Nat.le_of_ble_eq_true rfl) dX5_init_1 rfl (n' := 4) ?_
  refine sd_yaload_n G 0 dX5_init_4 rfl rfl rfl (n' := 5) ?_
  refine sd_yiconst G (v := 2) dX5_init_5 rfl rfl (n' := 6) ?_
  refine sd_ynewa [] G (ty := .int) (a0 := (2, .inl (fun _ => 0))) (N' := 2) 0 sd_w167 rfl rfl (fun _ => rfl) (by decide) (by decide) (by decide) (Nat.le_of_ble_eq_true rfl) (Nat.le_of_ble_eq_true rfl) dX5_init_6 rfl (n' := 8) (fun q0 => ?_)
  refine sd_yw (ws' := [(h0, .inr (5, [.null, .null, .null, .null, .int 0, .int 0, .int 0, .int 0])), (q0, .inl (E.2.1 0, 2, .inl (fun _ => 0)))]) rfl ?_
  refine sd_yputF ([(h0, .inr (5, [.ref q0, .null, .null, .null, .int 0, .int 0, .int 0, .int 0])), (q0, .inl (E.2.1 0, 2, .inl (fun _ => 0)))]) G (T := TX5) (N := 8) 0 0 rfl rfl sd_in5 tyX5_ok nmX5 (by decide) sd_w130 rfl hin rfl (tyX5_ok 0 (by decide)) rfl rfl (Nat.le_of_ble_eq_true rfl) rfl dX5_init_8 rfl (n' := 11) ?_
  refine sd_yaload_n G 0 dX5_init_11 rfl rfl rfl (n' := 12) ?_
  refine sd_yiconst G (v := 2) dX5_init_12 rfl rfl (n' := 13) ?_
  refine sd_ynewa [] G (ty := .int) (a0 := (2, .inl (fun _ => 0))) (N' := 2) 0 sd_w167 rfl rfl (fun _ => rfl) (by decide) (by decide) (by decide) (Nat.le_of_ble_eq_true rfl) (Nat.le_of_ble_eq_true rfl) dX5_init_13 rfl (n' := 15) (fun q1 => ?_)
  refine sd_yw (ws' := [(h0, .inr (5, [.ref q0, .null, .null, .null, .int 0, .int 0, .int 0, .int 0])), (q0, .inl (E.2.1 0, 2, .inl (fun _ => 0))), (q1, .inl (E.2.1 0, 2, .inl (fun _ => 0)))]) rfl ?_
  refine sd_yputF ([(h0, .inr (5, [.ref q0, .ref q1, .null, .null, .int 0, .int 0, .int 0, .int 0])), (q0, .inl (E.2.1 0, 2, .inl (fun _ => 0))), (q1, .inl (E.2.1 0, 2, .inl (fun _ => 0)))]) G (T := TX5) (N := 8) 0 1 rfl rfl sd_in5 tyX5_ok nmX5 (by decide) sd_w131 rfl hin rfl (tyX5_ok 1 (by decide)) rfl rfl (Nat.le_of_ble_eq_true rfl) rfl dX5_init_15 rfl (n' := 18) ?_
  refine sd_yaload_n G 0 dX5_init_18 rfl rfl rfl (n' := 19) ?_
  refine sd_yiconst G (v := 2) dX5_init_19 rfl rfl (n' := 20) ?_
  refine sd_yiconst G (v := 3) dX5_init_20 rfl rfl (n' := 21) ?_
  refine sd_ymna G (ty := .int) (N' := 2) (K' := 3) (z := (3, .inl (fun _ => 0))) 5 0 sd_w110 G.2.2.2.2.2.2.2.2.2.2.1.2.2.1 sd_w167 rfl rfl (fun _ h => by cases h) (by decide) (by decide) (by decide) (by decide) (by decide) (by decide) (by decide) rfl rfl (Nat.le_of_ble_eq_true rfl) (Nat.le_of_ble_eq_true rfl) (sd_inner_int 3) dX5_init_21 rfl (n' := 25) (fun q2 r2 => ?_)
  refine sd_yw (ws' := [(h0, .inr (5, [.ref q0, .ref q1, .null, .null, .int 0, .int 0, .int 0, .int 0])), (q0, .inl (E.2.1 0, 2, .inl (fun _ => 0))), (q1, .inl (E.2.1 0, 2, .inl (fun _ => 0))), (q2, .inl (E.2.1 5, 2, .inr (.inr (.inr (.inr (fun i => if i < 2 then some (r2 i) else none)))))), ((r2 0), .inl (E.2.1 0, 3, .inl (fun _ => 0))), ((r2 1), .inl (E.2.1 0, 3, .inl (fun _ => 0)))]) rfl ?_
  refine sd_yputF ([(h0, .inr (5, [.ref q0, .ref q1, .ref q2, .null, .int 0, .int 0, .int 0, .int 0])), (q0, .inl (E.2.1 0, 2, .inl (fun _ => 0))), (q1, .inl (E.2.1 0, 2, .inl (fun _ => 0))), (q2, .inl (E.2.1 5, 2, .inr (.inr (.inr (.inr (fun i => if i < 2 then some (r2 i) else none)))))), ((r2 0), .inl (E.2.1 0, 3, .inl (fun _ => 0))), ((r2 1), .inl (E.2.1 0, 3, .inl (fun _ => 0)))]) G (T := TX5) (N := 8) 0 2 rfl rfl sd_in5 tyX5_ok nmX5 (by decide) sd_w132 rfl hin rfl (tyX5_ok 2 (by decide)) rfl rfl (Nat.le_of_ble_eq_true rfl) rfl dX5_init_25 rfl (n' := 28) ?_
  refine sd_yaload_n G 0 dX5_init_28 rfl rfl rfl (n' := 29) ?_
  refine sd_yiconst G (v := 2) dX5_init_29 rfl rfl (n' := 30) ?_
  refine sd_yiconst G (v := 3) dX5_init_30 rfl rfl (n' := 31) ?_
  refine sd_ymna G (ty := .int) (N' := 2) (K' := 3) (z := (3, .inl (fun _ => 0))) 5 0 sd_w110 G.2.2.2.2.2.2.2.2.2.2.1.2.2.1 sd_w167 rfl rfl (fun _ h => by cases h) (by decide) (by decide) (by decide) (by decide) (by decide) (by decide) (by decide) rfl rfl (Nat.le_of_ble_eq_true rfl) (Nat.le_of_ble_eq_true rfl) (sd_inner_int 3) dX5_init_31 rfl (n' := 35) (fun q3 r3 => ?_)
  refine sd_yw (ws' := [(h0, .inr (5, [.ref q0, .ref q1, .ref q2, .null, .int 0, .int 0, .int 0, .int 0])), (q0, .inl (E.2.1 0, 2, .inl (fun _ => 0))), (q1, .inl (E.2.1 0, 2, .inl (fun _ => 0))), (q2, .inl (E.2.1 5, 2, .inr (.inr (.inr (.inr (fun i => if i < 2 then some (r2 i) else none)))))), ((r2 0), .inl (E.2.1 0, 3, .inl (fun _ => 0))), ((r2 1), .inl (E.2.1 0, 3, .inl (fun _ => 0))), (q3, .inl (E.2.1 5, 2, .inr (.inr (.inr (.inr (fun i => if i < 2 then some (r3 i) else none)))))), ((r3 0), .inl (E.2.1 0, 3, .inl (fun _ => 0))), ((r3 1), .inl (E.2.1 0, 3, .inl (fun _ => 0)))]) rfl ?_
  refine sd_yputF ([(h0, .inr (5, [.ref q0, .ref q1, .ref q2, .ref q3, .int 0, .int 0, .int 0, .int 0])), (q0, .inl (E.2.1 0, 2, .inl (fun _ => 0))), (q1, .inl (E.2.1 0, 2, .inl (fun _ => 0))), (q2, .inl (E.2.1 5, 2, .inr (.inr (.inr (.inr (fun i => if i < 2 then some (r2 i) else none)))))), ((r2 0), .inl (E.2.1 0, 3, .inl (fun _ => 0))), ((r2 1), .inl (E.2.1 0, 3, .inl (fun _ => 0))), (q3, .inl (E.2.1 5, 2, .inr (.inr (.inr (.inr (fun i => if i < 2 then some (r3 i) else none)))))), ((r3 0), .inl (E.2.1 0, 3, .inl (fun _ => 0))), ((r3 1), .inl (E.2.1 0, 3, .inl (fun _ => 0)))]) G (T := TX5) (N := 8) 0 3 rfl rfl sd_in5 tyX5_ok nmX5 (by decide) sd_w133 rfl hin rfl (tyX5_ok 3 (by decide)) rfl rfl (Nat.le_of_ble_eq_true rfl) rfl dX5_init_35 rfl (n' := 38) ?_
  refine sd_yaload_n G 0 dX5_init_38 rfl rfl rfl (n' := 39) ?_
  refine sd_ycg 3 (g := fun j => some ((fun id => [h0, q0, q1, q2, (r2 0), (r2 1), q3, (r3 0), (r3 1)].getD (id - 40) 0) (43 + 1 + j))) rfl (sd_two rfl rfl) ?_
  refine sd_ycg 6 (g := fun j => some ((fun id => [h0, q0, q1, q2, (r2 0), (r2 1), q3, (r3 0), (r3 1)].getD (id - 40) 0) (46 + 1 + j))) rfl (sd_two rfl rfl) ?_
  refine sd_yw (ws' := sd_pic (E.1, E.2.1, (fun id => [h0, q0, q1, q2, (r2 0), (r2 1), q3, (r3 0), (r3 1)].getD (id - 40) 0)) sd_LQ sd_M0) rfl ?_
  refine sd_ycall [] [] (fun id => [h0, q0, q1, q2, (r2 0), (r2 1), q3, (r3 0), (r3 1)].getD (id - 40) 0) G (id := 40) (ct_X5_clear_q sd_M0 40  rfl rfl sd_q1) sd_lX5_26 ⟨rfl, rfl, Nat.le_of_ble_eq_true rfl, Nat.le_of_ble_eq_true rfl⟩ (sd_mQ (by decide) (by decide)) (sd_e6 rfl) rfl rfl rfl rfl (Nat.le_of_ble_eq_true rfl) ⟨Nat.le_of_ble_eq_true rfl, Nat.le_of_ble_eq_true rfl⟩ dX5_init_39 rfl (n' := 42) ?_
  refine sd_yaload_n G 0 dX5_init_42 rfl rfl rfl (n' := 43) ?_
  refine sd_yiconst G (v := 0) dX5_init_43 rfl rfl (n' := 44) ?_
  refine sd_yiconst G (v := 1) dX5_init_44 rfl rfl (n' := 45) ?_
  refine sd_yiconst G (v := 1) dX5_init_45 rfl rfl (n' := 46) ?_
  refine sd_ycall [.int (0 : Int32), .int (1 : Int32), .int (1 : Int32)] [] (fun id => [h0, q0, q1, q2, (r2 0), (r2 1), q3, (r3 0), (r3 1)].getD (id - 40) 0) G (id := 40) (ct_X5_addSort_q sd_Q1 40 (0 : Int32) (1 : Int32) (1 : Int32) rfl rfl sd_q2) sd_lX5_29 ⟨rfl, rfl, Nat.le_of_ble_eq_true rfl, Nat.le_of_ble_eq_true rfl⟩ (sd_mQ (by decide) (by decide)) (sd_e6 rfl) rfl rfl rfl rfl (Nat.le_of_ble_eq_true rfl) ⟨Nat.le_of_ble_eq_true rfl, Nat.le_of_ble_eq_true rfl⟩ dX5_init_46 rfl (n' := 49) ?_
  refine sd_yaload_n G 0 dX5_init_49 rfl rfl rfl (n' := 50) ?_
  refine sd_yiconst G (v := 1) dX5_init_50 rfl rfl (n' := 51) ?_
  refine sd_yiconst G (v := 1) dX5_init_51 rfl rfl (n' := 52) ?_
  refine sd_yiconst G (v := 1) dX5_init_52 rfl rfl (n' := 53) ?_
  refine sd_ycall [.int (1 : Int32), .int (1 : Int32), .int (1 : Int32)] [] (fun id => [h0, q0, q1, q2, (r2 0), (r2 1), q3, (r3 0), (r3 1)].getD (id - 40) 0) G (id := 40) (ct_X5_addSort_q sd_Q2 40 (1 : Int32) (1 : Int32) (1 : Int32) rfl rfl sd_q3) sd_lX5_29 ⟨rfl, rfl, Nat.le_of_ble_eq_true rfl, Nat.le_of_ble_eq_true rfl⟩ (sd_mQ (by decide) (by decide)) (sd_e6 rfl) rfl rfl rfl rfl (Nat.le_of_ble_eq_true rfl) ⟨Nat.le_of_ble_eq_true rfl, Nat.le_of_ble_eq_true rfl⟩ dX5_init_53 rfl (n' := 56) ?_
  exact sd_yret (below := below) (fun id => [h0, q0, q1, q2, (r2 0), (r2 1), q3, (r3 0), (r3 1)].getD (id - 40) 0) G dX5_init_56 (congrArg (fun a => sd_pic (E.1, E.2.1, a) sd_LQ sd_Q3) (sd_al40 rfl)).symm
def rm_X6_init : Room := { frames := 3, cells := 9, slots := 28, locals := 66 }
def w1_X6_init (E : sd_Env) (h0 : Nat)  (u : Nat → Nat) : va_W := w1_X6g sd_Q3 E h0 u
theorem dX6_init_0 : decode cX6_init 0 = .ok (.aload_n 0, 1) := by decide +kernel
theorem dX6_init_1 : decode cX6_init 1 = .ok (.invokespecial 3, 3) := by decide +kernel
theorem dX6_init_4 : decode cX6_init 4 = .ok (.aload_n 0, 1) := by decide +kernel
theorem dX6_init_5 : decode cX6_init 5 = .ok (.new 9, 3) := by decide +kernel
theorem dX6_init_8 : decode cX6_init 8 = .ok (.dup, 1) := by decide +kernel
theorem dX6_init_9 : decode cX6_init 9 = .ok (.invokespecial 11, 3) := by decide +kernel
theorem dX6_init_12 : decode cX6_init 12 = .ok (.putfield 12, 3) := by decide +kernel
theorem dX6_init_15 : decode cX6_init 15 = .ok (.aload_n 0, 1) := by decide +kernel
theorem dX6_init_16 : decode cX6_init 16 = .ok (.iconst 0, 1) := by decide +kernel
theorem dX6_init_17 : decode cX6_init 17 = .ok (.putfield 18, 3) := by decide +kernel
theorem dX6_init_20 : decode cX6_init 20 = .ok (.return_, 1) := by decide +kernel
set_option maxRecDepth 100000 in
set_option maxHeartbeats 8000000 in
theorem cc_X6_init {l : Launch} {E : sd_Env} (h0 : Nat)  : sd_MC l E yX6_init cX6_init 1 rm_X6_init [.ref h0] [(h0, .inr (6, [.null, .int 0]))] 9 28 (w1_X6_init E h0 ) := by
  refine sd_entC (by decide +kernel) (Nat.le_of_ble_eq_true rfl) ?_
  intro p e s m below meth c G hin
  show sd_Y _ _ _ _ _ _ _ _ _ _ [(0, .ref h0)] _
  refine sd_yaload_n G 0 dX6_init_0 rfl rfl rfl (n' := 1) ?_
  refine sd_yobj G sd_w198 sd_wob1 sd_wob2 (Nat.le_of_ble_eq_true rfl) (Nat.le_of_ble_eq_true rfl) dX6_init_1 rfl (n' := 4) ?_
  refine sd_yaload_n G 0 dX6_init_4 rfl rfl rfl (n' := 5) ?_
  refine sd_ynew G (T := TX5) (N := 8) (ci := 5) (fs := [.null, .null, .null, .null, .int 0, .int 0, .int 0, .int 0]) rfl sd_in5 tyX5_ok sd_w199 sd_w105 sd_w77 (by decide) (Nat.le_of_ble_eq_true rfl) (Nat.le_of_ble_eq_true rfl) dX6_init_5 rfl (n' := 8) (fun q0 => ?_)
  refine sd_ydup G dX6_init_8 rfl rfl (n' := 9) ?_
  refine sd_yinit [] [.ref q0, .ref h0] ([(h0, .inr (6, [.null, .int 0]))]) G (cc_X5_init q0) sd_w200 sd_w107 sd_w77 sd_w108 sd_nm_X5_init rfl ⟨rfl, rfl, Nat.le_of_ble_eq_true rfl, Nat.le_of_ble_eq_true rfl⟩ rfl rfl (Nat.le_of_ble_eq_true rfl) ⟨Nat.le_of_ble_eq_true rfl, Nat.le_of_ble_eq_true rfl⟩ dX6_init_9 rfl (n' := 12) (fun u0 => ?_)
  refine sd_yw (ws' := ((h0, .inr (6, [.null, .int 0])) :: (w1_X5_init E q0 u0))) rfl ?_
  refine sd_yputF (((h0, .inr (6, [.ref q0, .int 0])) :: (w1_X5_init E q0 u0))) G (T := TX6) (N := 2) 0 0 rfl rfl sd_in6 tyX6_ok nmX6 (by decide) sd_w201 rfl hin rfl (tyX6_ok 0 (by decide)) rfl rfl (Nat.le_of_ble_eq_true rfl) rfl dX6_init_12 rfl (n' := 15) ?_
  refine sd_yaload_n G 0 dX6_init_15 rfl rfl rfl (n' := 16) ?_
  refine sd_yiconst G (v := 0) dX6_init_16 rfl rfl (n' := 17) ?_
  refine sd_yput (((h0, .inr (6, [.ref q0, .int (0 : Int32)])) :: (w1_X5_init E q0 u0))) G (T := TX6) (N := 2) (ty := .int) 0 1 rfl rfl sd_in6 tyX6_ok nmX6 (by decide) sd_w202 rfl (tyX6_ok 1 (by decide)) rfl rfl (Nat.le_of_ble_eq_true rfl) rfl dX6_init_17 rfl (n' := 20) ?_
  exact sd_yret (below := below) (fun k => Nat.casesOn (motive := fun _ => Nat) k q0 (fun j => u0 j)) G dX6_init_20 rfl
def rm_X0_init : Room := { frames := 1, cells := 26, slots := 216, locals := 20 }
def w1_X0_init (E : sd_Env) (h0 : Nat) (a1 : Nat) (a2 : Nat) (u : Nat → Nat) : va_W := [(h0, .inr (0, [.ref a1, .ref a2, .ref (u 0), .ref (u 13)])), ((u 0), .inl (E.2.1 6, 12, .inr (.inr (.inr (.inr (fun i => some (u (1 + i)))))))), ((u 1), .inl (E.2.1 2, 8, .inr (.inl (fun _ => 0)))), ((u 2), .inl (E.2.1 2, 8, .inr (.inl (fun _ => 0)))), ((u 3), .inl (E.2.1 2, 8, .inr (.inl (fun _ => 0)))), ((u 4), .inl (E.2.1 2, 8, .inr (.inl (fun _ => 0)))), ((u 5), .inl (E.2.1 2, 8, .inr (.inl (fun _ => 0)))), ((u 6), .inl (E.2.1 2, 8, .inr (.inl (fun _ => 0)))), ((u 7), .inl (E.2.1 2, 8, .inr (.inl (fun _ => 0)))), ((u 8), .inl (E.2.1 2, 8, .inr (.inl (fun _ => 0)))), ((u 9), .inl (E.2.1 2, 8, .inr (.inl (fun _ => 0)))), ((u 10), .inl (E.2.1 2, 8, .inr (.inl (fun _ => 0)))), ((u 11), .inl (E.2.1 2, 8, .inr (.inl (fun _ => 0)))), ((u 12), .inl (E.2.1 2, 8, .inr (.inl (fun _ => 0)))), ((u 13), .inl (E.2.1 5, 12, .inr (.inr (.inr (.inr (fun i => some (u (14 + i)))))))), ((u 14), .inl (E.2.1 0, 8, .inl (fun _ => 0))), ((u 15), .inl (E.2.1 0, 8, .inl (fun _ => 0))), ((u 16), .inl (E.2.1 0, 8, .inl (fun _ => 0))), ((u 17), .inl (E.2.1 0, 8, .inl (fun _ => 0))), ((u 18), .inl (E.2.1 0, 8, .inl (fun _ => 0))), ((u 19), .inl (E.2.1 0, 8, .inl (fun _ => 0))), ((u 20), .inl (E.2.1 0, 8, .inl (fun _ => 0))), ((u 21), .inl (E.2.1 0, 8, .inl (fun _ => 0))), ((u 22), .inl (E.2.1 0, 8, .inl (fun _ => 0))), ((u 23), .inl (E.2.1 0, 8, .inl (fun _ => 0))), ((u 24), .inl (E.2.1 0, 8, .inl (fun _ => 0))), ((u 25), .inl (E.2.1 0, 8, .inl (fun _ => 0)))]
theorem dX0_init_0 : decode cX0_init 0 = .ok (.aload_n 0, 1) := by decide +kernel
theorem dX0_init_1 : decode cX0_init 1 = .ok (.invokespecial 3, 3) := by decide +kernel
theorem dX0_init_4 : decode cX0_init 4 = .ok (.aload_n 0, 1) := by decide +kernel
theorem dX0_init_5 : decode cX0_init 5 = .ok (.bipush 12, 2) := by decide +kernel
theorem dX0_init_7 : decode cX0_init 7 = .ok (.bipush 8, 2) := by decide +kernel
theorem dX0_init_9 : decode cX0_init 9 = .ok (.multianewarray 9 2, 4) := by decide +kernel
theorem dX0_init_13 : decode cX0_init 13 = .ok (.putfield 11, 3) := by decide +kernel
theorem dX0_init_16 : decode cX0_init 16 = .ok (.aload_n 0, 1) := by decide +kernel
theorem dX0_init_17 : decode cX0_init 17 = .ok (.bipush 12, 2) := by decide +kernel
theorem dX0_init_19 : decode cX0_init 19 = .ok (.bipush 8, 2) := by decide +kernel
theorem dX0_init_21 : decode cX0_init 21 = .ok (.multianewarray 16 2, 4) := by decide +kernel
theorem dX0_init_25 : decode cX0_init 25 = .ok (.putfield 18, 3) := by decide +kernel
theorem dX0_init_28 : decode cX0_init 28 = .ok (.aload_n 0, 1) := by decide +kernel
theorem dX0_init_29 : decode cX0_init 29 = .ok (.aload_n 1, 1) := by decide +kernel
theorem dX0_init_30 : decode cX0_init 30 = .ok (.putfield 21, 3) := by decide +kernel
theorem dX0_init_33 : decode cX0_init 33 = .ok (.aload_n 0, 1) := by decide +kernel
theorem dX0_init_34 : decode cX0_init 34 = .ok (.aload_n 2, 1) := by decide +kernel
theorem dX0_init_35 : decode cX0_init 35 = .ok (.putfield 25, 3) := by decide +kernel
theorem dX0_init_38 : decode cX0_init 38 = .ok (.return_, 1) := by decide +kernel
set_option maxRecDepth 100000 in
set_option maxHeartbeats 8000000 in
theorem cc_X0_init {l : Launch} {E : sd_Env} (h0 : Nat) (a1 : Nat) (a2 : Nat) : sd_MC l E yX0_init cX0_init 3 rm_X0_init [.ref h0, .ref a1, .ref a2] [(h0, .inr (0, [.null, .null, .null, .null]))] 26 216 (w1_X0_init E h0 a1 a2) := by
  refine sd_entC (by decide +kernel) (Nat.le_of_ble_eq_true rfl) ?_
  intro p e s m below meth c G hin
  show sd_Y _ _ _ _ _ _ _ _ _ _ [(0, .ref h0), (1, .ref a1), (2, .ref a2)] _
  refine sd_yaload_n G 0 dX0_init_0 rfl rfl rfl (n' := 1) ?_
  refine sd_yobj G sd_w226 sd_wob1 sd_wob2 (Nat.le_of_ble_eq_true rfl) (Nat.le_of_ble_eq_true rfl) dX0_init_1 rfl (n' := 4) ?_
  refine sd_yaload_n G 0 dX0_init_4 rfl rfl rfl (n' := 5) ?_
  refine sd_ybipush G (v := 12) dX0_init_5 rfl rfl (n' := 7) ?_
  refine sd_ybipush G (v := 8) dX0_init_7 rfl rfl (n' := 9) ?_
  refine sd_ymna G (ty := .long) (N' := 12) (K' := 8) (z := (8, .inr (.inl (fun _ => 0)))) 6 2 sd_w227 G.2.2.2.2.2.2.2.2.2.2.1.2.2.2 sd_w243 rfl rfl (fun _ h => by cases h) (by decide) (by decide) (by decide) (by decide) (by decide) (by decide) (by decide) rfl rfl (Nat.le_of_ble_eq_true rfl) (Nat.le_of_ble_eq_true rfl) (sd_inner_long 8) dX0_init_9 rfl (n' := 13) (fun q0 r0 => ?_)
  refine sd_yw (ws' := [(h0, .inr (0, [.null, .null, .null, .null])), (q0, .inl (E.2.1 6, 12, .inr (.inr (.inr (.inr (fun i => if i < 12 then some (r0 i) else none)))))), ((r0 0), .inl (E.2.1 2, 8, .inr (.inl (fun _ => 0)))), ((r0 1), .inl (E.2.1 2, 8, .inr (.inl (fun _ => 0)))), ((r0 2), .inl (E.2.1 2, 8, .inr (.inl (fun _ => 0)))), ((r0 3), .inl (E.2.1 2, 8, .inr (.inl (fun _ => 0)))), ((r0 4), .inl (E.2.1 2, 8, .inr (.inl (fun _ => 0)))), ((r0 5), .inl (E.2.1 2, 8, .inr (.inl (fun _ => 0)))), ((r0 6), .inl (E.2.1 2, 8, .inr (.inl (fun _ => 0)))), ((r0 7), .inl (E.2.1 2, 8, .inr (.inl (fun _ => 0)))), ((r0 8), .inl (E.2.1 2, 8, .inr (.inl (fun _ => 0)))), ((r0 9), .inl (E.2.1 2, 8, .inr (.inl (fun _ => 0)))), ((r0 10), .inl (E.2.1 2, 8, .inr (.inl (fun _ => 0)))), ((r0 11), .inl (E.2.1 2, 8, .inr (.inl (fun _ => 0))))]) rfl ?_
  refine sd_yputF ([(h0, .inr (0, [.null, .null, .ref q0, .null])), (q0, .inl (E.2.1 6, 12, .inr (.inr (.inr (.inr (fun i => if i < 12 then some (r0 i) else none)))))), ((r0 0), .inl (E.2.1 2, 8, .inr (.inl (fun _ => 0)))), ((r0 1), .inl (E.2.1 2, 8, .inr (.inl (fun _ => 0)))), ((r0 2), .inl (E.2.1 2, 8, .inr (.inl (fun _ => 0)))), ((r0 3), .inl (E.2.1 2, 8, .inr (.inl (fun _ => 0)))), ((r0 4), .inl (E.2.1 2, 8, .inr (.inl (fun _ => 0)))), ((r0 5), .inl (E.2.1 2, 8, .inr (.inl (fun _ => 0)))), ((r0 6), .inl (E.2.1 2, 8, .inr (.inl (fun _ => 0)))), ((r0 7), .inl (E.2.1 2, 8, .inr (.inl (fun _ => 0)))), ((r0 8), .inl (E.2.1 2, 8, .inr (.inl (fun _ => 0)))), ((r0 9), .inl (E.2.1 2, 8, .inr (.inl (fun _ => 0)))), ((r0 10), .inl (E.2.1 2, 8, .inr (.inl (fun _ => 0)))), ((r0 11), .inl (E.2.1 2, 8, .inr (.inl (fun _ => 0))))]) G (T := TX0) (N := 4) 0 2 rfl rfl sd_in0 tyX0_ok nmX0 (by decide) sd_w232 rfl hin rfl (tyX0_ok 2 (by decide)) rfl rfl (Nat.le_of_ble_eq_true rfl) rfl dX0_init_13 rfl (n' := 16) ?_
  refine sd_yaload_n G 0 dX0_init_16 rfl rfl rfl (n' := 17) ?_
  refine sd_ybipush G (v := 12) dX0_init_17 rfl rfl (n' := 19) ?_
  refine sd_ybipush G (v := 8) dX0_init_19 rfl rfl (n' := 21) ?_
  refine sd_ymna G (ty := .int) (N' := 12) (K' := 8) (z := (8, .inl (fun _ => 0))) 5 0 sd_w229 G.2.2.2.2.2.2.2.2.2.2.1.2.2.1 sd_w167 rfl rfl (fun _ h => by cases h) (by decide) (by decide) (by decide) (by decide) (by decide) (by decide) (by decide) rfl rfl (Nat.le_of_ble_eq_true rfl) (Nat.le_of_ble_eq_true rfl) (sd_inner_int 8) dX0_init_21 rfl (n' := 25) (fun q1 r1 => ?_)
  refine sd_yw (ws' := [(h0, .inr (0, [.null, .null, .ref q0, .null])), (q0, .inl (E.2.1 6, 12, .inr (.inr (.inr (.inr (fun i => if i < 12 then some (r0 i) else none)))))), ((r0 0), .inl (E.2.1 2, 8, .inr (.inl (fun _ => 0)))), ((r0 1), .inl (E.2.1 2, 8, .inr (.inl (fun _ => 0)))), ((r0 2), .inl (E.2.1 2, 8, .inr (.inl (fun _ => 0)))), ((r0 3), .inl (E.2.1 2, 8, .inr (.inl (fun _ => 0)))), ((r0 4), .inl (E.2.1 2, 8, .inr (.inl (fun _ => 0)))), ((r0 5), .inl (E.2.1 2, 8, .inr (.inl (fun _ => 0)))), ((r0 6), .inl (E.2.1 2, 8, .inr (.inl (fun _ => 0)))), ((r0 7), .inl (E.2.1 2, 8, .inr (.inl (fun _ => 0)))), ((r0 8), .inl (E.2.1 2, 8, .inr (.inl (fun _ => 0)))), ((r0 9), .inl (E.2.1 2, 8, .inr (.inl (fun _ => 0)))), ((r0 10), .inl (E.2.1 2, 8, .inr (.inl (fun _ => 0)))), ((r0 11), .inl (E.2.1 2, 8, .inr (.inl (fun _ => 0)))), (q1, .inl (E.2.1 5, 12, .inr (.inr (.inr (.inr (fun i => if i < 12 then some (r1 i) else none)))))), ((r1 0), .inl (E.2.1 0, 8, .inl (fun _ => 0))), ((r1 1), .inl (E.2.1 0, 8, .inl (fun _ => 0))), ((r1 2), .inl (E.2.1 0, 8, .inl (fun _ => 0))), ((r1 3), .inl (E.2.1 0, 8, .inl (fun _ => 0))), ((r1 4), .inl (E.2.1 0, 8, .inl (fun _ => 0))), ((r1 5), .inl (E.2.1 0, 8, .inl (fun _ => 0))), ((r1 6), .inl (E.2.1 0, 8, .inl (fun _ => 0))), ((r1 7), .inl (E.2.1 0, 8, .inl (fun _ => 0))), ((r1 8), .inl (E.2.1 0, 8, .inl (fun _ => 0))), ((r1 9), .inl (E.2.1 0, 8, .inl (fun _ => 0))), ((r1 10), .inl (E.2.1 0, 8, .inl (fun _ => 0))), ((r1 11), .inl (E.2.1 0, 8, .inl (fun _ => 0)))]) rfl ?_
  refine sd_yputF ([(h0, .inr (0, [.null, .null, .ref q0, .ref q1])), (q0, .inl (E.2.1 6, 12, .inr (.inr (.inr (.inr (fun i => if i < 12 then some (r0 i) else none)))))), ((r0 0), .inl (E.2.1 2, 8, .inr (.inl (fun _ => 0)))), ((r0 1), .inl (E.2.1 2, 8, .inr (.inl (fun _ => 0)))), ((r0 2), .inl (E.2.1 2, 8, .inr (.inl (fun _ => 0)))), ((r0 3), .inl (E.2.1 2, 8, .inr (.inl (fun _ => 0)))), ((r0 4), .inl (E.2.1 2, 8, .inr (.inl (fun _ => 0)))), ((r0 5), .inl (E.2.1 2, 8, .inr (.inl (fun _ => 0)))), ((r0 6), .inl (E.2.1 2, 8, .inr (.inl (fun _ => 0)))), ((r0 7), .inl (E.2.1 2, 8, .inr (.inl (fun _ => 0)))), ((r0 8), .inl (E.2.1 2, 8, .inr (.inl (fun _ => 0)))), ((r0 9), .inl (E.2.1 2, 8, .inr (.inl (fun _ => 0)))), ((r0 10), .inl (E.2.1 2, 8, .inr (.inl (fun _ => 0)))), ((r0 11), .inl (E.2.1 2, 8, .inr (.inl (fun _ => 0)))), (q1, .inl (E.2.1 5, 12, .inr (.inr (.inr (.inr (fun i => if i < 12 then some (r1 i) else none)))))), ((r1 0), .inl (E.2.1 0, 8, .inl (fun _ => 0))), ((r1 1), .inl (E.2.1 0, 8, .inl (fun _ => 0))), ((r1 2), .inl (E.2.1 0, 8, .inl (fun _ => 0))), ((r1 3), .inl (E.2.1 0, 8, .inl (fun _ => 0))), ((r1 4), .inl (E.2.1 0, 8, .inl (fun _ => 0))), ((r1 5), .inl (E.2.1 0, 8, .inl (fun _ => 0))), ((r1 6), .inl (E.2.1 0, 8, .inl (fun _ => 0))), ((r1 7), .inl (E.2.1 0, 8, .inl (fun _ => 0))), ((r1 8), .inl (E.2.1 0, 8, .inl (fun _ => 0))), ((r1 9), .inl (E.2.1 0, 8, .inl (fun _ => 0))), ((r1 10), .inl (E.2.1 0, 8, .inl (fun _ => 0))), ((r1 11), .inl (E.2.1 0, 8, .inl (fun _ => 0)))]) G (T := TX0) (N := 4) 0 3 rfl rfl sd_in0 tyX0_ok nmX0 (by decide) sd_w233 rfl hin rfl (tyX0_ok 3 (by decide)) rfl rfl (Nat.le_of_ble_eq_true rfl) rfl dX0_init_25 rfl (n' := 28) ?_
  refine sd_yaload_n G 0 dX0_init_28 rfl rfl rfl (n' := 29) ?_
  refine sd_yaload_n G 1 dX0_init_29 rfl rfl rfl (n' := 30) ?_
  refine sd_yputF ([(h0, .inr (0, [.ref a1, .null, .ref q0, .ref q1])), (q0, .inl (E.2.1 6, 12, .inr (.inr (.inr (.inr (fun i => if i < 12 then some (r0 i) else none)))))), ((r0 0), .inl (E.2.1 2, 8, .inr (.inl (fun _ => 0)))), ((r0 1), .inl (E.2.1 2, 8, .inr (.inl (fun _ => 0)))), ((r0 2), .inl (E.2.1 2, 8, .inr (.inl (fun _ => 0)))), ((r0 3), .inl (E.2.1 2, 8, .inr (.inl (fun _ => 0)))), ((r0 4), .inl (E.2.1 2, 8, .inr (.inl (fun _ => 0)))), ((r0 5), .inl (E.2.1 2, 8, .inr (.inl (fun _ => 0)))), ((r0 6), .inl (E.2.1 2, 8, .inr (.inl (fun _ => 0)))), ((r0 7), .inl (E.2.1 2, 8, .inr (.inl (fun _ => 0)))), ((r0 8), .inl (E.2.1 2, 8, .inr (.inl (fun _ => 0)))), ((r0 9), .inl (E.2.1 2, 8, .inr (.inl (fun _ => 0)))), ((r0 10), .inl (E.2.1 2, 8, .inr (.inl (fun _ => 0)))), ((r0 11), .inl (E.2.1 2, 8, .inr (.inl (fun _ => 0)))), (q1, .inl (E.2.1 5, 12, .inr (.inr (.inr (.inr (fun i => if i < 12 then some (r1 i) else none)))))), ((r1 0), .inl (E.2.1 0, 8, .inl (fun _ => 0))), ((r1 1), .inl (E.2.1 0, 8, .inl (fun _ => 0))), ((r1 2), .inl (E.2.1 0, 8, .inl (fun _ => 0))), ((r1 3), .inl (E.2.1 0, 8, .inl (fun _ => 0))), ((r1 4), .inl (E.2.1 0, 8, .inl (fun _ => 0))), ((r1 5), .inl (E.2.1 0, 8, .inl (fun _ => 0))), ((r1 6), .inl (E.2.1 0, 8, .inl (fun _ => 0))), ((r1 7), .inl (E.2.1 0, 8, .inl (fun _ => 0))), ((r1 8), .inl (E.2.1 0, 8, .inl (fun _ => 0))), ((r1 9), .inl (E.2.1 0, 8, .inl (fun _ => 0))), ((r1 10), .inl (E.2.1 0, 8, .inl (fun _ => 0))), ((r1 11), .inl (E.2.1 0, 8, .inl (fun _ => 0)))]) G (T := TX0) (N := 4) 0 0 rfl rfl sd_in0 tyX0_ok nmX0 (by decide) sd_w230 rfl hin rfl (tyX0_ok 0 (by decide)) rfl rfl (Nat.le_of_ble_eq_true rfl) rfl dX0_init_30 rfl (n' := 33) ?_
  refine sd_yaload_n G 0 dX0_init_33 rfl rfl rfl (n' := 34) ?_
  refine sd_yaload_n G 2 dX0_init_34 rfl rfl rfl (n' := 35) ?_
  refine sd_yputF ([(h0, .inr (0, [.ref a1, .ref a2, .ref q0, .ref q1])), (q0, .inl (E.2.1 6, 12, .inr (.inr (.inr (.inr (fun i => if i < 12 then some (r0 i) else none)))))), ((r0 0), .inl (E.2.1 2, 8, .inr (.inl (fun _ => 0)))), ((r0 1), .inl (E.2.1 2, 8, .inr (.inl (fun _ => 0)))), ((r0 2), .inl (E.2.1 2, 8, .inr (.inl (fun _ => 0)))), ((r0 3), .inl (E.2.1 2, 8, .inr (.inl (fun _ => 0)))), ((r0 4), .inl (E.2.1 2, 8, .inr (.inl (fun _ => 0)))), ((r0 5), .inl (E.2.1 2, 8, .inr (.inl (fun _ => 0)))), ((r0 6), .inl (E.2.1 2, 8, .inr (.inl (fun _ => 0)))), ((r0 7), .inl (E.2.1 2, 8, .inr (.inl (fun _ => 0)))), ((r0 8), .inl (E.2.1 2, 8, .inr (.inl (fun _ => 0)))), ((r0 9), .inl (E.2.1 2, 8, .inr (.inl (fun _ => 0)))), ((r0 10), .inl (E.2.1 2, 8, .inr (.inl (fun _ => 0)))), ((r0 11), .inl (E.2.1 2, 8, .inr (.inl (fun _ => 0)))), (q1, .inl (E.2.1 5, 12, .inr (.inr (.inr (.inr (fun i => if i < 12 then some (r1 i) else none)))))), ((r1 0), .inl (E.2.1 0, 8, .inl (fun _ => 0))), ((r1 1), .inl (E.2.1 0, 8, .inl (fun _ => 0))), ((r1 2), .inl (E.2.1 0, 8, .inl (fun _ => 0))), ((r1 3), .inl (E.2.1 0, 8, .inl (fun _ => 0))), ((r1 4), .inl (E.2.1 0, 8, .inl (fun _ => 0))), ((r1 5), .inl (E.2.1 0, 8, .inl (fun _ => 0))), ((r1 6), .inl (E.2.1 0, 8, .inl (fun _ => 0))), ((r1 7), .inl (E.2.1 0, 8, .inl (fun _ => 0))), ((r1 8), .inl (E.2.1 0, 8, .inl (fun _ => 0))), ((r1 9), .inl (E.2.1 0, 8, .inl (fun _ => 0))), ((r1 10), .inl (E.2.1 0, 8, .inl (fun _ => 0))), ((r1 11), .inl (E.2.1 0, 8, .inl (fun _ => 0)))]) G (T := TX0) (N := 4) 0 1 rfl rfl sd_in0 tyX0_ok nmX0 (by decide) sd_w231 rfl hin rfl (tyX0_ok 1 (by decide)) rfl rfl (Nat.le_of_ble_eq_true rfl) rfl dX0_init_35 rfl (n' := 38) ?_
  refine sd_ycg 1 (g := fun j => some ((fun k => [q0, (r0 0), (r0 1), (r0 2), (r0 3), (r0 4), (r0 5), (r0 6), (r0 7), (r0 8), (r0 9), (r0 10), (r0 11), q1, (r1 0), (r1 1), (r1 2), (r1 3), (r1 4), (r1 5), (r1 6), (r1 7), (r1 8), (r1 9), (r1 10), (r1 11)].getD k 0) (1 + j))) rfl (sd_twelve rfl rfl rfl rfl rfl rfl rfl rfl rfl rfl rfl rfl) ?_
  refine sd_ycg 14 (g := fun j => some ((fun k => [q0, (r0 0), (r0 1), (r0 2), (r0 3), (r0 4), (r0 5), (r0 6), (r0 7), (r0 8), (r0 9), (r0 10), (r0 11), q1, (r1 0), (r1 1), (r1 2), (r1 3), (r1 4), (r1 5), (r1 6), (r1 7), (r1 8), (r1 9), (r1 10), (r1 11)].getD k 0) (14 + j))) rfl (sd_twelve rfl rfl rfl rfl rfl rfl rfl rfl rfl rfl rfl rfl) ?_
  exact sd_yret (below := below) (fun k => [q0, (r0 0), (r0 1), (r0 2), (r0 3), (r0 4), (r0 5), (r0 6), (r0 7), (r0 8), (r0 9), (r0 10), (r0 11), q1, (r1 0), (r1 1), (r1 2), (r1 3), (r1 4), (r1 5), (r1 6), (r1 7), (r1 8), (r1 9), (r1 10), (r1 11)].getD k 0) G dX0_init_38 rfl
