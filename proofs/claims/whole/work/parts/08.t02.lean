theorem dX10_kind_0 : decode cX10_kind 0 = .ok (.iload_n 1, 1) := by decide +kernel
theorem dX10_kind_1 : decode cX10_kind 1 = .ok (.invokestatic 177, 3) := by decide +kernel
theorem dX10_kind_4 : decode cX10_kind 4 = .ok (.ifCond .ne 5, 3) := by decide +kernel
theorem dX10_kind_7 : decode cX10_kind 7 = .ok (.iconst (-1), 1) := by decide +kernel
theorem dX10_kind_8 : decode cX10_kind 8 = .ok (.ireturn, 1) := by decide +kernel
theorem dX10_kind_9 : decode cX10_kind 9 = .ok (.aload_n 0, 1) := by decide +kernel
theorem dX10_kind_10 : decode cX10_kind 10 = .ok (.getfield 20, 3) := by decide +kernel
theorem dX10_kind_13 : decode cX10_kind 13 = .ok (.iload_n 1, 1) := by decide +kernel
theorem dX10_kind_14 : decode cX10_kind 14 = .ok (.aaload, 1) := by decide +kernel
theorem dX10_kind_15 : decode cX10_kind 15 = .ok (.invokevirtual 185, 3) := by decide +kernel
theorem dX10_kind_18 : decode cX10_kind 18 = .ok (.ifCond .eq 12, 3) := by decide +kernel
theorem dX10_kind_21 : decode cX10_kind 21 = .ok (.aload_n 0, 1) := by decide +kernel
theorem dX10_kind_22 : decode cX10_kind 22 = .ok (.getfield 84, 3) := by decide +kernel
theorem dX10_kind_25 : decode cX10_kind 25 = .ok (.iconst 1, 1) := by decide +kernel
theorem dX10_kind_26 : decode cX10_kind 26 = .ok (.invokevirtual 100, 3) := by decide +kernel
theorem dX10_kind_29 : decode cX10_kind 29 = .ok (.ireturn, 1) := by decide +kernel
theorem dX10_kind_30 : decode cX10_kind 30 = .ok (.aload_n 0, 1) := by decide +kernel
theorem dX10_kind_31 : decode cX10_kind 31 = .ok (.getfield 20, 3) := by decide +kernel
theorem dX10_kind_34 : decode cX10_kind 34 = .ok (.iload_n 1, 1) := by decide +kernel
theorem dX10_kind_35 : decode cX10_kind 35 = .ok (.aaload, 1) := by decide +kernel
theorem dX10_kind_36 : decode cX10_kind 36 = .ok (.invokevirtual 198, 3) := by decide +kernel
theorem dX10_kind_39 : decode cX10_kind 39 = .ok (.ireturn, 1) := by decide +kernel
set_option maxRecDepth 100000 in
set_option maxHeartbeats 4000000 in
theorem tb_X10_kind_0 {K : sd_K} {E : sd_Env}   {r : (Int32 × sd_Mem)} (C : sd_C K E sd_LC RX10 cX10_kind 2 (some .int))  : ∀ (M : sd_Mem) (x1 : Int32), fn_X10_kind_0 M x1 = some r → sd_Z K rm_X10_kind E sd_LC 2 (sd_QI K E sd_LC r.1 r.2) M 0 [(0, .ref (E.2.2 0)), (1, .int x1)] [] := by
  intro M x1 hF
  unfold fn_X10_kind_0 at hF
  refine sd_iload_n C 1 dX10_kind_0 rfl rfl rfl (n' := 1) ?_
  obtain ⟨q1, e1, hF⟩ := sd_bind hF
  refine sd_callSI [.int x1] [] C (ct_X10_isWay M x1  e1) sd_lX10_177 ⟨rfl, rfl, Nat.le_of_ble_eq_true rfl, Nat.le_of_ble_eq_true rfl⟩ rfl (Nat.le_of_ble_eq_true rfl) dX10_kind_1 rfl (n' := 4) ?_
  refine sd_if_ne C (n' := 7) (tgt := 9) dX10_kind_4 rfl rfl (fun c4 => ?_) (fun c4 => ?_)
  · replace hF := sd_neg hF c4
    refine sd_aload_n C 0 dX10_kind_9 rfl rfl rfl (n' := 10) ?_
    refine sd_g10_2 C sd_i0 sd_k0 sd_w330 dX10_kind_10 rfl (n' := 13) ?_
    refine sd_iload_n C 1 dX10_kind_13 rfl rfl rfl (n' := 14) ?_
    obtain ⟨b14, hF⟩ := sd_ok hF
    refine sd_wald C sd_i23 sd_k23 sd_n23 b14 dX10_kind_14 rfl (n' := 15) ?_
    obtain ⟨q15, e15, hF⟩ := sd_bind hF
    refine sd_callVI [] [] C (ct_X9_isMissing M (23 + 1 + 2 * x1.toNatClampNeg) ((sd_r23 _ (sd_in_lt b14)).1) e15) sd_lX10_185 ⟨rfl, rfl, Nat.le_of_ble_eq_true rfl, Nat.le_of_ble_eq_true rfl⟩ (sd_mC (sd_r23 _ (sd_in_lt b14)).2) (sd_e10 ((sd_r23 _ (sd_in_lt b14)).1)) rfl rfl rfl (Nat.le_of_ble_eq_true rfl) dX10_kind_15 rfl (n' := 18) ?_
    refine sd_if_eq C (n' := 21) (tgt := 30) dX10_kind_18 rfl rfl (fun c18 => ?_) (fun c18 => ?_)
    · replace hF := sd_pos hF c18
      refine sd_aload_n C 0 dX10_kind_30 rfl rfl rfl (n' := 31) ?_
      refine sd_g10_2 C sd_i0 sd_k0 sd_w330 dX10_kind_31 rfl (n' := 34) ?_
      refine sd_iload_n C 1 dX10_kind_34 rfl rfl rfl (n' := 35) ?_
      obtain ⟨b35, hF⟩ := sd_ok hF
      refine sd_wald C sd_i23 sd_k23 sd_n23 b35 dX10_kind_35 rfl (n' := 36) ?_
      obtain ⟨q36, e36, hF⟩ := sd_bind hF
      refine sd_callVI [] [] C (ct_X9_ownKind M (23 + 1 + 2 * x1.toNatClampNeg) ((sd_r23 _ (sd_in_lt b35)).1) e36) sd_lX10_198 ⟨rfl, rfl, Nat.le_of_ble_eq_true rfl, Nat.le_of_ble_eq_true rfl⟩ (sd_mC (sd_r23 _ (sd_in_lt b35)).2) (sd_e10 ((sd_r23 _ (sd_in_lt b35)).1)) rfl rfl rfl (Nat.le_of_ble_eq_true rfl) dX10_kind_36 rfl (n' := 39) ?_
      exact sd_iret C dX10_kind_39 (sd_fst hF) (sd_snd hF)
    · replace hF := sd_neg hF c18
      refine sd_aload_n C 0 dX10_kind_21 rfl rfl rfl (n' := 22) ?_
      refine sd_g10_12 C sd_i0 sd_k0 sd_w340 dX10_kind_22 rfl (n' := 25) ?_
      refine sd_iconst C (v := 1) dX10_kind_25 rfl rfl (n' := 26) ?_
      obtain ⟨q26, e26, hF⟩ := sd_bind hF
      refine sd_callVI [.int (1 : Int32)] [] C (ct_X2_tell M (1 : Int32)  e26) sd_lX10_100 ⟨rfl, rfl, Nat.le_of_ble_eq_true rfl, Nat.le_of_ble_eq_true rfl⟩ sd_i97 (sd_e3 sd_k97) rfl rfl rfl (Nat.le_of_ble_eq_true rfl) dX10_kind_26 rfl (n' := 29) ?_
      exact sd_iret C dX10_kind_29 (sd_fst hF) (sd_snd hF)
  · replace hF := sd_pos hF c4
    refine sd_iconst C (v := -1) dX10_kind_7 rfl rfl (n' := 8) ?_
    exact sd_iret C dX10_kind_8 (sd_fst hF) (sd_snd hF)
theorem ct_X10_kind {l : Launch} {E : sd_Env} (M : sd_Mem) (x1 : Int32)  {r : (Int32 × sd_Mem)} (hF : fn_X10_kind M x1 = some r) : sd_MI l E sd_LC yX10_kind cX10_kind 2 (some .int) rm_X10_kind [.ref (E.2.2 0), .int x1] M r.1 r.2 := sd_ent0 (by decide +kernel) (Nat.le_of_ble_eq_true rfl) (fun p e s m below meth c C => tb_X10_kind_0 C M x1 hF)
theorem dX9_greatest_0 : decode cX9_greatest 0 = .ok (.iconst 0, 1) := by decide +kernel
theorem dX9_greatest_1 : decode cX9_greatest 1 = .ok (.istore_n 1, 1) := by decide +kernel
theorem dX9_greatest_2 : decode cX9_greatest 2 = .ok (.aload_n 0, 1) := by decide +kernel
theorem dX9_greatest_3 : decode cX9_greatest 3 = .ok (.getfield 9, 3) := by decide +kernel
theorem dX9_greatest_6 : decode cX9_greatest 6 = .ok (.astore_n 2, 1) := by decide +kernel
theorem dX9_greatest_7 : decode cX9_greatest 7 = .ok (.aload_n 2, 1) := by decide +kernel
theorem dX9_greatest_8 : decode cX9_greatest 8 = .ok (.arraylength, 1) := by decide +kernel
theorem dX9_greatest_9 : decode cX9_greatest 9 = .ok (.istore_n 3, 1) := by decide +kernel
theorem dX9_greatest_10 : decode cX9_greatest 10 = .ok (.iconst 0, 1) := by decide +kernel
theorem dX9_greatest_11 : decode cX9_greatest 11 = .ok (.istore 4, 2) := by decide +kernel
theorem dX9_greatest_13 : decode cX9_greatest 13 = .ok (.iload 4, 2) := by decide +kernel
theorem dX9_greatest_15 : decode cX9_greatest 15 = .ok (.iload_n 3, 1) := by decide +kernel
theorem dX9_greatest_16 : decode cX9_greatest 16 = .ok (.if_icmp .ge 22, 3) := by decide +kernel
theorem dX9_greatest_19 : decode cX9_greatest 19 = .ok (.aload_n 2, 1) := by decide +kernel
theorem dX9_greatest_20 : decode cX9_greatest 20 = .ok (.iload 4, 2) := by decide +kernel
theorem dX9_greatest_22 : decode cX9_greatest 22 = .ok (.iaload, 1) := by decide +kernel
theorem dX9_greatest_23 : decode cX9_greatest 23 = .ok (.istore 5, 2) := by decide +kernel
theorem dX9_greatest_25 : decode cX9_greatest 25 = .ok (.iload_n 1, 1) := by decide +kernel
theorem dX9_greatest_26 : decode cX9_greatest 26 = .ok (.iload 5, 2) := by decide +kernel
theorem dX9_greatest_28 : decode cX9_greatest 28 = .ok (.invokestatic 41, 3) := by decide +kernel
theorem dX9_greatest_31 : decode cX9_greatest 31 = .ok (.istore_n 1, 1) := by decide +kernel
theorem dX9_greatest_32 : decode cX9_greatest 32 = .ok (.iinc 4 1, 3) := by decide +kernel
theorem dX9_greatest_35 : decode cX9_greatest 35 = .ok (.goto (-22), 3) := by decide +kernel
theorem dX9_greatest_38 : decode cX9_greatest 38 = .ok (.iload_n 1, 1) := by decide +kernel
theorem dX9_greatest_39 : decode cX9_greatest 39 = .ok (.ireturn, 1) := by decide +kernel
set_option maxRecDepth 100000 in
set_option maxHeartbeats 4000000 in
theorem tb_X9_greatest_13 {K : sd_K} {E : sd_Env} {M : sd_Mem} {h0 : Nat} {r : Int32} (C : sd_C K E sd_LC RX9 cX9_greatest 6 (some .int)) (k0 : sd_kd h0 = 10) : ∀ (n : Nat), ∀ (x1 : Int32) (x3 : Int32) (x4 : Int32), fn_X9_greatest_13 M h0 n x1 x3 x4 = some r → sd_Z K rm_X9_greatest E sd_LC 6 (sd_QI K E sd_LC r M) M 13 [(1, .int x1), (2, .ref (E.2.2 (h0 + 1))), (3, .int x3), (4, .int x4)] [] := by
  intro n
  induction n with
  | zero => intro x1 x3 x4 hF; cases hF
  | succ n ih =>
    intro x1 x3 x4 hF
    unfold fn_X9_greatest_13 at hF
    refine sd_iload C 3 dX9_greatest_13 rfl rfl (n' := 15) ?_
    refine sd_iload_n C 2 dX9_greatest_15 rfl rfl rfl (n' := 16) ?_
    refine sd_icmp_ge C (n' := 19) (tgt := 38) dX9_greatest_16 rfl rfl (fun c16 => ?_) (fun c16 => ?_)
    · replace hF := sd_pos hF c16
      refine sd_iload_n C 0 dX9_greatest_38 rfl rfl rfl (n' := 39) ?_
      exact sd_iret C dX9_greatest_39 (Option.some.inj hF) rfl
    · replace hF := sd_neg hF c16
      refine sd_aload_n C 1 dX9_greatest_19 rfl rfl rfl (n' := 20) ?_
      refine sd_iload C 3 dX9_greatest_20 rfl rfl (n' := 22) ?_
      obtain ⟨b22, hF⟩ := sd_ok hF
      refine sd_iald C (sd_mC (sd_c10 k0).2.2) ((sd_c10 k0).1) ((sd_c10 k0).2.1) b22 dX9_greatest_22 rfl (n' := 23) ?_
      refine sd_istore [(5, .int (M.1 (h0 + 1) x4.toNatClampNeg)), (1, .int x1), (2, .ref (E.2.2 (h0 + 1))), (3, .int x3), (4, .int x4)] C dX9_greatest_23 (by decide) rfl rfl (n' := 25) ?_
      refine sd_iload_n C 1 dX9_greatest_25 rfl rfl rfl (n' := 26) ?_
      refine sd_iload C 0 dX9_greatest_26 rfl rfl (n' := 28) ?_
      refine sd_mmax C sd_w612 sd_wm_mmax_s sd_w87 sd_wm_mmax_c (Nat.le_of_ble_eq_true rfl) (Nat.le_of_ble_eq_true rfl) dX9_greatest_28 rfl (n' := 31) ?_
      refine sd_istore_n [(1, .int (if x1 < (M.1 (h0 + 1) x4.toNatClampNeg) then (M.1 (h0 + 1) x4.toNatClampNeg) else x1)), (5, .int (M.1 (h0 + 1) x4.toNatClampNeg)), (2, .ref (E.2.2 (h0 + 1))), (3, .int x3), (4, .int x4)] C dX9_greatest_31 rfl (by decide) rfl rfl (n' := 32) ?_
      refine sd_iinc [(4, .int (x4 + (1 : Int32))), (1, .int (if x1 < (M.1 (h0 + 1) x4.toNatClampNeg) then (M.1 (h0 + 1) x4.toNatClampNeg) else x1)), (5, .int (M.1 (h0 + 1) x4.toNatClampNeg)), (2, .ref (E.2.2 (h0 + 1))), (3, .int x3)] 4 C dX9_greatest_32 rfl rfl (by decide) rfl rfl (n' := 35) ?_
      refine sd_goto C (tgt := 13) dX9_greatest_35 rfl ?_
      refine sd_sub [1, 3, 4, 0] rfl ?_
      exact ih (if x1 < (M.1 (h0 + 1) x4.toNatClampNeg) then (M.1 (h0 + 1) x4.toNatClampNeg) else x1) x3 (x4 + (1 : Int32)) hF
set_option maxRecDepth 100000 in
set_option maxHeartbeats 4000000 in
theorem tb_X9_greatest_0 {K : sd_K} {E : sd_Env} {M : sd_Mem} {h0 : Nat} {r : Int32} (C : sd_C K E sd_LC RX9 cX9_greatest 6 (some .int)) (k0 : sd_kd h0 = 10) : fn_X9_greatest_0 M h0 = some r → sd_Z K rm_X9_greatest E sd_LC 6 (sd_QI K E sd_LC r M) M 0 [(0, .ref (E.2.2 h0))] [] := by
  intro hF
  unfold fn_X9_greatest_0 at hF
  refine sd_iconst C (v := 0) dX9_greatest_0 rfl rfl (n' := 1) ?_
  refine sd_istore_n [(1, .int (0 : Int32)), (0, .ref (E.2.2 h0))] C dX9_greatest_1 rfl (by decide) rfl rfl (n' := 2) ?_
  refine sd_aload_n C 1 dX9_greatest_2 rfl rfl rfl (n' := 3) ?_
  refine sd_g9_0 C (sd_mC (sd_m10 k0)) k0 sd_w321 dX9_greatest_3 rfl (n' := 6) ?_
  refine sd_astore_n [(2, .ref (E.2.2 (h0 + 1))), (1, .int (0 : Int32)), (0, .ref (E.2.2 h0))] C dX9_greatest_6 rfl (by decide) rfl rfl (n' := 7) ?_
  refine sd_aload_n C 0 dX9_greatest_7 rfl rfl rfl (n' := 8) ?_
  refine sd_alen C (sd_mC (sd_c10 k0).2.2) ((sd_c10 k0).1) ((sd_c10 k0).2.1) rfl dX9_greatest_8 rfl (n' := 9) ?_
  refine sd_istore_n [(3, .int (30 : Int32)), (2, .ref (E.2.2 (h0 + 1))), (1, .int (0 : Int32)), (0, .ref (E.2.2 h0))] C dX9_greatest_9 rfl (by decide) rfl rfl (n' := 10) ?_
  refine sd_iconst C (v := 0) dX9_greatest_10 rfl rfl (n' := 11) ?_
  refine sd_istore [(4, .int (0 : Int32)), (3, .int (30 : Int32)), (2, .ref (E.2.2 (h0 + 1))), (1, .int (0 : Int32)), (0, .ref (E.2.2 h0))] C dX9_greatest_11 (by decide) rfl rfl (n' := 13) ?_
  refine sd_sub [3, 2, 1, 0] rfl ?_
  exact tb_X9_greatest_13 C k0 sd_FU (0 : Int32) (30 : Int32) (0 : Int32) hF
theorem ct_X9_greatest {l : Launch} {E : sd_Env} (M : sd_Mem) (h0 : Nat) (k0 : sd_kd h0 = 10) {r : Int32} (hF : fn_X9_greatest M h0 = some r) : sd_MI l E sd_LC yX9_greatest cX9_greatest 6 (some .int) rm_X9_greatest [.ref (E.2.2 h0)] M r M := sd_ent0 (by decide +kernel) (Nat.le_of_ble_eq_true rfl) (fun p e s m below meth c C => tb_X9_greatest_0 C k0 hF)
theorem dX9_least_0 : decode cX9_least 0 = .ok (.bipush 13, 2) := by decide +kernel
theorem dX9_least_2 : decode cX9_least 2 = .ok (.istore_n 1, 1) := by decide +kernel
theorem dX9_least_3 : decode cX9_least 3 = .ok (.aload_n 0, 1) := by decide +kernel
theorem dX9_least_4 : decode cX9_least 4 = .ok (.getfield 9, 3) := by decide +kernel
theorem dX9_least_7 : decode cX9_least 7 = .ok (.astore_n 2, 1) := by decide +kernel
theorem dX9_least_8 : decode cX9_least 8 = .ok (.aload_n 2, 1) := by decide +kernel
theorem dX9_least_9 : decode cX9_least 9 = .ok (.arraylength, 1) := by decide +kernel
theorem dX9_least_10 : decode cX9_least 10 = .ok (.istore_n 3, 1) := by decide +kernel
theorem dX9_least_11 : decode cX9_least 11 = .ok (.iconst 0, 1) := by decide +kernel
theorem dX9_least_12 : decode cX9_least 12 = .ok (.istore 4, 2) := by decide +kernel
theorem dX9_least_14 : decode cX9_least 14 = .ok (.iload 4, 2) := by decide +kernel
theorem dX9_least_16 : decode cX9_least 16 = .ok (.iload_n 3, 1) := by decide +kernel
theorem dX9_least_17 : decode cX9_least 17 = .ok (.if_icmp .ge 22, 3) := by decide +kernel
theorem dX9_least_20 : decode cX9_least 20 = .ok (.aload_n 2, 1) := by decide +kernel
theorem dX9_least_21 : decode cX9_least 21 = .ok (.iload 4, 2) := by decide +kernel
theorem dX9_least_23 : decode cX9_least 23 = .ok (.iaload, 1) := by decide +kernel
theorem dX9_least_24 : decode cX9_least 24 = .ok (.istore 5, 2) := by decide +kernel
theorem dX9_least_26 : decode cX9_least 26 = .ok (.iload_n 1, 1) := by decide +kernel
theorem dX9_least_27 : decode cX9_least 27 = .ok (.iload 5, 2) := by decide +kernel
theorem dX9_least_29 : decode cX9_least 29 = .ok (.invokestatic 46, 3) := by decide +kernel
theorem dX9_least_32 : decode cX9_least 32 = .ok (.istore_n 1, 1) := by decide +kernel
theorem dX9_least_33 : decode cX9_least 33 = .ok (.iinc 4 1, 3) := by decide +kernel
theorem dX9_least_36 : decode cX9_least 36 = .ok (.goto (-22), 3) := by decide +kernel
theorem dX9_least_39 : decode cX9_least 39 = .ok (.iload_n 1, 1) := by decide +kernel
theorem dX9_least_40 : decode cX9_least 40 = .ok (.ireturn, 1) := by decide +kernel
set_option maxRecDepth 100000 in
set_option maxHeartbeats 4000000 in
theorem tb_X9_least_14 {K : sd_K} {E : sd_Env} {M : sd_Mem} {h0 : Nat} {r : Int32} (C : sd_C K E sd_LC RX9 cX9_least 6 (some .int)) (k0 : sd_kd h0 = 10) : ∀ (n : Nat), ∀ (x1 : Int32) (x3 : Int32) (x4 : Int32), fn_X9_least_14 M h0 n x1 x3 x4 = some r → sd_Z K rm_X9_least E sd_LC 6 (sd_QI K E sd_LC r M) M 14 [(1, .int x1), (2, .ref (E.2.2 (h0 + 1))), (3, .int x3), (4, .int x4)] [] := by
  intro n
  induction n with
  | zero => intro x1 x3 x4 hF; cases hF
  | succ n ih =>
    intro x1 x3 x4 hF
    unfold fn_X9_least_14 at hF
    refine sd_iload C 3 dX9_least_14 rfl rfl (n' := 16) ?_
    refine sd_iload_n C 2 dX9_least_16 rfl rfl rfl (n' := 17) ?_
    refine sd_icmp_ge C (n' := 20) (tgt := 39) dX9_least_17 rfl rfl (fun c17 => ?_) (fun c17 => ?_)
    · replace hF := sd_pos hF c17
      refine sd_iload_n C 0 dX9_least_39 rfl rfl rfl (n' := 40) ?_
      exact sd_iret C dX9_least_40 (Option.some.inj hF) rfl
    · replace hF := sd_neg hF c17
      refine sd_aload_n C 1 dX9_least_20 rfl rfl rfl (n' := 21) ?_
      refine sd_iload C 3 dX9_least_21 rfl rfl (n' := 23) ?_
      obtain ⟨b23, hF⟩ := sd_ok hF
      refine sd_iald C (sd_mC (sd_c10 k0).2.2) ((sd_c10 k0).1) ((sd_c10 k0).2.1) b23 dX9_least_23 rfl (n' := 24) ?_
      refine sd_istore [(5, .int (M.1 (h0 + 1) x4.toNatClampNeg)), (1, .int x1), (2, .ref (E.2.2 (h0 + 1))), (3, .int x3), (4, .int x4)] C dX9_least_24 (by decide) rfl rfl (n' := 26) ?_
      refine sd_iload_n C 1 dX9_least_26 rfl rfl rfl (n' := 27) ?_
      refine sd_iload C 0 dX9_least_27 rfl rfl (n' := 29) ?_
      refine sd_mmin C sd_w617 sd_wm_mmin_s sd_w87 sd_wm_mmin_c (Nat.le_of_ble_eq_true rfl) (Nat.le_of_ble_eq_true rfl) dX9_least_29 rfl (n' := 32) ?_
      refine sd_istore_n [(1, .int (if (M.1 (h0 + 1) x4.toNatClampNeg) < x1 then (M.1 (h0 + 1) x4.toNatClampNeg) else x1)), (5, .int (M.1 (h0 + 1) x4.toNatClampNeg)), (2, .ref (E.2.2 (h0 + 1))), (3, .int x3), (4, .int x4)] C dX9_least_32 rfl (by decide) rfl rfl (n' := 33) ?_
      refine sd_iinc [(4, .int (x4 + (1 : Int32))), (1, .int (if (M.1 (h0 + 1) x4.toNatClampNeg) < x1 then (M.1 (h0 + 1) x4.toNatClampNeg) else x1)), (5, .int (M.1 (h0 + 1) x4.toNatClampNeg)), (2, .ref (E.2.2 (h0 + 1))), (3, .int x3)] 4 C dX9_least_33 rfl rfl (by decide) rfl rfl (n' := 36) ?_
      refine sd_goto C (tgt := 14) dX9_least_36 rfl ?_
      refine sd_sub [1, 3, 4, 0] rfl ?_
      exact ih (if (M.1 (h0 + 1) x4.toNatClampNeg) < x1 then (M.1 (h0 + 1) x4.toNatClampNeg) else x1) x3 (x4 + (1 : Int32)) hF
set_option maxRecDepth 100000 in
set_option maxHeartbeats 4000000 in
theorem tb_X9_least_0 {K : sd_K} {E : sd_Env} {M : sd_Mem} {h0 : Nat} {r : Int32} (C : sd_C K E sd_LC RX9 cX9_least 6 (some .int)) (k0 : sd_kd h0 = 10) : fn_X9_least_0 M h0 = some r → sd_Z K rm_X9_least E sd_LC 6 (sd_QI K E sd_LC r M) M 0 [(0, .ref (E.2.2 h0))] [] := by
  intro hF
  unfold fn_X9_least_0 at hF
  refine sd_bipush C (v := 13) dX9_least_0 rfl rfl (n' := 2) ?_
  refine sd_istore_n [(1, .int (13 : Int32)), (0, .ref (E.2.2 h0))] C dX9_least_2 rfl (by decide) rfl rfl (n' := 3) ?_
  refine sd_aload_n C 1 dX9_least_3 rfl rfl rfl (n' := 4) ?_
  refine sd_g9_0 C (sd_mC (sd_m10 k0)) k0 sd_w321 dX9_least_4 rfl (n' := 7) ?_
  refine sd_astore_n [(2, .ref (E.2.2 (h0 + 1))), (1, .int (13 : Int32)), (0, .ref (E.2.2 h0))] C dX9_least_7 rfl (by decide) rfl rfl (n' := 8) ?_
  refine sd_aload_n C 0 dX9_least_8 rfl rfl rfl (n' := 9) ?_
  refine sd_alen C (sd_mC (sd_c10 k0).2.2) ((sd_c10 k0).1) ((sd_c10 k0).2.1) rfl dX9_least_9 rfl (n' := 10) ?_
  refine sd_istore_n [(3, .int (30 : Int32)), (2, .ref (E.2.2 (h0 + 1))), (1, .int (13 : Int32)), (0, .ref (E.2.2 h0))] C dX9_least_10 rfl (by decide) rfl rfl (n' := 11) ?_
  refine sd_iconst C (v := 0) dX9_least_11 rfl rfl (n' := 12) ?_
  refine sd_istore [(4, .int (0 : Int32)), (3, .int (30 : Int32)), (2, .ref (E.2.2 (h0 + 1))), (1, .int (13 : Int32)), (0, .ref (E.2.2 h0))] C dX9_least_12 (by decide) rfl rfl (n' := 14) ?_
  refine sd_sub [3, 2, 1, 0] rfl ?_
  exact tb_X9_least_14 C k0 sd_FU (13 : Int32) (30 : Int32) (0 : Int32) hF
theorem ct_X9_least {l : Launch} {E : sd_Env} (M : sd_Mem) (h0 : Nat) (k0 : sd_kd h0 = 10) {r : Int32} (hF : fn_X9_least M h0 = some r) : sd_MI l E sd_LC yX9_least cX9_least 6 (some .int) rm_X9_least [.ref (E.2.2 h0)] M r M := sd_ent0 (by decide +kernel) (Nat.le_of_ble_eq_true rfl) (fun p e s m below meth c C => tb_X9_least_0 C k0 hF)
theorem dX5_everySort_0 : decode cX5_everySort 0 = .ok (.iconst 1, 1) := by decide +kernel
theorem dX5_everySort_1 : decode cX5_everySort 1 = .ok (.aload_n 0, 1) := by decide +kernel
theorem dX5_everySort_2 : decode cX5_everySort 2 = .ok (.iload_n 1, 1) := by decide +kernel
theorem dX5_everySort_3 : decode cX5_everySort 3 = .ok (.invokevirtual 52, 3) := by decide +kernel
theorem dX5_everySort_6 : decode cX5_everySort 6 = .ok (.ishl, 1) := by decide +kernel
theorem dX5_everySort_7 : decode cX5_everySort 7 = .ok (.iconst 1, 1) := by decide +kernel
theorem dX5_everySort_8 : decode cX5_everySort 8 = .ok (.isub, 1) := by decide +kernel
theorem dX5_everySort_9 : decode cX5_everySort 9 = .ok (.ireturn, 1) := by decide +kernel
set_option maxRecDepth 100000 in
set_option maxHeartbeats 4000000 in
theorem tb_X5_everySort_0 {K : sd_K} {E : sd_Env} {M : sd_Mem} {h0 : Nat} {r : Int32} (C : sd_C K E sd_LC RX5 cX5_everySort 2 (some .int)) (k0 : sd_kd h0 = 6) : ∀ (x1 : Int32), fn_X5_everySort_0 M h0 x1 = some r → sd_Z K rm_X5_everySort E sd_LC 2 (sd_QI K E sd_LC r M) M 0 [(0, .ref (E.2.2 h0)), (1, .int x1)] [] := by
  intro x1 hF
  unfold fn_X5_everySort_0 at hF
  refine sd_iconst C (v := 1) dX5_everySort_0 rfl rfl (n' := 1) ?_
  refine sd_aload_n C 0 dX5_everySort_1 rfl rfl rfl (n' := 2) ?_
  refine sd_iload_n C 1 dX5_everySort_2 rfl rfl rfl (n' := 3) ?_
  obtain ⟨q3, e3, hF⟩ := sd_bind hF
  refine sd_callVI [.int x1] [.int (1 : Int32)] C (ct_X5_sorts M h0 x1 k0 e3) sd_lX5_52 ⟨rfl, rfl, Nat.le_of_ble_eq_true rfl, Nat.le_of_ble_eq_true rfl⟩ (sd_mC (sd_m6 k0)) (sd_e6 k0) rfl rfl rfl (Nat.le_of_ble_eq_true rfl) dX5_everySort_3 rfl (n' := 6) ?_
  refine sd_ishl C dX5_everySort_6 rfl (n' := 7) ?_
  refine sd_iconst C (v := 1) dX5_everySort_7 rfl rfl (n' := 8) ?_
  refine sd_isub C dX5_everySort_8 rfl (n' := 9) ?_
  exact sd_iret C dX5_everySort_9 (Option.some.inj hF) rfl
theorem ct_X5_everySort {l : Launch} {E : sd_Env} (M : sd_Mem) (h0 : Nat) (x1 : Int32) (k0 : sd_kd h0 = 6) {r : Int32} (hF : fn_X5_everySort M h0 x1 = some r) : sd_MI l E sd_LC yX5_everySort cX5_everySort 2 (some .int) rm_X5_everySort [.ref (E.2.2 h0), .int x1] M r M := sd_ent0 (by decide +kernel) (Nat.le_of_ble_eq_true rfl) (fun p e s m below meth c C => tb_X5_everySort_0 C k0 x1 hF)
theorem dX10_contains_0 : decode cX10_contains 0 = .ok (.iload_n 0, 1) := by decide +kernel
theorem dX10_contains_1 : decode cX10_contains 1 = .ok (.iload_n 1, 1) := by decide +kernel
theorem dX10_contains_2 : decode cX10_contains 2 = .ok (.ishr, 1) := by decide +kernel
theorem dX10_contains_3 : decode cX10_contains 3 = .ok (.iconst 1, 1) := by decide +kernel
theorem dX10_contains_4 : decode cX10_contains 4 = .ok (.iand, 1) := by decide +kernel
theorem dX10_contains_5 : decode cX10_contains 5 = .ok (.iconst 1, 1) := by decide +kernel
theorem dX10_contains_6 : decode cX10_contains 6 = .ok (.if_icmp .ne 7, 3) := by decide +kernel
theorem dX10_contains_9 : decode cX10_contains 9 = .ok (.iconst 1, 1) := by decide +kernel
theorem dX10_contains_10 : decode cX10_contains 10 = .ok (.goto 4, 3) := by decide +kernel
theorem dX10_contains_13 : decode cX10_contains 13 = .ok (.iconst 0, 1) := by decide +kernel
theorem dX10_contains_14 : decode cX10_contains 14 = .ok (.ireturn, 1) := by decide +kernel
set_option maxRecDepth 100000 in
set_option maxHeartbeats 4000000 in
theorem tb_X10_contains_0 {K : sd_K} {E : sd_Env} {M : sd_Mem}  {r : Int32} (C : sd_C K E sd_LC RX10 cX10_contains 2 (some .boolean))  : ∀ (x0 : Int32) (x1 : Int32), fn_X10_contains_0 x0 x1 = some r → sd_Z K rm_X10_contains E sd_LC 2 (sd_QI K E sd_LC r M) M 0 [(0, .int x0), (1, .int x1)] [] := by
  intro x0 x1 hF
  unfold fn_X10_contains_0 at hF
  refine sd_iload_n C 0 dX10_contains_0 rfl rfl rfl (n' := 1) ?_
  refine sd_iload_n C 1 dX10_contains_1 rfl rfl rfl (n' := 2) ?_
  refine sd_ishr C dX10_contains_2 rfl (n' := 3) ?_
  refine sd_iconst C (v := 1) dX10_contains_3 rfl rfl (n' := 4) ?_
  refine sd_iand C dX10_contains_4 rfl (n' := 5) ?_
  refine sd_iconst C (v := 1) dX10_contains_5 rfl rfl (n' := 6) ?_
  refine sd_icmp_ne C (n' := 9) (tgt := 13) dX10_contains_6 rfl rfl (fun c6 => ?_) (fun c6 => ?_)
  · replace hF := sd_neg hF c6
    refine sd_iconst C (v := 0) dX10_contains_13 rfl rfl (n' := 14) ?_
    exact sd_zret C dX10_contains_14 rfl (Option.some.inj hF) rfl
  · replace hF := sd_pos hF c6
    refine sd_iconst C (v := 1) dX10_contains_9 rfl rfl (n' := 10) ?_
    refine sd_goto C (tgt := 14) dX10_contains_10 rfl ?_
    exact sd_zret C dX10_contains_14 rfl (Option.some.inj hF) rfl
theorem ct_X10_contains {l : Launch} {E : sd_Env} (M : sd_Mem) (x0 : Int32) (x1 : Int32)  {r : Int32} (hF : fn_X10_contains x0 x1 = some r) : sd_MI l E sd_LC yX10_contains cX10_contains 2 (some .boolean) rm_X10_contains [.int x0, .int x1] M r M := sd_ent0 (by decide +kernel) (Nat.le_of_ble_eq_true rfl) (fun p e s m below meth c C => tb_X10_contains_0 C x0 x1 hF)
theorem dX5_weight_0 : decode cX5_weight 0 = .ok (.iconst 0, 1) := by decide +kernel
theorem dX5_weight_1 : decode cX5_weight 1 = .ok (.istore_n 3, 1) := by decide +kernel
theorem dX5_weight_2 : decode cX5_weight 2 = .ok (.iconst 0, 1) := by decide +kernel
theorem dX5_weight_3 : decode cX5_weight 3 = .ok (.istore 4, 2) := by decide +kernel
theorem dX5_weight_5 : decode cX5_weight 5 = .ok (.iload 4, 2) := by decide +kernel
theorem dX5_weight_7 : decode cX5_weight 7 = .ok (.aload_n 0, 1) := by decide +kernel
theorem dX5_weight_8 : decode cX5_weight 8 = .ok (.iload_n 1, 1) := by decide +kernel
theorem dX5_weight_9 : decode cX5_weight 9 = .ok (.invokevirtual 52, 3) := by decide +kernel
theorem dX5_weight_12 : decode cX5_weight 12 = .ok (.if_icmp .ge 34, 3) := by decide +kernel
theorem dX5_weight_15 : decode cX5_weight 15 = .ok (.iload_n 3, 1) := by decide +kernel
theorem dX5_weight_16 : decode cX5_weight 16 = .ok (.iload_n 2, 1) := by decide +kernel
theorem dX5_weight_17 : decode cX5_weight 17 = .ok (.iload 4, 2) := by decide +kernel
theorem dX5_weight_19 : decode cX5_weight 19 = .ok (.invokestatic 70, 3) := by decide +kernel
theorem dX5_weight_22 : decode cX5_weight 22 = .ok (.ifCond .eq 15, 3) := by decide +kernel
theorem dX5_weight_25 : decode cX5_weight 25 = .ok (.aload_n 0, 1) := by decide +kernel
theorem dX5_weight_26 : decode cX5_weight 26 = .ok (.getfield 20, 3) := by decide +kernel
theorem dX5_weight_29 : decode cX5_weight 29 = .ok (.iload_n 1, 1) := by decide +kernel
theorem dX5_weight_30 : decode cX5_weight 30 = .ok (.aaload, 1) := by decide +kernel
theorem dX5_weight_31 : decode cX5_weight 31 = .ok (.iload 4, 2) := by decide +kernel
theorem dX5_weight_33 : decode cX5_weight 33 = .ok (.iaload, 1) := by decide +kernel
theorem dX5_weight_34 : decode cX5_weight 34 = .ok (.goto 4, 3) := by decide +kernel
theorem dX5_weight_37 : decode cX5_weight 37 = .ok (.iconst 0, 1) := by decide +kernel
theorem dX5_weight_38 : decode cX5_weight 38 = .ok (.iadd, 1) := by decide +kernel
theorem dX5_weight_39 : decode cX5_weight 39 = .ok (.istore_n 3, 1) := by decide +kernel
theorem dX5_weight_40 : decode cX5_weight 40 = .ok (.iinc 4 1, 3) := by decide +kernel
theorem dX5_weight_43 : decode cX5_weight 43 = .ok (.goto (-38), 3) := by decide +kernel
theorem dX5_weight_46 : decode cX5_weight 46 = .ok (.iload_n 3, 1) := by decide +kernel
theorem dX5_weight_47 : decode cX5_weight 47 = .ok (.ireturn, 1) := by decide +kernel
set_option maxRecDepth 100000 in
set_option maxHeartbeats 4000000 in
theorem tb_X5_weight_5 {K : sd_K} {E : sd_Env} {M : sd_Mem} {h0 : Nat} {r : Int32} (C : sd_C K E sd_LC RX5 cX5_weight 5 (some .int)) (k0 : sd_kd h0 = 6) : ∀ (n : Nat), ∀ (x1 : Int32) (x2 : Int32) (x3 : Int32) (x4 : Int32), fn_X5_weight_5 M h0 n x1 x2 x3 x4 = some r → sd_Z K rm_X5_weight E sd_LC 5 (sd_QI K E sd_LC r M) M 5 [(0, .ref (E.2.2 h0)), (1, .int x1), (2, .int x2), (3, .int x3), (4, .int x4)] [] := by
  intro n
  induction n with
  | zero => intro x1 x2 x3 x4 hF; cases hF
  | succ n ih =>
    intro x1 x2 x3 x4 hF
    unfold fn_X5_weight_5 at hF
    refine sd_iload C 4 dX5_weight_5 rfl rfl (n' := 7) ?_
    refine sd_aload_n C 0 dX5_weight_7 rfl rfl rfl (n' := 8) ?_
    refine sd_iload_n C 1 dX5_weight_8 rfl rfl rfl (n' := 9) ?_
    obtain ⟨q9, e9, hF⟩ := sd_bind hF
    refine sd_callVI [.int x1] [.int x4] C (ct_X5_sorts M h0 x1 k0 e9) sd_lX5_52 ⟨rfl, rfl, Nat.le_of_ble_eq_true rfl, Nat.le_of_ble_eq_true rfl⟩ (sd_mC (sd_m6 k0)) (sd_e6 k0) rfl rfl rfl (Nat.le_of_ble_eq_true rfl) dX5_weight_9 rfl (n' := 12) ?_
    refine sd_icmp_ge C (n' := 15) (tgt := 46) dX5_weight_12 rfl rfl (fun c12 => ?_) (fun c12 => ?_)
    · replace hF := sd_pos hF c12
      refine sd_iload_n C 3 dX5_weight_46 rfl rfl rfl (n' := 47) ?_
      exact sd_iret C dX5_weight_47 (Option.some.inj hF) rfl
    · replace hF := sd_neg hF c12
      refine sd_iload_n C 3 dX5_weight_15 rfl rfl rfl (n' := 16) ?_
      refine sd_iload_n C 2 dX5_weight_16 rfl rfl rfl (n' := 17) ?_
      refine sd_iload C 4 dX5_weight_17 rfl rfl (n' := 19) ?_
      obtain ⟨q19, e19, hF⟩ := sd_bind hF
      refine sd_callNI [.int x2, .int x4] [.int x3] C (ct_X10_contains M x2 x4  e19) sd_lX5_70 ⟨rfl, rfl, Nat.le_of_ble_eq_true rfl, Nat.le_of_ble_eq_true rfl⟩ rfl (Nat.le_of_ble_eq_true rfl) dX5_weight_19 rfl (n' := 22) ?_
      refine sd_if_eq C (n' := 25) (tgt := 37) dX5_weight_22 rfl rfl (fun c22 => ?_) (fun c22 => ?_)
      · replace hF := sd_pos hF c22
        refine sd_iconst C (v := 0) dX5_weight_37 rfl rfl (n' := 38) ?_
        refine sd_iadd C dX5_weight_38 rfl (n' := 39) ?_
        refine sd_istore_n [(3, .int (x3 + (0 : Int32))), (0, .ref (E.2.2 h0)), (1, .int x1), (2, .int x2), (4, .int x4)] C dX5_weight_39 rfl (by decide) rfl rfl (n' := 40) ?_
        refine sd_iinc [(4, .int (x4 + (1 : Int32))), (3, .int (x3 + (0 : Int32))), (0, .ref (E.2.2 h0)), (1, .int x1), (2, .int x2)] 4 C dX5_weight_40 rfl rfl (by decide) rfl rfl (n' := 43) ?_
        refine sd_goto C (tgt := 5) dX5_weight_43 rfl ?_
        refine sd_sub [2, 3, 4, 1, 0] rfl ?_
        exact ih x1 x2 (x3 + (0 : Int32)) (x4 + (1 : Int32)) hF
      · replace hF := sd_neg hF c22
        refine sd_aload_n C 0 dX5_weight_25 rfl rfl rfl (n' := 26) ?_
        refine sd_g5_2 C (sd_mC (sd_m6 k0)) k0 sd_w132 dX5_weight_26 rfl (n' := 29) ?_
        refine sd_iload_n C 1 dX5_weight_29 rfl rfl rfl (n' := 30) ?_
        obtain ⟨b30, hF⟩ := sd_ok hF
        refine sd_gald C (sd_mC (by have := (sd_c6 k0).2.2.2.2; omega)) ((sd_c6 k0).2.2.1.1) ((sd_c6 k0).2.2.1.2) b30 dX5_weight_30 rfl (n' := 31) ?_
        refine sd_iload C 4 dX5_weight_31 rfl rfl (n' := 33) ?_
        obtain ⟨b33, hF⟩ := sd_ok hF
        refine sd_iald C (sd_mC (by have := (sd_c6 k0).2.2.2.2; have := sd_in_lt b30; omega)) ((sd_c6j k0 (sd_in_lt b30)).1.1) ((sd_c6j k0 (sd_in_lt b30)).1.2) b33 dX5_weight_33 rfl (n' := 34) ?_
        refine sd_goto C (tgt := 38) dX5_weight_34 rfl ?_
        refine sd_iadd C dX5_weight_38 rfl (n' := 39) ?_
        refine sd_istore_n [(3, .int (x3 + (M.1 (h0 + 3 + 1 + x1.toNatClampNeg) x4.toNatClampNeg))), (0, .ref (E.2.2 h0)), (1, .int x1), (2, .int x2), (4, .int x4)] C dX5_weight_39 rfl (by decide) rfl rfl (n' := 40) ?_
        refine sd_iinc [(4, .int (x4 + (1 : Int32))), (3, .int (x3 + (M.1 (h0 + 3 + 1 + x1.toNatClampNeg) x4.toNatClampNeg))), (0, .ref (E.2.2 h0)), (1, .int x1), (2, .int x2)] 4 C dX5_weight_40 rfl rfl (by decide) rfl rfl (n' := 43) ?_
        refine sd_goto C (tgt := 5) dX5_weight_43 rfl ?_
        refine sd_sub [2, 3, 4, 1, 0] rfl ?_
        exact ih x1 x2 (x3 + (M.1 (h0 + 3 + 1 + x1.toNatClampNeg) x4.toNatClampNeg)) (x4 + (1 : Int32)) hF
set_option maxRecDepth 100000 in
set_option maxHeartbeats 4000000 in
theorem tb_X5_weight_0 {K : sd_K} {E : sd_Env} {M : sd_Mem} {h0 : Nat} {r : Int32} (C : sd_C K E sd_LC RX5 cX5_weight 5 (some .int)) (k0 : sd_kd h0 = 6) : ∀ (x1 : Int32) (x2 : Int32), fn_X5_weight_0 M h0 x1 x2 = some r → sd_Z K rm_X5_weight E sd_LC 5 (sd_QI K E sd_LC r M) M 0 [(0, .ref (E.2.2 h0)), (1, .int x1), (2, .int x2)] [] := by
  intro x1 x2 hF
  unfold fn_X5_weight_0 at hF
  refine sd_iconst C (v := 0) dX5_weight_0 rfl rfl (n' := 1) ?_
  refine sd_istore_n [(3, .int (0 : Int32)), (0, .ref (E.2.2 h0)), (1, .int x1), (2, .int x2)] C dX5_weight_1 rfl (by decide) rfl rfl (n' := 2) ?_
  refine sd_iconst C (v := 0) dX5_weight_2 rfl rfl (n' := 3) ?_
  refine sd_istore [(4, .int (0 : Int32)), (3, .int (0 : Int32)), (0, .ref (E.2.2 h0)), (1, .int x1), (2, .int x2)] C dX5_weight_3 (by decide) rfl rfl (n' := 5) ?_
  refine sd_sub [2, 3, 4, 1, 0] rfl ?_
  exact tb_X5_weight_5 C k0 sd_FU x1 x2 (0 : Int32) (0 : Int32) hF
theorem ct_X5_weight {l : Launch} {E : sd_Env} (M : sd_Mem) (h0 : Nat) (x1 : Int32) (x2 : Int32) (k0 : sd_kd h0 = 6) {r : Int32} (hF : fn_X5_weight M h0 x1 x2 = some r) : sd_MI l E sd_LC yX5_weight cX5_weight 5 (some .int) rm_X5_weight [.ref (E.2.2 h0), .int x1, .int x2] M r M := sd_ent0 (by decide +kernel) (Nat.le_of_ble_eq_true rfl) (fun p e s m below meth c C => tb_X5_weight_0 C k0 x1 x2 hF)
theorem dX5_total_0 : decode cX5_total 0 = .ok (.iload_n 1, 1) := by decide +kernel
theorem dX5_total_1 : decode cX5_total 1 = .ok (.ifCond .eq 8, 3) := by decide +kernel
theorem dX5_total_4 : decode cX5_total 4 = .ok (.iload_n 1, 1) := by decide +kernel
theorem dX5_total_5 : decode cX5_total 5 = .ok (.iconst 1, 1) := by decide +kernel
theorem dX5_total_6 : decode cX5_total 6 = .ok (.if_icmp .ne 12, 3) := by decide +kernel
theorem dX5_total_9 : decode cX5_total 9 = .ok (.aload_n 0, 1) := by decide +kernel
theorem dX5_total_10 : decode cX5_total 10 = .ok (.getfield 15, 3) := by decide +kernel
theorem dX5_total_13 : decode cX5_total 13 = .ok (.iload_n 1, 1) := by decide +kernel
theorem dX5_total_14 : decode cX5_total 14 = .ok (.iaload, 1) := by decide +kernel
theorem dX5_total_15 : decode cX5_total 15 = .ok (.goto 4, 3) := by decide +kernel
theorem dX5_total_18 : decode cX5_total 18 = .ok (.iconst 0, 1) := by decide +kernel
theorem dX5_total_19 : decode cX5_total 19 = .ok (.ireturn, 1) := by decide +kernel
set_option maxRecDepth 100000 in
set_option maxHeartbeats 4000000 in
theorem tb_X5_total_0 {K : sd_K} {E : sd_Env} {M : sd_Mem} {h0 : Nat} {r : Int32} (C : sd_C K E sd_LC RX5 cX5_total 2 (some .int)) (k0 : sd_kd h0 = 6) : ∀ (x1 : Int32), fn_X5_total_0 M h0 x1 = some r → sd_Z K rm_X5_total E sd_LC 2 (sd_QI K E sd_LC r M) M 0 [(0, .ref (E.2.2 h0)), (1, .int x1)] [] := by
  intro x1 hF
  unfold fn_X5_total_0 at hF
  refine sd_iload_n C 1 dX5_total_0 rfl rfl rfl (n' := 1) ?_
  refine sd_if_eq C (n' := 4) (tgt := 9) dX5_total_1 rfl rfl (fun c1 => ?_) (fun c1 => ?_)
  · replace hF := sd_pos hF c1
    refine sd_aload_n C 0 dX5_total_9 rfl rfl rfl (n' := 10) ?_
    refine sd_g5_1 C (sd_mC (sd_m6 k0)) k0 sd_w131 dX5_total_10 rfl (n' := 13) ?_
    refine sd_iload_n C 1 dX5_total_13 rfl rfl rfl (n' := 14) ?_
    obtain ⟨b14, hF⟩ := sd_ok hF
    refine sd_iald C (sd_mC (by have := (sd_c6 k0).2.2.2.2; omega)) ((sd_c6 k0).2.1.1) ((sd_c6 k0).2.1.2) b14 dX5_total_14 rfl (n' := 15) ?_
    refine sd_goto C (tgt := 19) dX5_total_15 rfl ?_
    exact sd_iret C dX5_total_19 (Option.some.inj hF) rfl
  · replace hF := sd_neg hF c1
    refine sd_iload_n C 1 dX5_total_4 rfl rfl rfl (n' := 5) ?_
    refine sd_iconst C (v := 1) dX5_total_5 rfl rfl (n' := 6) ?_
    refine sd_icmp_ne C (n' := 9) (tgt := 18) dX5_total_6 rfl rfl (fun c6 => ?_) (fun c6 => ?_)
    · replace hF := sd_neg hF c6
      refine sd_iconst C (v := 0) dX5_total_18 rfl rfl (n' := 19) ?_
      exact sd_iret C dX5_total_19 (Option.some.inj hF) rfl
    · replace hF := sd_pos hF c6
      refine sd_aload_n C 0 dX5_total_9 rfl rfl rfl (n' := 10) ?_
      refine sd_g5_1 C (sd_mC (sd_m6 k0)) k0 sd_w131 dX5_total_10 rfl (n' := 13) ?_
      refine sd_iload_n C 1 dX5_total_13 rfl rfl rfl (n' := 14) ?_
      obtain ⟨b14, hF⟩ := sd_ok hF
      refine sd_iald C (sd_mC (by have := (sd_c6 k0).2.2.2.2; omega)) ((sd_c6 k0).2.1.1) ((sd_c6 k0).2.1.2) b14 dX5_total_14 rfl (n' := 15) ?_
      refine sd_goto C (tgt := 19) dX5_total_15 rfl ?_
      exact sd_iret C dX5_total_19 (Option.some.inj hF) rfl
theorem ct_X5_total {l : Launch} {E : sd_Env} (M : sd_Mem) (h0 : Nat) (x1 : Int32) (k0 : sd_kd h0 = 6) {r : Int32} (hF : fn_X5_total M h0 x1 = some r) : sd_MI l E sd_LC yX5_total cX5_total 2 (some .int) rm_X5_total [.ref (E.2.2 h0), .int x1] M r M := sd_ent0 (by decide +kernel) (Nat.le_of_ble_eq_true rfl) (fun p e s m below meth c C => tb_X5_total_0 C k0 x1 hF)
theorem dX5_carries_0 : decode cX5_carries 0 = .ok (.iconst 2, 1) := by decide +kernel
theorem dX5_carries_1 : decode cX5_carries 1 = .ok (.iload_n 1, 1) := by decide +kernel
theorem dX5_carries_2 : decode cX5_carries 2 = .ok (.imul, 1) := by decide +kernel
theorem dX5_carries_3 : decode cX5_carries 3 = .ok (.aload_n 0, 1) := by decide +kernel
theorem dX5_carries_4 : decode cX5_carries 4 = .ok (.iconst 0, 1) := by decide +kernel
theorem dX5_carries_5 : decode cX5_carries 5 = .ok (.invokevirtual 73, 3) := by decide +kernel
theorem dX5_carries_8 : decode cX5_carries 8 = .ok (.if_icmp .le 7, 3) := by decide +kernel
theorem dX5_carries_11 : decode cX5_carries 11 = .ok (.iconst 1, 1) := by decide +kernel
theorem dX5_carries_12 : decode cX5_carries 12 = .ok (.goto 4, 3) := by decide +kernel
theorem dX5_carries_15 : decode cX5_carries 15 = .ok (.iconst 0, 1) := by decide +kernel
theorem dX5_carries_16 : decode cX5_carries 16 = .ok (.ireturn, 1) := by decide +kernel
set_option maxRecDepth 100000 in
set_option maxHeartbeats 4000000 in
theorem tb_X5_carries_0 {K : sd_K} {E : sd_Env} {M : sd_Mem} {h0 : Nat} {r : Int32} (C : sd_C K E sd_LC RX5 cX5_carries 2 (some .boolean)) (k0 : sd_kd h0 = 6) : ∀ (x1 : Int32), fn_X5_carries_0 M h0 x1 = some r → sd_Z K rm_X5_carries E sd_LC 2 (sd_QI K E sd_LC r M) M 0 [(0, .ref (E.2.2 h0)), (1, .int x1)] [] := by
  intro x1 hF
  unfold fn_X5_carries_0 at hF
  refine sd_iconst C (v := 2) dX5_carries_0 rfl rfl (n' := 1) ?_
  refine sd_iload_n C 1 dX5_carries_1 rfl rfl rfl (n' := 2) ?_
  refine sd_imul C dX5_carries_2 rfl (n' := 3) ?_
  refine sd_aload_n C 0 dX5_carries_3 rfl rfl rfl (n' := 4) ?_
  refine sd_iconst C (v := 0) dX5_carries_4 rfl rfl (n' := 5) ?_
  obtain ⟨q5, e5, hF⟩ := sd_bind hF
  refine sd_callVI [.int (0 : Int32)] [.int ((2 : Int32) * x1)] C (ct_X5_total M h0 (0 : Int32) k0 e5) sd_lX5_73 ⟨rfl, rfl, Nat.le_of_ble_eq_true rfl, Nat.le_of_ble_eq_true rfl⟩ (sd_mC (sd_m6 k0)) (sd_e6 k0) rfl rfl rfl (Nat.le_of_ble_eq_true rfl) dX5_carries_5 rfl (n' := 8) ?_
  refine sd_icmp_le C (n' := 11) (tgt := 15) dX5_carries_8 rfl rfl (fun c8 => ?_) (fun c8 => ?_)
  · replace hF := sd_pos hF c8
    refine sd_iconst C (v := 0) dX5_carries_15 rfl rfl (n' := 16) ?_
    exact sd_zret C dX5_carries_16 rfl (Option.some.inj hF) rfl
  · replace hF := sd_neg hF c8
    refine sd_iconst C (v := 1) dX5_carries_11 rfl rfl (n' := 12) ?_
    refine sd_goto C (tgt := 16) dX5_carries_12 rfl ?_
    exact sd_zret C dX5_carries_16 rfl (Option.some.inj hF) rfl
theorem ct_X5_carries {l : Launch} {E : sd_Env} (M : sd_Mem) (h0 : Nat) (x1 : Int32) (k0 : sd_kd h0 = 6) {r : Int32} (hF : fn_X5_carries M h0 x1 = some r) : sd_MI l E sd_LC yX5_carries cX5_carries 2 (some .boolean) rm_X5_carries [.ref (E.2.2 h0), .int x1] M r M := sd_ent0 (by decide +kernel) (Nat.le_of_ble_eq_true rfl) (fun p e s m below meth c C => tb_X5_carries_0 C k0 x1 hF)
theorem dJ6_bitCount_0f7a4_0 : decode cJ6_bitCount_0f7a4 0 = .ok (.iload_n 0, 1) := by decide +kernel
theorem dJ6_bitCount_0f7a4_1 : decode cJ6_bitCount_0f7a4 1 = .ok (.iload_n 0, 1) := by decide +kernel
theorem dJ6_bitCount_0f7a4_2 : decode cJ6_bitCount_0f7a4 2 = .ok (.iconst 1, 1) := by decide +kernel
theorem dJ6_bitCount_0f7a4_3 : decode cJ6_bitCount_0f7a4 3 = .ok (.iushr, 1) := by decide +kernel
theorem dJ6_bitCount_0f7a4_4 : decode cJ6_bitCount_0f7a4 4 = .ok (.ldc_w 265, 3) := by decide +kernel
theorem dJ6_bitCount_0f7a4_7 : decode cJ6_bitCount_0f7a4 7 = .ok (.iand, 1) := by decide +kernel
theorem dJ6_bitCount_0f7a4_8 : decode cJ6_bitCount_0f7a4 8 = .ok (.isub, 1) := by decide +kernel
theorem dJ6_bitCount_0f7a4_9 : decode cJ6_bitCount_0f7a4 9 = .ok (.istore_n 0, 1) := by decide +kernel
theorem dJ6_bitCount_0f7a4_10 : decode cJ6_bitCount_0f7a4 10 = .ok (.iload_n 0, 1) := by decide +kernel
theorem dJ6_bitCount_0f7a4_11 : decode cJ6_bitCount_0f7a4 11 = .ok (.ldc_w 266, 3) := by decide +kernel
theorem dJ6_bitCount_0f7a4_14 : decode cJ6_bitCount_0f7a4 14 = .ok (.iand, 1) := by decide +kernel
theorem dJ6_bitCount_0f7a4_15 : decode cJ6_bitCount_0f7a4 15 = .ok (.iload_n 0, 1) := by decide +kernel
theorem dJ6_bitCount_0f7a4_16 : decode cJ6_bitCount_0f7a4 16 = .ok (.iconst 2, 1) := by decide +kernel
theorem dJ6_bitCount_0f7a4_17 : decode cJ6_bitCount_0f7a4 17 = .ok (.iushr, 1) := by decide +kernel
theorem dJ6_bitCount_0f7a4_18 : decode cJ6_bitCount_0f7a4 18 = .ok (.ldc_w 266, 3) := by decide +kernel
theorem dJ6_bitCount_0f7a4_21 : decode cJ6_bitCount_0f7a4 21 = .ok (.iand, 1) := by decide +kernel
theorem dJ6_bitCount_0f7a4_22 : decode cJ6_bitCount_0f7a4 22 = .ok (.iadd, 1) := by decide +kernel
theorem dJ6_bitCount_0f7a4_23 : decode cJ6_bitCount_0f7a4 23 = .ok (.istore_n 0, 1) := by decide +kernel
theorem dJ6_bitCount_0f7a4_24 : decode cJ6_bitCount_0f7a4 24 = .ok (.iload_n 0, 1) := by decide +kernel
theorem dJ6_bitCount_0f7a4_25 : decode cJ6_bitCount_0f7a4 25 = .ok (.iload_n 0, 1) := by decide +kernel
theorem dJ6_bitCount_0f7a4_26 : decode cJ6_bitCount_0f7a4 26 = .ok (.iconst 4, 1) := by decide +kernel
theorem dJ6_bitCount_0f7a4_27 : decode cJ6_bitCount_0f7a4 27 = .ok (.iushr, 1) := by decide +kernel
theorem dJ6_bitCount_0f7a4_28 : decode cJ6_bitCount_0f7a4 28 = .ok (.iadd, 1) := by decide +kernel
theorem dJ6_bitCount_0f7a4_29 : decode cJ6_bitCount_0f7a4 29 = .ok (.ldc_w 267, 3) := by decide +kernel
theorem dJ6_bitCount_0f7a4_32 : decode cJ6_bitCount_0f7a4 32 = .ok (.iand, 1) := by decide +kernel
theorem dJ6_bitCount_0f7a4_33 : decode cJ6_bitCount_0f7a4 33 = .ok (.istore_n 0, 1) := by decide +kernel
theorem dJ6_bitCount_0f7a4_34 : decode cJ6_bitCount_0f7a4 34 = .ok (.iload_n 0, 1) := by decide +kernel
theorem dJ6_bitCount_0f7a4_35 : decode cJ6_bitCount_0f7a4 35 = .ok (.iload_n 0, 1) := by decide +kernel
theorem dJ6_bitCount_0f7a4_36 : decode cJ6_bitCount_0f7a4 36 = .ok (.bipush 8, 2) := by decide +kernel
theorem dJ6_bitCount_0f7a4_38 : decode cJ6_bitCount_0f7a4 38 = .ok (.iushr, 1) := by decide +kernel
theorem dJ6_bitCount_0f7a4_39 : decode cJ6_bitCount_0f7a4 39 = .ok (.iadd, 1) := by decide +kernel
theorem dJ6_bitCount_0f7a4_40 : decode cJ6_bitCount_0f7a4 40 = .ok (.istore_n 0, 1) := by decide +kernel
theorem dJ6_bitCount_0f7a4_41 : decode cJ6_bitCount_0f7a4 41 = .ok (.iload_n 0, 1) := by decide +kernel
theorem dJ6_bitCount_0f7a4_42 : decode cJ6_bitCount_0f7a4 42 = .ok (.iload_n 0, 1) := by decide +kernel
theorem dJ6_bitCount_0f7a4_43 : decode cJ6_bitCount_0f7a4 43 = .ok (.bipush 16, 2) := by decide +kernel
theorem dJ6_bitCount_0f7a4_45 : decode cJ6_bitCount_0f7a4 45 = .ok (.iushr, 1) := by decide +kernel
theorem dJ6_bitCount_0f7a4_46 : decode cJ6_bitCount_0f7a4 46 = .ok (.iadd, 1) := by decide +kernel
theorem dJ6_bitCount_0f7a4_47 : decode cJ6_bitCount_0f7a4 47 = .ok (.istore_n 0, 1) := by decide +kernel
theorem dJ6_bitCount_0f7a4_48 : decode cJ6_bitCount_0f7a4 48 = .ok (.iload_n 0, 1) := by decide +kernel
theorem dJ6_bitCount_0f7a4_49 : decode cJ6_bitCount_0f7a4 49 = .ok (.bipush 63, 2) := by decide +kernel
theorem dJ6_bitCount_0f7a4_51 : decode cJ6_bitCount_0f7a4 51 = .ok (.iand, 1) := by decide +kernel
theorem dJ6_bitCount_0f7a4_52 : decode cJ6_bitCount_0f7a4 52 = .ok (.ireturn, 1) := by decide +kernel
set_option maxRecDepth 100000 in
set_option maxHeartbeats 4000000 in
theorem tb_J6_bitCount_0f7a4_0 {K : sd_K} {E : sd_Env} {M : sd_Mem}  {r : Int32} (C : sd_C K E sd_LC RJ6 cJ6_bitCount_0f7a4 1 (some .int))  : ∀ (x0 : Int32), fn_J6_bitCount_0f7a4_0 x0 = some r → sd_Z K rm_J6_bitCount_0f7a4 E sd_LC 1 (sd_QI K E sd_LC r M) M 0 [(0, .int x0)] [] := by
  intro x0 hF
  unfold fn_J6_bitCount_0f7a4_0 at hF
  refine sd_iload_n C 0 dJ6_bitCount_0f7a4_0 rfl rfl rfl (n' := 1) ?_
  refine sd_iload_n C 0 dJ6_bitCount_0f7a4_1 rfl rfl rfl (n' := 2) ?_
  refine sd_iconst C (v := 1) dJ6_bitCount_0f7a4_2 rfl rfl (n' := 3) ?_
  refine sd_iushr C dJ6_bitCount_0f7a4_3 rfl (n' := 4) ?_
  refine sd_ldcw C (v := 1431655765) sd_w644 dJ6_bitCount_0f7a4_4 rfl (n' := 7) ?_
  refine sd_iand C dJ6_bitCount_0f7a4_7 rfl (n' := 8) ?_
  refine sd_isub C dJ6_bitCount_0f7a4_8 rfl (n' := 9) ?_
  refine sd_istore_n [(0, .int (x0 - (((x0.toUInt32 >>> ((1 : Int32).toUInt32 &&& Int32.toUInt32 31)).toInt32) &&& (1431655765 : Int32))))] C dJ6_bitCount_0f7a4_9 rfl (by decide) rfl rfl (n' := 10) ?_
  refine sd_iload_n C 0 dJ6_bitCount_0f7a4_10 rfl rfl rfl (n' := 11) ?_
  refine sd_ldcw C (v := 858993459) sd_w645 dJ6_bitCount_0f7a4_11 rfl (n' := 14) ?_
  refine sd_iand C dJ6_bitCount_0f7a4_14 rfl (n' := 15) ?_
  refine sd_iload_n C 0 dJ6_bitCount_0f7a4_15 rfl rfl rfl (n' := 16) ?_
  refine sd_iconst C (v := 2) dJ6_bitCount_0f7a4_16 rfl rfl (n' := 17) ?_
  refine sd_iushr C dJ6_bitCount_0f7a4_17 rfl (n' := 18) ?_
  refine sd_ldcw C (v := 858993459) sd_w645 dJ6_bitCount_0f7a4_18 rfl (n' := 21) ?_
  refine sd_iand C dJ6_bitCount_0f7a4_21 rfl (n' := 22) ?_
  refine sd_iadd C dJ6_bitCount_0f7a4_22 rfl (n' := 23) ?_
  refine sd_istore_n [(0, .int (((x0 - (((x0.toUInt32 >>> ((1 : Int32).toUInt32 &&& Int32.toUInt32 31)).toInt32) &&& (1431655765 : Int32))) &&& (858993459 : Int32)) + ((((x0 - (((x0.toUInt32 >>> ((1 : Int32).toUInt32 &&& Int32.toUInt32 31)).toInt32) &&& (1431655765 : Int32))).toUInt32 >>> ((2 : Int32).toUInt32 &&& Int32.toUInt32 31)).toInt32) &&& (858993459 : Int32))))] C dJ6_bitCount_0f7a4_23 rfl (by decide) rfl rfl (n' := 24) ?_
  refine sd_iload_n C 0 dJ6_bitCount_0f7a4_24 rfl rfl rfl (n' := 25) ?_
  refine sd_iload_n C 0 dJ6_bitCount_0f7a4_25 rfl rfl rfl (n' := 26) ?_
  refine sd_iconst C (v := 4) dJ6_bitCount_0f7a4_26 rfl rfl (n' := 27) ?_
  refine sd_iushr C dJ6_bitCount_0f7a4_27 rfl (n' := 28) ?_
  refine sd_iadd C dJ6_bitCount_0f7a4_28 rfl (n' := 29) ?_
  refine sd_ldcw C (v := 252645135) sd_w646 dJ6_bitCount_0f7a4_29 rfl (n' := 32) ?_
  refine sd_iand C dJ6_bitCount_0f7a4_32 rfl (n' := 33) ?_
  refine sd_istore_n [(0, .int (((((x0 - (((x0.toUInt32 >>> ((1 : Int32).toUInt32 &&& Int32.toUInt32 31)).toInt32) &&& (1431655765 : Int32))) &&& (858993459 : Int32)) + ((((x0 - (((x0.toUInt32 >>> ((1 : Int32).toUInt32 &&& Int32.toUInt32 31)).toInt32) &&& (1431655765 : Int32))).toUInt32 >>> ((2 : Int32).toUInt32 &&& Int32.toUInt32 31)).toInt32) &&& (858993459 : Int32))) + (((((x0 - (((x0.toUInt32 >>> ((1 : Int32).toUInt32 &&& Int32.toUInt32 31)).toInt32) &&& (1431655765 : Int32))) &&& (858993459 : Int32)) + ((((x0 - (((x0.toUInt32 >>> ((1 : Int32).toUInt32 &&& Int32.toUInt32 31)).toInt32) &&& (1431655765 : Int32))).toUInt32 >>> ((2 : Int32).toUInt32 &&& Int32.toUInt32 31)).toInt32) &&& (858993459 : Int32))).toUInt32 >>> ((4 : Int32).toUInt32 &&& Int32.toUInt32 31)).toInt32)) &&& (252645135 : Int32)))] C dJ6_bitCount_0f7a4_33 rfl (by decide) rfl rfl (n' := 34) ?_
  refine sd_iload_n C 0 dJ6_bitCount_0f7a4_34 rfl rfl rfl (n' := 35) ?_
  refine sd_iload_n C 0 dJ6_bitCount_0f7a4_35 rfl rfl rfl (n' := 36) ?_
  refine sd_bipush C (v := 8) dJ6_bitCount_0f7a4_36 rfl rfl (n' := 38) ?_
  refine sd_iushr C dJ6_bitCount_0f7a4_38 rfl (n' := 39) ?_
  refine sd_iadd C dJ6_bitCount_0f7a4_39 rfl (n' := 40) ?_
  refine sd_istore_n [(0, .int ((((((x0 - (((x0.toUInt32 >>> ((1 : Int32).toUInt32 &&& Int32.toUInt32 31)).toInt32) &&& (1431655765 : Int32))) &&& (858993459 : Int32)) + ((((x0 - (((x0.toUInt32 >>> ((1 : Int32).toUInt32 &&& Int32.toUInt32 31)).toInt32) &&& (1431655765 : Int32))).toUInt32 >>> ((2 : Int32).toUInt32 &&& Int32.toUInt32 31)).toInt32) &&& (858993459 : Int32))) + (((((x0 - (((x0.toUInt32 >>> ((1 : Int32).toUInt32 &&& Int32.toUInt32 31)).toInt32) &&& (1431655765 : Int32))) &&& (858993459 : Int32)) + ((((x0 - (((x0.toUInt32 >>> ((1 : Int32).toUInt32 &&& Int32.toUInt32 31)).toInt32) &&& (1431655765 : Int32))).toUInt32 >>> ((2 : Int32).toUInt32 &&& Int32.toUInt32 31)).toInt32) &&& (858993459 : Int32))).toUInt32 >>> ((4 : Int32).toUInt32 &&& Int32.toUInt32 31)).toInt32)) &&& (252645135 : Int32)) + (((((((x0 - (((x0.toUInt32 >>> ((1 : Int32).toUInt32 &&& Int32.toUInt32 31)).toInt32) &&& (1431655765 : Int32))) &&& (858993459 : Int32)) + ((((x0 - (((x0.toUInt32 >>> ((1 : Int32).toUInt32 &&& Int32.toUInt32 31)).toInt32) &&& (1431655765 : Int32))).toUInt32 >>> ((2 : Int32).toUInt32 &&& Int32.toUInt32 31)).toInt32) &&& (858993459 : Int32))) + (((((x0 - (((x0.toUInt32 >>> ((1 : Int32).toUInt32 &&& Int32.toUInt32 31)).toInt32) &&& (1431655765 : Int32))) &&& (858993459 : Int32)) + ((((x0 - (((x0.toUInt32 >>> ((1 : Int32).toUInt32 &&& Int32.toUInt32 31)).toInt32) &&& (1431655765 : Int32))).toUInt32 >>> ((2 : Int32).toUInt32 &&& Int32.toUInt32 31)).toInt32) &&& (858993459 : Int32))).toUInt32 >>> ((4 : Int32).toUInt32 &&& Int32.toUInt32 31)).toInt32)) &&& (252645135 : Int32)).toUInt32 >>> ((8 : Int32).toUInt32 &&& Int32.toUInt32 31)).toInt32)))] C dJ6_bitCount_0f7a4_40 rfl (by decide) rfl rfl (n' := 41) ?_
  refine sd_iload_n C 0 dJ6_bitCount_0f7a4_41 rfl rfl rfl (n' := 42) ?_
  refine sd_iload_n C 0 dJ6_bitCount_0f7a4_42 rfl rfl rfl (n' := 43) ?_
  refine sd_bipush C (v := 16) dJ6_bitCount_0f7a4_43 rfl rfl (n' := 45) ?_
  refine sd_iushr C dJ6_bitCount_0f7a4_45 rfl (n' := 46) ?_
  refine sd_iadd C dJ6_bitCount_0f7a4_46 rfl (n' := 47) ?_
  refine sd_istore_n [(0, .int (((((((x0 - (((x0.toUInt32 >>> ((1 : Int32).toUInt32 &&& Int32.toUInt32 31)).toInt32) &&& (1431655765 : Int32))) &&& (858993459 : Int32)) + ((((x0 - (((x0.toUInt32 >>> ((1 : Int32).toUInt32 &&& Int32.toUInt32 31)).toInt32) &&& (1431655765 : Int32))).toUInt32 >>> ((2 : Int32).toUInt32 &&& Int32.toUInt32 31)).toInt32) &&& (858993459 : Int32))) + (((((x0 - (((x0.toUInt32 >>> ((1 : Int32).toUInt32 &&& Int32.toUInt32 31)).toInt32) &&& (1431655765 : Int32))) &&& (858993459 : Int32)) + ((((x0 - (((x0.toUInt32 >>> ((1 : Int32).toUInt32 &&& Int32.toUInt32 31)).toInt32) &&& (1431655765 : Int32))).toUInt32 >>> ((2 : Int32).toUInt32 &&& Int32.toUInt32 31)).toInt32) &&& (858993459 : Int32))).toUInt32 >>> ((4 : Int32).toUInt32 &&& Int32.toUInt32 31)).toInt32)) &&& (252645135 : Int32)) + (((((((x0 - (((x0.toUInt32 >>> ((1 : Int32).toUInt32 &&& Int32.toUInt32 31)).toInt32) &&& (1431655765 : Int32))) &&& (858993459 : Int32)) + ((((x0 - (((x0.toUInt32 >>> ((1 : Int32).toUInt32 &&& Int32.toUInt32 31)).toInt32) &&& (1431655765 : Int32))).toUInt32 >>> ((2 : Int32).toUInt32 &&& Int32.toUInt32 31)).toInt32) &&& (858993459 : Int32))) + (((((x0 - (((x0.toUInt32 >>> ((1 : Int32).toUInt32 &&& Int32.toUInt32 31)).toInt32) &&& (1431655765 : Int32))) &&& (858993459 : Int32)) + ((((x0 - (((x0.toUInt32 >>> ((1 : Int32).toUInt32 &&& Int32.toUInt32 31)).toInt32) &&& (1431655765 : Int32))).toUInt32 >>> ((2 : Int32).toUInt32 &&& Int32.toUInt32 31)).toInt32) &&& (858993459 : Int32))).toUInt32 >>> ((4 : Int32).toUInt32 &&& Int32.toUInt32 31)).toInt32)) &&& (252645135 : Int32)).toUInt32 >>> ((8 : Int32).toUInt32 &&& Int32.toUInt32 31)).toInt32)) + ((((((((x0 - (((x0.toUInt32 >>> ((1 : Int32).toUInt32 &&& Int32.toUInt32 31)).toInt32) &&& (1431655765 : Int32))) &&& (858993459 : Int32)) + ((((x0 - (((x0.toUInt32 >>> ((1 : Int32).toUInt32 &&& Int32.toUInt32 31)).toInt32) &&& (1431655765 : Int32))).toUInt32 >>> ((2 : Int32).toUInt32 &&& Int32.toUInt32 31)).toInt32) &&& (858993459 : Int32))) + (((((x0 - (((x0.toUInt32 >>> ((1 : Int32).toUInt32 &&& Int32.toUInt32 31)).toInt32) &&& (1431655765 : Int32))) &&& (858993459 : Int32)) + ((((x0 - (((x0.toUInt32 >>> ((1 : Int32).toUInt32 &&& Int32.toUInt32 31)).toInt32) &&& (1431655765 : Int32))).toUInt32 >>> ((2 : Int32).toUInt32 &&& Int32.toUInt32 31)).toInt32) &&& (858993459 : Int32))).toUInt32 >>> ((4 : Int32).toUInt32 &&& Int32.toUInt32 31)).toInt32)) &&& (252645135 : Int32)) + (((((((x0 - (((x0.toUInt32 >>> ((1 : Int32).toUInt32 &&& Int32.toUInt32 31)).toInt32) &&& (1431655765 : Int32))) &&& (858993459 : Int32)) + ((((x0 - (((x0.toUInt32 >>> ((1 : Int32).toUInt32 &&& Int32.toUInt32 31)).toInt32) &&& (1431655765 : Int32))).toUInt32 >>> ((2 : Int32).toUInt32 &&& Int32.toUInt32 31)).toInt32) &&& (858993459 : Int32))) + (((((x0 - (((x0.toUInt32 >>> ((1 : Int32).toUInt32 &&& Int32.toUInt32 31)).toInt32) &&& (1431655765 : Int32))) &&& (858993459 : Int32)) + ((((x0 - (((x0.toUInt32 >>> ((1 : Int32).toUInt32 &&& Int32.toUInt32 31)).toInt32) &&& (1431655765 : Int32))).toUInt32 >>> ((2 : Int32).toUInt32 &&& Int32.toUInt32 31)).toInt32) &&& (858993459 : Int32))).toUInt32 >>> ((4 : Int32).toUInt32 &&& Int32.toUInt32 31)).toInt32)) &&& (252645135 : Int32)).toUInt32 >>> ((8 : Int32).toUInt32 &&& Int32.toUInt32 31)).toInt32)).toUInt32 >>> ((16 : Int32).toUInt32 &&& Int32.toUInt32 31)).toInt32)))] C dJ6_bitCount_0f7a4_47 rfl (by decide) rfl rfl (n' := 48) ?_
  refine sd_iload_n C 0 dJ6_bitCount_0f7a4_48 rfl rfl rfl (n' := 49) ?_
  refine sd_bipush C (v := 63) dJ6_bitCount_0f7a4_49 rfl rfl (n' := 51) ?_
  refine sd_iand C dJ6_bitCount_0f7a4_51 rfl (n' := 52) ?_
  exact sd_iret C dJ6_bitCount_0f7a4_52 (Option.some.inj hF) rfl
theorem ct_J6_bitCount_0f7a4 {l : Launch} {E : sd_Env} (M : sd_Mem) (x0 : Int32)  {r : Int32} (hF : fn_J6_bitCount_0f7a4 x0 = some r) : sd_MI l E sd_LC yJ6_bitCount_0f7a4 cJ6_bitCount_0f7a4 1 (some .int) rm_J6_bitCount_0f7a4 [.int x0] M r M := sd_ent0 (by decide +kernel) (Nat.le_of_ble_eq_true rfl) (fun p e s m below meth c C => tb_J6_bitCount_0f7a4_0 C x0 hF)
theorem dX5_sortsToCarry_0 : decode cX5_sortsToCarry 0 = .ok (.aload_n 0, 1) := by decide +kernel
theorem dX5_sortsToCarry_1 : decode cX5_sortsToCarry 1 = .ok (.iconst 0, 1) := by decide +kernel
theorem dX5_sortsToCarry_2 : decode cX5_sortsToCarry 2 = .ok (.invokevirtual 52, 3) := by decide +kernel
theorem dX5_sortsToCarry_5 : decode cX5_sortsToCarry 5 = .ok (.istore_n 1, 1) := by decide +kernel
theorem dX5_sortsToCarry_6 : decode cX5_sortsToCarry 6 = .ok (.iconst 1, 1) := by decide +kernel
theorem dX5_sortsToCarry_7 : decode cX5_sortsToCarry 7 = .ok (.istore_n 2, 1) := by decide +kernel
theorem dX5_sortsToCarry_8 : decode cX5_sortsToCarry 8 = .ok (.iload_n 2, 1) := by decide +kernel
theorem dX5_sortsToCarry_9 : decode cX5_sortsToCarry 9 = .ok (.aload_n 0, 1) := by decide +kernel
theorem dX5_sortsToCarry_10 : decode cX5_sortsToCarry 10 = .ok (.iconst 0, 1) := by decide +kernel
theorem dX5_sortsToCarry_11 : decode cX5_sortsToCarry 11 = .ok (.invokevirtual 84, 3) := by decide +kernel
theorem dX5_sortsToCarry_14 : decode cX5_sortsToCarry 14 = .ok (.if_icmp .gt 31, 3) := by decide +kernel
theorem dX5_sortsToCarry_17 : decode cX5_sortsToCarry 17 = .ok (.aload_n 0, 1) := by decide +kernel
theorem dX5_sortsToCarry_18 : decode cX5_sortsToCarry 18 = .ok (.aload_n 0, 1) := by decide +kernel
theorem dX5_sortsToCarry_19 : decode cX5_sortsToCarry 19 = .ok (.iconst 0, 1) := by decide +kernel
theorem dX5_sortsToCarry_20 : decode cX5_sortsToCarry 20 = .ok (.iload_n 2, 1) := by decide +kernel
theorem dX5_sortsToCarry_21 : decode cX5_sortsToCarry 21 = .ok (.invokevirtual 87, 3) := by decide +kernel
theorem dX5_sortsToCarry_24 : decode cX5_sortsToCarry 24 = .ok (.invokevirtual 90, 3) := by decide +kernel
theorem dX5_sortsToCarry_27 : decode cX5_sortsToCarry 27 = .ok (.ifCond .eq 12, 3) := by decide +kernel
theorem dX5_sortsToCarry_30 : decode cX5_sortsToCarry 30 = .ok (.iload_n 1, 1) := by decide +kernel
theorem dX5_sortsToCarry_31 : decode cX5_sortsToCarry 31 = .ok (.iload_n 2, 1) := by decide +kernel
theorem dX5_sortsToCarry_32 : decode cX5_sortsToCarry 32 = .ok (.invokestatic 94, 3) := by decide +kernel
theorem dX5_sortsToCarry_35 : decode cX5_sortsToCarry 35 = .ok (.invokestatic 99, 3) := by decide +kernel
theorem dX5_sortsToCarry_38 : decode cX5_sortsToCarry 38 = .ok (.istore_n 1, 1) := by decide +kernel
theorem dX5_sortsToCarry_39 : decode cX5_sortsToCarry 39 = .ok (.iinc 2 1, 3) := by decide +kernel
theorem dX5_sortsToCarry_42 : decode cX5_sortsToCarry 42 = .ok (.goto (-34), 3) := by decide +kernel
theorem dX5_sortsToCarry_45 : decode cX5_sortsToCarry 45 = .ok (.iload_n 1, 1) := by decide +kernel
theorem dX5_sortsToCarry_46 : decode cX5_sortsToCarry 46 = .ok (.ireturn, 1) := by decide +kernel
set_option maxRecDepth 100000 in
set_option maxHeartbeats 4000000 in
theorem tb_X5_sortsToCarry_8 {K : sd_K} {E : sd_Env} {M : sd_Mem} {h0 : Nat} {r : Int32} (C : sd_C K E sd_LC RX5 cX5_sortsToCarry 3 (some .int)) (k0 : sd_kd h0 = 6) : ∀ (n : Nat), ∀ (x1 : Int32) (x2 : Int32), fn_X5_sortsToCarry_8 M h0 n x1 x2 = some r → sd_Z K rm_X5_sortsToCarry E sd_LC 3 (sd_QI K E sd_LC r M) M 8 [(0, .ref (E.2.2 h0)), (1, .int x1), (2, .int x2)] [] := by
  intro n
  induction n with
  | zero => intro x1 x2 hF; cases hF
  | succ n ih =>
    intro x1 x2 hF
    unfold fn_X5_sortsToCarry_8 at hF
    refine sd_iload_n C 2 dX5_sortsToCarry_8 rfl rfl rfl (n' := 9) ?_
    refine sd_aload_n C 0 dX5_sortsToCarry_9 rfl rfl rfl (n' := 10) ?_
    refine sd_iconst C (v := 0) dX5_sortsToCarry_10 rfl rfl (n' := 11) ?_
    obtain ⟨q11, e11, hF⟩ := sd_bind hF
    refine sd_callVI [.int (0 : Int32)] [.int x2] C (ct_X5_everySort M h0 (0 : Int32) k0 e11) sd_lX5_84 ⟨rfl, rfl, Nat.le_of_ble_eq_true rfl, Nat.le_of_ble_eq_true rfl⟩ (sd_mC (sd_m6 k0)) (sd_e6 k0) rfl rfl rfl (Nat.le_of_ble_eq_true rfl) dX5_sortsToCarry_11 rfl (n' := 14) ?_
    refine sd_icmp_gt C (n' := 17) (tgt := 45) dX5_sortsToCarry_14 rfl rfl (fun c14 => ?_) (fun c14 => ?_)
    · replace hF := sd_pos hF c14
      refine sd_iload_n C 1 dX5_sortsToCarry_45 rfl rfl rfl (n' := 46) ?_
      exact sd_iret C dX5_sortsToCarry_46 (Option.some.inj hF) rfl
    · replace hF := sd_neg hF c14
      refine sd_aload_n C 0 dX5_sortsToCarry_17 rfl rfl rfl (n' := 18) ?_
      refine sd_aload_n C 0 dX5_sortsToCarry_18 rfl rfl rfl (n' := 19) ?_
      refine sd_iconst C (v := 0) dX5_sortsToCarry_19 rfl rfl (n' := 20) ?_
      refine sd_iload_n C 2 dX5_sortsToCarry_20 rfl rfl rfl (n' := 21) ?_
      obtain ⟨q21, e21, hF⟩ := sd_bind hF
      refine sd_callVI [.int (0 : Int32), .int x2] [.ref (E.2.2 h0)] C (ct_X5_weight M h0 (0 : Int32) x2 k0 e21) sd_lX5_87 ⟨rfl, rfl, Nat.le_of_ble_eq_true rfl, Nat.le_of_ble_eq_true rfl⟩ (sd_mC (sd_m6 k0)) (sd_e6 k0) rfl rfl rfl (Nat.le_of_ble_eq_true rfl) dX5_sortsToCarry_21 rfl (n' := 24) ?_
      obtain ⟨q24, e24, hF⟩ := sd_bind hF
      refine sd_callVI [.int q21] [] C (ct_X5_carries M h0 q21 k0 e24) sd_lX5_90 ⟨rfl, rfl, Nat.le_of_ble_eq_true rfl, Nat.le_of_ble_eq_true rfl⟩ (sd_mC (sd_m6 k0)) (sd_e6 k0) rfl rfl rfl (Nat.le_of_ble_eq_true rfl) dX5_sortsToCarry_24 rfl (n' := 27) ?_
      refine sd_if_eq C (n' := 30) (tgt := 39) dX5_sortsToCarry_27 rfl rfl (fun c27 => ?_) (fun c27 => ?_)
      · replace hF := sd_pos hF c27
        refine sd_iinc [(2, .int (x2 + (1 : Int32))), (0, .ref (E.2.2 h0)), (1, .int x1)] 2 C dX5_sortsToCarry_39 rfl rfl (by decide) rfl rfl (n' := 42) ?_
        refine sd_goto C (tgt := 8) dX5_sortsToCarry_42 rfl ?_
        refine sd_sub [1, 2, 0] rfl ?_
        exact ih x1 (x2 + (1 : Int32)) hF
      · replace hF := sd_neg hF c27
        refine sd_iload_n C 1 dX5_sortsToCarry_30 rfl rfl rfl (n' := 31) ?_
        refine sd_iload_n C 2 dX5_sortsToCarry_31 rfl rfl rfl (n' := 32) ?_
        obtain ⟨q32, e32, hF⟩ := sd_bind hF
        refine sd_callSI [.int x2] [.int x1] C (ct_J6_bitCount_0f7a4 M x2  e32) sd_lX5_94 ⟨rfl, rfl, Nat.le_of_ble_eq_true rfl, Nat.le_of_ble_eq_true rfl⟩ rfl (Nat.le_of_ble_eq_true rfl) dX5_sortsToCarry_32 rfl (n' := 35) ?_
        refine sd_mmin C sd_w647 sd_wm_mmin_s sd_w87 sd_wm_mmin_c (Nat.le_of_ble_eq_true rfl) (Nat.le_of_ble_eq_true rfl) dX5_sortsToCarry_35 rfl (n' := 38) ?_
        refine sd_istore_n [(1, .int (if q32 < x1 then q32 else x1)), (0, .ref (E.2.2 h0)), (2, .int x2)] C dX5_sortsToCarry_38 rfl (by decide) rfl rfl (n' := 39) ?_
        refine sd_iinc [(2, .int (x2 + (1 : Int32))), (1, .int (if q32 < x1 then q32 else x1)), (0, .ref (E.2.2 h0))] 2 C dX5_sortsToCarry_39 rfl rfl (by decide) rfl rfl (n' := 42) ?_
        refine sd_goto C (tgt := 8) dX5_sortsToCarry_42 rfl ?_
        refine sd_sub [2, 1, 0] rfl ?_
        exact ih (if q32 < x1 then q32 else x1) (x2 + (1 : Int32)) hF
set_option maxRecDepth 100000 in
set_option maxHeartbeats 4000000 in
theorem tb_X5_sortsToCarry_0 {K : sd_K} {E : sd_Env} {M : sd_Mem} {h0 : Nat} {r : Int32} (C : sd_C K E sd_LC RX5 cX5_sortsToCarry 3 (some .int)) (k0 : sd_kd h0 = 6) : fn_X5_sortsToCarry_0 M h0 = some r → sd_Z K rm_X5_sortsToCarry E sd_LC 3 (sd_QI K E sd_LC r M) M 0 [(0, .ref (E.2.2 h0))] [] := by
  intro hF
  unfold fn_X5_sortsToCarry_0 at hF
  refine sd_aload_n C 0 dX5_sortsToCarry_0 rfl rfl rfl (n' := 1) ?_
  refine sd_iconst C (v := 0) dX5_sortsToCarry_1 rfl rfl (n' := 2) ?_
  obtain ⟨q2, e2, hF⟩ := sd_bind hF
  refine sd_callVI [.int (0 : Int32)] [] C (ct_X5_sorts M h0 (0 : Int32) k0 e2) sd_lX5_52 ⟨rfl, rfl, Nat.le_of_ble_eq_true rfl, Nat.le_of_ble_eq_true rfl⟩ (sd_mC (sd_m6 k0)) (sd_e6 k0) rfl rfl rfl (Nat.le_of_ble_eq_true rfl) dX5_sortsToCarry_2 rfl (n' := 5) ?_
  refine sd_istore_n [(1, .int q2), (0, .ref (E.2.2 h0))] C dX5_sortsToCarry_5 rfl (by decide) rfl rfl (n' := 6) ?_
  refine sd_iconst C (v := 1) dX5_sortsToCarry_6 rfl rfl (n' := 7) ?_
  refine sd_istore_n [(2, .int (1 : Int32)), (1, .int q2), (0, .ref (E.2.2 h0))] C dX5_sortsToCarry_7 rfl (by decide) rfl rfl (n' := 8) ?_
  refine sd_sub [2, 1, 0] rfl ?_
  exact tb_X5_sortsToCarry_8 C k0 sd_FU q2 (1 : Int32) hF
theorem ct_X5_sortsToCarry {l : Launch} {E : sd_Env} (M : sd_Mem) (h0 : Nat) (k0 : sd_kd h0 = 6) {r : Int32} (hF : fn_X5_sortsToCarry M h0 = some r) : sd_MI l E sd_LC yX5_sortsToCarry cX5_sortsToCarry 3 (some .int) rm_X5_sortsToCarry [.ref (E.2.2 h0)] M r M := sd_ent0 (by decide +kernel) (Nat.le_of_ble_eq_true rfl) (fun p e s m below meth c C => tb_X5_sortsToCarry_0 C k0 hF)
theorem dX9_sum_0 : decode cX9_sum 0 = .ok (.iconst 0, 1) := by decide +kernel
theorem dX9_sum_1 : decode cX9_sum 1 = .ok (.istore_n 1, 1) := by decide +kernel
theorem dX9_sum_2 : decode cX9_sum 2 = .ok (.aload_n 0, 1) := by decide +kernel
theorem dX9_sum_3 : decode cX9_sum 3 = .ok (.getfield 9, 3) := by decide +kernel
theorem dX9_sum_6 : decode cX9_sum 6 = .ok (.astore_n 2, 1) := by decide +kernel
theorem dX9_sum_7 : decode cX9_sum 7 = .ok (.aload_n 2, 1) := by decide +kernel
theorem dX9_sum_8 : decode cX9_sum 8 = .ok (.arraylength, 1) := by decide +kernel
theorem dX9_sum_9 : decode cX9_sum 9 = .ok (.istore_n 3, 1) := by decide +kernel
theorem dX9_sum_10 : decode cX9_sum 10 = .ok (.iconst 0, 1) := by decide +kernel
theorem dX9_sum_11 : decode cX9_sum 11 = .ok (.istore 4, 2) := by decide +kernel
theorem dX9_sum_13 : decode cX9_sum 13 = .ok (.iload 4, 2) := by decide +kernel
theorem dX9_sum_15 : decode cX9_sum 15 = .ok (.iload_n 3, 1) := by decide +kernel
theorem dX9_sum_16 : decode cX9_sum 16 = .ok (.if_icmp .ge 20, 3) := by decide +kernel
theorem dX9_sum_19 : decode cX9_sum 19 = .ok (.aload_n 2, 1) := by decide +kernel
theorem dX9_sum_20 : decode cX9_sum 20 = .ok (.iload 4, 2) := by decide +kernel
theorem dX9_sum_22 : decode cX9_sum 22 = .ok (.iaload, 1) := by decide +kernel
theorem dX9_sum_23 : decode cX9_sum 23 = .ok (.istore 5, 2) := by decide +kernel
theorem dX9_sum_25 : decode cX9_sum 25 = .ok (.iload_n 1, 1) := by decide +kernel
theorem dX9_sum_26 : decode cX9_sum 26 = .ok (.iload 5, 2) := by decide +kernel
theorem dX9_sum_28 : decode cX9_sum 28 = .ok (.iadd, 1) := by decide +kernel
theorem dX9_sum_29 : decode cX9_sum 29 = .ok (.istore_n 1, 1) := by decide +kernel
theorem dX9_sum_30 : decode cX9_sum 30 = .ok (.iinc 4 1, 3) := by decide +kernel
theorem dX9_sum_33 : decode cX9_sum 33 = .ok (.goto (-20), 3) := by decide +kernel
theorem dX9_sum_36 : decode cX9_sum 36 = .ok (.iload_n 1, 1) := by decide +kernel
theorem dX9_sum_37 : decode cX9_sum 37 = .ok (.ireturn, 1) := by decide +kernel
set_option maxRecDepth 100000 in
set_option maxHeartbeats 4000000 in
theorem tb_X9_sum_13 {K : sd_K} {E : sd_Env} {M : sd_Mem} {h0 : Nat} {r : Int32} (C : sd_C K E sd_LC RX9 cX9_sum 6 (some .int)) (k0 : sd_kd h0 = 10) : ∀ (n : Nat), ∀ (x1 : Int32) (x3 : Int32) (x4 : Int32), fn_X9_sum_13 M h0 n x1 x3 x4 = some r → sd_Z K rm_X9_sum E sd_LC 6 (sd_QI K E sd_LC r M) M 13 [(1, .int x1), (2, .ref (E.2.2 (h0 + 1))), (3, .int x3), (4, .int x4)] [] := by
  intro n
  induction n with
  | zero => intro x1 x3 x4 hF; cases hF
  | succ n ih =>
    intro x1 x3 x4 hF
    unfold fn_X9_sum_13 at hF
    refine sd_iload C 3 dX9_sum_13 rfl rfl (n' := 15) ?_
    refine sd_iload_n C 2 dX9_sum_15 rfl rfl rfl (n' := 16) ?_
    refine sd_icmp_ge C (n' := 19) (tgt := 36) dX9_sum_16 rfl rfl (fun c16 => ?_) (fun c16 => ?_)
    · replace hF := sd_pos hF c16
      refine sd_iload_n C 0 dX9_sum_36 rfl rfl rfl (n' := 37) ?_
      exact sd_iret C dX9_sum_37 (Option.some.inj hF) rfl
    · replace hF := sd_neg hF c16
      refine sd_aload_n C 1 dX9_sum_19 rfl rfl rfl (n' := 20) ?_
      refine sd_iload C 3 dX9_sum_20 rfl rfl (n' := 22) ?_
      obtain ⟨b22, hF⟩ := sd_ok hF
      refine sd_iald C (sd_mC (sd_c10 k0).2.2) ((sd_c10 k0).1) ((sd_c10 k0).2.1) b22 dX9_sum_22 rfl (n' := 23) ?_
      refine sd_istore [(5, .int (M.1 (h0 + 1) x4.toNatClampNeg)), (1, .int x1), (2, .ref (E.2.2 (h0 + 1))), (3, .int x3), (4, .int x4)] C dX9_sum_23 (by decide) rfl rfl (n' := 25) ?_
      refine sd_iload_n C 1 dX9_sum_25 rfl rfl rfl (n' := 26) ?_
      refine sd_iload C 0 dX9_sum_26 rfl rfl (n' := 28) ?_
      refine sd_iadd C dX9_sum_28 rfl (n' := 29) ?_
      refine sd_istore_n [(1, .int (x1 + (M.1 (h0 + 1) x4.toNatClampNeg))), (5, .int (M.1 (h0 + 1) x4.toNatClampNeg)), (2, .ref (E.2.2 (h0 + 1))), (3, .int x3), (4, .int x4)] C dX9_sum_29 rfl (by decide) rfl rfl (n' := 30) ?_
      refine sd_iinc [(4, .int (x4 + (1 : Int32))), (1, .int (x1 + (M.1 (h0 + 1) x4.toNatClampNeg))), (5, .int (M.1 (h0 + 1) x4.toNatClampNeg)), (2, .ref (E.2.2 (h0 + 1))), (3, .int x3)] 4 C dX9_sum_30 rfl rfl (by decide) rfl rfl (n' := 33) ?_
      refine sd_goto C (tgt := 13) dX9_sum_33 rfl ?_
      refine sd_sub [1, 3, 4, 0] rfl ?_
      exact ih (x1 + (M.1 (h0 + 1) x4.toNatClampNeg)) x3 (x4 + (1 : Int32)) hF
set_option maxRecDepth 100000 in
set_option maxHeartbeats 4000000 in
theorem tb_X9_sum_0 {K : sd_K} {E : sd_Env} {M : sd_Mem} {h0 : Nat} {r : Int32} (C : sd_C K E sd_LC RX9 cX9_sum 6 (some .int)) (k0 : sd_kd h0 = 10) : fn_X9_sum_0 M h0 = some r → sd_Z K rm_X9_sum E sd_LC 6 (sd_QI K E sd_LC r M) M 0 [(0, .ref (E.2.2 h0))] [] := by
  intro hF
  unfold fn_X9_sum_0 at hF
  refine sd_iconst C (v := 0) dX9_sum_0 rfl rfl (n' := 1) ?_
  refine sd_istore_n [(1, .int (0 : Int32)), (0, .ref (E.2.2 h0))] C dX9_sum_1 rfl (by decide) rfl rfl (n' := 2) ?_
  refine sd_aload_n C 1 dX9_sum_2 rfl rfl rfl (n' := 3) ?_
  refine sd_g9_0 C (sd_mC (sd_m10 k0)) k0 sd_w321 dX9_sum_3 rfl (n' := 6) ?_
  refine sd_astore_n [(2, .ref (E.2.2 (h0 + 1))), (1, .int (0 : Int32)), (0, .ref (E.2.2 h0))] C dX9_sum_6 rfl (by decide) rfl rfl (n' := 7) ?_
  refine sd_aload_n C 0 dX9_sum_7 rfl rfl rfl (n' := 8) ?_
  refine sd_alen C (sd_mC (sd_c10 k0).2.2) ((sd_c10 k0).1) ((sd_c10 k0).2.1) rfl dX9_sum_8 rfl (n' := 9) ?_
  refine sd_istore_n [(3, .int (30 : Int32)), (2, .ref (E.2.2 (h0 + 1))), (1, .int (0 : Int32)), (0, .ref (E.2.2 h0))] C dX9_sum_9 rfl (by decide) rfl rfl (n' := 10) ?_
  refine sd_iconst C (v := 0) dX9_sum_10 rfl rfl (n' := 11) ?_
  refine sd_istore [(4, .int (0 : Int32)), (3, .int (30 : Int32)), (2, .ref (E.2.2 (h0 + 1))), (1, .int (0 : Int32)), (0, .ref (E.2.2 h0))] C dX9_sum_11 (by decide) rfl rfl (n' := 13) ?_
  refine sd_sub [3, 2, 1, 0] rfl ?_
  exact tb_X9_sum_13 C k0 sd_FU (0 : Int32) (30 : Int32) (0 : Int32) hF
theorem ct_X9_sum {l : Launch} {E : sd_Env} (M : sd_Mem) (h0 : Nat) (k0 : sd_kd h0 = 10) {r : Int32} (hF : fn_X9_sum M h0 = some r) : sd_MI l E sd_LC yX9_sum cX9_sum 6 (some .int) rm_X9_sum [.ref (E.2.2 h0)] M r M := sd_ent0 (by decide +kernel) (Nat.le_of_ble_eq_true rfl) (fun p e s m below meth c C => tb_X9_sum_0 C k0 hF)
theorem dX10_mark_0 : decode cX10_mark 0 = .ok (.iload_n 1, 1) := by decide +kernel
theorem dX10_mark_1 : decode cX10_mark 1 = .ok (.invokestatic 177, 3) := by decide +kernel
theorem dX10_mark_4 : decode cX10_mark 4 = .ok (.ifCond .eq 12, 3) := by decide +kernel
theorem dX10_mark_7 : decode cX10_mark 7 = .ok (.iload_n 2, 1) := by decide +kernel
theorem dX10_mark_8 : decode cX10_mark 8 = .ok (.iconst 1, 1) := by decide +kernel
theorem dX10_mark_9 : decode cX10_mark 9 = .ok (.iconst 4, 1) := by decide +kernel
theorem dX10_mark_10 : decode cX10_mark 10 = .ok (.invokestatic 152, 3) := by decide +kernel
theorem dX10_mark_13 : decode cX10_mark 13 = .ok (.ifCond .ne 5, 3) := by decide +kernel
theorem dX10_mark_16 : decode cX10_mark 16 = .ok (.iconst (-1), 1) := by decide +kernel
theorem dX10_mark_17 : decode cX10_mark 17 = .ok (.ireturn, 1) := by decide +kernel
theorem dX10_mark_18 : decode cX10_mark 18 = .ok (.aload_n 0, 1) := by decide +kernel
theorem dX10_mark_19 : decode cX10_mark 19 = .ok (.getfield 20, 3) := by decide +kernel
theorem dX10_mark_22 : decode cX10_mark 22 = .ok (.iload_n 1, 1) := by decide +kernel
theorem dX10_mark_23 : decode cX10_mark 23 = .ok (.aaload, 1) := by decide +kernel
theorem dX10_mark_24 : decode cX10_mark 24 = .ok (.invokevirtual 185, 3) := by decide +kernel
theorem dX10_mark_27 : decode cX10_mark 27 = .ok (.ifCond .eq 12, 3) := by decide +kernel
theorem dX10_mark_30 : decode cX10_mark 30 = .ok (.aload_n 0, 1) := by decide +kernel
theorem dX10_mark_31 : decode cX10_mark 31 = .ok (.getfield 84, 3) := by decide +kernel
theorem dX10_mark_34 : decode cX10_mark 34 = .ok (.iconst 1, 1) := by decide +kernel
theorem dX10_mark_35 : decode cX10_mark 35 = .ok (.invokevirtual 100, 3) := by decide +kernel
theorem dX10_mark_38 : decode cX10_mark 38 = .ok (.ireturn, 1) := by decide +kernel
theorem dX10_mark_39 : decode cX10_mark 39 = .ok (.aload_n 0, 1) := by decide +kernel
theorem dX10_mark_40 : decode cX10_mark 40 = .ok (.getfield 20, 3) := by decide +kernel
theorem dX10_mark_43 : decode cX10_mark 43 = .ok (.iload_n 1, 1) := by decide +kernel
theorem dX10_mark_44 : decode cX10_mark 44 = .ok (.aaload, 1) := by decide +kernel
theorem dX10_mark_45 : decode cX10_mark 45 = .ok (.iload_n 2, 1) := by decide +kernel
theorem dX10_mark_46 : decode cX10_mark 46 = .ok (.invokevirtual 201, 3) := by decide +kernel
theorem dX10_mark_49 : decode cX10_mark 49 = .ok (.ifCond .ne 12, 3) := by decide +kernel
theorem dX10_mark_52 : decode cX10_mark 52 = .ok (.aload_n 0, 1) := by decide +kernel
theorem dX10_mark_53 : decode cX10_mark 53 = .ok (.getfield 84, 3) := by decide +kernel
theorem dX10_mark_56 : decode cX10_mark 56 = .ok (.iconst 3, 1) := by decide +kernel
theorem dX10_mark_57 : decode cX10_mark 57 = .ok (.invokevirtual 100, 3) := by decide +kernel
theorem dX10_mark_60 : decode cX10_mark 60 = .ok (.ireturn, 1) := by decide +kernel
theorem dX10_mark_61 : decode cX10_mark 61 = .ok (.iload_n 2, 1) := by decide +kernel
theorem dX10_mark_62 : decode cX10_mark 62 = .ok (.iconst 1, 1) := by decide +kernel
theorem dX10_mark_63 : decode cX10_mark 63 = .ok (.if_icmp .ne 13, 3) := by decide +kernel
theorem dX10_mark_66 : decode cX10_mark 66 = .ok (.aload_n 0, 1) := by decide +kernel
theorem dX10_mark_67 : decode cX10_mark 67 = .ok (.getfield 20, 3) := by decide +kernel
theorem dX10_mark_70 : decode cX10_mark 70 = .ok (.iload_n 1, 1) := by decide +kernel
theorem dX10_mark_71 : decode cX10_mark 71 = .ok (.aaload, 1) := by decide +kernel
theorem dX10_mark_72 : decode cX10_mark 72 = .ok (.invokevirtual 204, 3) := by decide +kernel
theorem dX10_mark_75 : decode cX10_mark 75 = .ok (.ireturn, 1) := by decide +kernel
theorem dX10_mark_76 : decode cX10_mark 76 = .ok (.iload_n 2, 1) := by decide +kernel
theorem dX10_mark_77 : decode cX10_mark 77 = .ok (.iconst 2, 1) := by decide +kernel
theorem dX10_mark_78 : decode cX10_mark 78 = .ok (.if_icmp .ne 13, 3) := by decide +kernel
theorem dX10_mark_81 : decode cX10_mark 81 = .ok (.aload_n 0, 1) := by decide +kernel
theorem dX10_mark_82 : decode cX10_mark 82 = .ok (.getfield 20, 3) := by decide +kernel
theorem dX10_mark_85 : decode cX10_mark 85 = .ok (.iload_n 1, 1) := by decide +kernel
theorem dX10_mark_86 : decode cX10_mark 86 = .ok (.aaload, 1) := by decide +kernel
theorem dX10_mark_87 : decode cX10_mark 87 = .ok (.invokevirtual 207, 3) := by decide +kernel
theorem dX10_mark_90 : decode cX10_mark 90 = .ok (.ireturn, 1) := by decide +kernel
theorem dX10_mark_91 : decode cX10_mark 91 = .ok (.iload_n 2, 1) := by decide +kernel
theorem dX10_mark_92 : decode cX10_mark 92 = .ok (.iconst 3, 1) := by decide +kernel
theorem dX10_mark_93 : decode cX10_mark 93 = .ok (.if_icmp .ne 13, 3) := by decide +kernel
theorem dX10_mark_96 : decode cX10_mark 96 = .ok (.aload_n 0, 1) := by decide +kernel
theorem dX10_mark_97 : decode cX10_mark 97 = .ok (.getfield 27, 3) := by decide +kernel
theorem dX10_mark_100 : decode cX10_mark 100 = .ok (.invokevirtual 210, 3) := by decide +kernel
theorem dX10_mark_103 : decode cX10_mark 103 = .ok (.goto 12, 3) := by decide +kernel
theorem dX10_mark_106 : decode cX10_mark 106 = .ok (.aload_n 0, 1) := by decide +kernel
theorem dX10_mark_107 : decode cX10_mark 107 = .ok (.getfield 20, 3) := by decide +kernel
theorem dX10_mark_110 : decode cX10_mark 110 = .ok (.iload_n 1, 1) := by decide +kernel
theorem dX10_mark_111 : decode cX10_mark 111 = .ok (.aaload, 1) := by decide +kernel
theorem dX10_mark_112 : decode cX10_mark 112 = .ok (.invokevirtual 213, 3) := by decide +kernel
theorem dX10_mark_115 : decode cX10_mark 115 = .ok (.ireturn, 1) := by decide +kernel
set_option maxRecDepth 100000 in
set_option maxHeartbeats 4000000 in
theorem tb_X10_mark_0 {K : sd_K} {E : sd_Env}   {r : (Int32 × sd_Mem)} (C : sd_C K E sd_LC RX10 cX10_mark 3 (some .int))  : ∀ (M : sd_Mem) (x1 : Int32) (x2 : Int32), fn_X10_mark_0 M x1 x2 = some r → sd_Z K rm_X10_mark E sd_LC 3 (sd_QI K E sd_LC r.1 r.2) M 0 [(0, .ref (E.2.2 0)), (1, .int x1), (2, .int x2)] [] := by
  intro M x1 x2 hF
  unfold fn_X10_mark_0 at hF
  refine sd_iload_n C 1 dX10_mark_0 rfl rfl rfl (n' := 1) ?_
  obtain ⟨q1, e1, hF⟩ := sd_bind hF
  refine sd_callSI [.int x1] [] C (ct_X10_isWay M x1  e1) sd_lX10_177 ⟨rfl, rfl, Nat.le_of_ble_eq_true rfl, Nat.le_of_ble_eq_true rfl⟩ rfl (Nat.le_of_ble_eq_true rfl) dX10_mark_1 rfl (n' := 4) ?_
  refine sd_if_eq C (n' := 7) (tgt := 16) dX10_mark_4 rfl rfl (fun c4 => ?_) (fun c4 => ?_)
  · replace hF := sd_pos hF c4
    refine sd_iconst C (v := -1) dX10_mark_16 rfl rfl (n' := 17) ?_
    exact sd_iret C dX10_mark_17 (sd_fst hF) (sd_snd hF)
  · replace hF := sd_neg hF c4
    refine sd_iload_n C 2 dX10_mark_7 rfl rfl rfl (n' := 8) ?_
    refine sd_iconst C (v := 1) dX10_mark_8 rfl rfl (n' := 9) ?_
    refine sd_iconst C (v := 4) dX10_mark_9 rfl rfl (n' := 10) ?_
    obtain ⟨q10, e10, hF⟩ := sd_bind hF
    refine sd_callSI [.int x2, .int (1 : Int32), .int (4 : Int32)] [] C (ct_X10_within M x2 (1 : Int32) (4 : Int32)  e10) sd_lX10_152 ⟨rfl, rfl, Nat.le_of_ble_eq_true rfl, Nat.le_of_ble_eq_true rfl⟩ rfl (Nat.le_of_ble_eq_true rfl) dX10_mark_10 rfl (n' := 13) ?_
    refine sd_if_ne C (n' := 16) (tgt := 18) dX10_mark_13 rfl rfl (fun c13 => ?_) (fun c13 => ?_)
    · replace hF := sd_neg hF c13
      refine sd_aload_n C 0 dX10_mark_18 rfl rfl rfl (n' := 19) ?_
      refine sd_g10_2 C sd_i0 sd_k0 sd_w330 dX10_mark_19 rfl (n' := 22) ?_
      refine sd_iload_n C 1 dX10_mark_22 rfl rfl rfl (n' := 23) ?_
      obtain ⟨b23, hF⟩ := sd_ok hF
      refine sd_wald C sd_i23 sd_k23 sd_n23 b23 dX10_mark_23 rfl (n' := 24) ?_
      obtain ⟨q24, e24, hF⟩ := sd_bind hF
      refine sd_callVI [] [] C (ct_X9_isMissing M (23 + 1 + 2 * x1.toNatClampNeg) ((sd_r23 _ (sd_in_lt b23)).1) e24) sd_lX10_185 ⟨rfl, rfl, Nat.le_of_ble_eq_true rfl, Nat.le_of_ble_eq_true rfl⟩ (sd_mC (sd_r23 _ (sd_in_lt b23)).2) (sd_e10 ((sd_r23 _ (sd_in_lt b23)).1)) rfl rfl rfl (Nat.le_of_ble_eq_true rfl) dX10_mark_24 rfl (n' := 27) ?_
      refine sd_if_eq C (n' := 30) (tgt := 39) dX10_mark_27 rfl rfl (fun c27 => ?_) (fun c27 => ?_)
      · replace hF := sd_pos hF c27
        refine sd_aload_n C 0 dX10_mark_39 rfl rfl rfl (n' := 40) ?_
        refine sd_g10_2 C sd_i0 sd_k0 sd_w330 dX10_mark_40 rfl (n' := 43) ?_
        refine sd_iload_n C 1 dX10_mark_43 rfl rfl rfl (n' := 44) ?_
        obtain ⟨b44, hF⟩ := sd_ok hF
        refine sd_wald C sd_i23 sd_k23 sd_n23 b44 dX10_mark_44 rfl (n' := 45) ?_
        refine sd_iload_n C 2 dX10_mark_45 rfl rfl rfl (n' := 46) ?_
        obtain ⟨q46, e46, hF⟩ := sd_bind hF
        refine sd_callVI [.int x2] [] C (ct_X9_is M (23 + 1 + 2 * x1.toNatClampNeg) x2 ((sd_r23 _ (sd_in_lt b44)).1) e46) sd_lX10_201 ⟨rfl, rfl, Nat.le_of_ble_eq_true rfl, Nat.le_of_ble_eq_true rfl⟩ (sd_mC (sd_r23 _ (sd_in_lt b44)).2) (sd_e10 ((sd_r23 _ (sd_in_lt b44)).1)) rfl rfl rfl (Nat.le_of_ble_eq_true rfl) dX10_mark_46 rfl (n' := 49) ?_
        refine sd_if_ne C (n' := 52) (tgt := 61) dX10_mark_49 rfl rfl (fun c49 => ?_) (fun c49 => ?_)
        · replace hF := sd_neg hF c49
          refine sd_iload_n C 2 dX10_mark_61 rfl rfl rfl (n' := 62) ?_
          refine sd_iconst C (v := 1) dX10_mark_62 rfl rfl (n' := 63) ?_
          refine sd_icmp_ne C (n' := 66) (tgt := 76) dX10_mark_63 rfl rfl (fun c63 => ?_) (fun c63 => ?_)
          · replace hF := sd_neg hF c63
            refine sd_iload_n C 2 dX10_mark_76 rfl rfl rfl (n' := 77) ?_
            refine sd_iconst C (v := 2) dX10_mark_77 rfl rfl (n' := 78) ?_
            refine sd_icmp_ne C (n' := 81) (tgt := 91) dX10_mark_78 rfl rfl (fun c78 => ?_) (fun c78 => ?_)
            · replace hF := sd_neg hF c78
              refine sd_iload_n C 2 dX10_mark_91 rfl rfl rfl (n' := 92) ?_
              refine sd_iconst C (v := 3) dX10_mark_92 rfl rfl (n' := 93) ?_
              refine sd_icmp_ne C (n' := 96) (tgt := 106) dX10_mark_93 rfl rfl (fun c93 => ?_) (fun c93 => ?_)
              · replace hF := sd_neg hF c93
                refine sd_aload_n C 0 dX10_mark_106 rfl rfl rfl (n' := 107) ?_
                refine sd_g10_2 C sd_i0 sd_k0 sd_w330 dX10_mark_107 rfl (n' := 110) ?_
                refine sd_iload_n C 1 dX10_mark_110 rfl rfl rfl (n' := 111) ?_
                obtain ⟨b111, hF⟩ := sd_ok hF
                refine sd_wald C sd_i23 sd_k23 sd_n23 b111 dX10_mark_111 rfl (n' := 112) ?_
                obtain ⟨q112, e112, hF⟩ := sd_bind hF
                refine sd_callVI [] [] C (ct_X9_sum M (23 + 1 + 2 * x1.toNatClampNeg) ((sd_r23 _ (sd_in_lt b111)).1) e112) sd_lX10_213 ⟨rfl, rfl, Nat.le_of_ble_eq_true rfl, Nat.le_of_ble_eq_true rfl⟩ (sd_mC (sd_r23 _ (sd_in_lt b111)).2) (sd_e10 ((sd_r23 _ (sd_in_lt b111)).1)) rfl rfl rfl (Nat.le_of_ble_eq_true rfl) dX10_mark_112 rfl (n' := 115) ?_
                exact sd_iret C dX10_mark_115 (sd_fst hF) (sd_snd hF)
              · replace hF := sd_pos hF c93
                refine sd_aload_n C 0 dX10_mark_96 rfl rfl rfl (n' := 97) ?_
                refine sd_g10_3 C sd_i0 sd_k0 sd_w331 dX10_mark_97 rfl (n' := 100) ?_
                obtain ⟨q100, e100, hF⟩ := sd_bind hF
                refine sd_callVI [] [] C (ct_X5_sortsToCarry M 40 sd_k40 e100) sd_lX10_210 ⟨rfl, rfl, Nat.le_of_ble_eq_true rfl, Nat.le_of_ble_eq_true rfl⟩ sd_i40 (sd_e6 sd_k40) rfl rfl rfl (Nat.le_of_ble_eq_true rfl) dX10_mark_100 rfl (n' := 103) ?_
                refine sd_goto C (tgt := 115) dX10_mark_103 rfl ?_
                exact sd_iret C dX10_mark_115 (sd_fst hF) (sd_snd hF)
            · replace hF := sd_pos hF c78
              refine sd_aload_n C 0 dX10_mark_81 rfl rfl rfl (n' := 82) ?_
              refine sd_g10_2 C sd_i0 sd_k0 sd_w330 dX10_mark_82 rfl (n' := 85) ?_
              refine sd_iload_n C 1 dX10_mark_85 rfl rfl rfl (n' := 86) ?_
              obtain ⟨b86, hF⟩ := sd_ok hF
              refine sd_wald C sd_i23 sd_k23 sd_n23 b86 dX10_mark_86 rfl (n' := 87) ?_
              obtain ⟨q87, e87, hF⟩ := sd_bind hF
              refine sd_callVI [] [] C (ct_X9_least M (23 + 1 + 2 * x1.toNatClampNeg) ((sd_r23 _ (sd_in_lt b86)).1) e87) sd_lX10_207 ⟨rfl, rfl, Nat.le_of_ble_eq_true rfl, Nat.le_of_ble_eq_true rfl⟩ (sd_mC (sd_r23 _ (sd_in_lt b86)).2) (sd_e10 ((sd_r23 _ (sd_in_lt b86)).1)) rfl rfl rfl (Nat.le_of_ble_eq_true rfl) dX10_mark_87 rfl (n' := 90) ?_
              exact sd_iret C dX10_mark_90 (sd_fst hF) (sd_snd hF)
          · replace hF := sd_pos hF c63
            refine sd_aload_n C 0 dX10_mark_66 rfl rfl rfl (n' := 67) ?_
            refine sd_g10_2 C sd_i0 sd_k0 sd_w330 dX10_mark_67 rfl (n' := 70) ?_
            refine sd_iload_n C 1 dX10_mark_70 rfl rfl rfl (n' := 71) ?_
            obtain ⟨b71, hF⟩ := sd_ok hF
            refine sd_wald C sd_i23 sd_k23 sd_n23 b71 dX10_mark_71 rfl (n' := 72) ?_
            obtain ⟨q72, e72, hF⟩ := sd_bind hF
            refine sd_callVI [] [] C (ct_X9_greatest M (23 + 1 + 2 * x1.toNatClampNeg) ((sd_r23 _ (sd_in_lt b71)).1) e72) sd_lX10_204 ⟨rfl, rfl, Nat.le_of_ble_eq_true rfl, Nat.le_of_ble_eq_true rfl⟩ (sd_mC (sd_r23 _ (sd_in_lt b71)).2) (sd_e10 ((sd_r23 _ (sd_in_lt b71)).1)) rfl rfl rfl (Nat.le_of_ble_eq_true rfl) dX10_mark_72 rfl (n' := 75) ?_
            exact sd_iret C dX10_mark_75 (sd_fst hF) (sd_snd hF)
        · replace hF := sd_pos hF c49
          refine sd_aload_n C 0 dX10_mark_52 rfl rfl rfl (n' := 53) ?_
          refine sd_g10_12 C sd_i0 sd_k0 sd_w340 dX10_mark_53 rfl (n' := 56) ?_
          refine sd_iconst C (v := 3) dX10_mark_56 rfl rfl (n' := 57) ?_
          obtain ⟨q57, e57, hF⟩ := sd_bind hF
          refine sd_callVI [.int (3 : Int32)] [] C (ct_X2_tell M (3 : Int32)  e57) sd_lX10_100 ⟨rfl, rfl, Nat.le_of_ble_eq_true rfl, Nat.le_of_ble_eq_true rfl⟩ sd_i97 (sd_e3 sd_k97) rfl rfl rfl (Nat.le_of_ble_eq_true rfl) dX10_mark_57 rfl (n' := 60) ?_
          exact sd_iret C dX10_mark_60 (sd_fst hF) (sd_snd hF)
      · replace hF := sd_neg hF c27
        refine sd_aload_n C 0 dX10_mark_30 rfl rfl rfl (n' := 31) ?_
        refine sd_g10_12 C sd_i0 sd_k0 sd_w340 dX10_mark_31 rfl (n' := 34) ?_
        refine sd_iconst C (v := 1) dX10_mark_34 rfl rfl (n' := 35) ?_
        obtain ⟨q35, e35, hF⟩ := sd_bind hF
        refine sd_callVI [.int (1 : Int32)] [] C (ct_X2_tell M (1 : Int32)  e35) sd_lX10_100 ⟨rfl, rfl, Nat.le_of_ble_eq_true rfl, Nat.le_of_ble_eq_true rfl⟩ sd_i97 (sd_e3 sd_k97) rfl rfl rfl (Nat.le_of_ble_eq_true rfl) dX10_mark_35 rfl (n' := 38) ?_
        exact sd_iret C dX10_mark_38 (sd_fst hF) (sd_snd hF)
    · replace hF := sd_pos hF c13
      refine sd_iconst C (v := -1) dX10_mark_16 rfl rfl (n' := 17) ?_
      exact sd_iret C dX10_mark_17 (sd_fst hF) (sd_snd hF)
theorem ct_X10_mark {l : Launch} {E : sd_Env} (M : sd_Mem) (x1 : Int32) (x2 : Int32)  {r : (Int32 × sd_Mem)} (hF : fn_X10_mark M x1 x2 = some r) : sd_MI l E sd_LC yX10_mark cX10_mark 3 (some .int) rm_X10_mark [.ref (E.2.2 0), .int x1, .int x2] M r.1 r.2 := sd_ent0 (by decide +kernel) (Nat.le_of_ble_eq_true rfl) (fun p e s m below meth c C => tb_X10_mark_0 C M x1 x2 hF)
theorem dX9_isPlainTake_0 : decode cX9_isPlainTake 0 = .ok (.aload_n 0, 1) := by decide +kernel
theorem dX9_isPlainTake_1 : decode cX9_isPlainTake 1 = .ok (.getfield 15, 3) := by decide +kernel
theorem dX9_isPlainTake_4 : decode cX9_isPlainTake 4 = .ok (.iconst 2, 1) := by decide +kernel
theorem dX9_isPlainTake_5 : decode cX9_isPlainTake 5 = .ok (.if_icmp .ne 7, 3) := by decide +kernel
theorem dX9_isPlainTake_8 : decode cX9_isPlainTake 8 = .ok (.iconst 1, 1) := by decide +kernel
theorem dX9_isPlainTake_9 : decode cX9_isPlainTake 9 = .ok (.goto 4, 3) := by decide +kernel
theorem dX9_isPlainTake_12 : decode cX9_isPlainTake 12 = .ok (.iconst 0, 1) := by decide +kernel
theorem dX9_isPlainTake_13 : decode cX9_isPlainTake 13 = .ok (.ireturn, 1) := by decide +kernel
set_option maxRecDepth 100000 in
set_option maxHeartbeats 4000000 in
theorem tb_X9_isPlainTake_0 {K : sd_K} {E : sd_Env} {M : sd_Mem} {h0 : Nat} {r : Int32} (C : sd_C K E sd_LC RX9 cX9_isPlainTake 1 (some .boolean)) (k0 : sd_kd h0 = 10) : fn_X9_isPlainTake_0 M h0 = some r → sd_Z K rm_X9_isPlainTake E sd_LC 1 (sd_QI K E sd_LC r M) M 0 [(0, .ref (E.2.2 h0))] [] := by
  intro hF
  unfold fn_X9_isPlainTake_0 at hF
  refine sd_aload_n C 0 dX9_isPlainTake_0 rfl rfl rfl (n' := 1) ?_
  refine sd_g9_1 C (sd_mC (sd_m10 k0)) k0 sd_w322 dX9_isPlainTake_1 rfl (n' := 4) ?_
  refine sd_iconst C (v := 2) dX9_isPlainTake_4 rfl rfl (n' := 5) ?_
  refine sd_icmp_ne C (n' := 8) (tgt := 12) dX9_isPlainTake_5 rfl rfl (fun c5 => ?_) (fun c5 => ?_)
  · replace hF := sd_neg hF c5
    refine sd_iconst C (v := 0) dX9_isPlainTake_12 rfl rfl (n' := 13) ?_
    exact sd_zret C dX9_isPlainTake_13 rfl (Option.some.inj hF) rfl
  · replace hF := sd_pos hF c5
    refine sd_iconst C (v := 1) dX9_isPlainTake_8 rfl rfl (n' := 9) ?_
    refine sd_goto C (tgt := 13) dX9_isPlainTake_9 rfl ?_
    exact sd_zret C dX9_isPlainTake_13 rfl (Option.some.inj hF) rfl
theorem ct_X9_isPlainTake {l : Launch} {E : sd_Env} (M : sd_Mem) (h0 : Nat) (k0 : sd_kd h0 = 10) {r : Int32} (hF : fn_X9_isPlainTake M h0 = some r) : sd_MI l E sd_LC yX9_isPlainTake cX9_isPlainTake 1 (some .boolean) rm_X9_isPlainTake [.ref (E.2.2 h0)] M r M := sd_ent0 (by decide +kernel) (Nat.le_of_ble_eq_true rfl) (fun p e s m below meth c C => tb_X9_isPlainTake_0 C k0 hF)
theorem dX10_refusePair_0 : decode cX10_refusePair 0 = .ok (.iload_n 1, 1) := by decide +kernel
theorem dX10_refusePair_1 : decode cX10_refusePair 1 = .ok (.invokestatic 177, 3) := by decide +kernel
theorem dX10_refusePair_4 : decode cX10_refusePair 4 = .ok (.ifCond .eq 10, 3) := by decide +kernel
theorem dX10_refusePair_7 : decode cX10_refusePair 7 = .ok (.iload_n 2, 1) := by decide +kernel
theorem dX10_refusePair_8 : decode cX10_refusePair 8 = .ok (.invokestatic 177, 3) := by decide +kernel
theorem dX10_refusePair_11 : decode cX10_refusePair 11 = .ok (.ifCond .ne 5, 3) := by decide +kernel
theorem dX10_refusePair_14 : decode cX10_refusePair 14 = .ok (.iconst (-1), 1) := by decide +kernel
theorem dX10_refusePair_15 : decode cX10_refusePair 15 = .ok (.ireturn, 1) := by decide +kernel
theorem dX10_refusePair_16 : decode cX10_refusePair 16 = .ok (.aload_n 0, 1) := by decide +kernel
theorem dX10_refusePair_17 : decode cX10_refusePair 17 = .ok (.getfield 20, 3) := by decide +kernel
theorem dX10_refusePair_20 : decode cX10_refusePair 20 = .ok (.iload_n 1, 1) := by decide +kernel
theorem dX10_refusePair_21 : decode cX10_refusePair 21 = .ok (.aaload, 1) := by decide +kernel
theorem dX10_refusePair_22 : decode cX10_refusePair 22 = .ok (.invokevirtual 185, 3) := by decide +kernel
theorem dX10_refusePair_25 : decode cX10_refusePair 25 = .ok (.ifCond .ne 15, 3) := by decide +kernel
theorem dX10_refusePair_28 : decode cX10_refusePair 28 = .ok (.aload_n 0, 1) := by decide +kernel
theorem dX10_refusePair_29 : decode cX10_refusePair 29 = .ok (.getfield 20, 3) := by decide +kernel
theorem dX10_refusePair_32 : decode cX10_refusePair 32 = .ok (.iload_n 2, 1) := by decide +kernel
theorem dX10_refusePair_33 : decode cX10_refusePair 33 = .ok (.aaload, 1) := by decide +kernel
theorem dX10_refusePair_34 : decode cX10_refusePair 34 = .ok (.invokevirtual 185, 3) := by decide +kernel
theorem dX10_refusePair_37 : decode cX10_refusePair 37 = .ok (.ifCond .eq 12, 3) := by decide +kernel
theorem dX10_refusePair_40 : decode cX10_refusePair 40 = .ok (.aload_n 0, 1) := by decide +kernel
theorem dX10_refusePair_41 : decode cX10_refusePair 41 = .ok (.getfield 84, 3) := by decide +kernel
theorem dX10_refusePair_44 : decode cX10_refusePair 44 = .ok (.iconst 1, 1) := by decide +kernel
theorem dX10_refusePair_45 : decode cX10_refusePair 45 = .ok (.invokevirtual 100, 3) := by decide +kernel
theorem dX10_refusePair_48 : decode cX10_refusePair 48 = .ok (.ireturn, 1) := by decide +kernel
theorem dX10_refusePair_49 : decode cX10_refusePair 49 = .ok (.iload_n 3, 1) := by decide +kernel
theorem dX10_refusePair_50 : decode cX10_refusePair 50 = .ok (.ifCond .eq 16, 3) := by decide +kernel
theorem dX10_refusePair_53 : decode cX10_refusePair 53 = .ok (.aload_n 0, 1) := by decide +kernel
theorem dX10_refusePair_54 : decode cX10_refusePair 54 = .ok (.getfield 20, 3) := by decide +kernel
theorem dX10_refusePair_57 : decode cX10_refusePair 57 = .ok (.iload_n 2, 1) := by decide +kernel
theorem dX10_refusePair_58 : decode cX10_refusePair 58 = .ok (.aaload, 1) := by decide +kernel
theorem dX10_refusePair_59 : decode cX10_refusePair 59 = .ok (.iconst 2, 1) := by decide +kernel
theorem dX10_refusePair_60 : decode cX10_refusePair 60 = .ok (.invokevirtual 201, 3) := by decide +kernel
theorem dX10_refusePair_63 : decode cX10_refusePair 63 = .ok (.goto 12, 3) := by decide +kernel
theorem dX10_refusePair_66 : decode cX10_refusePair 66 = .ok (.aload_n 0, 1) := by decide +kernel
theorem dX10_refusePair_67 : decode cX10_refusePair 67 = .ok (.getfield 20, 3) := by decide +kernel
theorem dX10_refusePair_70 : decode cX10_refusePair 70 = .ok (.iload_n 2, 1) := by decide +kernel
theorem dX10_refusePair_71 : decode cX10_refusePair 71 = .ok (.aaload, 1) := by decide +kernel
theorem dX10_refusePair_72 : decode cX10_refusePair 72 = .ok (.invokevirtual 265, 3) := by decide +kernel
theorem dX10_refusePair_75 : decode cX10_refusePair 75 = .ok (.istore 4, 2) := by decide +kernel
theorem dX10_refusePair_77 : decode cX10_refusePair 77 = .ok (.aload_n 0, 1) := by decide +kernel
theorem dX10_refusePair_78 : decode cX10_refusePair 78 = .ok (.getfield 20, 3) := by decide +kernel
theorem dX10_refusePair_81 : decode cX10_refusePair 81 = .ok (.iload_n 1, 1) := by decide +kernel
theorem dX10_refusePair_82 : decode cX10_refusePair 82 = .ok (.aaload, 1) := by decide +kernel
theorem dX10_refusePair_83 : decode cX10_refusePair 83 = .ok (.iconst 1, 1) := by decide +kernel
theorem dX10_refusePair_84 : decode cX10_refusePair 84 = .ok (.invokevirtual 201, 3) := by decide +kernel
theorem dX10_refusePair_87 : decode cX10_refusePair 87 = .ok (.ifCond .eq 12, 3) := by decide +kernel
theorem dX10_refusePair_90 : decode cX10_refusePair 90 = .ok (.iload 4, 2) := by decide +kernel
theorem dX10_refusePair_92 : decode cX10_refusePair 92 = .ok (.ifCond .eq 7, 3) := by decide +kernel
theorem dX10_refusePair_95 : decode cX10_refusePair 95 = .ok (.iconst 0, 1) := by decide +kernel
theorem dX10_refusePair_96 : decode cX10_refusePair 96 = .ok (.goto 11, 3) := by decide +kernel
theorem dX10_refusePair_99 : decode cX10_refusePair 99 = .ok (.aload_n 0, 1) := by decide +kernel
theorem dX10_refusePair_100 : decode cX10_refusePair 100 = .ok (.getfield 84, 3) := by decide +kernel
theorem dX10_refusePair_103 : decode cX10_refusePair 103 = .ok (.iconst 3, 1) := by decide +kernel
theorem dX10_refusePair_104 : decode cX10_refusePair 104 = .ok (.invokevirtual 100, 3) := by decide +kernel
theorem dX10_refusePair_107 : decode cX10_refusePair 107 = .ok (.ireturn, 1) := by decide +kernel
set_option maxRecDepth 100000 in
set_option maxHeartbeats 4000000 in
theorem tb_X10_refusePair_75 {K : sd_K} {E : sd_Env}   {r : (Int32 × sd_Mem)} (C : sd_C K E sd_LC RX10 cX10_refusePair 5 (some .int))  : ∀ (M : sd_Mem) (x1 : Int32) (xs0 : Int32), fn_X10_refusePair_75 M x1 xs0 = some r → sd_Z K rm_X10_refusePair E sd_LC 5 (sd_QI K E sd_LC r.1 r.2) M 75 [(0, .ref (E.2.2 0)), (1, .int x1)] [.int xs0] := by
  intro M x1 xs0 hF
  unfold fn_X10_refusePair_75 at hF
  refine sd_istore [(4, .int xs0), (0, .ref (E.2.2 0)), (1, .int x1)] C dX10_refusePair_75 (by decide) rfl rfl (n' := 77) ?_
  refine sd_aload_n C 1 dX10_refusePair_77 rfl rfl rfl (n' := 78) ?_
  refine sd_g10_2 C sd_i0 sd_k0 sd_w330 dX10_refusePair_78 rfl (n' := 81) ?_
  refine sd_iload_n C 2 dX10_refusePair_81 rfl rfl rfl (n' := 82) ?_
  obtain ⟨b82, hF⟩ := sd_ok hF
  refine sd_wald C sd_i23 sd_k23 sd_n23 b82 dX10_refusePair_82 rfl (n' := 83) ?_
  refine sd_iconst C (v := 1) dX10_refusePair_83 rfl rfl (n' := 84) ?_
  obtain ⟨q84, e84, hF⟩ := sd_bind hF
  refine sd_callVI [.int (1 : Int32)] [] C (ct_X9_is M (23 + 1 + 2 * x1.toNatClampNeg) (1 : Int32) ((sd_r23 _ (sd_in_lt b82)).1) e84) sd_lX10_201 ⟨rfl, rfl, Nat.le_of_ble_eq_true rfl, Nat.le_of_ble_eq_true rfl⟩ (sd_mC (sd_r23 _ (sd_in_lt b82)).2) (sd_e10 ((sd_r23 _ (sd_in_lt b82)).1)) rfl rfl rfl (Nat.le_of_ble_eq_true rfl) dX10_refusePair_84 rfl (n' := 87) ?_
  refine sd_if_eq C (n' := 90) (tgt := 99) dX10_refusePair_87 rfl rfl (fun c87 => ?_) (fun c87 => ?_)
  · replace hF := sd_pos hF c87
    refine sd_aload_n C 1 dX10_refusePair_99 rfl rfl rfl (n' := 100) ?_
    refine sd_g10_12 C sd_i0 sd_k0 sd_w340 dX10_refusePair_100 rfl (n' := 103) ?_
    refine sd_iconst C (v := 3) dX10_refusePair_103 rfl rfl (n' := 104) ?_
    obtain ⟨q104, e104, hF⟩ := sd_bind hF
    refine sd_callVI [.int (3 : Int32)] [] C (ct_X2_tell M (3 : Int32)  e104) sd_lX10_100 ⟨rfl, rfl, Nat.le_of_ble_eq_true rfl, Nat.le_of_ble_eq_true rfl⟩ sd_i97 (sd_e3 sd_k97) rfl rfl rfl (Nat.le_of_ble_eq_true rfl) dX10_refusePair_104 rfl (n' := 107) ?_
    exact sd_iret C dX10_refusePair_107 (sd_fst hF) (sd_snd hF)
  · replace hF := sd_neg hF c87
    refine sd_iload C 0 dX10_refusePair_90 rfl rfl (n' := 92) ?_
    refine sd_if_eq C (n' := 95) (tgt := 99) dX10_refusePair_92 rfl rfl (fun c92 => ?_) (fun c92 => ?_)
    · replace hF := sd_pos hF c92
      refine sd_aload_n C 1 dX10_refusePair_99 rfl rfl rfl (n' := 100) ?_
      refine sd_g10_12 C sd_i0 sd_k0 sd_w340 dX10_refusePair_100 rfl (n' := 103) ?_
      refine sd_iconst C (v := 3) dX10_refusePair_103 rfl rfl (n' := 104) ?_
      obtain ⟨q104, e104, hF⟩ := sd_bind hF
      refine sd_callVI [.int (3 : Int32)] [] C (ct_X2_tell M (3 : Int32)  e104) sd_lX10_100 ⟨rfl, rfl, Nat.le_of_ble_eq_true rfl, Nat.le_of_ble_eq_true rfl⟩ sd_i97 (sd_e3 sd_k97) rfl rfl rfl (Nat.le_of_ble_eq_true rfl) dX10_refusePair_104 rfl (n' := 107) ?_
      exact sd_iret C dX10_refusePair_107 (sd_fst hF) (sd_snd hF)
    · replace hF := sd_neg hF c92
      refine sd_iconst C (v := 0) dX10_refusePair_95 rfl rfl (n' := 96) ?_
      refine sd_goto C (tgt := 107) dX10_refusePair_96 rfl ?_
      exact sd_iret C dX10_refusePair_107 (sd_fst hF) (sd_snd hF)
set_option maxRecDepth 100000 in
set_option maxHeartbeats 4000000 in
theorem tb_X10_refusePair_0 {K : sd_K} {E : sd_Env}   {r : (Int32 × sd_Mem)} (C : sd_C K E sd_LC RX10 cX10_refusePair 5 (some .int))  : ∀ (M : sd_Mem) (x1 : Int32) (x2 : Int32) (x3 : Int32), fn_X10_refusePair_0 M x1 x2 x3 = some r → sd_Z K rm_X10_refusePair E sd_LC 5 (sd_QI K E sd_LC r.1 r.2) M 0 [(0, .ref (E.2.2 0)), (1, .int x1), (2, .int x2), (3, .int x3)] [] := by
  intro M x1 x2 x3 hF
  unfold fn_X10_refusePair_0 at hF
  refine sd_iload_n C 1 dX10_refusePair_0 rfl rfl rfl (n' := 1) ?_
  obtain ⟨q1, e1, hF⟩ := sd_bind hF
  refine sd_callSI [.int x1] [] C (ct_X10_isWay M x1  e1) sd_lX10_177 ⟨rfl, rfl, Nat.le_of_ble_eq_true rfl, Nat.le_of_ble_eq_true rfl⟩ rfl (Nat.le_of_ble_eq_true rfl) dX10_refusePair_1 rfl (n' := 4) ?_
  refine sd_if_eq C (n' := 7) (tgt := 14) dX10_refusePair_4 rfl rfl (fun c4 => ?_) (fun c4 => ?_)
  · replace hF := sd_pos hF c4
    refine sd_iconst C (v := -1) dX10_refusePair_14 rfl rfl (n' := 15) ?_
    exact sd_iret C dX10_refusePair_15 (sd_fst hF) (sd_snd hF)
  · replace hF := sd_neg hF c4
    refine sd_iload_n C 2 dX10_refusePair_7 rfl rfl rfl (n' := 8) ?_
    obtain ⟨q8, e8, hF⟩ := sd_bind hF
    refine sd_callSI [.int x2] [] C (ct_X10_isWay M x2  e8) sd_lX10_177 ⟨rfl, rfl, Nat.le_of_ble_eq_true rfl, Nat.le_of_ble_eq_true rfl⟩ rfl (Nat.le_of_ble_eq_true rfl) dX10_refusePair_8 rfl (n' := 11) ?_
    refine sd_if_ne C (n' := 14) (tgt := 16) dX10_refusePair_11 rfl rfl (fun c11 => ?_) (fun c11 => ?_)
    · replace hF := sd_neg hF c11
      refine sd_aload_n C 0 dX10_refusePair_16 rfl rfl rfl (n' := 17) ?_
      refine sd_g10_2 C sd_i0 sd_k0 sd_w330 dX10_refusePair_17 rfl (n' := 20) ?_
      refine sd_iload_n C 1 dX10_refusePair_20 rfl rfl rfl (n' := 21) ?_
      obtain ⟨b21, hF⟩ := sd_ok hF
      refine sd_wald C sd_i23 sd_k23 sd_n23 b21 dX10_refusePair_21 rfl (n' := 22) ?_
      obtain ⟨q22, e22, hF⟩ := sd_bind hF
      refine sd_callVI [] [] C (ct_X9_isMissing M (23 + 1 + 2 * x1.toNatClampNeg) ((sd_r23 _ (sd_in_lt b21)).1) e22) sd_lX10_185 ⟨rfl, rfl, Nat.le_of_ble_eq_true rfl, Nat.le_of_ble_eq_true rfl⟩ (sd_mC (sd_r23 _ (sd_in_lt b21)).2) (sd_e10 ((sd_r23 _ (sd_in_lt b21)).1)) rfl rfl rfl (Nat.le_of_ble_eq_true rfl) dX10_refusePair_22 rfl (n' := 25) ?_
      refine sd_if_ne C (n' := 28) (tgt := 40) dX10_refusePair_25 rfl rfl (fun c25 => ?_) (fun c25 => ?_)
      · replace hF := sd_neg hF c25
        refine sd_aload_n C 0 dX10_refusePair_40 rfl rfl rfl (n' := 41) ?_
        refine sd_g10_12 C sd_i0 sd_k0 sd_w340 dX10_refusePair_41 rfl (n' := 44) ?_
        refine sd_iconst C (v := 1) dX10_refusePair_44 rfl rfl (n' := 45) ?_
        obtain ⟨q45, e45, hF⟩ := sd_bind hF
        refine sd_callVI [.int (1 : Int32)] [] C (ct_X2_tell M (1 : Int32)  e45) sd_lX10_100 ⟨rfl, rfl, Nat.le_of_ble_eq_true rfl, Nat.le_of_ble_eq_true rfl⟩ sd_i97 (sd_e3 sd_k97) rfl rfl rfl (Nat.le_of_ble_eq_true rfl) dX10_refusePair_45 rfl (n' := 48) ?_
        exact sd_iret C dX10_refusePair_48 (sd_fst hF) (sd_snd hF)
      · replace hF := sd_pos hF c25
        refine sd_aload_n C 0 dX10_refusePair_28 rfl rfl rfl (n' := 29) ?_
        refine sd_g10_2 C sd_i0 sd_k0 sd_w330 dX10_refusePair_29 rfl (n' := 32) ?_
        refine sd_iload_n C 2 dX10_refusePair_32 rfl rfl rfl (n' := 33) ?_
        obtain ⟨b33, hF⟩ := sd_ok hF
        refine sd_wald C sd_i23 sd_k23 sd_n23 b33 dX10_refusePair_33 rfl (n' := 34) ?_
        obtain ⟨q34, e34, hF⟩ := sd_bind hF
        refine sd_callVI [] [] C (ct_X9_isMissing M (23 + 1 + 2 * x2.toNatClampNeg) ((sd_r23 _ (sd_in_lt b33)).1) e34) sd_lX10_185 ⟨rfl, rfl, Nat.le_of_ble_eq_true rfl, Nat.le_of_ble_eq_true rfl⟩ (sd_mC (sd_r23 _ (sd_in_lt b33)).2) (sd_e10 ((sd_r23 _ (sd_in_lt b33)).1)) rfl rfl rfl (Nat.le_of_ble_eq_true rfl) dX10_refusePair_34 rfl (n' := 37) ?_
        refine sd_if_eq C (n' := 40) (tgt := 49) dX10_refusePair_37 rfl rfl (fun c37 => ?_) (fun c37 => ?_)
        · replace hF := sd_pos hF c37
          refine sd_iload_n C 3 dX10_refusePair_49 rfl rfl rfl (n' := 50) ?_
          refine sd_if_eq C (n' := 53) (tgt := 66) dX10_refusePair_50 rfl rfl (fun c50 => ?_) (fun c50 => ?_)
          · replace hF := sd_pos hF c50
            refine sd_aload_n C 0 dX10_refusePair_66 rfl rfl rfl (n' := 67) ?_
            refine sd_g10_2 C sd_i0 sd_k0 sd_w330 dX10_refusePair_67 rfl (n' := 70) ?_
            refine sd_iload_n C 2 dX10_refusePair_70 rfl rfl rfl (n' := 71) ?_
            obtain ⟨b71, hF⟩ := sd_ok hF
            refine sd_wald C sd_i23 sd_k23 sd_n23 b71 dX10_refusePair_71 rfl (n' := 72) ?_
            obtain ⟨q72, e72, hF⟩ := sd_bind hF
            refine sd_callVI [] [] C (ct_X9_isPlainTake M (23 + 1 + 2 * x2.toNatClampNeg) ((sd_r23 _ (sd_in_lt b71)).1) e72) sd_lX10_265 ⟨rfl, rfl, Nat.le_of_ble_eq_true rfl, Nat.le_of_ble_eq_true rfl⟩ (sd_mC (sd_r23 _ (sd_in_lt b71)).2) (sd_e10 ((sd_r23 _ (sd_in_lt b71)).1)) rfl rfl rfl (Nat.le_of_ble_eq_true rfl) dX10_refusePair_72 rfl (n' := 75) ?_
            refine sd_sub [0, 1] rfl ?_
            exact tb_X10_refusePair_75 C M x1 q72 hF
          · replace hF := sd_neg hF c50
            refine sd_aload_n C 0 dX10_refusePair_53 rfl rfl rfl (n' := 54) ?_
            refine sd_g10_2 C sd_i0 sd_k0 sd_w330 dX10_refusePair_54 rfl (n' := 57) ?_
            refine sd_iload_n C 2 dX10_refusePair_57 rfl rfl rfl (n' := 58) ?_
            obtain ⟨b58, hF⟩ := sd_ok hF
            refine sd_wald C sd_i23 sd_k23 sd_n23 b58 dX10_refusePair_58 rfl (n' := 59) ?_
            refine sd_iconst C (v := 2) dX10_refusePair_59 rfl rfl (n' := 60) ?_
            obtain ⟨q60, e60, hF⟩ := sd_bind hF
            refine sd_callVI [.int (2 : Int32)] [] C (ct_X9_is M (23 + 1 + 2 * x2.toNatClampNeg) (2 : Int32) ((sd_r23 _ (sd_in_lt b58)).1) e60) sd_lX10_201 ⟨rfl, rfl, Nat.le_of_ble_eq_true rfl, Nat.le_of_ble_eq_true rfl⟩ (sd_mC (sd_r23 _ (sd_in_lt b58)).2) (sd_e10 ((sd_r23 _ (sd_in_lt b58)).1)) rfl rfl rfl (Nat.le_of_ble_eq_true rfl) dX10_refusePair_60 rfl (n' := 63) ?_
            refine sd_goto C (tgt := 75) dX10_refusePair_63 rfl ?_
            refine sd_sub [0, 1] rfl ?_
            exact tb_X10_refusePair_75 C M x1 q60 hF
        · replace hF := sd_neg hF c37
          refine sd_aload_n C 0 dX10_refusePair_40 rfl rfl rfl (n' := 41) ?_
          refine sd_g10_12 C sd_i0 sd_k0 sd_w340 dX10_refusePair_41 rfl (n' := 44) ?_
          refine sd_iconst C (v := 1) dX10_refusePair_44 rfl rfl (n' := 45) ?_
          obtain ⟨q45, e45, hF⟩ := sd_bind hF
          refine sd_callVI [.int (1 : Int32)] [] C (ct_X2_tell M (1 : Int32)  e45) sd_lX10_100 ⟨rfl, rfl, Nat.le_of_ble_eq_true rfl, Nat.le_of_ble_eq_true rfl⟩ sd_i97 (sd_e3 sd_k97) rfl rfl rfl (Nat.le_of_ble_eq_true rfl) dX10_refusePair_45 rfl (n' := 48) ?_
          exact sd_iret C dX10_refusePair_48 (sd_fst hF) (sd_snd hF)
    · replace hF := sd_pos hF c11
      refine sd_iconst C (v := -1) dX10_refusePair_14 rfl rfl (n' := 15) ?_
      exact sd_iret C dX10_refusePair_15 (sd_fst hF) (sd_snd hF)
theorem ct_X10_refusePair {l : Launch} {E : sd_Env} (M : sd_Mem) (x1 : Int32) (x2 : Int32) (x3 : Int32)  {r : (Int32 × sd_Mem)} (hF : fn_X10_refusePair M x1 x2 x3 = some r) : sd_MI l E sd_LC yX10_refusePair cX10_refusePair 5 (some .int) rm_X10_refusePair [.ref (E.2.2 0), .int x1, .int x2, .int x3] M r.1 r.2 := sd_ent0 (by decide +kernel) (Nat.le_of_ble_eq_true rfl) (fun p e s m below meth c C => tb_X10_refusePair_0 C M x1 x2 x3 hF)
theorem dX7_isTaken_0 : decode cX7_isTaken 0 = .ok (.aload_n 1, 1) := by decide +kernel
theorem dX7_isTaken_1 : decode cX7_isTaken 1 = .ok (.invokevirtual 40, 3) := by decide +kernel
theorem dX7_isTaken_4 : decode cX7_isTaken 4 = .ok (.ifCond .eq 20, 3) := by decide +kernel
theorem dX7_isTaken_7 : decode cX7_isTaken 7 = .ok (.iload 4, 2) := by decide +kernel
theorem dX7_isTaken_9 : decode cX7_isTaken 9 = .ok (.aload_n 1, 1) := by decide +kernel
theorem dX7_isTaken_10 : decode cX7_isTaken 10 = .ok (.iload_n 2, 1) := by decide +kernel
theorem dX7_isTaken_11 : decode cX7_isTaken 11 = .ok (.iload_n 3, 1) := by decide +kernel
theorem dX7_isTaken_12 : decode cX7_isTaken 12 = .ok (.invokevirtual 30, 3) := by decide +kernel
theorem dX7_isTaken_15 : decode cX7_isTaken 15 = .ok (.if_icmp .lt 7, 3) := by decide +kernel
theorem dX7_isTaken_18 : decode cX7_isTaken 18 = .ok (.iconst 1, 1) := by decide +kernel
theorem dX7_isTaken_19 : decode cX7_isTaken 19 = .ok (.goto 4, 3) := by decide +kernel
theorem dX7_isTaken_22 : decode cX7_isTaken 22 = .ok (.iconst 0, 1) := by decide +kernel
theorem dX7_isTaken_23 : decode cX7_isTaken 23 = .ok (.ireturn, 1) := by decide +kernel
theorem dX7_isTaken_24 : decode cX7_isTaken 24 = .ok (.iconst 0, 1) := by decide +kernel
theorem dX7_isTaken_25 : decode cX7_isTaken 25 = .ok (.istore 5, 2) := by decide +kernel
theorem dX7_isTaken_27 : decode cX7_isTaken 27 = .ok (.iconst 0, 1) := by decide +kernel
theorem dX7_isTaken_28 : decode cX7_isTaken 28 = .ok (.istore 6, 2) := by decide +kernel
theorem dX7_isTaken_30 : decode cX7_isTaken 30 = .ok (.iload 6, 2) := by decide +kernel
theorem dX7_isTaken_32 : decode cX7_isTaken 32 = .ok (.aload_n 0, 1) := by decide +kernel
theorem dX7_isTaken_33 : decode cX7_isTaken 33 = .ok (.getfield 9, 3) := by decide +kernel
theorem dX7_isTaken_36 : decode cX7_isTaken 36 = .ok (.iconst 0, 1) := by decide +kernel
theorem dX7_isTaken_37 : decode cX7_isTaken 37 = .ok (.invokevirtual 44, 3) := by decide +kernel
theorem dX7_isTaken_40 : decode cX7_isTaken 40 = .ok (.if_icmp .ge 40, 3) := by decide +kernel
theorem dX7_isTaken_43 : decode cX7_isTaken 43 = .ok (.iload 5, 2) := by decide +kernel
theorem dX7_isTaken_45 : decode cX7_isTaken 45 = .ok (.iload 4, 2) := by decide +kernel
theorem dX7_isTaken_47 : decode cX7_isTaken 47 = .ok (.aload_n 1, 1) := by decide +kernel
theorem dX7_isTaken_48 : decode cX7_isTaken 48 = .ok (.iload 6, 2) := by decide +kernel
theorem dX7_isTaken_50 : decode cX7_isTaken 50 = .ok (.iload_n 3, 1) := by decide +kernel
theorem dX7_isTaken_51 : decode cX7_isTaken 51 = .ok (.invokevirtual 30, 3) := by decide +kernel
theorem dX7_isTaken_54 : decode cX7_isTaken 54 = .ok (.if_icmp .lt 16, 3) := by decide +kernel
theorem dX7_isTaken_57 : decode cX7_isTaken 57 = .ok (.aload_n 0, 1) := by decide +kernel
theorem dX7_isTaken_58 : decode cX7_isTaken 58 = .ok (.getfield 9, 3) := by decide +kernel
theorem dX7_isTaken_61 : decode cX7_isTaken 61 = .ok (.iconst 0, 1) := by decide +kernel
theorem dX7_isTaken_62 : decode cX7_isTaken 62 = .ok (.iload 6, 2) := by decide +kernel
theorem dX7_isTaken_64 : decode cX7_isTaken 64 = .ok (.invokevirtual 48, 3) := by decide +kernel
theorem dX7_isTaken_67 : decode cX7_isTaken 67 = .ok (.goto 4, 3) := by decide +kernel
theorem dX7_isTaken_70 : decode cX7_isTaken 70 = .ok (.iconst 0, 1) := by decide +kernel
theorem dX7_isTaken_71 : decode cX7_isTaken 71 = .ok (.iadd, 1) := by decide +kernel
theorem dX7_isTaken_72 : decode cX7_isTaken 72 = .ok (.istore 5, 2) := by decide +kernel
theorem dX7_isTaken_74 : decode cX7_isTaken 74 = .ok (.iinc 6 1, 3) := by decide +kernel
theorem dX7_isTaken_77 : decode cX7_isTaken 77 = .ok (.goto (-47), 3) := by decide +kernel
theorem dX7_isTaken_80 : decode cX7_isTaken 80 = .ok (.aload_n 0, 1) := by decide +kernel
theorem dX7_isTaken_81 : decode cX7_isTaken 81 = .ok (.getfield 9, 3) := by decide +kernel
theorem dX7_isTaken_84 : decode cX7_isTaken 84 = .ok (.iload 5, 2) := by decide +kernel
theorem dX7_isTaken_86 : decode cX7_isTaken 86 = .ok (.invokevirtual 51, 3) := by decide +kernel
theorem dX7_isTaken_89 : decode cX7_isTaken 89 = .ok (.ireturn, 1) := by decide +kernel
set_option maxRecDepth 100000 in
set_option maxHeartbeats 4000000 in
theorem tb_X7_isTaken_80 {K : sd_K} {E : sd_Env} {M : sd_Mem} {h0 h1 : Nat} {r : Int32} (C : sd_C K E sd_LC RX7 cX7_isTaken 7 (some .boolean)) (k0 : sd_kd h0 = 8) (k1 : sd_kd h1 = 10) : ∀ (x5 : Int32), fn_X7_isTaken_80 M h0 h1 x5 = some r → sd_Z K rm_X7_isTaken E sd_LC 7 (sd_QI K E sd_LC r M) M 80 [(0, .ref (E.2.2 h0)), (5, .int x5)] [] := by
  intro x5 hF
  unfold fn_X7_isTaken_80 at hF
  refine sd_aload_n C 0 dX7_isTaken_80 rfl rfl rfl (n' := 81) ?_
  refine sd_g7_0 C (sd_mC (sd_m8 k0)) k0 sd_w214 dX7_isTaken_81 rfl (n' := 84) ?_
  refine sd_iload C 1 dX7_isTaken_84 rfl rfl (n' := 86) ?_
  obtain ⟨q86, e86, hF⟩ := sd_bind hF
  refine sd_callVI [.int x5] [] C (ct_X5_carries M 40 x5 sd_k40 e86) sd_lX7_51 ⟨rfl, rfl, Nat.le_of_ble_eq_true rfl, Nat.le_of_ble_eq_true rfl⟩ sd_i40 (sd_e6 sd_k40) rfl rfl rfl (Nat.le_of_ble_eq_true rfl) dX7_isTaken_86 rfl (n' := 89) ?_
  obtain ⟨b89, hF⟩ := sd_ok hF
  exact sd_zret C dX7_isTaken_89 (Decidable.of_not_not b89) (Option.some.inj hF) rfl
set_option maxRecDepth 100000 in
set_option maxHeartbeats 4000000 in
theorem tb_X7_isTaken_30 {K : sd_K} {E : sd_Env} {M : sd_Mem} {h0 h1 : Nat} {r : Int32} (C : sd_C K E sd_LC RX7 cX7_isTaken 7 (some .boolean)) (k0 : sd_kd h0 = 8) (k1 : sd_kd h1 = 10) : ∀ (n : Nat), ∀ (x3 : Int32) (x4 : Int32) (x5 : Int32) (x6 : Int32), fn_X7_isTaken_30 M h0 h1 n x3 x4 x5 x6 = some r → sd_Z K rm_X7_isTaken E sd_LC 7 (sd_QI K E sd_LC r M) M 30 [(0, .ref (E.2.2 h0)), (1, .ref (E.2.2 h1)), (3, .int x3), (4, .int x4), (5, .int x5), (6, .int x6)] [] := by
  intro n
  induction n with
  | zero => intro x3 x4 x5 x6 hF; cases hF
  | succ n ih =>
    intro x3 x4 x5 x6 hF
    unfold fn_X7_isTaken_30 at hF
    refine sd_iload C 5 dX7_isTaken_30 rfl rfl (n' := 32) ?_
    refine sd_aload_n C 0 dX7_isTaken_32 rfl rfl rfl (n' := 33) ?_
    refine sd_g7_0 C (sd_mC (sd_m8 k0)) k0 sd_w214 dX7_isTaken_33 rfl (n' := 36) ?_
    refine sd_iconst C (v := 0) dX7_isTaken_36 rfl rfl (n' := 37) ?_
    obtain ⟨q37, e37, hF⟩ := sd_bind hF
    refine sd_callVI [.int (0 : Int32)] [.int x6] C (ct_X5_sorts M 40 (0 : Int32) sd_k40 e37) sd_lX7_44 ⟨rfl, rfl, Nat.le_of_ble_eq_true rfl, Nat.le_of_ble_eq_true rfl⟩ sd_i40 (sd_e6 sd_k40) rfl rfl rfl (Nat.le_of_ble_eq_true rfl) dX7_isTaken_37 rfl (n' := 40) ?_
    refine sd_icmp_ge C (n' := 43) (tgt := 80) dX7_isTaken_40 rfl rfl (fun c40 => ?_) (fun c40 => ?_)
    · replace hF := sd_pos hF c40
      refine sd_sub [0, 4] rfl ?_
      exact tb_X7_isTaken_80 C k0 k1 x5 hF
    · replace hF := sd_neg hF c40
      refine sd_iload C 4 dX7_isTaken_43 rfl rfl (n' := 45) ?_
      refine sd_iload C 3 dX7_isTaken_45 rfl rfl (n' := 47) ?_
      refine sd_aload_n C 1 dX7_isTaken_47 rfl rfl rfl (n' := 48) ?_
      refine sd_iload C 5 dX7_isTaken_48 rfl rfl (n' := 50) ?_
      refine sd_iload_n C 2 dX7_isTaken_50 rfl rfl rfl (n' := 51) ?_
      obtain ⟨q51, e51, hF⟩ := sd_bind hF
      refine sd_callVI [.int x6, .int x3] [.int x4, .int x5] C (ct_X9_number M h1 x6 x3 k1 e51) sd_lX7_30 ⟨rfl, rfl, Nat.le_of_ble_eq_true rfl, Nat.le_of_ble_eq_true rfl⟩ (sd_mC (sd_m10 k1)) (sd_e10 k1) rfl rfl rfl (Nat.le_of_ble_eq_true rfl) dX7_isTaken_51 rfl (n' := 54) ?_
      refine sd_icmp_lt C (n' := 57) (tgt := 70) dX7_isTaken_54 rfl rfl (fun c54 => ?_) (fun c54 => ?_)
      · replace hF := sd_pos hF c54
        refine sd_iconst C (v := 0) dX7_isTaken_70 rfl rfl (n' := 71) ?_
        refine sd_iadd C dX7_isTaken_71 rfl (n' := 72) ?_
        refine sd_istore [(5, .int (x5 + (0 : Int32))), (0, .ref (E.2.2 h0)), (1, .ref (E.2.2 h1)), (3, .int x3), (4, .int x4), (6, .int x6)] C dX7_isTaken_72 (by decide) rfl rfl (n' := 74) ?_
        refine sd_iinc [(6, .int (x6 + (1 : Int32))), (5, .int (x5 + (0 : Int32))), (0, .ref (E.2.2 h0)), (1, .ref (E.2.2 h1)), (3, .int x3), (4, .int x4)] 5 C dX7_isTaken_74 rfl rfl (by decide) rfl rfl (n' := 77) ?_
        refine sd_goto C (tgt := 30) dX7_isTaken_77 rfl ?_
        refine sd_sub [2, 3, 4, 5, 1, 0] rfl ?_
        exact ih x3 x4 (x5 + (0 : Int32)) (x6 + (1 : Int32)) hF
      · replace hF := sd_neg hF c54
        refine sd_aload_n C 0 dX7_isTaken_57 rfl rfl rfl (n' := 58) ?_
        refine sd_g7_0 C (sd_mC (sd_m8 k0)) k0 sd_w214 dX7_isTaken_58 rfl (n' := 61) ?_
        refine sd_iconst C (v := 0) dX7_isTaken_61 rfl rfl (n' := 62) ?_
        refine sd_iload C 5 dX7_isTaken_62 rfl rfl (n' := 64) ?_
        obtain ⟨q64, e64, hF⟩ := sd_bind hF
        refine sd_callVI [.int (0 : Int32), .int x6] [.int x5] C (ct_X5_chance M 40 (0 : Int32) x6 sd_k40 e64) sd_lX7_48 ⟨rfl, rfl, Nat.le_of_ble_eq_true rfl, Nat.le_of_ble_eq_true rfl⟩ sd_i40 (sd_e6 sd_k40) rfl rfl rfl (Nat.le_of_ble_eq_true rfl) dX7_isTaken_64 rfl (n' := 67) ?_
        refine sd_goto C (tgt := 71) dX7_isTaken_67 rfl ?_
        refine sd_iadd C dX7_isTaken_71 rfl (n' := 72) ?_
        refine sd_istore [(5, .int (x5 + q64)), (0, .ref (E.2.2 h0)), (1, .ref (E.2.2 h1)), (3, .int x3), (4, .int x4), (6, .int x6)] C dX7_isTaken_72 (by decide) rfl rfl (n' := 74) ?_
        refine sd_iinc [(6, .int (x6 + (1 : Int32))), (5, .int (x5 + q64)), (0, .ref (E.2.2 h0)), (1, .ref (E.2.2 h1)), (3, .int x3), (4, .int x4)] 5 C dX7_isTaken_74 rfl rfl (by decide) rfl rfl (n' := 77) ?_
        refine sd_goto C (tgt := 30) dX7_isTaken_77 rfl ?_
        refine sd_sub [2, 3, 4, 5, 1, 0] rfl ?_
        exact ih x3 x4 (x5 + q64) (x6 + (1 : Int32)) hF
set_option maxRecDepth 100000 in
set_option maxHeartbeats 4000000 in
theorem tb_X7_isTaken_0 {K : sd_K} {E : sd_Env} {M : sd_Mem} {h0 h1 : Nat} {r : Int32} (C : sd_C K E sd_LC RX7 cX7_isTaken 7 (some .boolean)) (k0 : sd_kd h0 = 8) (k1 : sd_kd h1 = 10) : ∀ (x2 : Int32) (x3 : Int32) (x4 : Int32), fn_X7_isTaken_0 M h0 h1 x2 x3 x4 = some r → sd_Z K rm_X7_isTaken E sd_LC 7 (sd_QI K E sd_LC r M) M 0 [(0, .ref (E.2.2 h0)), (1, .ref (E.2.2 h1)), (2, .int x2), (3, .int x3), (4, .int x4)] [] := by
  intro x2 x3 x4 hF
  unfold fn_X7_isTaken_0 at hF
  refine sd_aload_n C 1 dX7_isTaken_0 rfl rfl rfl (n' := 1) ?_
  obtain ⟨q1, e1, hF⟩ := sd_bind hF
  refine sd_callVI [] [] C (ct_X9_isPlainTake M h1 k1 e1) sd_lX7_40 ⟨rfl, rfl, Nat.le_of_ble_eq_true rfl, Nat.le_of_ble_eq_true rfl⟩ (sd_mC (sd_m10 k1)) (sd_e10 k1) rfl rfl rfl (Nat.le_of_ble_eq_true rfl) dX7_isTaken_1 rfl (n' := 4) ?_
  refine sd_if_eq C (n' := 7) (tgt := 24) dX7_isTaken_4 rfl rfl (fun c4 => ?_) (fun c4 => ?_)
  · replace hF := sd_pos hF c4
    refine sd_iconst C (v := 0) dX7_isTaken_24 rfl rfl (n' := 25) ?_
    refine sd_istore [(5, .int (0 : Int32)), (0, .ref (E.2.2 h0)), (1, .ref (E.2.2 h1)), (2, .int x2), (3, .int x3), (4, .int x4)] C dX7_isTaken_25 (by decide) rfl rfl (n' := 27) ?_
    refine sd_iconst C (v := 0) dX7_isTaken_27 rfl rfl (n' := 28) ?_
    refine sd_istore [(6, .int (0 : Int32)), (5, .int (0 : Int32)), (0, .ref (E.2.2 h0)), (1, .ref (E.2.2 h1)), (2, .int x2), (3, .int x3), (4, .int x4)] C dX7_isTaken_28 (by decide) rfl rfl (n' := 30) ?_
    refine sd_sub [2, 3, 5, 6, 1, 0] rfl ?_
    exact tb_X7_isTaken_30 C k0 k1 sd_FU x3 x4 (0 : Int32) (0 : Int32) hF
  · replace hF := sd_neg hF c4
    refine sd_iload C 4 dX7_isTaken_7 rfl rfl (n' := 9) ?_
    refine sd_aload_n C 1 dX7_isTaken_9 rfl rfl rfl (n' := 10) ?_
    refine sd_iload_n C 2 dX7_isTaken_10 rfl rfl rfl (n' := 11) ?_
    refine sd_iload_n C 3 dX7_isTaken_11 rfl rfl rfl (n' := 12) ?_
    obtain ⟨q12, e12, hF⟩ := sd_bind hF
    refine sd_callVI [.int x2, .int x3] [.int x4] C (ct_X9_number M h1 x2 x3 k1 e12) sd_lX7_30 ⟨rfl, rfl, Nat.le_of_ble_eq_true rfl, Nat.le_of_ble_eq_true rfl⟩ (sd_mC (sd_m10 k1)) (sd_e10 k1) rfl rfl rfl (Nat.le_of_ble_eq_true rfl) dX7_isTaken_12 rfl (n' := 15) ?_
    refine sd_icmp_lt C (n' := 18) (tgt := 22) dX7_isTaken_15 rfl rfl (fun c15 => ?_) (fun c15 => ?_)
    · replace hF := sd_pos hF c15
      refine sd_iconst C (v := 0) dX7_isTaken_22 rfl rfl (n' := 23) ?_
      exact sd_zret C dX7_isTaken_23 rfl (Option.some.inj hF) rfl
    · replace hF := sd_neg hF c15
      refine sd_iconst C (v := 1) dX7_isTaken_18 rfl rfl (n' := 19) ?_
      refine sd_goto C (tgt := 23) dX7_isTaken_19 rfl ?_
      exact sd_zret C dX7_isTaken_23 rfl (Option.some.inj hF) rfl
theorem ct_X7_isTaken {l : Launch} {E : sd_Env} (M : sd_Mem) (h0 : Nat) (h1 : Nat) (x2 : Int32) (x3 : Int32) (x4 : Int32) (k0 : sd_kd h0 = 8) (k1 : sd_kd h1 = 10) {r : Int32} (hF : fn_X7_isTaken M h0 h1 x2 x3 x4 = some r) : sd_MI l E sd_LC yX7_isTaken cX7_isTaken 7 (some .boolean) rm_X7_isTaken [.ref (E.2.2 h0), .ref (E.2.2 h1), .int x2, .int x3, .int x4] M r M := sd_ent0 (by decide +kernel) (Nat.le_of_ble_eq_true rfl) (fun p e s m below meth c C => tb_X7_isTaken_0 C k0 k1 x2 x3 x4 hF)
theorem dX7_settlingDay_0 : decode cX7_settlingDay 0 = .ok (.aload_n 0, 1) := by decide +kernel
theorem dX7_settlingDay_1 : decode cX7_settlingDay 1 = .ok (.getfield 15, 3) := by decide +kernel
theorem dX7_settlingDay_4 : decode cX7_settlingDay 4 = .ok (.getfield 19, 3) := by decide +kernel
theorem dX7_settlingDay_7 : decode cX7_settlingDay 7 = .ok (.istore 5, 2) := by decide +kernel
theorem dX7_settlingDay_9 : decode cX7_settlingDay 9 = .ok (.iload 5, 2) := by decide +kernel
theorem dX7_settlingDay_11 : decode cX7_settlingDay 11 = .ok (.aload_n 0, 1) := by decide +kernel
theorem dX7_settlingDay_12 : decode cX7_settlingDay 12 = .ok (.getfield 9, 3) := by decide +kernel
theorem dX7_settlingDay_15 : decode cX7_settlingDay 15 = .ok (.getfield 25, 3) := by decide +kernel
theorem dX7_settlingDay_18 : decode cX7_settlingDay 18 = .ok (.if_icmp .gt 31, 3) := by decide +kernel
theorem dX7_settlingDay_21 : decode cX7_settlingDay 21 = .ok (.aload_n 0, 1) := by decide +kernel
theorem dX7_settlingDay_22 : decode cX7_settlingDay 22 = .ok (.aload_n 2, 1) := by decide +kernel
theorem dX7_settlingDay_23 : decode cX7_settlingDay 23 = .ok (.iload 4, 2) := by decide +kernel
theorem dX7_settlingDay_25 : decode cX7_settlingDay 25 = .ok (.iload 5, 2) := by decide +kernel
theorem dX7_settlingDay_27 : decode cX7_settlingDay 27 = .ok (.aload_n 1, 1) := by decide +kernel
theorem dX7_settlingDay_28 : decode cX7_settlingDay 28 = .ok (.iload_n 3, 1) := by decide +kernel
theorem dX7_settlingDay_29 : decode cX7_settlingDay 29 = .ok (.iload 5, 2) := by decide +kernel
theorem dX7_settlingDay_31 : decode cX7_settlingDay 31 = .ok (.invokevirtual 30, 3) := by decide +kernel
theorem dX7_settlingDay_34 : decode cX7_settlingDay 34 = .ok (.invokevirtual 36, 3) := by decide +kernel
theorem dX7_settlingDay_37 : decode cX7_settlingDay 37 = .ok (.ifCond .eq 6, 3) := by decide +kernel
theorem dX7_settlingDay_40 : decode cX7_settlingDay 40 = .ok (.iload 5, 2) := by decide +kernel
theorem dX7_settlingDay_42 : decode cX7_settlingDay 42 = .ok (.ireturn, 1) := by decide +kernel
theorem dX7_settlingDay_43 : decode cX7_settlingDay 43 = .ok (.iinc 5 1, 3) := by decide +kernel
theorem dX7_settlingDay_46 : decode cX7_settlingDay 46 = .ok (.goto (-37), 3) := by decide +kernel
theorem dX7_settlingDay_49 : decode cX7_settlingDay 49 = .ok (.aload_n 0, 1) := by decide +kernel
theorem dX7_settlingDay_50 : decode cX7_settlingDay 50 = .ok (.getfield 9, 3) := by decide +kernel
theorem dX7_settlingDay_53 : decode cX7_settlingDay 53 = .ok (.getfield 25, 3) := by decide +kernel
theorem dX7_settlingDay_56 : decode cX7_settlingDay 56 = .ok (.iconst 1, 1) := by decide +kernel
theorem dX7_settlingDay_57 : decode cX7_settlingDay 57 = .ok (.iadd, 1) := by decide +kernel
theorem dX7_settlingDay_58 : decode cX7_settlingDay 58 = .ok (.ireturn, 1) := by decide +kernel
set_option maxRecDepth 100000 in
set_option maxHeartbeats 4000000 in
theorem tb_X7_settlingDay_49 {K : sd_K} {E : sd_Env} {M : sd_Mem} {h0 h1 h2 : Nat} {r : Int32} (C : sd_C K E sd_LC RX7 cX7_settlingDay 6 (some .int)) (k0 : sd_kd h0 = 8) (k1 : sd_kd h1 = 10) (k2 : sd_kd h2 = 10) : fn_X7_settlingDay_49 M h0 h1 h2 = some r → sd_Z K rm_X7_settlingDay E sd_LC 6 (sd_QI K E sd_LC r M) M 49 [(0, .ref (E.2.2 h0))] [] := by
  intro hF
  unfold fn_X7_settlingDay_49 at hF
  refine sd_aload_n C 0 dX7_settlingDay_49 rfl rfl rfl (n' := 50) ?_
  refine sd_g7_0 C (sd_mC (sd_m8 k0)) k0 sd_w214 dX7_settlingDay_50 rfl (n' := 53) ?_
  refine sd_gN5_6 C sd_i40 sd_k40 sd_w141 dX7_settlingDay_53 rfl (n' := 56) ?_
  refine sd_iconst C (v := 1) dX7_settlingDay_56 rfl rfl (n' := 57) ?_
  refine sd_iadd C dX7_settlingDay_57 rfl (n' := 58) ?_
  exact sd_iret C dX7_settlingDay_58 (Option.some.inj hF) rfl
set_option maxRecDepth 100000 in
set_option maxHeartbeats 4000000 in
theorem tb_X7_settlingDay_9 {K : sd_K} {E : sd_Env} {M : sd_Mem} {h0 h1 h2 : Nat} {r : Int32} (C : sd_C K E sd_LC RX7 cX7_settlingDay 6 (some .int)) (k0 : sd_kd h0 = 8) (k1 : sd_kd h1 = 10) (k2 : sd_kd h2 = 10) : ∀ (n : Nat), ∀ (x3 : Int32) (x4 : Int32) (x5 : Int32), fn_X7_settlingDay_9 M h0 h1 h2 n x3 x4 x5 = some r → sd_Z K rm_X7_settlingDay E sd_LC 6 (sd_QI K E sd_LC r M) M 9 [(0, .ref (E.2.2 h0)), (1, .ref (E.2.2 h1)), (2, .ref (E.2.2 h2)), (3, .int x3), (4, .int x4), (5, .int x5)] [] := by
  intro n
  induction n with
  | zero => intro x3 x4 x5 hF; cases hF
  | succ n ih =>
    intro x3 x4 x5 hF
    unfold fn_X7_settlingDay_9 at hF
    refine sd_iload C 5 dX7_settlingDay_9 rfl rfl (n' := 11) ?_
    refine sd_aload_n C 0 dX7_settlingDay_11 rfl rfl rfl (n' := 12) ?_
    refine sd_g7_0 C (sd_mC (sd_m8 k0)) k0 sd_w214 dX7_settlingDay_12 rfl (n' := 15) ?_
    refine sd_gN5_6 C sd_i40 sd_k40 sd_w141 dX7_settlingDay_15 rfl (n' := 18) ?_
    refine sd_icmp_gt C (n' := 21) (tgt := 49) dX7_settlingDay_18 rfl rfl (fun c18 => ?_) (fun c18 => ?_)
    · replace hF := sd_pos hF c18
      refine sd_sub [0] rfl ?_
      exact tb_X7_settlingDay_49 C k0 k1 k2 hF
    · replace hF := sd_neg hF c18
      refine sd_aload_n C 0 dX7_settlingDay_21 rfl rfl rfl (n' := 22) ?_
      refine sd_aload_n C 2 dX7_settlingDay_22 rfl rfl rfl (n' := 23) ?_
      refine sd_iload C 4 dX7_settlingDay_23 rfl rfl (n' := 25) ?_
      refine sd_iload C 5 dX7_settlingDay_25 rfl rfl (n' := 27) ?_
      refine sd_aload_n C 1 dX7_settlingDay_27 rfl rfl rfl (n' := 28) ?_
      refine sd_iload_n C 3 dX7_settlingDay_28 rfl rfl rfl (n' := 29) ?_
      refine sd_iload C 5 dX7_settlingDay_29 rfl rfl (n' := 31) ?_
      obtain ⟨q31, e31, hF⟩ := sd_bind hF
      refine sd_callVI [.int x3, .int x5] [.int x5, .int x4, .ref (E.2.2 h2), .ref (E.2.2 h0)] C (ct_X9_number M h1 x3 x5 k1 e31) sd_lX7_30 ⟨rfl, rfl, Nat.le_of_ble_eq_true rfl, Nat.le_of_ble_eq_true rfl⟩ (sd_mC (sd_m10 k1)) (sd_e10 k1) rfl rfl rfl (Nat.le_of_ble_eq_true rfl) dX7_settlingDay_31 rfl (n' := 34) ?_
      obtain ⟨q34, e34, hF⟩ := sd_bind hF
      refine sd_callVI [.ref (E.2.2 h2), .int x4, .int x5, .int q31] [] C (ct_X7_isTaken M h0 h2 x4 x5 q31 k0 k2 e34) sd_lX7_36 ⟨rfl, rfl, Nat.le_of_ble_eq_true rfl, Nat.le_of_ble_eq_true rfl⟩ (sd_mC (sd_m8 k0)) (sd_e8 k0) rfl rfl rfl (Nat.le_of_ble_eq_true rfl) dX7_settlingDay_34 rfl (n' := 37) ?_
      refine sd_if_eq C (n' := 40) (tgt := 43) dX7_settlingDay_37 rfl rfl (fun c37 => ?_) (fun c37 => ?_)
      · replace hF := sd_pos hF c37
        refine sd_iinc [(5, .int (x5 + (1 : Int32))), (0, .ref (E.2.2 h0)), (1, .ref (E.2.2 h1)), (2, .ref (E.2.2 h2)), (3, .int x3), (4, .int x4)] 5 C dX7_settlingDay_43 rfl rfl (by decide) rfl rfl (n' := 46) ?_
        refine sd_goto C (tgt := 9) dX7_settlingDay_46 rfl ?_
        refine sd_sub [1, 2, 3, 4, 5, 0] rfl ?_
        exact ih x3 x4 (x5 + (1 : Int32)) hF
      · replace hF := sd_neg hF c37
        refine sd_iload C 5 dX7_settlingDay_40 rfl rfl (n' := 42) ?_
        exact sd_iret C dX7_settlingDay_42 (Option.some.inj hF) rfl
set_option maxRecDepth 100000 in
set_option maxHeartbeats 4000000 in
theorem tb_X7_settlingDay_0 {K : sd_K} {E : sd_Env} {M : sd_Mem} {h0 h1 h2 : Nat} {r : Int32} (C : sd_C K E sd_LC RX7 cX7_settlingDay 6 (some .int)) (k0 : sd_kd h0 = 8) (k1 : sd_kd h1 = 10) (k2 : sd_kd h2 = 10) : ∀ (x3 : Int32) (x4 : Int32), fn_X7_settlingDay_0 M h0 h1 h2 x3 x4 = some r → sd_Z K rm_X7_settlingDay E sd_LC 6 (sd_QI K E sd_LC r M) M 0 [(0, .ref (E.2.2 h0)), (1, .ref (E.2.2 h1)), (2, .ref (E.2.2 h2)), (3, .int x3), (4, .int x4)] [] := by
  intro x3 x4 hF
  unfold fn_X7_settlingDay_0 at hF
  refine sd_aload_n C 0 dX7_settlingDay_0 rfl rfl rfl (n' := 1) ?_
  refine sd_g7_1 C (sd_mC (sd_m8 k0)) k0 sd_w215 dX7_settlingDay_1 rfl (n' := 4) ?_
  refine sd_gN4_0 C (sd_mC (sd_c8 k0).2) ((sd_c8 k0).1) sd_w175 dX7_settlingDay_4 rfl (n' := 7) ?_
  refine sd_istore [(5, .int (M.1 (h0 - 3) 0)), (0, .ref (E.2.2 h0)), (1, .ref (E.2.2 h1)), (2, .ref (E.2.2 h2)), (3, .int x3), (4, .int x4)] C dX7_settlingDay_7 (by decide) rfl rfl (n' := 9) ?_
  refine sd_sub [1, 2, 3, 4, 5, 0] rfl ?_
  exact tb_X7_settlingDay_9 C k0 k1 k2 sd_FU x3 x4 (M.1 (h0 - 3) 0) hF
theorem ct_X7_settlingDay {l : Launch} {E : sd_Env} (M : sd_Mem) (h0 : Nat) (h1 : Nat) (h2 : Nat) (x3 : Int32) (x4 : Int32) (k0 : sd_kd h0 = 8) (k1 : sd_kd h1 = 10) (k2 : sd_kd h2 = 10) {r : Int32} (hF : fn_X7_settlingDay M h0 h1 h2 x3 x4 = some r) : sd_MI l E sd_LC yX7_settlingDay cX7_settlingDay 6 (some .int) rm_X7_settlingDay [.ref (E.2.2 h0), .ref (E.2.2 h1), .ref (E.2.2 h2), .int x3, .int x4] M r M := sd_ent0 (by decide +kernel) (Nat.le_of_ble_eq_true rfl) (fun p e s m below meth c C => tb_X7_settlingDay_0 C k0 k1 k2 x3 x4 hF)
theorem dX7_wageOn_0 : decode cX7_wageOn 0 = .ok (.iload_n 3, 1) := by decide +kernel
theorem dX7_wageOn_1 : decode cX7_wageOn 1 = .ok (.aload_n 0, 1) := by decide +kernel
theorem dX7_wageOn_2 : decode cX7_wageOn 2 = .ok (.getfield 9, 3) := by decide +kernel
theorem dX7_wageOn_5 : decode cX7_wageOn 5 = .ok (.getfield 25, 3) := by decide +kernel
theorem dX7_wageOn_8 : decode cX7_wageOn 8 = .ok (.if_icmp .le 13, 3) := by decide +kernel
theorem dX7_wageOn_11 : decode cX7_wageOn 11 = .ok (.aload_n 0, 1) := by decide +kernel
theorem dX7_wageOn_12 : decode cX7_wageOn 12 = .ok (.getfield 9, 3) := by decide +kernel
theorem dX7_wageOn_15 : decode cX7_wageOn 15 = .ok (.getfield 55, 3) := by decide +kernel
theorem dX7_wageOn_18 : decode cX7_wageOn 18 = .ok (.goto 9, 3) := by decide +kernel
theorem dX7_wageOn_21 : decode cX7_wageOn 21 = .ok (.aload_n 1, 1) := by decide +kernel
theorem dX7_wageOn_22 : decode cX7_wageOn 22 = .ok (.iload_n 2, 1) := by decide +kernel
theorem dX7_wageOn_23 : decode cX7_wageOn 23 = .ok (.iload_n 3, 1) := by decide +kernel
theorem dX7_wageOn_24 : decode cX7_wageOn 24 = .ok (.invokevirtual 30, 3) := by decide +kernel
theorem dX7_wageOn_27 : decode cX7_wageOn 27 = .ok (.ireturn, 1) := by decide +kernel
set_option maxRecDepth 100000 in
set_option maxHeartbeats 4000000 in
theorem tb_X7_wageOn_0 {K : sd_K} {E : sd_Env} {M : sd_Mem} {h0 h1 : Nat} {r : Int32} (C : sd_C K E sd_LC RX7 cX7_wageOn 4 (some .int)) (k0 : sd_kd h0 = 8) (k1 : sd_kd h1 = 10) : ∀ (x2 : Int32) (x3 : Int32), fn_X7_wageOn_0 M h0 h1 x2 x3 = some r → sd_Z K rm_X7_wageOn E sd_LC 4 (sd_QI K E sd_LC r M) M 0 [(0, .ref (E.2.2 h0)), (1, .ref (E.2.2 h1)), (2, .int x2), (3, .int x3)] [] := by
  intro x2 x3 hF
  unfold fn_X7_wageOn_0 at hF
  refine sd_iload_n C 3 dX7_wageOn_0 rfl rfl rfl (n' := 1) ?_
  refine sd_aload_n C 0 dX7_wageOn_1 rfl rfl rfl (n' := 2) ?_
  refine sd_g7_0 C (sd_mC (sd_m8 k0)) k0 sd_w214 dX7_wageOn_2 rfl (n' := 5) ?_
  refine sd_gN5_6 C sd_i40 sd_k40 sd_w141 dX7_wageOn_5 rfl (n' := 8) ?_
  refine sd_icmp_le C (n' := 11) (tgt := 21) dX7_wageOn_8 rfl rfl (fun c8 => ?_) (fun c8 => ?_)
  · replace hF := sd_pos hF c8
    refine sd_aload_n C 1 dX7_wageOn_21 rfl rfl rfl (n' := 22) ?_
    refine sd_iload_n C 2 dX7_wageOn_22 rfl rfl rfl (n' := 23) ?_
    refine sd_iload_n C 3 dX7_wageOn_23 rfl rfl rfl (n' := 24) ?_
    obtain ⟨q24, e24, hF⟩ := sd_bind hF
    refine sd_callVI [.int x2, .int x3] [] C (ct_X9_number M h1 x2 x3 k1 e24) sd_lX7_30 ⟨rfl, rfl, Nat.le_of_ble_eq_true rfl, Nat.le_of_ble_eq_true rfl⟩ (sd_mC (sd_m10 k1)) (sd_e10 k1) rfl rfl rfl (Nat.le_of_ble_eq_true rfl) dX7_wageOn_24 rfl (n' := 27) ?_
    exact sd_iret C dX7_wageOn_27 (Option.some.inj hF) rfl
  · replace hF := sd_neg hF c8
    refine sd_aload_n C 0 dX7_wageOn_11 rfl rfl rfl (n' := 12) ?_
    refine sd_g7_0 C (sd_mC (sd_m8 k0)) k0 sd_w214 dX7_wageOn_12 rfl (n' := 15) ?_
    refine sd_gN5_7 C sd_i40 sd_k40 sd_w146 dX7_wageOn_15 rfl (n' := 18) ?_
    refine sd_goto C (tgt := 27) dX7_wageOn_18 rfl ?_
    exact sd_iret C dX7_wageOn_27 (Option.some.inj hF) rfl
theorem ct_X7_wageOn {l : Launch} {E : sd_Env} (M : sd_Mem) (h0 : Nat) (h1 : Nat) (x2 : Int32) (x3 : Int32) (k0 : sd_kd h0 = 8) (k1 : sd_kd h1 = 10) {r : Int32} (hF : fn_X7_wageOn M h0 h1 x2 x3 = some r) : sd_MI l E sd_LC yX7_wageOn cX7_wageOn 4 (some .int) rm_X7_wageOn [.ref (E.2.2 h0), .ref (E.2.2 h1), .int x2, .int x3] M r M := sd_ent0 (by decide +kernel) (Nat.le_of_ble_eq_true rfl) (fun p e s m below meth c C => tb_X7_wageOn_0 C k0 k1 x2 x3 hF)
theorem dX10_run_0 : decode cX10_run 0 = .ok (.aload_n 0, 1) := by decide +kernel
theorem dX10_run_1 : decode cX10_run 1 = .ok (.getfield 27, 3) := by decide +kernel
theorem dX10_run_4 : decode cX10_run 4 = .ok (.iconst 1, 1) := by decide +kernel
theorem dX10_run_5 : decode cX10_run 5 = .ok (.iload_n 3, 1) := by decide +kernel
theorem dX10_run_6 : decode cX10_run 6 = .ok (.invokevirtual 159, 3) := by decide +kernel
theorem dX10_run_9 : decode cX10_run 9 = .ok (.ifCond .eq 16, 3) := by decide +kernel
theorem dX10_run_12 : decode cX10_run 12 = .ok (.aload_n 0, 1) := by decide +kernel
theorem dX10_run_13 : decode cX10_run 13 = .ok (.getfield 27, 3) := by decide +kernel
theorem dX10_run_16 : decode cX10_run 16 = .ok (.iconst 0, 1) := by decide +kernel
theorem dX10_run_17 : decode cX10_run 17 = .ok (.iload 4, 2) := by decide +kernel
theorem dX10_run_19 : decode cX10_run 19 = .ok (.invokevirtual 159, 3) := by decide +kernel
theorem dX10_run_22 : decode cX10_run 22 = .ok (.ifCond .ne 5, 3) := by decide +kernel
theorem dX10_run_25 : decode cX10_run 25 = .ok (.iconst (-1), 1) := by decide +kernel
theorem dX10_run_26 : decode cX10_run 26 = .ok (.ireturn, 1) := by decide +kernel
theorem dX10_run_27 : decode cX10_run 27 = .ok (.aload_n 0, 1) := by decide +kernel
theorem dX10_run_28 : decode cX10_run 28 = .ok (.iload_n 1, 1) := by decide +kernel
theorem dX10_run_29 : decode cX10_run 29 = .ok (.iload_n 2, 1) := by decide +kernel
theorem dX10_run_30 : decode cX10_run 30 = .ok (.iconst 1, 1) := by decide +kernel
theorem dX10_run_31 : decode cX10_run 31 = .ok (.invokevirtual 216, 3) := by decide +kernel
theorem dX10_run_34 : decode cX10_run 34 = .ok (.istore 5, 2) := by decide +kernel
theorem dX10_run_36 : decode cX10_run 36 = .ok (.iload 5, 2) := by decide +kernel
theorem dX10_run_38 : decode cX10_run 38 = .ok (.ifCond .eq 6, 3) := by decide +kernel
theorem dX10_run_41 : decode cX10_run 41 = .ok (.iload 5, 2) := by decide +kernel
theorem dX10_run_43 : decode cX10_run 43 = .ok (.ireturn, 1) := by decide +kernel
theorem dX10_run_44 : decode cX10_run 44 = .ok (.aload_n 0, 1) := by decide +kernel
theorem dX10_run_45 : decode cX10_run 45 = .ok (.getfield 53, 3) := by decide +kernel
theorem dX10_run_48 : decode cX10_run 48 = .ok (.aload_n 0, 1) := by decide +kernel
theorem dX10_run_49 : decode cX10_run 49 = .ok (.getfield 20, 3) := by decide +kernel
theorem dX10_run_52 : decode cX10_run 52 = .ok (.iload_n 1, 1) := by decide +kernel
theorem dX10_run_53 : decode cX10_run 53 = .ok (.aaload, 1) := by decide +kernel
theorem dX10_run_54 : decode cX10_run 54 = .ok (.aload_n 0, 1) := by decide +kernel
theorem dX10_run_55 : decode cX10_run 55 = .ok (.getfield 20, 3) := by decide +kernel
theorem dX10_run_58 : decode cX10_run 58 = .ok (.iload_n 2, 1) := by decide +kernel
theorem dX10_run_59 : decode cX10_run 59 = .ok (.aaload, 1) := by decide +kernel
theorem dX10_run_60 : decode cX10_run 60 = .ok (.iload_n 3, 1) := by decide +kernel
theorem dX10_run_61 : decode cX10_run 61 = .ok (.iload 4, 2) := by decide +kernel
theorem dX10_run_63 : decode cX10_run 63 = .ok (.invokevirtual 220, 3) := by decide +kernel
theorem dX10_run_66 : decode cX10_run 66 = .ok (.istore 6, 2) := by decide +kernel
theorem dX10_run_68 : decode cX10_run 68 = .ok (.aload_n 0, 1) := by decide +kernel
theorem dX10_run_69 : decode cX10_run 69 = .ok (.aload_n 0, 1) := by decide +kernel
theorem dX10_run_70 : decode cX10_run 70 = .ok (.getfield 53, 3) := by decide +kernel
theorem dX10_run_73 : decode cX10_run 73 = .ok (.aload_n 0, 1) := by decide +kernel
theorem dX10_run_74 : decode cX10_run 74 = .ok (.getfield 20, 3) := by decide +kernel
theorem dX10_run_77 : decode cX10_run 77 = .ok (.iload_n 1, 1) := by decide +kernel
theorem dX10_run_78 : decode cX10_run 78 = .ok (.aaload, 1) := by decide +kernel
theorem dX10_run_79 : decode cX10_run 79 = .ok (.iload_n 3, 1) := by decide +kernel
theorem dX10_run_80 : decode cX10_run 80 = .ok (.iload 6, 2) := by decide +kernel
theorem dX10_run_82 : decode cX10_run 82 = .ok (.invokevirtual 224, 3) := by decide +kernel
theorem dX10_run_85 : decode cX10_run 85 = .ok (.putfield 88, 3) := by decide +kernel
theorem dX10_run_88 : decode cX10_run 88 = .ok (.iload 6, 2) := by decide +kernel
theorem dX10_run_90 : decode cX10_run 90 = .ok (.ireturn, 1) := by decide +kernel
set_option maxRecDepth 100000 in
set_option maxHeartbeats 4000000 in
theorem tb_X10_run_0 {K : sd_K} {E : sd_Env}   {r : (Int32 × sd_Mem)} (C : sd_C K E sd_LC RX10 cX10_run 7 (some .int))  : ∀ (M : sd_Mem) (x1 : Int32) (x2 : Int32) (x3 : Int32) (x4 : Int32), fn_X10_run_0 M x1 x2 x3 x4 = some r → sd_Z K rm_X10_run E sd_LC 7 (sd_QI K E sd_LC r.1 r.2) M 0 [(0, .ref (E.2.2 0)), (1, .int x1), (2, .int x2), (3, .int x3), (4, .int x4)] [] := by
  intro M x1 x2 x3 x4 hF
  unfold fn_X10_run_0 at hF
  refine sd_aload_n C 0 dX10_run_0 rfl rfl rfl (n' := 1) ?_
  refine sd_g10_3 C sd_i0 sd_k0 sd_w331 dX10_run_1 rfl (n' := 4) ?_
  refine sd_iconst C (v := 1) dX10_run_4 rfl rfl (n' := 5) ?_
  refine sd_iload_n C 3 dX10_run_5 rfl rfl rfl (n' := 6) ?_
  obtain ⟨q6, e6, hF⟩ := sd_bind hF
  refine sd_callVI [.int (1 : Int32), .int x3] [] C (ct_X5_hasSort M 40 (1 : Int32) x3 sd_k40 e6) sd_lX10_159 ⟨rfl, rfl, Nat.le_of_ble_eq_true rfl, Nat.le_of_ble_eq_true rfl⟩ sd_i40 (sd_e6 sd_k40) rfl rfl rfl (Nat.le_of_ble_eq_true rfl) dX10_run_6 rfl (n' := 9) ?_
  refine sd_if_eq C (n' := 12) (tgt := 25) dX10_run_9 rfl rfl (fun c9 => ?_) (fun c9 => ?_)
  · replace hF := sd_pos hF c9
    refine sd_iconst C (v := -1) dX10_run_25 rfl rfl (n' := 26) ?_
    exact sd_iret C dX10_run_26 (sd_fst hF) (sd_snd hF)
  · replace hF := sd_neg hF c9
    refine sd_aload_n C 0 dX10_run_12 rfl rfl rfl (n' := 13) ?_
    refine sd_g10_3 C sd_i0 sd_k0 sd_w331 dX10_run_13 rfl (n' := 16) ?_
    refine sd_iconst C (v := 0) dX10_run_16 rfl rfl (n' := 17) ?_
    refine sd_iload C 4 dX10_run_17 rfl rfl (n' := 19) ?_
    obtain ⟨q19, e19, hF⟩ := sd_bind hF
    refine sd_callVI [.int (0 : Int32), .int x4] [] C (ct_X5_hasSort M 40 (0 : Int32) x4 sd_k40 e19) sd_lX10_159 ⟨rfl, rfl, Nat.le_of_ble_eq_true rfl, Nat.le_of_ble_eq_true rfl⟩ sd_i40 (sd_e6 sd_k40) rfl rfl rfl (Nat.le_of_ble_eq_true rfl) dX10_run_19 rfl (n' := 22) ?_
    refine sd_if_ne C (n' := 25) (tgt := 27) dX10_run_22 rfl rfl (fun c22 => ?_) (fun c22 => ?_)
    · replace hF := sd_neg hF c22
      refine sd_aload_n C 0 dX10_run_27 rfl rfl rfl (n' := 28) ?_
      refine sd_iload_n C 1 dX10_run_28 rfl rfl rfl (n' := 29) ?_
      refine sd_iload_n C 2 dX10_run_29 rfl rfl rfl (n' := 30) ?_
      refine sd_iconst C (v := 1) dX10_run_30 rfl rfl (n' := 31) ?_
      obtain ⟨q31, e31, hF⟩ := sd_bind hF
      refine sd_callVI [.int x1, .int x2, .int (1 : Int32)] [] C (ct_X10_refusePair M x1 x2 (1 : Int32)  e31) sd_lX10_216 ⟨rfl, rfl, Nat.le_of_ble_eq_true rfl, Nat.le_of_ble_eq_true rfl⟩ sd_i0 (sd_e11 sd_k0) rfl rfl rfl (Nat.le_of_ble_eq_true rfl) dX10_run_31 rfl (n' := 34) ?_
      refine sd_istore [(5, .int q31.1), (0, .ref (E.2.2 0)), (1, .int x1), (2, .int x2), (3, .int x3), (4, .int x4)] C dX10_run_34 (by decide) rfl rfl (n' := 36) ?_
      refine sd_iload C 0 dX10_run_36 rfl rfl (n' := 38) ?_
      refine sd_if_eq C (n' := 41) (tgt := 44) dX10_run_38 rfl rfl (fun c38 => ?_) (fun c38 => ?_)
      · replace hF := sd_pos hF c38
        refine sd_aload_n C 1 dX10_run_44 rfl rfl rfl (n' := 45) ?_
        refine sd_g10_7 C sd_i0 sd_k0 sd_w335 dX10_run_45 rfl (n' := 48) ?_
        refine sd_aload_n C 1 dX10_run_48 rfl rfl rfl (n' := 49) ?_
        refine sd_g10_2 C sd_i0 sd_k0 sd_w330 dX10_run_49 rfl (n' := 52) ?_
        refine sd_iload_n C 2 dX10_run_52 rfl rfl rfl (n' := 53) ?_
        obtain ⟨b53, hF⟩ := sd_ok hF
        refine sd_wald C sd_i23 sd_k23 sd_n23 b53 dX10_run_53 rfl (n' := 54) ?_
        refine sd_aload_n C 1 dX10_run_54 rfl rfl rfl (n' := 55) ?_
        refine sd_g10_2 C sd_i0 sd_k0 sd_w330 dX10_run_55 rfl (n' := 58) ?_
        refine sd_iload_n C 3 dX10_run_58 rfl rfl rfl (n' := 59) ?_
        obtain ⟨b59, hF⟩ := sd_ok hF
        refine sd_wald C sd_i23 sd_k23 sd_n23 b59 dX10_run_59 rfl (n' := 60) ?_
        refine sd_iload_n C 4 dX10_run_60 rfl rfl rfl (n' := 61) ?_
        refine sd_iload C 5 dX10_run_61 rfl rfl (n' := 63) ?_
        obtain ⟨q63, e63, hF⟩ := sd_bind hF
        refine sd_callVI [.ref (E.2.2 (23 + 1 + 2 * x1.toNatClampNeg)), .ref (E.2.2 (23 + 1 + 2 * x2.toNatClampNeg)), .int x3, .int x4] [] C (ct_X7_settlingDay q31.2 61 (23 + 1 + 2 * x1.toNatClampNeg) (23 + 1 + 2 * x2.toNatClampNeg) x3 x4 sd_k61 ((sd_r23 _ (sd_in_lt b53)).1) ((sd_r23 _ (sd_in_lt b59)).1) e63) sd_lX10_220 ⟨rfl, rfl, Nat.le_of_ble_eq_true rfl, Nat.le_of_ble_eq_true rfl⟩ sd_i61 (sd_e8 sd_k61) rfl rfl rfl (Nat.le_of_ble_eq_true rfl) dX10_run_63 rfl (n' := 66) ?_
        refine sd_istore [(6, .int q63), (5, .int q31.1), (0, .ref (E.2.2 0)), (1, .int x1), (2, .int x2), (3, .int x3), (4, .int x4)] C dX10_run_66 (by decide) rfl rfl (n' := 68) ?_
        refine sd_aload_n C 2 dX10_run_68 rfl rfl rfl (n' := 69) ?_
        refine sd_aload_n C 2 dX10_run_69 rfl rfl rfl (n' := 70) ?_
        refine sd_g10_7 C sd_i0 sd_k0 sd_w335 dX10_run_70 rfl (n' := 73) ?_
        refine sd_aload_n C 2 dX10_run_73 rfl rfl rfl (n' := 74) ?_
        refine sd_g10_2 C sd_i0 sd_k0 sd_w330 dX10_run_74 rfl (n' := 77) ?_
        refine sd_iload_n C 3 dX10_run_77 rfl rfl rfl (n' := 78) ?_
        obtain ⟨b78, hF⟩ := sd_ok hF
        refine sd_wald C sd_i23 sd_k23 sd_n23 b78 dX10_run_78 rfl (n' := 79) ?_
        refine sd_iload_n C 5 dX10_run_79 rfl rfl rfl (n' := 80) ?_
        refine sd_iload C 0 dX10_run_80 rfl rfl (n' := 82) ?_
        obtain ⟨q82, e82, hF⟩ := sd_bind hF
        refine sd_callVI [.ref (E.2.2 (23 + 1 + 2 * x1.toNatClampNeg)), .int x3, .int q63] [.ref (E.2.2 0)] C (ct_X7_wageOn q31.2 61 (23 + 1 + 2 * x1.toNatClampNeg) x3 q63 sd_k61 ((sd_r23 _ (sd_in_lt b78)).1) e82) sd_lX10_224 ⟨rfl, rfl, Nat.le_of_ble_eq_true rfl, Nat.le_of_ble_eq_true rfl⟩ sd_i61 (sd_e8 sd_k61) rfl rfl rfl (Nat.le_of_ble_eq_true rfl) dX10_run_82 rfl (n' := 85) ?_
        refine sd_p10_13 C sd_i0 sd_k0 sd_w341 dX10_run_85 rfl (n' := 88) ?_
        refine sd_iload C 0 dX10_run_88 rfl rfl (n' := 90) ?_
        exact sd_iret C dX10_run_90 (sd_fst hF) (sd_snd hF)
      · replace hF := sd_neg hF c38
        refine sd_iload C 0 dX10_run_41 rfl rfl (n' := 43) ?_
        exact sd_iret C dX10_run_43 (sd_fst hF) (sd_snd hF)
    · replace hF := sd_pos hF c22
      refine sd_iconst C (v := -1) dX10_run_25 rfl rfl (n' := 26) ?_
      exact sd_iret C dX10_run_26 (sd_fst hF) (sd_snd hF)
theorem ct_X10_run {l : Launch} {E : sd_Env} (M : sd_Mem) (x1 : Int32) (x2 : Int32) (x3 : Int32) (x4 : Int32)  {r : (Int32 × sd_Mem)} (hF : fn_X10_run M x1 x2 x3 x4 = some r) : sd_MI l E sd_LC yX10_run cX10_run 7 (some .int) rm_X10_run [.ref (E.2.2 0), .int x1, .int x2, .int x3, .int x4] M r.1 r.2 := sd_ent0 (by decide +kernel) (Nat.le_of_ble_eq_true rfl) (fun p e s m below meth c C => tb_X10_run_0 C M x1 x2 x3 x4 hF)
theorem dX10_otherSide_0 : decode cX10_otherSide 0 = .ok (.iload_n 0, 1) := by decide +kernel
theorem dX10_otherSide_1 : decode cX10_otherSide 1 = .ok (.ifCond .ne 7, 3) := by decide +kernel
theorem dX10_otherSide_4 : decode cX10_otherSide 4 = .ok (.iconst 1, 1) := by decide +kernel
theorem dX10_otherSide_5 : decode cX10_otherSide 5 = .ok (.goto 4, 3) := by decide +kernel
theorem dX10_otherSide_8 : decode cX10_otherSide 8 = .ok (.iconst 0, 1) := by decide +kernel
theorem dX10_otherSide_9 : decode cX10_otherSide 9 = .ok (.ireturn, 1) := by decide +kernel
set_option maxRecDepth 100000 in
set_option maxHeartbeats 4000000 in
theorem tb_X10_otherSide_0 {K : sd_K} {E : sd_Env} {M : sd_Mem}  {r : Int32} (C : sd_C K E sd_LC RX10 cX10_otherSide 1 (some .int))  : ∀ (x0 : Int32), fn_X10_otherSide_0 x0 = some r → sd_Z K rm_X10_otherSide E sd_LC 1 (sd_QI K E sd_LC r M) M 0 [(0, .int x0)] [] := by
  intro x0 hF
  unfold fn_X10_otherSide_0 at hF
  refine sd_iload_n C 0 dX10_otherSide_0 rfl rfl rfl (n' := 1) ?_
  refine sd_if_ne C (n' := 4) (tgt := 8) dX10_otherSide_1 rfl rfl (fun c1 => ?_) (fun c1 => ?_)
  · replace hF := sd_neg hF c1
    refine sd_iconst C (v := 0) dX10_otherSide_8 rfl rfl (n' := 9) ?_
    exact sd_iret C dX10_otherSide_9 (Option.some.inj hF) rfl
  · replace hF := sd_pos hF c1
    refine sd_iconst C (v := 1) dX10_otherSide_4 rfl rfl (n' := 5) ?_
    refine sd_goto C (tgt := 9) dX10_otherSide_5 rfl ?_
    exact sd_iret C dX10_otherSide_9 (Option.some.inj hF) rfl
theorem ct_X10_otherSide {l : Launch} {E : sd_Env} (M : sd_Mem) (x0 : Int32)  {r : Int32} (hF : fn_X10_otherSide x0 = some r) : sd_MI l E sd_LC yX10_otherSide cX10_otherSide 1 (some .int) rm_X10_otherSide [.int x0] M r M := sd_ent0 (by decide +kernel) (Nat.le_of_ble_eq_true rfl) (fun p e s m below meth c C => tb_X10_otherSide_0 C x0 hF)
theorem dX5_pay_0 : decode cX5_pay 0 = .ok (.iload_n 1, 1) := by decide +kernel
theorem dX5_pay_1 : decode cX5_pay 1 = .ok (.ifCond .ne 9, 3) := by decide +kernel
theorem dX5_pay_4 : decode cX5_pay 4 = .ok (.iload 4, 2) := by decide +kernel
theorem dX5_pay_6 : decode cX5_pay 6 = .ok (.i2l, 1) := by decide +kernel
theorem dX5_pay_7 : decode cX5_pay 7 = .ok (.goto 11, 3) := by decide +kernel
theorem dX5_pay_10 : decode cX5_pay 10 = .ok (.aload_n 0, 1) := by decide +kernel
theorem dX5_pay_11 : decode cX5_pay 11 = .ok (.getfield 39, 3) := by decide +kernel
theorem dX5_pay_14 : decode cX5_pay 14 = .ok (.iload 4, 2) := by decide +kernel
theorem dX5_pay_16 : decode cX5_pay 16 = .ok (.isub, 1) := by decide +kernel
theorem dX5_pay_17 : decode cX5_pay 17 = .ok (.i2l, 1) := by decide +kernel
theorem dX5_pay_18 : decode cX5_pay 18 = .ok (.lstore 5, 2) := by decide +kernel
theorem dX5_pay_20 : decode cX5_pay 20 = .ok (.aload_n 0, 1) := by decide +kernel
theorem dX5_pay_21 : decode cX5_pay 21 = .ok (.iload_n 1, 1) := by decide +kernel
theorem dX5_pay_22 : decode cX5_pay 22 = .ok (.iload_n 2, 1) := by decide +kernel
theorem dX5_pay_23 : decode cX5_pay 23 = .ok (.invokevirtual 66, 3) := by decide +kernel
theorem dX5_pay_26 : decode cX5_pay 26 = .ok (.ifCond .eq 15, 3) := by decide +kernel
theorem dX5_pay_29 : decode cX5_pay 29 = .ok (.aload_n 0, 1) := by decide +kernel
theorem dX5_pay_30 : decode cX5_pay 30 = .ok (.getfield 23, 3) := by decide +kernel
theorem dX5_pay_33 : decode cX5_pay 33 = .ok (.iload_n 1, 1) := by decide +kernel
theorem dX5_pay_34 : decode cX5_pay 34 = .ok (.aaload, 1) := by decide +kernel
theorem dX5_pay_35 : decode cX5_pay 35 = .ok (.iload_n 2, 1) := by decide +kernel
theorem dX5_pay_36 : decode cX5_pay 36 = .ok (.iaload, 1) := by decide +kernel
theorem dX5_pay_37 : decode cX5_pay 37 = .ok (.i2l, 1) := by decide +kernel
theorem dX5_pay_38 : decode cX5_pay 38 = .ok (.goto 4, 3) := by decide +kernel
theorem dX5_pay_41 : decode cX5_pay 41 = .ok (.lconst 0, 1) := by decide +kernel
theorem dX5_pay_42 : decode cX5_pay 42 = .ok (.lstore 7, 2) := by decide +kernel
theorem dX5_pay_44 : decode cX5_pay 44 = .ok (.lload 5, 2) := by decide +kernel
theorem dX5_pay_46 : decode cX5_pay 46 = .ok (.aload_n 0, 1) := by decide +kernel
theorem dX5_pay_47 : decode cX5_pay 47 = .ok (.getfield 43, 3) := by decide +kernel
theorem dX5_pay_50 : decode cX5_pay 50 = .ok (.iload_n 3, 1) := by decide +kernel
theorem dX5_pay_51 : decode cX5_pay 51 = .ok (.isub, 1) := by decide +kernel
theorem dX5_pay_52 : decode cX5_pay 52 = .ok (.iconst 1, 1) := by decide +kernel
theorem dX5_pay_53 : decode cX5_pay 53 = .ok (.iadd, 1) := by decide +kernel
theorem dX5_pay_54 : decode cX5_pay 54 = .ok (.i2l, 1) := by decide +kernel
theorem dX5_pay_55 : decode cX5_pay 55 = .ok (.lmul, 1) := by decide +kernel
theorem dX5_pay_56 : decode cX5_pay 56 = .ok (.lload 7, 2) := by decide +kernel
theorem dX5_pay_58 : decode cX5_pay 58 = .ok (.iload_n 3, 1) := by decide +kernel
theorem dX5_pay_59 : decode cX5_pay 59 = .ok (.iconst 1, 1) := by decide +kernel
theorem dX5_pay_60 : decode cX5_pay 60 = .ok (.isub, 1) := by decide +kernel
theorem dX5_pay_61 : decode cX5_pay 61 = .ok (.i2l, 1) := by decide +kernel
theorem dX5_pay_62 : decode cX5_pay 62 = .ok (.lmul, 1) := by decide +kernel
theorem dX5_pay_63 : decode cX5_pay 63 = .ok (.lsub, 1) := by decide +kernel
theorem dX5_pay_64 : decode cX5_pay 64 = .ok (.lreturn, 1) := by decide +kernel
set_option maxRecDepth 100000 in
set_option maxHeartbeats 4000000 in
theorem tb_X5_pay_42 {K : sd_K} {E : sd_Env} {M : sd_Mem} {h0 : Nat} {r : Int64} (C : sd_C K E sd_LC RX5 cX5_pay 9 (some .long)) (k0 : sd_kd h0 = 6) : ∀ (x3 : Int32) (l5 : Int64) (ls0 : Int64), fn_X5_pay_42 M h0 x3 l5 ls0 = some r → sd_Z K rm_X5_pay E sd_LC 9 (sd_QL K E sd_LC r M) M 42 [(0, .ref (E.2.2 h0)), (3, .int x3), (5, .long l5)] [.long ls0] := by
  intro x3 l5 ls0 hF
  unfold fn_X5_pay_42 at hF
  refine sd_lstore [(7, .long ls0), (0, .ref (E.2.2 h0)), (3, .int x3), (5, .long l5)] C dX5_pay_42 (by decide) rfl rfl (n' := 44) ?_
  refine sd_lload C 3 dX5_pay_44 rfl rfl (n' := 46) ?_
  refine sd_aload_n C 1 dX5_pay_46 rfl rfl rfl (n' := 47) ?_
  refine sd_g5_5 C (sd_mC (sd_m6 k0)) k0 sd_w138 dX5_pay_47 rfl (n' := 50) ?_
  refine sd_iload_n C 2 dX5_pay_50 rfl rfl rfl (n' := 51) ?_
  refine sd_isub C dX5_pay_51 rfl (n' := 52) ?_
  refine sd_iconst C (v := 1) dX5_pay_52 rfl rfl (n' := 53) ?_
  refine sd_iadd C dX5_pay_53 rfl (n' := 54) ?_
  refine sd_i2l C dX5_pay_54 rfl (n' := 55) ?_
  refine sd_lmul C dX5_pay_55 rfl (n' := 56) ?_
  refine sd_lload C 0 dX5_pay_56 rfl rfl (n' := 58) ?_
  refine sd_iload_n C 2 dX5_pay_58 rfl rfl rfl (n' := 59) ?_
  refine sd_iconst C (v := 1) dX5_pay_59 rfl rfl (n' := 60) ?_
  refine sd_isub C dX5_pay_60 rfl (n' := 61) ?_
  refine sd_i2l C dX5_pay_61 rfl (n' := 62) ?_
  refine sd_lmul C dX5_pay_62 rfl (n' := 63) ?_
  refine sd_lsub C dX5_pay_63 rfl (n' := 64) ?_
  exact sd_lret C dX5_pay_64 (Option.some.inj hF) rfl
set_option maxRecDepth 100000 in
set_option maxHeartbeats 4000000 in
theorem tb_X5_pay_18 {K : sd_K} {E : sd_Env} {M : sd_Mem} {h0 : Nat} {r : Int64} (C : sd_C K E sd_LC RX5 cX5_pay 9 (some .long)) (k0 : sd_kd h0 = 6) : ∀ (x1 : Int32) (x2 : Int32) (x3 : Int32) (ls0 : Int64), fn_X5_pay_18 M h0 x1 x2 x3 ls0 = some r → sd_Z K rm_X5_pay E sd_LC 9 (sd_QL K E sd_LC r M) M 18 [(0, .ref (E.2.2 h0)), (1, .int x1), (2, .int x2), (3, .int x3)] [.long ls0] := by
  intro x1 x2 x3 ls0 hF
  unfold fn_X5_pay_18 at hF
  refine sd_lstore [(5, .long ls0), (0, .ref (E.2.2 h0)), (1, .int x1), (2, .int x2), (3, .int x3)] C dX5_pay_18 (by decide) rfl rfl (n' := 20) ?_
  refine sd_aload_n C 1 dX5_pay_20 rfl rfl rfl (n' := 21) ?_
  refine sd_iload_n C 2 dX5_pay_21 rfl rfl rfl (n' := 22) ?_
  refine sd_iload_n C 3 dX5_pay_22 rfl rfl rfl (n' := 23) ?_
  obtain ⟨q23, e23, hF⟩ := sd_bind hF
  refine sd_callVI [.int x1, .int x2] [] C (ct_X5_hasSort M h0 x1 x2 k0 e23) sd_lX5_66 ⟨rfl, rfl, Nat.le_of_ble_eq_true rfl, Nat.le_of_ble_eq_true rfl⟩ (sd_mC (sd_m6 k0)) (sd_e6 k0) rfl rfl rfl (Nat.le_of_ble_eq_true rfl) dX5_pay_23 rfl (n' := 26) ?_
  refine sd_if_eq C (n' := 29) (tgt := 41) dX5_pay_26 rfl rfl (fun c26 => ?_) (fun c26 => ?_)
  · replace hF := sd_pos hF c26
    refine sd_lconst C (v := 0) dX5_pay_41 rfl rfl (n' := 42) ?_
    refine sd_sub [1, 4, 0] rfl ?_
    exact tb_X5_pay_42 C k0 x3 ls0 (0 : Int64) hF
  · replace hF := sd_neg hF c26
    refine sd_aload_n C 1 dX5_pay_29 rfl rfl rfl (n' := 30) ?_
    refine sd_g5_3 C (sd_mC (sd_m6 k0)) k0 sd_w133 dX5_pay_30 rfl (n' := 33) ?_
    refine sd_iload_n C 2 dX5_pay_33 rfl rfl rfl (n' := 34) ?_
    obtain ⟨b34, hF⟩ := sd_ok hF
    refine sd_gald C (sd_mC (by have := (sd_c6 k0).2.2.2.2; omega)) ((sd_c6 k0).2.2.2.1.1) ((sd_c6 k0).2.2.2.1.2) b34 dX5_pay_34 rfl (n' := 35) ?_
    refine sd_iload_n C 3 dX5_pay_35 rfl rfl rfl (n' := 36) ?_
    obtain ⟨b36, hF⟩ := sd_ok hF
    refine sd_iald C (sd_mC (by have := (sd_c6 k0).2.2.2.2; have := sd_in_lt b34; omega)) ((sd_c6j k0 (sd_in_lt b34)).2.1) ((sd_c6j k0 (sd_in_lt b34)).2.2) b36 dX5_pay_36 rfl (n' := 37) ?_
    refine sd_i2l C dX5_pay_37 rfl (n' := 38) ?_
    refine sd_goto C (tgt := 42) dX5_pay_38 rfl ?_
    refine sd_sub [1, 4, 0] rfl ?_
    exact tb_X5_pay_42 C k0 x3 ls0 ((M.1 (h0 + 6 + 1 + x1.toNatClampNeg) x2.toNatClampNeg).toInt64) hF
set_option maxRecDepth 100000 in
set_option maxHeartbeats 4000000 in
theorem tb_X5_pay_0 {K : sd_K} {E : sd_Env} {M : sd_Mem} {h0 : Nat} {r : Int64} (C : sd_C K E sd_LC RX5 cX5_pay 9 (some .long)) (k0 : sd_kd h0 = 6) : ∀ (x1 : Int32) (x2 : Int32) (x3 : Int32) (x4 : Int32), fn_X5_pay_0 M h0 x1 x2 x3 x4 = some r → sd_Z K rm_X5_pay E sd_LC 9 (sd_QL K E sd_LC r M) M 0 [(0, .ref (E.2.2 h0)), (1, .int x1), (2, .int x2), (3, .int x3), (4, .int x4)] [] := by
  intro x1 x2 x3 x4 hF
  unfold fn_X5_pay_0 at hF
  refine sd_iload_n C 1 dX5_pay_0 rfl rfl rfl (n' := 1) ?_
  refine sd_if_ne C (n' := 4) (tgt := 10) dX5_pay_1 rfl rfl (fun c1 => ?_) (fun c1 => ?_)
  · replace hF := sd_neg hF c1
    refine sd_aload_n C 0 dX5_pay_10 rfl rfl rfl (n' := 11) ?_
    refine sd_g5_4 C (sd_mC (sd_m6 k0)) k0 sd_w134 dX5_pay_11 rfl (n' := 14) ?_
    refine sd_iload C 4 dX5_pay_14 rfl rfl (n' := 16) ?_
    refine sd_isub C dX5_pay_16 rfl (n' := 17) ?_
    refine sd_i2l C dX5_pay_17 rfl (n' := 18) ?_
    refine sd_sub [0, 1, 2, 3] rfl ?_
    exact tb_X5_pay_18 C k0 x1 x2 x3 (((M.1 h0 4) - x4).toInt64) hF
  · replace hF := sd_pos hF c1
    refine sd_iload C 4 dX5_pay_4 rfl rfl (n' := 6) ?_
    refine sd_i2l C dX5_pay_6 rfl (n' := 7) ?_
    refine sd_goto C (tgt := 18) dX5_pay_7 rfl ?_
    refine sd_sub [0, 1, 2, 3] rfl ?_
    exact tb_X5_pay_18 C k0 x1 x2 x3 x4.toInt64 hF
theorem ct_X5_pay {l : Launch} {E : sd_Env} (M : sd_Mem) (h0 : Nat) (x1 : Int32) (x2 : Int32) (x3 : Int32) (x4 : Int32) (k0 : sd_kd h0 = 6) {r : Int64} (hF : fn_X5_pay M h0 x1 x2 x3 x4 = some r) : sd_ML l E sd_LC yX5_pay cX5_pay 9 (some .long) rm_X5_pay [.ref (E.2.2 h0), .int x1, .int x2, .int x3, .int x4] M r M := sd_ent0 (by decide +kernel) (Nat.le_of_ble_eq_true rfl) (fun p e s m below meth c C => tb_X5_pay_0 C k0 x1 x2 x3 x4 hF)
theorem dX5_power_0 : decode cX5_power 0 = .ok (.iload_n 0, 1) := by decide +kernel
theorem dX5_power_1 : decode cX5_power 1 = .ok (.iconst 0, 1) := by decide +kernel
theorem dX5_power_2 : decode cX5_power 2 = .ok (.bipush 10, 2) := by decide +kernel
theorem dX5_power_4 : decode cX5_power 4 = .ok (.invokestatic 55, 3) := by decide +kernel
theorem dX5_power_7 : decode cX5_power 7 = .ok (.ifCond .eq 11, 3) := by decide +kernel
theorem dX5_power_10 : decode cX5_power 10 = .ok (.getstatic 80, 3) := by decide +kernel
theorem dX5_power_13 : decode cX5_power 13 = .ok (.iload_n 0, 1) := by decide +kernel
theorem dX5_power_14 : decode cX5_power 14 = .ok (.laload, 1) := by decide +kernel
theorem dX5_power_15 : decode cX5_power 15 = .ok (.goto 4, 3) := by decide +kernel
theorem dX5_power_18 : decode cX5_power 18 = .ok (.lconst 1, 1) := by decide +kernel
theorem dX5_power_19 : decode cX5_power 19 = .ok (.lreturn, 1) := by decide +kernel
set_option maxRecDepth 100000 in
set_option maxHeartbeats 4000000 in
theorem tb_X5_power_0 {K : sd_K} {E : sd_Env} {M : sd_Mem}  {r : Int64} (C : sd_C K E sd_LC RX5 cX5_power 1 (some .long))  : ∀ (x0 : Int32), fn_X5_power_0 x0 = some r → sd_Z K rm_X5_power E sd_LC 1 (sd_QL K E sd_LC r M) M 0 [(0, .int x0)] [] := by
  intro x0 hF
  unfold fn_X5_power_0 at hF
  refine sd_iload_n C 0 dX5_power_0 rfl rfl rfl (n' := 1) ?_
  refine sd_iconst C (v := 0) dX5_power_1 rfl rfl (n' := 2) ?_
  refine sd_bipush C (v := 10) dX5_power_2 rfl rfl (n' := 4) ?_
  obtain ⟨q4, e4, hF⟩ := sd_bind hF
  refine sd_callNI [.int x0, .int (0 : Int32), .int (10 : Int32)] [] C (ct_X10_within M x0 (0 : Int32) (10 : Int32)  e4) sd_lX5_55 ⟨rfl, rfl, Nat.le_of_ble_eq_true rfl, Nat.le_of_ble_eq_true rfl⟩ rfl (Nat.le_of_ble_eq_true rfl) dX5_power_4 rfl (n' := 7) ?_
  refine sd_if_eq C (n' := 10) (tgt := 18) dX5_power_7 rfl rfl (fun c7 => ?_) (fun c7 => ?_)
  · replace hF := sd_pos hF c7
    refine sd_lconst C (v := 1) dX5_power_18 rfl rfl (n' := 19) ?_
    exact sd_lret C dX5_power_19 (Option.some.inj hF) rfl
  · replace hF := sd_neg hF c7
    obtain ⟨b10, hF⟩ := sd_ok hF
    refine sd_pow3 C 0 sd_w706 rfl rfl b10 dX5_power_10 dX5_power_13 dX5_power_14 rfl (n' := 15) ?_
    refine sd_goto C (tgt := 19) dX5_power_15 rfl ?_
    exact sd_lret C dX5_power_19 (Option.some.inj hF) rfl
theorem ct_X5_power {l : Launch} {E : sd_Env} (M : sd_Mem) (x0 : Int32)  {r : Int64} (hF : fn_X5_power x0 = some r) : sd_ML l E sd_LC yX5_power cX5_power 1 (some .long) rm_X5_power [.int x0] M r M := sd_ent0 (by decide +kernel) (Nat.le_of_ble_eq_true rfl) (fun p e s m below meth c C => tb_X5_power_0 C x0 hF)
theorem dX7_payJudged_0 : decode cX7_payJudged 0 = .ok (.iload_n 3, 1) := by decide +kernel
theorem dX7_payJudged_1 : decode cX7_payJudged 1 = .ok (.aload_n 0, 1) := by decide +kernel
theorem dX7_payJudged_2 : decode cX7_payJudged 2 = .ok (.getfield 9, 3) := by decide +kernel
theorem dX7_payJudged_5 : decode cX7_payJudged 5 = .ok (.getfield 25, 3) := by decide +kernel
theorem dX7_payJudged_8 : decode cX7_payJudged 8 = .ok (.invokestatic 80, 3) := by decide +kernel
theorem dX7_payJudged_11 : decode cX7_payJudged 11 = .ok (.istore 5, 2) := by decide +kernel
theorem dX7_payJudged_13 : decode cX7_payJudged 13 = .ok (.aload_n 0, 1) := by decide +kernel
theorem dX7_payJudged_14 : decode cX7_payJudged 14 = .ok (.getfield 9, 3) := by decide +kernel
theorem dX7_payJudged_17 : decode cX7_payJudged 17 = .ok (.iload_n 1, 1) := by decide +kernel
theorem dX7_payJudged_18 : decode cX7_payJudged 18 = .ok (.iload_n 2, 1) := by decide +kernel
theorem dX7_payJudged_19 : decode cX7_payJudged 19 = .ok (.iload_n 3, 1) := by decide +kernel
theorem dX7_payJudged_20 : decode cX7_payJudged 20 = .ok (.iload 4, 2) := by decide +kernel
theorem dX7_payJudged_22 : decode cX7_payJudged 22 = .ok (.invokevirtual 85, 3) := by decide +kernel
theorem dX7_payJudged_25 : decode cX7_payJudged 25 = .ok (.lstore 6, 2) := by decide +kernel
theorem dX7_payJudged_27 : decode cX7_payJudged 27 = .ok (.iload 5, 2) := by decide +kernel
theorem dX7_payJudged_29 : decode cX7_payJudged 29 = .ok (.istore 8, 2) := by decide +kernel
theorem dX7_payJudged_31 : decode cX7_payJudged 31 = .ok (.iload 8, 2) := by decide +kernel
theorem dX7_payJudged_33 : decode cX7_payJudged 33 = .ok (.iconst 1, 1) := by decide +kernel
theorem dX7_payJudged_34 : decode cX7_payJudged 34 = .ok (.if_icmp .lt 66, 3) := by decide +kernel
theorem dX7_payJudged_37 : decode cX7_payJudged 37 = .ok (.aload_n 0, 1) := by decide +kernel
theorem dX7_payJudged_38 : decode cX7_payJudged 38 = .ok (.getfield 9, 3) := by decide +kernel
theorem dX7_payJudged_41 : decode cX7_payJudged 41 = .ok (.iload_n 1, 1) := by decide +kernel
theorem dX7_payJudged_42 : decode cX7_payJudged 42 = .ok (.iload_n 2, 1) := by decide +kernel
theorem dX7_payJudged_43 : decode cX7_payJudged 43 = .ok (.iload 8, 2) := by decide +kernel
theorem dX7_payJudged_45 : decode cX7_payJudged 45 = .ok (.aload_n 0, 1) := by decide +kernel
theorem dX7_payJudged_46 : decode cX7_payJudged 46 = .ok (.getfield 15, 3) := by decide +kernel
theorem dX7_payJudged_49 : decode cX7_payJudged 49 = .ok (.getfield 88, 3) := by decide +kernel
theorem dX7_payJudged_52 : decode cX7_payJudged 52 = .ok (.invokevirtual 85, 3) := by decide +kernel
theorem dX7_payJudged_55 : decode cX7_payJudged 55 = .ok (.iload 5, 2) := by decide +kernel
theorem dX7_payJudged_57 : decode cX7_payJudged 57 = .ok (.iload 8, 2) := by decide +kernel
theorem dX7_payJudged_59 : decode cX7_payJudged 59 = .ok (.isub, 1) := by decide +kernel
theorem dX7_payJudged_60 : decode cX7_payJudged 60 = .ok (.invokestatic 89, 3) := by decide +kernel
theorem dX7_payJudged_63 : decode cX7_payJudged 63 = .ok (.lmul, 1) := by decide +kernel
theorem dX7_payJudged_64 : decode cX7_payJudged 64 = .ok (.lstore 9, 2) := by decide +kernel
theorem dX7_payJudged_66 : decode cX7_payJudged 66 = .ok (.aload_n 0, 1) := by decide +kernel
theorem dX7_payJudged_67 : decode cX7_payJudged 67 = .ok (.getfield 15, 3) := by decide +kernel
theorem dX7_payJudged_70 : decode cX7_payJudged 70 = .ok (.getfield 93, 3) := by decide +kernel
theorem dX7_payJudged_73 : decode cX7_payJudged 73 = .ok (.i2l, 1) := by decide +kernel
theorem dX7_payJudged_74 : decode cX7_payJudged 74 = .ok (.lload 9, 2) := by decide +kernel
theorem dX7_payJudged_76 : decode cX7_payJudged 76 = .ok (.lmul, 1) := by decide +kernel
theorem dX7_payJudged_77 : decode cX7_payJudged 77 = .ok (.bipush 12, 2) := by decide +kernel
theorem dX7_payJudged_79 : decode cX7_payJudged 79 = .ok (.aload_n 0, 1) := by decide +kernel
theorem dX7_payJudged_80 : decode cX7_payJudged 80 = .ok (.getfield 15, 3) := by decide +kernel
theorem dX7_payJudged_83 : decode cX7_payJudged 83 = .ok (.getfield 93, 3) := by decide +kernel
theorem dX7_payJudged_86 : decode cX7_payJudged 86 = .ok (.isub, 1) := by decide +kernel
theorem dX7_payJudged_87 : decode cX7_payJudged 87 = .ok (.i2l, 1) := by decide +kernel
theorem dX7_payJudged_88 : decode cX7_payJudged 88 = .ok (.lload 6, 2) := by decide +kernel
theorem dX7_payJudged_90 : decode cX7_payJudged 90 = .ok (.lmul, 1) := by decide +kernel
theorem dX7_payJudged_91 : decode cX7_payJudged 91 = .ok (.ladd, 1) := by decide +kernel
theorem dX7_payJudged_92 : decode cX7_payJudged 92 = .ok (.lstore 6, 2) := by decide +kernel
theorem dX7_payJudged_94 : decode cX7_payJudged 94 = .ok (.iinc 8 (-1), 3) := by decide +kernel
theorem dX7_payJudged_97 : decode cX7_payJudged 97 = .ok (.goto (-66), 3) := by decide +kernel
theorem dX7_payJudged_100 : decode cX7_payJudged 100 = .ok (.lload 6, 2) := by decide +kernel
theorem dX7_payJudged_102 : decode cX7_payJudged 102 = .ok (.aload_n 0, 1) := by decide +kernel
theorem dX7_payJudged_103 : decode cX7_payJudged 103 = .ok (.getfield 9, 3) := by decide +kernel
theorem dX7_payJudged_106 : decode cX7_payJudged 106 = .ok (.getfield 25, 3) := by decide +kernel
theorem dX7_payJudged_109 : decode cX7_payJudged 109 = .ok (.iload 5, 2) := by decide +kernel
theorem dX7_payJudged_111 : decode cX7_payJudged 111 = .ok (.isub, 1) := by decide +kernel
theorem dX7_payJudged_112 : decode cX7_payJudged 112 = .ok (.invokestatic 89, 3) := by decide +kernel
theorem dX7_payJudged_115 : decode cX7_payJudged 115 = .ok (.lmul, 1) := by decide +kernel
theorem dX7_payJudged_116 : decode cX7_payJudged 116 = .ok (.lreturn, 1) := by decide +kernel
set_option maxRecDepth 100000 in
set_option maxHeartbeats 4000000 in
theorem tb_X7_payJudged_100 {K : sd_K} {E : sd_Env} {M : sd_Mem} {h0 : Nat} {r : Int64} (C : sd_C K E sd_LC RX7 cX7_payJudged 11 (some .long)) (k0 : sd_kd h0 = 8) : ∀ (x5 : Int32) (l6 : Int64), fn_X7_payJudged_100 M h0 x5 l6 = some r → sd_Z K rm_X7_payJudged E sd_LC 11 (sd_QL K E sd_LC r M) M 100 [(0, .ref (E.2.2 h0)), (5, .int x5), (6, .long l6)] [] := by
  intro x5 l6 hF
  unfold fn_X7_payJudged_100 at hF
  refine sd_lload C 2 dX7_payJudged_100 rfl rfl (n' := 102) ?_
  refine sd_aload_n C 0 dX7_payJudged_102 rfl rfl rfl (n' := 103) ?_
  refine sd_g7_0 C (sd_mC (sd_m8 k0)) k0 sd_w214 dX7_payJudged_103 rfl (n' := 106) ?_
  refine sd_gN5_6 C sd_i40 sd_k40 sd_w141 dX7_payJudged_106 rfl (n' := 109) ?_
  refine sd_iload C 1 dX7_payJudged_109 rfl rfl (n' := 111) ?_
  refine sd_isub C dX7_payJudged_111 rfl (n' := 112) ?_
  obtain ⟨q112, e112, hF⟩ := sd_bind hF
  refine sd_callSL [.int ((M.1 40 6) - x5)] [.long l6] C (ct_X5_power M ((M.1 40 6) - x5)  e112) sd_lX7_89 ⟨rfl, rfl, Nat.le_of_ble_eq_true rfl, Nat.le_of_ble_eq_true rfl⟩ rfl (Nat.le_of_ble_eq_true rfl) dX7_payJudged_112 rfl (n' := 115) ?_
  refine sd_lmul C dX7_payJudged_115 rfl (n' := 116) ?_
  exact sd_lret C dX7_payJudged_116 (Option.some.inj hF) rfl
set_option maxRecDepth 100000 in
set_option maxHeartbeats 4000000 in
theorem tb_X7_payJudged_31 {K : sd_K} {E : sd_Env} {M : sd_Mem} {h0 : Nat} {r : Int64} (C : sd_C K E sd_LC RX7 cX7_payJudged 11 (some .long)) (k0 : sd_kd h0 = 8) : ∀ (n : Nat), ∀ (x1 : Int32) (x2 : Int32) (x5 : Int32) (l6 : Int64) (x8 : Int32), fn_X7_payJudged_31 M h0 n x1 x2 x5 l6 x8 = some r → sd_Z K rm_X7_payJudged E sd_LC 11 (sd_QL K E sd_LC r M) M 31 [(0, .ref (E.2.2 h0)), (1, .int x1), (2, .int x2), (5, .int x5), (6, .long l6), (8, .int x8)] [] := by
  intro n
  induction n with
  | zero => intro x1 x2 x5 l6 x8 hF; cases hF
  | succ n ih =>
    intro x1 x2 x5 l6 x8 hF
    unfold fn_X7_payJudged_31 at hF
    refine sd_iload C 5 dX7_payJudged_31 rfl rfl (n' := 33) ?_
    refine sd_iconst C (v := 1) dX7_payJudged_33 rfl rfl (n' := 34) ?_
    refine sd_icmp_lt C (n' := 37) (tgt := 100) dX7_payJudged_34 rfl rfl (fun c34 => ?_) (fun c34 => ?_)
    · replace hF := sd_pos hF c34
      refine sd_sub [0, 3, 4] rfl ?_
      exact tb_X7_payJudged_100 C k0 x5 l6 hF
    · replace hF := sd_neg hF c34
      refine sd_aload_n C 0 dX7_payJudged_37 rfl rfl rfl (n' := 38) ?_
      refine sd_g7_0 C (sd_mC (sd_m8 k0)) k0 sd_w214 dX7_payJudged_38 rfl (n' := 41) ?_
      refine sd_iload_n C 1 dX7_payJudged_41 rfl rfl rfl (n' := 42) ?_
      refine sd_iload_n C 2 dX7_payJudged_42 rfl rfl rfl (n' := 43) ?_
      refine sd_iload C 5 dX7_payJudged_43 rfl rfl (n' := 45) ?_
      refine sd_aload_n C 0 dX7_payJudged_45 rfl rfl rfl (n' := 46) ?_
      refine sd_g7_1 C (sd_mC (sd_m8 k0)) k0 sd_w215 dX7_payJudged_46 rfl (n' := 49) ?_
      refine sd_gN4_2 C (sd_mC (sd_c8 k0).2) ((sd_c8 k0).1) sd_w183 dX7_payJudged_49 rfl (n' := 52) ?_
      obtain ⟨q52, e52, hF⟩ := sd_bind hF
      refine sd_callVL [.int x1, .int x2, .int x8, .int (M.1 (h0 - 3) 2)] [] C (ct_X5_pay M 40 x1 x2 x8 (M.1 (h0 - 3) 2) sd_k40 e52) sd_lX7_85 ⟨rfl, rfl, Nat.le_of_ble_eq_true rfl, Nat.le_of_ble_eq_true rfl⟩ sd_i40 (sd_e6 sd_k40) rfl rfl rfl (Nat.le_of_ble_eq_true rfl) dX7_payJudged_52 rfl (n' := 55) ?_
      refine sd_iload C 3 dX7_payJudged_55 rfl rfl (n' := 57) ?_
      refine sd_iload C 5 dX7_payJudged_57 rfl rfl (n' := 59) ?_
      refine sd_isub C dX7_payJudged_59 rfl (n' := 60) ?_
      obtain ⟨q60, e60, hF⟩ := sd_bind hF
      refine sd_callSL [.int (x5 - x8)] [.long q52] C (ct_X5_power M (x5 - x8)  e60) sd_lX7_89 ⟨rfl, rfl, Nat.le_of_ble_eq_true rfl, Nat.le_of_ble_eq_true rfl⟩ rfl (Nat.le_of_ble_eq_true rfl) dX7_payJudged_60 rfl (n' := 63) ?_
      refine sd_lmul C dX7_payJudged_63 rfl (n' := 64) ?_
      refine sd_lstore [(9, .long (q52 * q60)), (0, .ref (E.2.2 h0)), (1, .int x1), (2, .int x2), (5, .int x5), (6, .long l6), (8, .int x8)] C dX7_payJudged_64 (by decide) rfl rfl (n' := 66) ?_
      refine sd_aload_n C 1 dX7_payJudged_66 rfl rfl rfl (n' := 67) ?_
      refine sd_g7_1 C (sd_mC (sd_m8 k0)) k0 sd_w215 dX7_payJudged_67 rfl (n' := 70) ?_
      refine sd_gN4_1 C (sd_mC (sd_c8 k0).2) ((sd_c8 k0).1) sd_w179 dX7_payJudged_70 rfl (n' := 73) ?_
      refine sd_i2l C dX7_payJudged_73 rfl (n' := 74) ?_
      refine sd_lload C 0 dX7_payJudged_74 rfl rfl (n' := 76) ?_
      refine sd_lmul C dX7_payJudged_76 rfl (n' := 77) ?_
      refine sd_bipush C (v := 12) dX7_payJudged_77 rfl rfl (n' := 79) ?_
      refine sd_aload_n C 1 dX7_payJudged_79 rfl rfl rfl (n' := 80) ?_
      refine sd_g7_1 C (sd_mC (sd_m8 k0)) k0 sd_w215 dX7_payJudged_80 rfl (n' := 83) ?_
      refine sd_gN4_1 C (sd_mC (sd_c8 k0).2) ((sd_c8 k0).1) sd_w179 dX7_payJudged_83 rfl (n' := 86) ?_
      refine sd_isub C dX7_payJudged_86 rfl (n' := 87) ?_
      refine sd_i2l C dX7_payJudged_87 rfl (n' := 88) ?_
      refine sd_lload C 5 dX7_payJudged_88 rfl rfl (n' := 90) ?_
      refine sd_lmul C dX7_payJudged_90 rfl (n' := 91) ?_
      refine sd_ladd C dX7_payJudged_91 rfl (n' := 92) ?_
      refine sd_lstore [(6, .long ((((M.1 (h0 - 3) 1).toInt64) * (q52 * q60)) + ((((12 : Int32) - (M.1 (h0 - 3) 1)).toInt64) * l6))), (9, .long (q52 * q60)), (0, .ref (E.2.2 h0)), (1, .int x1), (2, .int x2), (5, .int x5), (8, .int x8)] C dX7_payJudged_92 (by decide) rfl rfl (n' := 94) ?_
      refine sd_iinc [(8, .int (x8 + (-1 : Int32))), (6, .long ((((M.1 (h0 - 3) 1).toInt64) * (q52 * q60)) + ((((12 : Int32) - (M.1 (h0 - 3) 1)).toInt64) * l6))), (9, .long (q52 * q60)), (0, .ref (E.2.2 h0)), (1, .int x1), (2, .int x2), (5, .int x5)] 6 C dX7_payJudged_94 rfl rfl (by decide) rfl rfl (n' := 97) ?_
      refine sd_goto C (tgt := 31) dX7_payJudged_97 rfl ?_
      refine sd_sub [3, 4, 5, 6, 1, 0] rfl ?_
      exact ih x1 x2 x5 ((((M.1 (h0 - 3) 1).toInt64) * (q52 * q60)) + ((((12 : Int32) - (M.1 (h0 - 3) 1)).toInt64) * l6)) (x8 + (-1 : Int32)) hF
set_option maxRecDepth 100000 in
set_option maxHeartbeats 4000000 in
theorem tb_X7_payJudged_0 {K : sd_K} {E : sd_Env} {M : sd_Mem} {h0 : Nat} {r : Int64} (C : sd_C K E sd_LC RX7 cX7_payJudged 11 (some .long)) (k0 : sd_kd h0 = 8) : ∀ (x1 : Int32) (x2 : Int32) (x3 : Int32) (x4 : Int32), fn_X7_payJudged_0 M h0 x1 x2 x3 x4 = some r → sd_Z K rm_X7_payJudged E sd_LC 11 (sd_QL K E sd_LC r M) M 0 [(0, .ref (E.2.2 h0)), (1, .int x1), (2, .int x2), (3, .int x3), (4, .int x4)] [] := by
  intro x1 x2 x3 x4 hF
  unfold fn_X7_payJudged_0 at hF
  refine sd_iload_n C 3 dX7_payJudged_0 rfl rfl rfl (n' := 1) ?_
  refine sd_aload_n C 0 dX7_payJudged_1 rfl rfl rfl (n' := 2) ?_
  refine sd_g7_0 C (sd_mC (sd_m8 k0)) k0 sd_w214 dX7_payJudged_2 rfl (n' := 5) ?_
  refine sd_gN5_6 C sd_i40 sd_k40 sd_w141 dX7_payJudged_5 rfl (n' := 8) ?_
  refine sd_mmin C sd_w698 sd_wm_mmin_s sd_w87 sd_wm_mmin_c (Nat.le_of_ble_eq_true rfl) (Nat.le_of_ble_eq_true rfl) dX7_payJudged_8 rfl (n' := 11) ?_
  refine sd_istore [(5, .int (if (M.1 40 6) < x3 then (M.1 40 6) else x3)), (0, .ref (E.2.2 h0)), (1, .int x1), (2, .int x2), (3, .int x3), (4, .int x4)] C dX7_payJudged_11 (by decide) rfl rfl (n' := 13) ?_
  refine sd_aload_n C 1 dX7_payJudged_13 rfl rfl rfl (n' := 14) ?_
  refine sd_g7_0 C (sd_mC (sd_m8 k0)) k0 sd_w214 dX7_payJudged_14 rfl (n' := 17) ?_
  refine sd_iload_n C 2 dX7_payJudged_17 rfl rfl rfl (n' := 18) ?_
  refine sd_iload_n C 3 dX7_payJudged_18 rfl rfl rfl (n' := 19) ?_
  refine sd_iload_n C 4 dX7_payJudged_19 rfl rfl rfl (n' := 20) ?_
  refine sd_iload C 5 dX7_payJudged_20 rfl rfl (n' := 22) ?_
  obtain ⟨q22, e22, hF⟩ := sd_bind hF
  refine sd_callVL [.int x1, .int x2, .int x3, .int x4] [] C (ct_X5_pay M 40 x1 x2 x3 x4 sd_k40 e22) sd_lX7_85 ⟨rfl, rfl, Nat.le_of_ble_eq_true rfl, Nat.le_of_ble_eq_true rfl⟩ sd_i40 (sd_e6 sd_k40) rfl rfl rfl (Nat.le_of_ble_eq_true rfl) dX7_payJudged_22 rfl (n' := 25) ?_
  refine sd_lstore [(6, .long q22), (5, .int (if (M.1 40 6) < x3 then (M.1 40 6) else x3)), (0, .ref (E.2.2 h0)), (1, .int x1), (2, .int x2), (3, .int x3), (4, .int x4)] C dX7_payJudged_25 (by decide) rfl rfl (n' := 27) ?_
  refine sd_iload C 1 dX7_payJudged_27 rfl rfl (n' := 29) ?_
  refine sd_istore [(8, .int (if (M.1 40 6) < x3 then (M.1 40 6) else x3)), (6, .long q22), (5, .int (if (M.1 40 6) < x3 then (M.1 40 6) else x3)), (0, .ref (E.2.2 h0)), (1, .int x1), (2, .int x2), (3, .int x3), (4, .int x4)] C dX7_payJudged_29 (by decide) rfl rfl (n' := 31) ?_
  refine sd_sub [3, 4, 5, 2, 1, 0] rfl ?_
  exact tb_X7_payJudged_31 C k0 sd_FU x1 x2 (if (M.1 40 6) < x3 then (M.1 40 6) else x3) q22 (if (M.1 40 6) < x3 then (M.1 40 6) else x3) hF
theorem ct_X7_payJudged {l : Launch} {E : sd_Env} (M : sd_Mem) (h0 : Nat) (x1 : Int32) (x2 : Int32) (x3 : Int32) (x4 : Int32) (k0 : sd_kd h0 = 8) {r : Int64} (hF : fn_X7_payJudged M h0 x1 x2 x3 x4 = some r) : sd_ML l E sd_LC yX7_payJudged cX7_payJudged 11 (some .long) rm_X7_payJudged [.ref (E.2.2 h0), .int x1, .int x2, .int x3, .int x4] M r M := sd_ent0 (by decide +kernel) (Nat.le_of_ble_eq_true rfl) (fun p e s m below meth c C => tb_X7_payJudged_0 C k0 x1 x2 x3 x4 hF)
theorem dX7_worthSum_0 : decode cX7_worthSum 0 = .ok (.iload_n 3, 1) := by decide +kernel
theorem dX7_worthSum_1 : decode cX7_worthSum 1 = .ok (.invokestatic 62, 3) := by decide +kernel
theorem dX7_worthSum_4 : decode cX7_worthSum 4 = .ok (.istore 5, 2) := by decide +kernel
theorem dX7_worthSum_6 : decode cX7_worthSum 6 = .ok (.lconst 0, 1) := by decide +kernel
theorem dX7_worthSum_7 : decode cX7_worthSum 7 = .ok (.lstore 6, 2) := by decide +kernel
theorem dX7_worthSum_9 : decode cX7_worthSum 9 = .ok (.iconst 0, 1) := by decide +kernel
theorem dX7_worthSum_10 : decode cX7_worthSum 10 = .ok (.istore 8, 2) := by decide +kernel
theorem dX7_worthSum_12 : decode cX7_worthSum 12 = .ok (.iload 8, 2) := by decide +kernel
theorem dX7_worthSum_14 : decode cX7_worthSum 14 = .ok (.aload_n 0, 1) := by decide +kernel
theorem dX7_worthSum_15 : decode cX7_worthSum 15 = .ok (.getfield 9, 3) := by decide +kernel
theorem dX7_worthSum_18 : decode cX7_worthSum 18 = .ok (.iload 5, 2) := by decide +kernel
theorem dX7_worthSum_20 : decode cX7_worthSum 20 = .ok (.invokevirtual 44, 3) := by decide +kernel
theorem dX7_worthSum_23 : decode cX7_worthSum 23 = .ok (.if_icmp .ge 83, 3) := by decide +kernel
theorem dX7_worthSum_26 : decode cX7_worthSum 26 = .ok (.iload_n 3, 1) := by decide +kernel
theorem dX7_worthSum_27 : decode cX7_worthSum 27 = .ok (.ifCond .ne 8, 3) := by decide +kernel
theorem dX7_worthSum_30 : decode cX7_worthSum 30 = .ok (.iload 8, 2) := by decide +kernel
theorem dX7_worthSum_32 : decode cX7_worthSum 32 = .ok (.goto 5, 3) := by decide +kernel
theorem dX7_worthSum_35 : decode cX7_worthSum 35 = .ok (.iload 4, 2) := by decide +kernel
theorem dX7_worthSum_37 : decode cX7_worthSum 37 = .ok (.istore 9, 2) := by decide +kernel
theorem dX7_worthSum_39 : decode cX7_worthSum 39 = .ok (.iload_n 3, 1) := by decide +kernel
theorem dX7_worthSum_40 : decode cX7_worthSum 40 = .ok (.ifCond .ne 8, 3) := by decide +kernel
theorem dX7_worthSum_43 : decode cX7_worthSum 43 = .ok (.iload 4, 2) := by decide +kernel
theorem dX7_worthSum_45 : decode cX7_worthSum 45 = .ok (.goto 5, 3) := by decide +kernel
theorem dX7_worthSum_48 : decode cX7_worthSum 48 = .ok (.iload 8, 2) := by decide +kernel
theorem dX7_worthSum_50 : decode cX7_worthSum 50 = .ok (.istore 10, 2) := by decide +kernel
theorem dX7_worthSum_52 : decode cX7_worthSum 52 = .ok (.aload_n 0, 1) := by decide +kernel
theorem dX7_worthSum_53 : decode cX7_worthSum 53 = .ok (.aload_n 1, 1) := by decide +kernel
theorem dX7_worthSum_54 : decode cX7_worthSum 54 = .ok (.aload_n 2, 1) := by decide +kernel
theorem dX7_worthSum_55 : decode cX7_worthSum 55 = .ok (.iload 9, 2) := by decide +kernel
theorem dX7_worthSum_57 : decode cX7_worthSum 57 = .ok (.iload 10, 2) := by decide +kernel
theorem dX7_worthSum_59 : decode cX7_worthSum 59 = .ok (.invokevirtual 58, 3) := by decide +kernel
theorem dX7_worthSum_62 : decode cX7_worthSum 62 = .ok (.istore 11, 2) := by decide +kernel
theorem dX7_worthSum_64 : decode cX7_worthSum 64 = .ok (.lload 6, 2) := by decide +kernel
theorem dX7_worthSum_66 : decode cX7_worthSum 66 = .ok (.aload_n 0, 1) := by decide +kernel
theorem dX7_worthSum_67 : decode cX7_worthSum 67 = .ok (.getfield 9, 3) := by decide +kernel
theorem dX7_worthSum_70 : decode cX7_worthSum 70 = .ok (.iload 5, 2) := by decide +kernel
theorem dX7_worthSum_72 : decode cX7_worthSum 72 = .ok (.iload 8, 2) := by decide +kernel
theorem dX7_worthSum_74 : decode cX7_worthSum 74 = .ok (.invokevirtual 48, 3) := by decide +kernel
theorem dX7_worthSum_77 : decode cX7_worthSum 77 = .ok (.i2l, 1) := by decide +kernel
theorem dX7_worthSum_78 : decode cX7_worthSum 78 = .ok (.aload_n 0, 1) := by decide +kernel
theorem dX7_worthSum_79 : decode cX7_worthSum 79 = .ok (.iload_n 3, 1) := by decide +kernel
theorem dX7_worthSum_80 : decode cX7_worthSum 80 = .ok (.iload 4, 2) := by decide +kernel
theorem dX7_worthSum_82 : decode cX7_worthSum 82 = .ok (.iload 11, 2) := by decide +kernel
theorem dX7_worthSum_84 : decode cX7_worthSum 84 = .ok (.aload_n 0, 1) := by decide +kernel
theorem dX7_worthSum_85 : decode cX7_worthSum 85 = .ok (.aload_n 1, 1) := by decide +kernel
theorem dX7_worthSum_86 : decode cX7_worthSum 86 = .ok (.iload 9, 2) := by decide +kernel
theorem dX7_worthSum_88 : decode cX7_worthSum 88 = .ok (.iload 11, 2) := by decide +kernel
theorem dX7_worthSum_90 : decode cX7_worthSum 90 = .ok (.invokevirtual 72, 3) := by decide +kernel
theorem dX7_worthSum_93 : decode cX7_worthSum 93 = .ok (.invokevirtual 76, 3) := by decide +kernel
theorem dX7_worthSum_96 : decode cX7_worthSum 96 = .ok (.lmul, 1) := by decide +kernel
theorem dX7_worthSum_97 : decode cX7_worthSum 97 = .ok (.ladd, 1) := by decide +kernel
theorem dX7_worthSum_98 : decode cX7_worthSum 98 = .ok (.lstore 6, 2) := by decide +kernel
theorem dX7_worthSum_100 : decode cX7_worthSum 100 = .ok (.iinc 8 1, 3) := by decide +kernel
theorem dX7_worthSum_103 : decode cX7_worthSum 103 = .ok (.goto (-91), 3) := by decide +kernel
theorem dX7_worthSum_106 : decode cX7_worthSum 106 = .ok (.lload 6, 2) := by decide +kernel
theorem dX7_worthSum_108 : decode cX7_worthSum 108 = .ok (.lreturn, 1) := by decide +kernel
set_option maxRecDepth 100000 in
set_option maxHeartbeats 4000000 in
theorem tb_X7_worthSum_50 {K : sd_K} {E : sd_Env} {M : sd_Mem} {h0 h1 h2 : Nat} {r : Int64} (C : sd_C K E sd_LC RX7 cX7_worthSum 12 (some .long)) (k0 : sd_kd h0 = 8) (k1 : sd_kd h1 = 10) (k2 : sd_kd h2 = 10) {k12 : Int32 → Int32 → Int32 → Int64 → Int32 → Option Int64} (hk12 : ∀ (x3 : Int32) (x4 : Int32) (x5 : Int32) (l6 : Int64) (x8 : Int32), k12 x3 x4 x5 l6 x8 = some r → sd_Z K rm_X7_worthSum E sd_LC 12 (sd_QL K E sd_LC r M) M 12 [(0, .ref (E.2.2 h0)), (1, .ref (E.2.2 h1)), (2, .ref (E.2.2 h2)), (3, .int x3), (4, .int x4), (5, .int x5), (6, .long l6), (8, .int x8)] []) : ∀ (x3 : Int32) (x4 : Int32) (x5 : Int32) (l6 : Int64) (x8 : Int32) (x9 : Int32) (xs0 : Int32), fn_X7_worthSum_50 M h0 h1 h2 k12 x3 x4 x5 l6 x8 x9 xs0 = some r → sd_Z K rm_X7_worthSum E sd_LC 12 (sd_QL K E sd_LC r M) M 50 [(0, .ref (E.2.2 h0)), (1, .ref (E.2.2 h1)), (2, .ref (E.2.2 h2)), (3, .int x3), (4, .int x4), (5, .int x5), (6, .long l6), (8, .int x8), (9, .int x9)] [.int xs0] := by
  intro x3 x4 x5 l6 x8 x9 xs0 hF
  unfold fn_X7_worthSum_50 at hF
  refine sd_istore [(10, .int xs0), (0, .ref (E.2.2 h0)), (1, .ref (E.2.2 h1)), (2, .ref (E.2.2 h2)), (3, .int x3), (4, .int x4), (5, .int x5), (6, .long l6), (8, .int x8), (9, .int x9)] C dX7_worthSum_50 (by decide) rfl rfl (n' := 52) ?_
  refine sd_aload_n C 1 dX7_worthSum_52 rfl rfl rfl (n' := 53) ?_
  refine sd_aload_n C 2 dX7_worthSum_53 rfl rfl rfl (n' := 54) ?_
  refine sd_aload_n C 3 dX7_worthSum_54 rfl rfl rfl (n' := 55) ?_
  refine sd_iload C 9 dX7_worthSum_55 rfl rfl (n' := 57) ?_
  refine sd_iload C 0 dX7_worthSum_57 rfl rfl (n' := 59) ?_
  obtain ⟨q59, e59, hF⟩ := sd_bind hF
  refine sd_callVI [.ref (E.2.2 h1), .ref (E.2.2 h2), .int x9, .int xs0] [] C (ct_X7_settlingDay M h0 h1 h2 x9 xs0 k0 k1 k2 e59) sd_lX7_58 ⟨rfl, rfl, Nat.le_of_ble_eq_true rfl, Nat.le_of_ble_eq_true rfl⟩ (sd_mC (sd_m8 k0)) (sd_e8 k0) rfl rfl rfl (Nat.le_of_ble_eq_true rfl) dX7_worthSum_59 rfl (n' := 62) ?_
  refine sd_istore [(11, .int q59), (10, .int xs0), (0, .ref (E.2.2 h0)), (1, .ref (E.2.2 h1)), (2, .ref (E.2.2 h2)), (3, .int x3), (4, .int x4), (5, .int x5), (6, .long l6), (8, .int x8), (9, .int x9)] C dX7_worthSum_62 (by decide) rfl rfl (n' := 64) ?_
  refine sd_lload C 8 dX7_worthSum_64 rfl rfl (n' := 66) ?_
  refine sd_aload_n C 2 dX7_worthSum_66 rfl rfl rfl (n' := 67) ?_
  refine sd_g7_0 C (sd_mC (sd_m8 k0)) k0 sd_w214 dX7_worthSum_67 rfl (n' := 70) ?_
  refine sd_iload C 7 dX7_worthSum_70 rfl rfl (n' := 72) ?_
  refine sd_iload C 9 dX7_worthSum_72 rfl rfl (n' := 74) ?_
  obtain ⟨q74, e74, hF⟩ := sd_bind hF
  refine sd_callVI [.int x5, .int x8] [.long l6] C (ct_X5_chance M 40 x5 x8 sd_k40 e74) sd_lX7_48 ⟨rfl, rfl, Nat.le_of_ble_eq_true rfl, Nat.le_of_ble_eq_true rfl⟩ sd_i40 (sd_e6 sd_k40) rfl rfl rfl (Nat.le_of_ble_eq_true rfl) dX7_worthSum_74 rfl (n' := 77) ?_
  refine sd_i2l C dX7_worthSum_77 rfl (n' := 78) ?_
  refine sd_aload_n C 2 dX7_worthSum_78 rfl rfl rfl (n' := 79) ?_
  refine sd_iload_n C 5 dX7_worthSum_79 rfl rfl rfl (n' := 80) ?_
  refine sd_iload C 6 dX7_worthSum_80 rfl rfl (n' := 82) ?_
  refine sd_iload C 0 dX7_worthSum_82 rfl rfl (n' := 84) ?_
  refine sd_aload_n C 2 dX7_worthSum_84 rfl rfl rfl (n' := 85) ?_
  refine sd_aload_n C 3 dX7_worthSum_85 rfl rfl rfl (n' := 86) ?_
  refine sd_iload C 10 dX7_worthSum_86 rfl rfl (n' := 88) ?_
  refine sd_iload C 0 dX7_worthSum_88 rfl rfl (n' := 90) ?_
  obtain ⟨q90, e90, hF⟩ := sd_bind hF
  refine sd_callVI [.ref (E.2.2 h1), .int x9, .int q59] [.int q59, .int x4, .int x3, .ref (E.2.2 h0), .long q74.toInt64, .long l6] C (ct_X7_wageOn M h0 h1 x9 q59 k0 k1 e90) sd_lX7_72 ⟨rfl, rfl, Nat.le_of_ble_eq_true rfl, Nat.le_of_ble_eq_true rfl⟩ (sd_mC (sd_m8 k0)) (sd_e8 k0) rfl rfl rfl (Nat.le_of_ble_eq_true rfl) dX7_worthSum_90 rfl (n' := 93) ?_
  obtain ⟨q93, e93, hF⟩ := sd_bind hF
  refine sd_callVL [.int x3, .int x4, .int q59, .int q90] [.long q74.toInt64, .long l6] C (ct_X7_payJudged M h0 x3 x4 q59 q90 k0 e93) sd_lX7_76 ⟨rfl, rfl, Nat.le_of_ble_eq_true rfl, Nat.le_of_ble_eq_true rfl⟩ (sd_mC (sd_m8 k0)) (sd_e8 k0) rfl rfl rfl (Nat.le_of_ble_eq_true rfl) dX7_worthSum_93 rfl (n' := 96) ?_
  refine sd_lmul C dX7_worthSum_96 rfl (n' := 97) ?_
  refine sd_ladd C dX7_worthSum_97 rfl (n' := 98) ?_
  refine sd_lstore [(6, .long (l6 + (q74.toInt64 * q93))), (11, .int q59), (10, .int xs0), (0, .ref (E.2.2 h0)), (1, .ref (E.2.2 h1)), (2, .ref (E.2.2 h2)), (3, .int x3), (4, .int x4), (5, .int x5), (8, .int x8), (9, .int x9)] C dX7_worthSum_98 (by decide) rfl rfl (n' := 100) ?_
  refine sd_iinc [(8, .int (x8 + (1 : Int32))), (6, .long (l6 + (q74.toInt64 * q93))), (11, .int q59), (10, .int xs0), (0, .ref (E.2.2 h0)), (1, .ref (E.2.2 h1)), (2, .ref (E.2.2 h2)), (3, .int x3), (4, .int x4), (5, .int x5), (9, .int x9)] 9 C dX7_worthSum_100 rfl rfl (by decide) rfl rfl (n' := 103) ?_
  refine sd_goto C (tgt := 12) dX7_worthSum_103 rfl ?_
  refine sd_sub [4, 5, 6, 7, 8, 9, 1, 0] rfl ?_
  exact hk12 x3 x4 x5 (l6 + (q74.toInt64 * q93)) (x8 + (1 : Int32)) hF
set_option maxRecDepth 100000 in
set_option maxHeartbeats 4000000 in
theorem tb_X7_worthSum_37 {K : sd_K} {E : sd_Env} {M : sd_Mem} {h0 h1 h2 : Nat} {r : Int64} (C : sd_C K E sd_LC RX7 cX7_worthSum 12 (some .long)) (k0 : sd_kd h0 = 8) (k1 : sd_kd h1 = 10) (k2 : sd_kd h2 = 10) {k12 : Int32 → Int32 → Int32 → Int64 → Int32 → Option Int64} (hk12 : ∀ (x3 : Int32) (x4 : Int32) (x5 : Int32) (l6 : Int64) (x8 : Int32), k12 x3 x4 x5 l6 x8 = some r → sd_Z K rm_X7_worthSum E sd_LC 12 (sd_QL K E sd_LC r M) M 12 [(0, .ref (E.2.2 h0)), (1, .ref (E.2.2 h1)), (2, .ref (E.2.2 h2)), (3, .int x3), (4, .int x4), (5, .int x5), (6, .long l6), (8, .int x8)] []) : ∀ (x3 : Int32) (x4 : Int32) (x5 : Int32) (l6 : Int64) (x8 : Int32) (xs0 : Int32), fn_X7_worthSum_37 M h0 h1 h2 k12 x3 x4 x5 l6 x8 xs0 = some r → sd_Z K rm_X7_worthSum E sd_LC 12 (sd_QL K E sd_LC r M) M 37 [(0, .ref (E.2.2 h0)), (1, .ref (E.2.2 h1)), (2, .ref (E.2.2 h2)), (3, .int x3), (4, .int x4), (5, .int x5), (6, .long l6), (8, .int x8)] [.int xs0] := by
  intro x3 x4 x5 l6 x8 xs0 hF
  unfold fn_X7_worthSum_37 at hF
  refine sd_istore [(9, .int xs0), (0, .ref (E.2.2 h0)), (1, .ref (E.2.2 h1)), (2, .ref (E.2.2 h2)), (3, .int x3), (4, .int x4), (5, .int x5), (6, .long l6), (8, .int x8)] C dX7_worthSum_37 (by decide) rfl rfl (n' := 39) ?_
  refine sd_iload_n C 4 dX7_worthSum_39 rfl rfl rfl (n' := 40) ?_
  refine sd_if_ne C (n' := 43) (tgt := 48) dX7_worthSum_40 rfl rfl (fun c40 => ?_) (fun c40 => ?_)
  · replace hF := sd_neg hF c40
    refine sd_iload C 8 dX7_worthSum_48 rfl rfl (n' := 50) ?_
    refine sd_sub [1, 2, 3, 4, 5, 6, 7, 8, 0] rfl ?_
    exact tb_X7_worthSum_50 C k0 k1 k2 hk12 x3 x4 x5 l6 x8 xs0 x8 hF
  · replace hF := sd_pos hF c40
    refine sd_iload C 5 dX7_worthSum_43 rfl rfl (n' := 45) ?_
    refine sd_goto C (tgt := 50) dX7_worthSum_45 rfl ?_
    refine sd_sub [1, 2, 3, 4, 5, 6, 7, 8, 0] rfl ?_
    exact tb_X7_worthSum_50 C k0 k1 k2 hk12 x3 x4 x5 l6 x8 xs0 x4 hF
set_option maxRecDepth 100000 in
set_option maxHeartbeats 4000000 in
theorem tb_X7_worthSum_12 {K : sd_K} {E : sd_Env} {M : sd_Mem} {h0 h1 h2 : Nat} {r : Int64} (C : sd_C K E sd_LC RX7 cX7_worthSum 12 (some .long)) (k0 : sd_kd h0 = 8) (k1 : sd_kd h1 = 10) (k2 : sd_kd h2 = 10) : ∀ (n : Nat), ∀ (x3 : Int32) (x4 : Int32) (x5 : Int32) (l6 : Int64) (x8 : Int32), fn_X7_worthSum_12 M h0 h1 h2 n x3 x4 x5 l6 x8 = some r → sd_Z K rm_X7_worthSum E sd_LC 12 (sd_QL K E sd_LC r M) M 12 [(0, .ref (E.2.2 h0)), (1, .ref (E.2.2 h1)), (2, .ref (E.2.2 h2)), (3, .int x3), (4, .int x4), (5, .int x5), (6, .long l6), (8, .int x8)] [] := by
  intro n
  induction n with
  | zero => intro x3 x4 x5 l6 x8 hF; cases hF
  | succ n ih =>
    intro x3 x4 x5 l6 x8 hF
    unfold fn_X7_worthSum_12 at hF
    refine sd_iload C 7 dX7_worthSum_12 rfl rfl (n' := 14) ?_
    refine sd_aload_n C 0 dX7_worthSum_14 rfl rfl rfl (n' := 15) ?_
    refine sd_g7_0 C (sd_mC (sd_m8 k0)) k0 sd_w214 dX7_worthSum_15 rfl (n' := 18) ?_
    refine sd_iload C 5 dX7_worthSum_18 rfl rfl (n' := 20) ?_
    obtain ⟨q20, e20, hF⟩ := sd_bind hF
    refine sd_callVI [.int x5] [.int x8] C (ct_X5_sorts M 40 x5 sd_k40 e20) sd_lX7_44 ⟨rfl, rfl, Nat.le_of_ble_eq_true rfl, Nat.le_of_ble_eq_true rfl⟩ sd_i40 (sd_e6 sd_k40) rfl rfl rfl (Nat.le_of_ble_eq_true rfl) dX7_worthSum_20 rfl (n' := 23) ?_
    refine sd_icmp_ge C (n' := 26) (tgt := 106) dX7_worthSum_23 rfl rfl (fun c23 => ?_) (fun c23 => ?_)
    · replace hF := sd_pos hF c23
      refine sd_lload C 6 dX7_worthSum_106 rfl rfl (n' := 108) ?_
      exact sd_lret C dX7_worthSum_108 (Option.some.inj hF) rfl
    · replace hF := sd_neg hF c23
      refine sd_iload_n C 3 dX7_worthSum_26 rfl rfl rfl (n' := 27) ?_
      refine sd_if_ne C (n' := 30) (tgt := 35) dX7_worthSum_27 rfl rfl (fun c27 => ?_) (fun c27 => ?_)
      · replace hF := sd_neg hF c27
        refine sd_iload C 4 dX7_worthSum_35 rfl rfl (n' := 37) ?_
        exact tb_X7_worthSum_37 C k0 k1 k2 ih x3 x4 x5 l6 x8 x4 hF
      · replace hF := sd_pos hF c27
        refine sd_iload C 7 dX7_worthSum_30 rfl rfl (n' := 32) ?_
        refine sd_goto C (tgt := 37) dX7_worthSum_32 rfl ?_
        exact tb_X7_worthSum_37 C k0 k1 k2 ih x3 x4 x5 l6 x8 x8 hF
set_option maxRecDepth 100000 in
set_option maxHeartbeats 4000000 in
theorem tb_X7_worthSum_0 {K : sd_K} {E : sd_Env} {M : sd_Mem} {h0 h1 h2 : Nat} {r : Int64} (C : sd_C K E sd_LC RX7 cX7_worthSum 12 (some .long)) (k0 : sd_kd h0 = 8) (k1 : sd_kd h1 = 10) (k2 : sd_kd h2 = 10) : ∀ (x3 : Int32) (x4 : Int32), fn_X7_worthSum_0 M h0 h1 h2 x3 x4 = some r → sd_Z K rm_X7_worthSum E sd_LC 12 (sd_QL K E sd_LC r M) M 0 [(0, .ref (E.2.2 h0)), (1, .ref (E.2.2 h1)), (2, .ref (E.2.2 h2)), (3, .int x3), (4, .int x4)] [] := by
  intro x3 x4 hF
  unfold fn_X7_worthSum_0 at hF
  refine sd_iload_n C 3 dX7_worthSum_0 rfl rfl rfl (n' := 1) ?_
  obtain ⟨q1, e1, hF⟩ := sd_bind hF
  refine sd_callNI [.int x3] [] C (ct_X10_otherSide M x3  e1) sd_lX7_62 ⟨rfl, rfl, Nat.le_of_ble_eq_true rfl, Nat.le_of_ble_eq_true rfl⟩ rfl (Nat.le_of_ble_eq_true rfl) dX7_worthSum_1 rfl (n' := 4) ?_
  refine sd_istore [(5, .int q1), (0, .ref (E.2.2 h0)), (1, .ref (E.2.2 h1)), (2, .ref (E.2.2 h2)), (3, .int x3), (4, .int x4)] C dX7_worthSum_4 (by decide) rfl rfl (n' := 6) ?_
  refine sd_lconst C (v := 0) dX7_worthSum_6 rfl rfl (n' := 7) ?_
  refine sd_lstore [(6, .long (0 : Int64)), (5, .int q1), (0, .ref (E.2.2 h0)), (1, .ref (E.2.2 h1)), (2, .ref (E.2.2 h2)), (3, .int x3), (4, .int x4)] C dX7_worthSum_7 (by decide) rfl rfl (n' := 9) ?_
  refine sd_iconst C (v := 0) dX7_worthSum_9 rfl rfl (n' := 10) ?_
  refine sd_istore [(8, .int (0 : Int32)), (6, .long (0 : Int64)), (5, .int q1), (0, .ref (E.2.2 h0)), (1, .ref (E.2.2 h1)), (2, .ref (E.2.2 h2)), (3, .int x3), (4, .int x4)] C dX7_worthSum_10 (by decide) rfl rfl (n' := 12) ?_
  refine sd_sub [3, 4, 5, 6, 7, 2, 1, 0] rfl ?_
  exact tb_X7_worthSum_12 C k0 k1 k2 sd_FU x3 x4 q1 (0 : Int64) (0 : Int32) hF
theorem ct_X7_worthSum {l : Launch} {E : sd_Env} (M : sd_Mem) (h0 : Nat) (h1 : Nat) (h2 : Nat) (x3 : Int32) (x4 : Int32) (k0 : sd_kd h0 = 8) (k1 : sd_kd h1 = 10) (k2 : sd_kd h2 = 10) {r : Int64} (hF : fn_X7_worthSum M h0 h1 h2 x3 x4 = some r) : sd_ML l E sd_LC yX7_worthSum cX7_worthSum 12 (some .long) rm_X7_worthSum [.ref (E.2.2 h0), .ref (E.2.2 h1), .ref (E.2.2 h2), .int x3, .int x4] M r M := sd_ent0 (by decide +kernel) (Nat.le_of_ble_eq_true rfl) (fun p e s m below meth c C => tb_X7_worthSum_0 C k0 k1 k2 x3 x4 hF)
theorem dX5_judgings_0 : decode cX5_judgings 0 = .ok (.aload_n 0, 1) := by decide +kernel
theorem dX5_judgings_1 : decode cX5_judgings 1 = .ok (.getfield 46, 3) := by decide +kernel
theorem dX5_judgings_4 : decode cX5_judgings 4 = .ok (.invokestatic 76, 3) := by decide +kernel
theorem dX5_judgings_7 : decode cX5_judgings 7 = .ok (.lreturn, 1) := by decide +kernel
set_option maxRecDepth 100000 in
set_option maxHeartbeats 4000000 in
theorem tb_X5_judgings_0 {K : sd_K} {E : sd_Env} {M : sd_Mem} {h0 : Nat} {r : Int64} (C : sd_C K E sd_LC RX5 cX5_judgings 1 (some .long)) (k0 : sd_kd h0 = 6) : fn_X5_judgings_0 M h0 = some r → sd_Z K rm_X5_judgings E sd_LC 1 (sd_QL K E sd_LC r M) M 0 [(0, .ref (E.2.2 h0))] [] := by
  intro hF
  unfold fn_X5_judgings_0 at hF
  refine sd_aload_n C 0 dX5_judgings_0 rfl rfl rfl (n' := 1) ?_
  refine sd_g5_6 C (sd_mC (sd_m6 k0)) k0 sd_w142 dX5_judgings_1 rfl (n' := 4) ?_
  obtain ⟨q4, e4, hF⟩ := sd_bind hF
  refine sd_callSL [.int (M.1 h0 6)] [] C (ct_X5_power M (M.1 h0 6)  e4) sd_lX5_76 ⟨rfl, rfl, Nat.le_of_ble_eq_true rfl, Nat.le_of_ble_eq_true rfl⟩ rfl (Nat.le_of_ble_eq_true rfl) dX5_judgings_4 rfl (n' := 7) ?_
  exact sd_lret C dX5_judgings_7 (Option.some.inj hF) rfl
theorem ct_X5_judgings {l : Launch} {E : sd_Env} (M : sd_Mem) (h0 : Nat) (k0 : sd_kd h0 = 6) {r : Int64} (hF : fn_X5_judgings M h0 = some r) : sd_ML l E sd_LC yX5_judgings cX5_judgings 1 (some .long) rm_X5_judgings [.ref (E.2.2 h0)] M r M := sd_ent0 (by decide +kernel) (Nat.le_of_ble_eq_true rfl) (fun p e s m below meth c C => tb_X5_judgings_0 C k0 hF)
theorem dX7_worthShares_0 : decode cX7_worthShares 0 = .ok (.aload_n 0, 1) := by decide +kernel
theorem dX7_worthShares_1 : decode cX7_worthShares 1 = .ok (.getfield 9, 3) := by decide +kernel
theorem dX7_worthShares_4 : decode cX7_worthShares 4 = .ok (.iload_n 1, 1) := by decide +kernel
theorem dX7_worthShares_5 : decode cX7_worthShares 5 = .ok (.invokestatic 62, 3) := by decide +kernel
theorem dX7_worthShares_8 : decode cX7_worthShares 8 = .ok (.invokevirtual 65, 3) := by decide +kernel
theorem dX7_worthShares_11 : decode cX7_worthShares 11 = .ok (.i2l, 1) := by decide +kernel
theorem dX7_worthShares_12 : decode cX7_worthShares 12 = .ok (.aload_n 0, 1) := by decide +kernel
theorem dX7_worthShares_13 : decode cX7_worthShares 13 = .ok (.getfield 9, 3) := by decide +kernel
theorem dX7_worthShares_16 : decode cX7_worthShares 16 = .ok (.invokevirtual 68, 3) := by decide +kernel
theorem dX7_worthShares_19 : decode cX7_worthShares 19 = .ok (.lmul, 1) := by decide +kernel
theorem dX7_worthShares_20 : decode cX7_worthShares 20 = .ok (.lreturn, 1) := by decide +kernel
set_option maxRecDepth 100000 in
set_option maxHeartbeats 4000000 in
theorem tb_X7_worthShares_0 {K : sd_K} {E : sd_Env} {M : sd_Mem} {h0 : Nat} {r : Int64} (C : sd_C K E sd_LC RX7 cX7_worthShares 2 (some .long)) (k0 : sd_kd h0 = 8) : ∀ (x1 : Int32), fn_X7_worthShares_0 M h0 x1 = some r → sd_Z K rm_X7_worthShares E sd_LC 2 (sd_QL K E sd_LC r M) M 0 [(0, .ref (E.2.2 h0)), (1, .int x1)] [] := by
  intro x1 hF
  unfold fn_X7_worthShares_0 at hF
  refine sd_aload_n C 0 dX7_worthShares_0 rfl rfl rfl (n' := 1) ?_
  refine sd_g7_0 C (sd_mC (sd_m8 k0)) k0 sd_w214 dX7_worthShares_1 rfl (n' := 4) ?_
  refine sd_iload_n C 1 dX7_worthShares_4 rfl rfl rfl (n' := 5) ?_
  obtain ⟨q5, e5, hF⟩ := sd_bind hF
  refine sd_callNI [.int x1] [.ref (E.2.2 40)] C (ct_X10_otherSide M x1  e5) sd_lX7_62 ⟨rfl, rfl, Nat.le_of_ble_eq_true rfl, Nat.le_of_ble_eq_true rfl⟩ rfl (Nat.le_of_ble_eq_true rfl) dX7_worthShares_5 rfl (n' := 8) ?_
  obtain ⟨q8, e8, hF⟩ := sd_bind hF
  refine sd_callVI [.int q5] [] C (ct_X5_total M 40 q5 sd_k40 e8) sd_lX7_65 ⟨rfl, rfl, Nat.le_of_ble_eq_true rfl, Nat.le_of_ble_eq_true rfl⟩ sd_i40 (sd_e6 sd_k40) rfl rfl rfl (Nat.le_of_ble_eq_true rfl) dX7_worthShares_8 rfl (n' := 11) ?_
  refine sd_i2l C dX7_worthShares_11 rfl (n' := 12) ?_
  refine sd_aload_n C 0 dX7_worthShares_12 rfl rfl rfl (n' := 13) ?_
  refine sd_g7_0 C (sd_mC (sd_m8 k0)) k0 sd_w214 dX7_worthShares_13 rfl (n' := 16) ?_
  obtain ⟨q16, e16, hF⟩ := sd_bind hF
  refine sd_callVL [] [.long q8.toInt64] C (ct_X5_judgings M 40 sd_k40 e16) sd_lX7_68 ⟨rfl, rfl, Nat.le_of_ble_eq_true rfl, Nat.le_of_ble_eq_true rfl⟩ sd_i40 (sd_e6 sd_k40) rfl rfl rfl (Nat.le_of_ble_eq_true rfl) dX7_worthShares_16 rfl (n' := 19) ?_
  refine sd_lmul C dX7_worthShares_19 rfl (n' := 20) ?_
  exact sd_lret C dX7_worthShares_20 (Option.some.inj hF) rfl
theorem ct_X7_worthShares {l : Launch} {E : sd_Env} (M : sd_Mem) (h0 : Nat) (x1 : Int32) (k0 : sd_kd h0 = 8) {r : Int64} (hF : fn_X7_worthShares M h0 x1 = some r) : sd_ML l E sd_LC yX7_worthShares cX7_worthShares 2 (some .long) rm_X7_worthShares [.ref (E.2.2 h0), .int x1] M r M := sd_ent0 (by decide +kernel) (Nat.le_of_ble_eq_true rfl) (fun p e s m below meth c C => tb_X7_worthShares_0 C k0 x1 hF)
