theorem dX3_commonDivisor_0 : decode cX3_commonDivisor 0 = .ok (.lload_n 0, 1) := by decide +kernel
theorem dX3_commonDivisor_1 : decode cX3_commonDivisor 1 = .ok (.lstore 4, 2) := by decide +kernel
theorem dX3_commonDivisor_3 : decode cX3_commonDivisor 3 = .ok (.lload_n 2, 1) := by decide +kernel
theorem dX3_commonDivisor_4 : decode cX3_commonDivisor 4 = .ok (.lstore 6, 2) := by decide +kernel
theorem dX3_commonDivisor_6 : decode cX3_commonDivisor 6 = .ok (.iconst 0, 1) := by decide +kernel
theorem dX3_commonDivisor_7 : decode cX3_commonDivisor 7 = .ok (.istore 8, 2) := by decide +kernel
theorem dX3_commonDivisor_9 : decode cX3_commonDivisor 9 = .ok (.iload 8, 2) := by decide +kernel
theorem dX3_commonDivisor_11 : decode cX3_commonDivisor 11 = .ok (.sipush 200, 3) := by decide +kernel
theorem dX3_commonDivisor_14 : decode cX3_commonDivisor 14 = .ok (.if_icmp .ge 31, 3) := by decide +kernel
theorem dX3_commonDivisor_17 : decode cX3_commonDivisor 17 = .ok (.lload 6, 2) := by decide +kernel
theorem dX3_commonDivisor_19 : decode cX3_commonDivisor 19 = .ok (.lconst 0, 1) := by decide +kernel
theorem dX3_commonDivisor_20 : decode cX3_commonDivisor 20 = .ok (.lcmp, 1) := by decide +kernel
theorem dX3_commonDivisor_21 : decode cX3_commonDivisor 21 = .ok (.ifCond .eq 24, 3) := by decide +kernel
theorem dX3_commonDivisor_24 : decode cX3_commonDivisor 24 = .ok (.lload 4, 2) := by decide +kernel
theorem dX3_commonDivisor_26 : decode cX3_commonDivisor 26 = .ok (.lload 6, 2) := by decide +kernel
theorem dX3_commonDivisor_28 : decode cX3_commonDivisor 28 = .ok (.lrem, 1) := by decide +kernel
theorem dX3_commonDivisor_29 : decode cX3_commonDivisor 29 = .ok (.lstore 9, 2) := by decide +kernel
theorem dX3_commonDivisor_31 : decode cX3_commonDivisor 31 = .ok (.lload 6, 2) := by decide +kernel
theorem dX3_commonDivisor_33 : decode cX3_commonDivisor 33 = .ok (.lstore 4, 2) := by decide +kernel
theorem dX3_commonDivisor_35 : decode cX3_commonDivisor 35 = .ok (.lload 9, 2) := by decide +kernel
theorem dX3_commonDivisor_37 : decode cX3_commonDivisor 37 = .ok (.lstore 6, 2) := by decide +kernel
theorem dX3_commonDivisor_39 : decode cX3_commonDivisor 39 = .ok (.iinc 8 1, 3) := by decide +kernel
theorem dX3_commonDivisor_42 : decode cX3_commonDivisor 42 = .ok (.goto (-33), 3) := by decide +kernel
theorem dX3_commonDivisor_45 : decode cX3_commonDivisor 45 = .ok (.lload 4, 2) := by decide +kernel
theorem dX3_commonDivisor_47 : decode cX3_commonDivisor 47 = .ok (.lreturn, 1) := by decide +kernel
set_option maxRecDepth 100000 in
set_option maxHeartbeats 4000000 in
theorem tb_X3_commonDivisor_9 {K : sd_K} {E : sd_Env} {M : sd_Mem}  {r : Int64} (C : sd_C K E sd_LC RX3 cX3_commonDivisor 11 (some .long))  : ∀ (n : Nat), ∀ (l4 : Int64) (l6 : Int64) (x8 : Int32), fn_X3_commonDivisor_9 n l4 l6 x8 = some r → sd_Z K rm_X3_commonDivisor E sd_LC 11 (sd_QL K E sd_LC r M) M 9 [(4, .long l4), (6, .long l6), (8, .int x8)] [] := by
  intro n
  induction n with
  | zero => intro l4 l6 x8 hF; cases hF
  | succ n ih =>
    intro l4 l6 x8 hF
    unfold fn_X3_commonDivisor_9 at hF
    refine sd_iload C 2 dX3_commonDivisor_9 rfl rfl (n' := 11) ?_
    refine sd_sipush C (v := 200) dX3_commonDivisor_11 rfl rfl (n' := 14) ?_
    refine sd_icmp_ge C (n' := 17) (tgt := 45) dX3_commonDivisor_14 rfl rfl (fun c14 => ?_) (fun c14 => ?_)
    · replace hF := sd_pos hF c14
      refine sd_lload C 0 dX3_commonDivisor_45 rfl rfl (n' := 47) ?_
      exact sd_lret C dX3_commonDivisor_47 (Option.some.inj hF) rfl
    · replace hF := sd_neg hF c14
      refine sd_lload C 1 dX3_commonDivisor_17 rfl rfl (n' := 19) ?_
      refine sd_lconst C (v := 0) dX3_commonDivisor_19 rfl rfl (n' := 20) ?_
      refine sd_lcmp C dX3_commonDivisor_20 rfl (n' := 21) ?_
      refine sd_if_eq C (n' := 24) (tgt := 45) dX3_commonDivisor_21 rfl rfl (fun c21 => ?_) (fun c21 => ?_)
      · replace hF := sd_pos hF c21
        refine sd_lload C 0 dX3_commonDivisor_45 rfl rfl (n' := 47) ?_
        exact sd_lret C dX3_commonDivisor_47 (Option.some.inj hF) rfl
      · replace hF := sd_neg hF c21
        refine sd_lload C 0 dX3_commonDivisor_24 rfl rfl (n' := 26) ?_
        refine sd_lload C 1 dX3_commonDivisor_26 rfl rfl (n' := 28) ?_
        obtain ⟨b28, hF⟩ := sd_ok hF
        refine sd_lrem C dX3_commonDivisor_28 b28 rfl (n' := 29) ?_
        refine sd_lstore [(9, .long (l4 - l4 / l6 * l6)), (4, .long l4), (6, .long l6), (8, .int x8)] C dX3_commonDivisor_29 (by decide) rfl rfl (n' := 31) ?_
        refine sd_lload C 2 dX3_commonDivisor_31 rfl rfl (n' := 33) ?_
        refine sd_lstore [(4, .long l6), (9, .long (l4 - l4 / l6 * l6)), (6, .long l6), (8, .int x8)] C dX3_commonDivisor_33 (by decide) rfl rfl (n' := 35) ?_
        refine sd_lload C 1 dX3_commonDivisor_35 rfl rfl (n' := 37) ?_
        refine sd_lstore [(6, .long (l4 - l4 / l6 * l6)), (4, .long l6), (9, .long (l4 - l4 / l6 * l6)), (8, .int x8)] C dX3_commonDivisor_37 (by decide) rfl rfl (n' := 39) ?_
        refine sd_iinc [(8, .int (x8 + (1 : Int32))), (6, .long (l4 - l4 / l6 * l6)), (4, .long l6), (9, .long (l4 - l4 / l6 * l6))] 3 C dX3_commonDivisor_39 rfl rfl (by decide) rfl rfl (n' := 42) ?_
        refine sd_goto C (tgt := 9) dX3_commonDivisor_42 rfl ?_
        refine sd_sub [2, 1, 0] rfl ?_
        exact ih l6 (l4 - l4 / l6 * l6) (x8 + (1 : Int32)) hF
set_option maxRecDepth 100000 in
set_option maxHeartbeats 4000000 in
theorem tb_X3_commonDivisor_0 {K : sd_K} {E : sd_Env} {M : sd_Mem}  {r : Int64} (C : sd_C K E sd_LC RX3 cX3_commonDivisor 11 (some .long))  : ∀ (l0 : Int64) (l2 : Int64), fn_X3_commonDivisor_0 l0 l2 = some r → sd_Z K rm_X3_commonDivisor E sd_LC 11 (sd_QL K E sd_LC r M) M 0 [(0, .long l0), (2, .long l2)] [] := by
  intro l0 l2 hF
  unfold fn_X3_commonDivisor_0 at hF
  refine sd_lload_n C 0 dX3_commonDivisor_0 rfl rfl rfl (n' := 1) ?_
  refine sd_lstore [(4, .long l0), (0, .long l0), (2, .long l2)] C dX3_commonDivisor_1 (by decide) rfl rfl (n' := 3) ?_
  refine sd_lload_n C 2 dX3_commonDivisor_3 rfl rfl rfl (n' := 4) ?_
  refine sd_lstore [(6, .long l2), (4, .long l0), (0, .long l0), (2, .long l2)] C dX3_commonDivisor_4 (by decide) rfl rfl (n' := 6) ?_
  refine sd_iconst C (v := 0) dX3_commonDivisor_6 rfl rfl (n' := 7) ?_
  refine sd_istore [(8, .int (0 : Int32)), (6, .long l2), (4, .long l0), (0, .long l0), (2, .long l2)] C dX3_commonDivisor_7 (by decide) rfl rfl (n' := 9) ?_
  refine sd_sub [2, 1, 0] rfl ?_
  exact tb_X3_commonDivisor_9 C sd_FU l0 l2 (0 : Int32) hF
theorem ct_X3_commonDivisor {l : Launch} {E : sd_Env} (M : sd_Mem) (l0 : Int64) (l2 : Int64)  {r : Int64} (hF : fn_X3_commonDivisor l0 l2 = some r) : sd_ML l E sd_LC yX3_commonDivisor cX3_commonDivisor 11 (some .long) rm_X3_commonDivisor [.long l0, .long l2] M r M := sd_ent0 (by decide +kernel) (Nat.le_of_ble_eq_true rfl) (fun p e s m below meth c C => tb_X3_commonDivisor_0 C l0 l2 hF)
theorem dX3_tell_0 : decode cX3_tell 0 = .ok (.lload_n 1, 1) := by decide +kernel
theorem dX3_tell_1 : decode cX3_tell 1 = .ok (.invokestatic 16, 3) := by decide +kernel
theorem dX3_tell_4 : decode cX3_tell 4 = .ok (.lload_n 3, 1) := by decide +kernel
theorem dX3_tell_5 : decode cX3_tell 5 = .ok (.invokestatic 16, 3) := by decide +kernel
theorem dX3_tell_8 : decode cX3_tell 8 = .ok (.invokestatic 22, 3) := by decide +kernel
theorem dX3_tell_11 : decode cX3_tell 11 = .ok (.lstore 5, 2) := by decide +kernel
theorem dX3_tell_13 : decode cX3_tell 13 = .ok (.lload 5, 2) := by decide +kernel
theorem dX3_tell_15 : decode cX3_tell 15 = .ok (.lconst 0, 1) := by decide +kernel
theorem dX3_tell_16 : decode cX3_tell 16 = .ok (.lcmp, 1) := by decide +kernel
theorem dX3_tell_17 : decode cX3_tell 17 = .ok (.ifCond .eq 19, 3) := by decide +kernel
theorem dX3_tell_20 : decode cX3_tell 20 = .ok (.aload_n 0, 1) := by decide +kernel
theorem dX3_tell_21 : decode cX3_tell 21 = .ok (.lload_n 1, 1) := by decide +kernel
theorem dX3_tell_22 : decode cX3_tell 22 = .ok (.lload 5, 2) := by decide +kernel
theorem dX3_tell_24 : decode cX3_tell 24 = .ok (.ldiv, 1) := by decide +kernel
theorem dX3_tell_25 : decode cX3_tell 25 = .ok (.putfield 7, 3) := by decide +kernel
theorem dX3_tell_28 : decode cX3_tell 28 = .ok (.aload_n 0, 1) := by decide +kernel
theorem dX3_tell_29 : decode cX3_tell 29 = .ok (.lload_n 3, 1) := by decide +kernel
theorem dX3_tell_30 : decode cX3_tell 30 = .ok (.lload 5, 2) := by decide +kernel
theorem dX3_tell_32 : decode cX3_tell 32 = .ok (.ldiv, 1) := by decide +kernel
theorem dX3_tell_33 : decode cX3_tell 33 = .ok (.putfield 13, 3) := by decide +kernel
theorem dX3_tell_36 : decode cX3_tell 36 = .ok (.return_, 1) := by decide +kernel
set_option maxRecDepth 100000 in
set_option maxHeartbeats 4000000 in
theorem tb_X3_tell_0 {K : sd_K} {E : sd_Env}   {r : sd_Mem} (C : sd_C K E sd_LC RX3 cX3_tell 7 none)  : ∀ (M : sd_Mem) (l1 : Int64) (l3 : Int64), fn_X3_tell_0 M l1 l3 = some r → sd_Z K rm_X3_tell E sd_LC 7 (sd_QV K E sd_LC r) M 0 [(0, .ref (E.2.2 96)), (1, .long l1), (3, .long l3)] [] := by
  intro M l1 l3 hF
  unfold fn_X3_tell_0 at hF
  refine sd_lload_n C 1 dX3_tell_0 rfl rfl rfl (n' := 1) ?_
  refine sd_mabsL C sd_w722 sd_wm_mabsL_s sd_w87 sd_wm_mabsL_c (Nat.le_of_ble_eq_true rfl) (Nat.le_of_ble_eq_true rfl) dX3_tell_1 rfl (n' := 4) ?_
  refine sd_lload_n C 2 dX3_tell_4 rfl rfl rfl (n' := 5) ?_
  refine sd_mabsL C sd_w722 sd_wm_mabsL_s sd_w87 sd_wm_mabsL_c (Nat.le_of_ble_eq_true rfl) (Nat.le_of_ble_eq_true rfl) dX3_tell_5 rfl (n' := 8) ?_
  obtain ⟨q8, e8, hF⟩ := sd_bind hF
  refine sd_callSL [.long (if 0 < l1 then l1 else -l1), .long (if 0 < l3 then l3 else -l3)] [] C (ct_X3_commonDivisor M (if 0 < l1 then l1 else -l1) (if 0 < l3 then l3 else -l3)  e8) sd_lX3_22 ⟨rfl, rfl, Nat.le_of_ble_eq_true rfl, Nat.le_of_ble_eq_true rfl⟩ rfl (Nat.le_of_ble_eq_true rfl) dX3_tell_8 rfl (n' := 11) ?_
  refine sd_lstore [(5, .long q8), (0, .ref (E.2.2 96)), (1, .long l1), (3, .long l3)] C dX3_tell_11 (by decide) rfl rfl (n' := 13) ?_
  refine sd_lload C 0 dX3_tell_13 rfl rfl (n' := 15) ?_
  refine sd_lconst C (v := 0) dX3_tell_15 rfl rfl (n' := 16) ?_
  refine sd_lcmp C dX3_tell_16 rfl (n' := 17) ?_
  refine sd_if_eq C (n' := 20) (tgt := 36) dX3_tell_17 rfl rfl (fun c17 => ?_) (fun c17 => ?_)
  · replace hF := sd_pos hF c17
    exact sd_vret C dX3_tell_36 (Option.some.inj hF)
  · replace hF := sd_neg hF c17
    refine sd_aload_n C 1 dX3_tell_20 rfl rfl rfl (n' := 21) ?_
    refine sd_lload_n C 2 dX3_tell_21 rfl rfl rfl (n' := 22) ?_
    refine sd_lload C 0 dX3_tell_22 rfl rfl (n' := 24) ?_
    obtain ⟨b24, hF⟩ := sd_ok hF
    refine sd_ldiv C dX3_tell_24 b24 rfl (n' := 25) ?_
    refine sd_p3_0 C sd_i96 sd_k96 sd_w279 dX3_tell_25 rfl (n' := 28) ?_
    refine sd_aload_n C 1 dX3_tell_28 rfl rfl rfl (n' := 29) ?_
    refine sd_lload_n C 3 dX3_tell_29 rfl rfl rfl (n' := 30) ?_
    refine sd_lload C 0 dX3_tell_30 rfl rfl (n' := 32) ?_
    obtain ⟨b32, hF⟩ := sd_ok hF
    refine sd_ldiv C dX3_tell_32 b32 rfl (n' := 33) ?_
    refine sd_p3_1 C sd_i96 sd_k96 sd_w281 dX3_tell_33 rfl (n' := 36) ?_
    exact sd_vret C dX3_tell_36 (Option.some.inj hF)
theorem ct_X3_tell {l : Launch} {E : sd_Env} (M : sd_Mem) (l1 : Int64) (l3 : Int64)  {r : sd_Mem} (hF : fn_X3_tell M l1 l3 = some r) : sd_MV l E sd_LC yX3_tell cX3_tell 7 none rm_X3_tell [.ref (E.2.2 96), .long l1, .long l3] M r := sd_ent0 (by decide +kernel) (Nat.le_of_ble_eq_true rfl) (fun p e s m below meth c C => tb_X3_tell_0 C M l1 l3 hF)
theorem dX10_worth_0 : decode cX10_worth 0 = .ok (.aload_n 0, 1) := by decide +kernel
theorem dX10_worth_1 : decode cX10_worth 1 = .ok (.getfield 27, 3) := by decide +kernel
theorem dX10_worth_4 : decode cX10_worth 4 = .ok (.iload_n 3, 1) := by decide +kernel
theorem dX10_worth_5 : decode cX10_worth 5 = .ok (.iload 4, 2) := by decide +kernel
theorem dX10_worth_7 : decode cX10_worth 7 = .ok (.invokevirtual 159, 3) := by decide +kernel
theorem dX10_worth_10 : decode cX10_worth 10 = .ok (.ifCond .ne 5, 3) := by decide +kernel
theorem dX10_worth_13 : decode cX10_worth 13 = .ok (.iconst (-1), 1) := by decide +kernel
theorem dX10_worth_14 : decode cX10_worth 14 = .ok (.ireturn, 1) := by decide +kernel
theorem dX10_worth_15 : decode cX10_worth 15 = .ok (.aload_n 0, 1) := by decide +kernel
theorem dX10_worth_16 : decode cX10_worth 16 = .ok (.iload_n 1, 1) := by decide +kernel
theorem dX10_worth_17 : decode cX10_worth 17 = .ok (.iload_n 2, 1) := by decide +kernel
theorem dX10_worth_18 : decode cX10_worth 18 = .ok (.iconst 1, 1) := by decide +kernel
theorem dX10_worth_19 : decode cX10_worth 19 = .ok (.invokevirtual 216, 3) := by decide +kernel
theorem dX10_worth_22 : decode cX10_worth 22 = .ok (.istore 5, 2) := by decide +kernel
theorem dX10_worth_24 : decode cX10_worth 24 = .ok (.iload 5, 2) := by decide +kernel
theorem dX10_worth_26 : decode cX10_worth 26 = .ok (.ifCond .eq 6, 3) := by decide +kernel
theorem dX10_worth_29 : decode cX10_worth 29 = .ok (.iload 5, 2) := by decide +kernel
theorem dX10_worth_31 : decode cX10_worth 31 = .ok (.ireturn, 1) := by decide +kernel
theorem dX10_worth_32 : decode cX10_worth 32 = .ok (.aload_n 0, 1) := by decide +kernel
theorem dX10_worth_33 : decode cX10_worth 33 = .ok (.getfield 77, 3) := by decide +kernel
theorem dX10_worth_36 : decode cX10_worth 36 = .ok (.aload_n 0, 1) := by decide +kernel
theorem dX10_worth_37 : decode cX10_worth 37 = .ok (.getfield 53, 3) := by decide +kernel
theorem dX10_worth_40 : decode cX10_worth 40 = .ok (.aload_n 0, 1) := by decide +kernel
theorem dX10_worth_41 : decode cX10_worth 41 = .ok (.getfield 20, 3) := by decide +kernel
theorem dX10_worth_44 : decode cX10_worth 44 = .ok (.iload_n 1, 1) := by decide +kernel
theorem dX10_worth_45 : decode cX10_worth 45 = .ok (.aaload, 1) := by decide +kernel
theorem dX10_worth_46 : decode cX10_worth 46 = .ok (.aload_n 0, 1) := by decide +kernel
theorem dX10_worth_47 : decode cX10_worth 47 = .ok (.getfield 20, 3) := by decide +kernel
theorem dX10_worth_50 : decode cX10_worth 50 = .ok (.iload_n 2, 1) := by decide +kernel
theorem dX10_worth_51 : decode cX10_worth 51 = .ok (.aaload, 1) := by decide +kernel
theorem dX10_worth_52 : decode cX10_worth 52 = .ok (.iload_n 3, 1) := by decide +kernel
theorem dX10_worth_53 : decode cX10_worth 53 = .ok (.iload 4, 2) := by decide +kernel
theorem dX10_worth_55 : decode cX10_worth 55 = .ok (.invokevirtual 228, 3) := by decide +kernel
theorem dX10_worth_58 : decode cX10_worth 58 = .ok (.aload_n 0, 1) := by decide +kernel
theorem dX10_worth_59 : decode cX10_worth 59 = .ok (.getfield 53, 3) := by decide +kernel
theorem dX10_worth_62 : decode cX10_worth 62 = .ok (.iload_n 3, 1) := by decide +kernel
theorem dX10_worth_63 : decode cX10_worth 63 = .ok (.invokevirtual 232, 3) := by decide +kernel
theorem dX10_worth_66 : decode cX10_worth 66 = .ok (.invokevirtual 236, 3) := by decide +kernel
theorem dX10_worth_69 : decode cX10_worth 69 = .ok (.iconst 1, 1) := by decide +kernel
theorem dX10_worth_70 : decode cX10_worth 70 = .ok (.ireturn, 1) := by decide +kernel
set_option maxRecDepth 100000 in
set_option maxHeartbeats 4000000 in
theorem tb_X10_worth_0 {K : sd_K} {E : sd_Env}   {r : (Int32 × sd_Mem)} (C : sd_C K E sd_LC RX10 cX10_worth 6 (some .int))  : ∀ (M : sd_Mem) (x1 : Int32) (x2 : Int32) (x3 : Int32) (x4 : Int32), fn_X10_worth_0 M x1 x2 x3 x4 = some r → sd_Z K rm_X10_worth E sd_LC 6 (sd_QI K E sd_LC r.1 r.2) M 0 [(0, .ref (E.2.2 0)), (1, .int x1), (2, .int x2), (3, .int x3), (4, .int x4)] [] := by
  intro M x1 x2 x3 x4 hF
  unfold fn_X10_worth_0 at hF
  refine sd_aload_n C 0 dX10_worth_0 rfl rfl rfl (n' := 1) ?_
  refine sd_g10_3 C sd_i0 sd_k0 sd_w331 dX10_worth_1 rfl (n' := 4) ?_
  refine sd_iload_n C 3 dX10_worth_4 rfl rfl rfl (n' := 5) ?_
  refine sd_iload C 4 dX10_worth_5 rfl rfl (n' := 7) ?_
  obtain ⟨q7, e7, hF⟩ := sd_bind hF
  refine sd_callVI [.int x3, .int x4] [] C (ct_X5_hasSort M 40 x3 x4 sd_k40 e7) sd_lX10_159 ⟨rfl, rfl, Nat.le_of_ble_eq_true rfl, Nat.le_of_ble_eq_true rfl⟩ sd_i40 (sd_e6 sd_k40) rfl rfl rfl (Nat.le_of_ble_eq_true rfl) dX10_worth_7 rfl (n' := 10) ?_
  refine sd_if_ne C (n' := 13) (tgt := 15) dX10_worth_10 rfl rfl (fun c10 => ?_) (fun c10 => ?_)
  · replace hF := sd_neg hF c10
    refine sd_aload_n C 0 dX10_worth_15 rfl rfl rfl (n' := 16) ?_
    refine sd_iload_n C 1 dX10_worth_16 rfl rfl rfl (n' := 17) ?_
    refine sd_iload_n C 2 dX10_worth_17 rfl rfl rfl (n' := 18) ?_
    refine sd_iconst C (v := 1) dX10_worth_18 rfl rfl (n' := 19) ?_
    obtain ⟨q19, e19, hF⟩ := sd_bind hF
    refine sd_callVI [.int x1, .int x2, .int (1 : Int32)] [] C (ct_X10_refusePair M x1 x2 (1 : Int32)  e19) sd_lX10_216 ⟨rfl, rfl, Nat.le_of_ble_eq_true rfl, Nat.le_of_ble_eq_true rfl⟩ sd_i0 (sd_e11 sd_k0) rfl rfl rfl (Nat.le_of_ble_eq_true rfl) dX10_worth_19 rfl (n' := 22) ?_
    refine sd_istore [(5, .int q19.1), (0, .ref (E.2.2 0)), (1, .int x1), (2, .int x2), (3, .int x3), (4, .int x4)] C dX10_worth_22 (by decide) rfl rfl (n' := 24) ?_
    refine sd_iload C 0 dX10_worth_24 rfl rfl (n' := 26) ?_
    refine sd_if_eq C (n' := 29) (tgt := 32) dX10_worth_26 rfl rfl (fun c26 => ?_) (fun c26 => ?_)
    · replace hF := sd_pos hF c26
      refine sd_aload_n C 1 dX10_worth_32 rfl rfl rfl (n' := 33) ?_
      refine sd_g10_11 C sd_i0 sd_k0 sd_w339 dX10_worth_33 rfl (n' := 36) ?_
      refine sd_aload_n C 1 dX10_worth_36 rfl rfl rfl (n' := 37) ?_
      refine sd_g10_7 C sd_i0 sd_k0 sd_w335 dX10_worth_37 rfl (n' := 40) ?_
      refine sd_aload_n C 1 dX10_worth_40 rfl rfl rfl (n' := 41) ?_
      refine sd_g10_2 C sd_i0 sd_k0 sd_w330 dX10_worth_41 rfl (n' := 44) ?_
      refine sd_iload_n C 2 dX10_worth_44 rfl rfl rfl (n' := 45) ?_
      obtain ⟨b45, hF⟩ := sd_ok hF
      refine sd_wald C sd_i23 sd_k23 sd_n23 b45 dX10_worth_45 rfl (n' := 46) ?_
      refine sd_aload_n C 1 dX10_worth_46 rfl rfl rfl (n' := 47) ?_
      refine sd_g10_2 C sd_i0 sd_k0 sd_w330 dX10_worth_47 rfl (n' := 50) ?_
      refine sd_iload_n C 3 dX10_worth_50 rfl rfl rfl (n' := 51) ?_
      obtain ⟨b51, hF⟩ := sd_ok hF
      refine sd_wald C sd_i23 sd_k23 sd_n23 b51 dX10_worth_51 rfl (n' := 52) ?_
      refine sd_iload_n C 4 dX10_worth_52 rfl rfl rfl (n' := 53) ?_
      refine sd_iload C 5 dX10_worth_53 rfl rfl (n' := 55) ?_
      obtain ⟨q55, e55, hF⟩ := sd_bind hF
      refine sd_callVL [.ref (E.2.2 (23 + 1 + 2 * x1.toNatClampNeg)), .ref (E.2.2 (23 + 1 + 2 * x2.toNatClampNeg)), .int x3, .int x4] [.ref (E.2.2 96)] C (ct_X7_worthSum q19.2 61 (23 + 1 + 2 * x1.toNatClampNeg) (23 + 1 + 2 * x2.toNatClampNeg) x3 x4 sd_k61 ((sd_r23 _ (sd_in_lt b45)).1) ((sd_r23 _ (sd_in_lt b51)).1) e55) sd_lX10_228 ⟨rfl, rfl, Nat.le_of_ble_eq_true rfl, Nat.le_of_ble_eq_true rfl⟩ sd_i61 (sd_e8 sd_k61) rfl rfl rfl (Nat.le_of_ble_eq_true rfl) dX10_worth_55 rfl (n' := 58) ?_
      refine sd_aload_n C 1 dX10_worth_58 rfl rfl rfl (n' := 59) ?_
      refine sd_g10_7 C sd_i0 sd_k0 sd_w335 dX10_worth_59 rfl (n' := 62) ?_
      refine sd_iload_n C 4 dX10_worth_62 rfl rfl rfl (n' := 63) ?_
      obtain ⟨q63, e63, hF⟩ := sd_bind hF
      refine sd_callVL [.int x3] [.long q55, .ref (E.2.2 96)] C (ct_X7_worthShares q19.2 61 x3 sd_k61 e63) sd_lX10_232 ⟨rfl, rfl, Nat.le_of_ble_eq_true rfl, Nat.le_of_ble_eq_true rfl⟩ sd_i61 (sd_e8 sd_k61) rfl rfl rfl (Nat.le_of_ble_eq_true rfl) dX10_worth_63 rfl (n' := 66) ?_
      obtain ⟨q66, e66, hF⟩ := sd_bind hF
      refine sd_callVV [.long q55, .long q63] [] C (ct_X3_tell q19.2 q55 q63  e66) sd_lX10_236 ⟨rfl, rfl, Nat.le_of_ble_eq_true rfl, Nat.le_of_ble_eq_true rfl⟩ sd_i96 (sd_e4 sd_k96) rfl rfl rfl (Nat.le_of_ble_eq_true rfl) dX10_worth_66 rfl (n' := 69) ?_
      refine sd_iconst C (v := 1) dX10_worth_69 rfl rfl (n' := 70) ?_
      exact sd_iret C dX10_worth_70 (sd_fst hF) (sd_snd hF)
    · replace hF := sd_neg hF c26
      refine sd_iload C 0 dX10_worth_29 rfl rfl (n' := 31) ?_
      exact sd_iret C dX10_worth_31 (sd_fst hF) (sd_snd hF)
  · replace hF := sd_pos hF c10
    refine sd_iconst C (v := -1) dX10_worth_13 rfl rfl (n' := 14) ?_
    exact sd_iret C dX10_worth_14 (sd_fst hF) (sd_snd hF)
theorem ct_X10_worth {l : Launch} {E : sd_Env} (M : sd_Mem) (x1 : Int32) (x2 : Int32) (x3 : Int32) (x4 : Int32)  {r : (Int32 × sd_Mem)} (hF : fn_X10_worth M x1 x2 x3 x4 = some r) : sd_MI l E sd_LC yX10_worth cX10_worth 6 (some .int) rm_X10_worth [.ref (E.2.2 0), .int x1, .int x2, .int x3, .int x4] M r.1 r.2 := sd_ent0 (by decide +kernel) (Nat.le_of_ble_eq_true rfl) (fun p e s m below meth c C => tb_X10_worth_0 C M x1 x2 x3 x4 hF)
theorem dX7_stillOut_0 : decode cX7_stillOut 0 = .ok (.iconst 0, 1) := by decide +kernel
theorem dX7_stillOut_1 : decode cX7_stillOut 1 = .ok (.istore 5, 2) := by decide +kernel
theorem dX7_stillOut_3 : decode cX7_stillOut 3 = .ok (.iconst 0, 1) := by decide +kernel
theorem dX7_stillOut_4 : decode cX7_stillOut 4 = .ok (.istore 6, 2) := by decide +kernel
theorem dX7_stillOut_6 : decode cX7_stillOut 6 = .ok (.iload 6, 2) := by decide +kernel
theorem dX7_stillOut_8 : decode cX7_stillOut 8 = .ok (.aload_n 0, 1) := by decide +kernel
theorem dX7_stillOut_9 : decode cX7_stillOut 9 = .ok (.getfield 9, 3) := by decide +kernel
theorem dX7_stillOut_12 : decode cX7_stillOut 12 = .ok (.iconst 0, 1) := by decide +kernel
theorem dX7_stillOut_13 : decode cX7_stillOut 13 = .ok (.invokevirtual 44, 3) := by decide +kernel
theorem dX7_stillOut_16 : decode cX7_stillOut 16 = .ok (.if_icmp .ge 36, 3) := by decide +kernel
theorem dX7_stillOut_19 : decode cX7_stillOut 19 = .ok (.iload 5, 2) := by decide +kernel
theorem dX7_stillOut_21 : decode cX7_stillOut 21 = .ok (.aload_n 0, 1) := by decide +kernel
theorem dX7_stillOut_22 : decode cX7_stillOut 22 = .ok (.aload_n 1, 1) := by decide +kernel
theorem dX7_stillOut_23 : decode cX7_stillOut 23 = .ok (.aload_n 2, 1) := by decide +kernel
theorem dX7_stillOut_24 : decode cX7_stillOut 24 = .ok (.iload_n 3, 1) := by decide +kernel
theorem dX7_stillOut_25 : decode cX7_stillOut 25 = .ok (.iload 6, 2) := by decide +kernel
theorem dX7_stillOut_27 : decode cX7_stillOut 27 = .ok (.invokevirtual 58, 3) := by decide +kernel
theorem dX7_stillOut_30 : decode cX7_stillOut 30 = .ok (.iload 4, 2) := by decide +kernel
theorem dX7_stillOut_32 : decode cX7_stillOut 32 = .ok (.if_icmp .le 10, 3) := by decide +kernel
theorem dX7_stillOut_35 : decode cX7_stillOut 35 = .ok (.iconst 1, 1) := by decide +kernel
theorem dX7_stillOut_36 : decode cX7_stillOut 36 = .ok (.iload 6, 2) := by decide +kernel
theorem dX7_stillOut_38 : decode cX7_stillOut 38 = .ok (.ishl, 1) := by decide +kernel
theorem dX7_stillOut_39 : decode cX7_stillOut 39 = .ok (.goto 4, 3) := by decide +kernel
theorem dX7_stillOut_42 : decode cX7_stillOut 42 = .ok (.iconst 0, 1) := by decide +kernel
theorem dX7_stillOut_43 : decode cX7_stillOut 43 = .ok (.ior, 1) := by decide +kernel
theorem dX7_stillOut_44 : decode cX7_stillOut 44 = .ok (.istore 5, 2) := by decide +kernel
theorem dX7_stillOut_46 : decode cX7_stillOut 46 = .ok (.iinc 6 1, 3) := by decide +kernel
theorem dX7_stillOut_49 : decode cX7_stillOut 49 = .ok (.goto (-43), 3) := by decide +kernel
theorem dX7_stillOut_52 : decode cX7_stillOut 52 = .ok (.iload 5, 2) := by decide +kernel
theorem dX7_stillOut_54 : decode cX7_stillOut 54 = .ok (.ireturn, 1) := by decide +kernel
set_option maxRecDepth 100000 in
set_option maxHeartbeats 4000000 in
theorem tb_X7_stillOut_6 {K : sd_K} {E : sd_Env} {M : sd_Mem} {h0 h1 h2 : Nat} {r : Int32} (C : sd_C K E sd_LC RX7 cX7_stillOut 7 (some .int)) (k0 : sd_kd h0 = 8) (k1 : sd_kd h1 = 10) (k2 : sd_kd h2 = 10) : ∀ (n : Nat), ∀ (x3 : Int32) (x4 : Int32) (x5 : Int32) (x6 : Int32), fn_X7_stillOut_6 M h0 h1 h2 n x3 x4 x5 x6 = some r → sd_Z K rm_X7_stillOut E sd_LC 7 (sd_QI K E sd_LC r M) M 6 [(0, .ref (E.2.2 h0)), (1, .ref (E.2.2 h1)), (2, .ref (E.2.2 h2)), (3, .int x3), (4, .int x4), (5, .int x5), (6, .int x6)] [] := by
  intro n
  induction n with
  | zero => intro x3 x4 x5 x6 hF; cases hF
  | succ n ih =>
    intro x3 x4 x5 x6 hF
    unfold fn_X7_stillOut_6 at hF
    refine sd_iload C 6 dX7_stillOut_6 rfl rfl (n' := 8) ?_
    refine sd_aload_n C 0 dX7_stillOut_8 rfl rfl rfl (n' := 9) ?_
    refine sd_g7_0 C (sd_mC (sd_m8 k0)) k0 sd_w214 dX7_stillOut_9 rfl (n' := 12) ?_
    refine sd_iconst C (v := 0) dX7_stillOut_12 rfl rfl (n' := 13) ?_
    obtain ⟨q13, e13, hF⟩ := sd_bind hF
    refine sd_callVI [.int (0 : Int32)] [.int x6] C (ct_X5_sorts M 40 (0 : Int32) sd_k40 e13) sd_lX7_44 ⟨rfl, rfl, Nat.le_of_ble_eq_true rfl, Nat.le_of_ble_eq_true rfl⟩ sd_i40 (sd_e6 sd_k40) rfl rfl rfl (Nat.le_of_ble_eq_true rfl) dX7_stillOut_13 rfl (n' := 16) ?_
    refine sd_icmp_ge C (n' := 19) (tgt := 52) dX7_stillOut_16 rfl rfl (fun c16 => ?_) (fun c16 => ?_)
    · replace hF := sd_pos hF c16
      refine sd_iload C 5 dX7_stillOut_52 rfl rfl (n' := 54) ?_
      exact sd_iret C dX7_stillOut_54 (Option.some.inj hF) rfl
    · replace hF := sd_neg hF c16
      refine sd_iload C 5 dX7_stillOut_19 rfl rfl (n' := 21) ?_
      refine sd_aload_n C 0 dX7_stillOut_21 rfl rfl rfl (n' := 22) ?_
      refine sd_aload_n C 1 dX7_stillOut_22 rfl rfl rfl (n' := 23) ?_
      refine sd_aload_n C 2 dX7_stillOut_23 rfl rfl rfl (n' := 24) ?_
      refine sd_iload_n C 3 dX7_stillOut_24 rfl rfl rfl (n' := 25) ?_
      refine sd_iload C 6 dX7_stillOut_25 rfl rfl (n' := 27) ?_
      obtain ⟨q27, e27, hF⟩ := sd_bind hF
      refine sd_callVI [.ref (E.2.2 h1), .ref (E.2.2 h2), .int x3, .int x6] [.int x5] C (ct_X7_settlingDay M h0 h1 h2 x3 x6 k0 k1 k2 e27) sd_lX7_58 ⟨rfl, rfl, Nat.le_of_ble_eq_true rfl, Nat.le_of_ble_eq_true rfl⟩ (sd_mC (sd_m8 k0)) (sd_e8 k0) rfl rfl rfl (Nat.le_of_ble_eq_true rfl) dX7_stillOut_27 rfl (n' := 30) ?_
      refine sd_iload C 4 dX7_stillOut_30 rfl rfl (n' := 32) ?_
      refine sd_icmp_le C (n' := 35) (tgt := 42) dX7_stillOut_32 rfl rfl (fun c32 => ?_) (fun c32 => ?_)
      · replace hF := sd_pos hF c32
        refine sd_iconst C (v := 0) dX7_stillOut_42 rfl rfl (n' := 43) ?_
        refine sd_ior C dX7_stillOut_43 rfl (n' := 44) ?_
        refine sd_istore [(5, .int (x5 ||| (0 : Int32))), (0, .ref (E.2.2 h0)), (1, .ref (E.2.2 h1)), (2, .ref (E.2.2 h2)), (3, .int x3), (4, .int x4), (6, .int x6)] C dX7_stillOut_44 (by decide) rfl rfl (n' := 46) ?_
        refine sd_iinc [(6, .int (x6 + (1 : Int32))), (5, .int (x5 ||| (0 : Int32))), (0, .ref (E.2.2 h0)), (1, .ref (E.2.2 h1)), (2, .ref (E.2.2 h2)), (3, .int x3), (4, .int x4)] 6 C dX7_stillOut_46 rfl rfl (by decide) rfl rfl (n' := 49) ?_
        refine sd_goto C (tgt := 6) dX7_stillOut_49 rfl ?_
        refine sd_sub [2, 3, 4, 5, 6, 1, 0] rfl ?_
        exact ih x3 x4 (x5 ||| (0 : Int32)) (x6 + (1 : Int32)) hF
      · replace hF := sd_neg hF c32
        refine sd_iconst C (v := 1) dX7_stillOut_35 rfl rfl (n' := 36) ?_
        refine sd_iload C 6 dX7_stillOut_36 rfl rfl (n' := 38) ?_
        refine sd_ishl C dX7_stillOut_38 rfl (n' := 39) ?_
        refine sd_goto C (tgt := 43) dX7_stillOut_39 rfl ?_
        refine sd_ior C dX7_stillOut_43 rfl (n' := 44) ?_
        refine sd_istore [(5, .int (x5 ||| ((1 : Int32) <<< (x6 &&& 31)))), (0, .ref (E.2.2 h0)), (1, .ref (E.2.2 h1)), (2, .ref (E.2.2 h2)), (3, .int x3), (4, .int x4), (6, .int x6)] C dX7_stillOut_44 (by decide) rfl rfl (n' := 46) ?_
        refine sd_iinc [(6, .int (x6 + (1 : Int32))), (5, .int (x5 ||| ((1 : Int32) <<< (x6 &&& 31)))), (0, .ref (E.2.2 h0)), (1, .ref (E.2.2 h1)), (2, .ref (E.2.2 h2)), (3, .int x3), (4, .int x4)] 6 C dX7_stillOut_46 rfl rfl (by decide) rfl rfl (n' := 49) ?_
        refine sd_goto C (tgt := 6) dX7_stillOut_49 rfl ?_
        refine sd_sub [2, 3, 4, 5, 6, 1, 0] rfl ?_
        exact ih x3 x4 (x5 ||| ((1 : Int32) <<< (x6 &&& 31))) (x6 + (1 : Int32)) hF
set_option maxRecDepth 100000 in
set_option maxHeartbeats 4000000 in
theorem tb_X7_stillOut_0 {K : sd_K} {E : sd_Env} {M : sd_Mem} {h0 h1 h2 : Nat} {r : Int32} (C : sd_C K E sd_LC RX7 cX7_stillOut 7 (some .int)) (k0 : sd_kd h0 = 8) (k1 : sd_kd h1 = 10) (k2 : sd_kd h2 = 10) : ∀ (x3 : Int32) (x4 : Int32), fn_X7_stillOut_0 M h0 h1 h2 x3 x4 = some r → sd_Z K rm_X7_stillOut E sd_LC 7 (sd_QI K E sd_LC r M) M 0 [(0, .ref (E.2.2 h0)), (1, .ref (E.2.2 h1)), (2, .ref (E.2.2 h2)), (3, .int x3), (4, .int x4)] [] := by
  intro x3 x4 hF
  unfold fn_X7_stillOut_0 at hF
  refine sd_iconst C (v := 0) dX7_stillOut_0 rfl rfl (n' := 1) ?_
  refine sd_istore [(5, .int (0 : Int32)), (0, .ref (E.2.2 h0)), (1, .ref (E.2.2 h1)), (2, .ref (E.2.2 h2)), (3, .int x3), (4, .int x4)] C dX7_stillOut_1 (by decide) rfl rfl (n' := 3) ?_
  refine sd_iconst C (v := 0) dX7_stillOut_3 rfl rfl (n' := 4) ?_
  refine sd_istore [(6, .int (0 : Int32)), (5, .int (0 : Int32)), (0, .ref (E.2.2 h0)), (1, .ref (E.2.2 h1)), (2, .ref (E.2.2 h2)), (3, .int x3), (4, .int x4)] C dX7_stillOut_4 (by decide) rfl rfl (n' := 6) ?_
  refine sd_sub [2, 3, 4, 5, 6, 1, 0] rfl ?_
  exact tb_X7_stillOut_6 C k0 k1 k2 sd_FU x3 x4 (0 : Int32) (0 : Int32) hF
theorem ct_X7_stillOut {l : Launch} {E : sd_Env} (M : sd_Mem) (h0 : Nat) (h1 : Nat) (h2 : Nat) (x3 : Int32) (x4 : Int32) (k0 : sd_kd h0 = 8) (k1 : sd_kd h1 = 10) (k2 : sd_kd h2 = 10) {r : Int32} (hF : fn_X7_stillOut M h0 h1 h2 x3 x4 = some r) : sd_MI l E sd_LC yX7_stillOut cX7_stillOut 7 (some .int) rm_X7_stillOut [.ref (E.2.2 h0), .ref (E.2.2 h1), .ref (E.2.2 h2), .int x3, .int x4] M r M := sd_ent0 (by decide +kernel) (Nat.le_of_ble_eq_true rfl) (fun p e s m below meth c C => tb_X7_stillOut_0 C k0 k1 k2 x3 x4 hF)
theorem dX7_offeringAlike_0 : decode cX7_offeringAlike 0 = .ok (.iconst 0, 1) := by decide +kernel
theorem dX7_offeringAlike_1 : decode cX7_offeringAlike 1 = .ok (.istore 4, 2) := by decide +kernel
theorem dX7_offeringAlike_3 : decode cX7_offeringAlike 3 = .ok (.iconst 0, 1) := by decide +kernel
theorem dX7_offeringAlike_4 : decode cX7_offeringAlike 4 = .ok (.istore 5, 2) := by decide +kernel
theorem dX7_offeringAlike_6 : decode cX7_offeringAlike 6 = .ok (.iload 5, 2) := by decide +kernel
theorem dX7_offeringAlike_8 : decode cX7_offeringAlike 8 = .ok (.aload_n 0, 1) := by decide +kernel
theorem dX7_offeringAlike_9 : decode cX7_offeringAlike 9 = .ok (.getfield 9, 3) := by decide +kernel
theorem dX7_offeringAlike_12 : decode cX7_offeringAlike 12 = .ok (.iconst 1, 1) := by decide +kernel
theorem dX7_offeringAlike_13 : decode cX7_offeringAlike 13 = .ok (.invokevirtual 44, 3) := by decide +kernel
theorem dX7_offeringAlike_16 : decode cX7_offeringAlike 16 = .ok (.if_icmp .ge 79, 3) := by decide +kernel
theorem dX7_offeringAlike_19 : decode cX7_offeringAlike 19 = .ok (.iconst 1, 1) := by decide +kernel
theorem dX7_offeringAlike_20 : decode cX7_offeringAlike 20 = .ok (.istore 6, 2) := by decide +kernel
theorem dX7_offeringAlike_22 : decode cX7_offeringAlike 22 = .ok (.aload_n 0, 1) := by decide +kernel
theorem dX7_offeringAlike_23 : decode cX7_offeringAlike 23 = .ok (.getfield 15, 3) := by decide +kernel
theorem dX7_offeringAlike_26 : decode cX7_offeringAlike 26 = .ok (.getfield 19, 3) := by decide +kernel
theorem dX7_offeringAlike_29 : decode cX7_offeringAlike 29 = .ok (.istore 7, 2) := by decide +kernel
theorem dX7_offeringAlike_31 : decode cX7_offeringAlike 31 = .ok (.iload 7, 2) := by decide +kernel
theorem dX7_offeringAlike_33 : decode cX7_offeringAlike 33 = .ok (.iload_n 3, 1) := by decide +kernel
theorem dX7_offeringAlike_34 : decode cX7_offeringAlike 34 = .ok (.if_icmp .gt 37, 3) := by decide +kernel
theorem dX7_offeringAlike_37 : decode cX7_offeringAlike 37 = .ok (.iload 6, 2) := by decide +kernel
theorem dX7_offeringAlike_39 : decode cX7_offeringAlike 39 = .ok (.aload_n 1, 1) := by decide +kernel
theorem dX7_offeringAlike_40 : decode cX7_offeringAlike 40 = .ok (.iload 5, 2) := by decide +kernel
theorem dX7_offeringAlike_42 : decode cX7_offeringAlike 42 = .ok (.iload 7, 2) := by decide +kernel
theorem dX7_offeringAlike_44 : decode cX7_offeringAlike 44 = .ok (.invokevirtual 30, 3) := by decide +kernel
theorem dX7_offeringAlike_47 : decode cX7_offeringAlike 47 = .ok (.aload_n 1, 1) := by decide +kernel
theorem dX7_offeringAlike_48 : decode cX7_offeringAlike 48 = .ok (.iload_n 2, 1) := by decide +kernel
theorem dX7_offeringAlike_49 : decode cX7_offeringAlike 49 = .ok (.iload 7, 2) := by decide +kernel
theorem dX7_offeringAlike_51 : decode cX7_offeringAlike 51 = .ok (.invokevirtual 30, 3) := by decide +kernel
theorem dX7_offeringAlike_54 : decode cX7_offeringAlike 54 = .ok (.if_icmp .ne 7, 3) := by decide +kernel
theorem dX7_offeringAlike_57 : decode cX7_offeringAlike 57 = .ok (.iconst 1, 1) := by decide +kernel
theorem dX7_offeringAlike_58 : decode cX7_offeringAlike 58 = .ok (.goto 4, 3) := by decide +kernel
theorem dX7_offeringAlike_61 : decode cX7_offeringAlike 61 = .ok (.iconst 0, 1) := by decide +kernel
theorem dX7_offeringAlike_62 : decode cX7_offeringAlike 62 = .ok (.iand, 1) := by decide +kernel
theorem dX7_offeringAlike_63 : decode cX7_offeringAlike 63 = .ok (.istore 6, 2) := by decide +kernel
theorem dX7_offeringAlike_65 : decode cX7_offeringAlike 65 = .ok (.iinc 7 1, 3) := by decide +kernel
theorem dX7_offeringAlike_68 : decode cX7_offeringAlike 68 = .ok (.goto (-37), 3) := by decide +kernel
theorem dX7_offeringAlike_71 : decode cX7_offeringAlike 71 = .ok (.iload 4, 2) := by decide +kernel
theorem dX7_offeringAlike_73 : decode cX7_offeringAlike 73 = .ok (.iload 6, 2) := by decide +kernel
theorem dX7_offeringAlike_75 : decode cX7_offeringAlike 75 = .ok (.ifCond .eq 10, 3) := by decide +kernel
theorem dX7_offeringAlike_78 : decode cX7_offeringAlike 78 = .ok (.iconst 1, 1) := by decide +kernel
theorem dX7_offeringAlike_79 : decode cX7_offeringAlike 79 = .ok (.iload 5, 2) := by decide +kernel
theorem dX7_offeringAlike_81 : decode cX7_offeringAlike 81 = .ok (.ishl, 1) := by decide +kernel
theorem dX7_offeringAlike_82 : decode cX7_offeringAlike 82 = .ok (.goto 4, 3) := by decide +kernel
theorem dX7_offeringAlike_85 : decode cX7_offeringAlike 85 = .ok (.iconst 0, 1) := by decide +kernel
theorem dX7_offeringAlike_86 : decode cX7_offeringAlike 86 = .ok (.ior, 1) := by decide +kernel
theorem dX7_offeringAlike_87 : decode cX7_offeringAlike 87 = .ok (.istore 4, 2) := by decide +kernel
theorem dX7_offeringAlike_89 : decode cX7_offeringAlike 89 = .ok (.iinc 5 1, 3) := by decide +kernel
theorem dX7_offeringAlike_92 : decode cX7_offeringAlike 92 = .ok (.goto (-86), 3) := by decide +kernel
theorem dX7_offeringAlike_95 : decode cX7_offeringAlike 95 = .ok (.iload 4, 2) := by decide +kernel
theorem dX7_offeringAlike_97 : decode cX7_offeringAlike 97 = .ok (.ireturn, 1) := by decide +kernel
set_option maxRecDepth 100000 in
set_option maxHeartbeats 4000000 in
theorem tb_X7_offeringAlike_71 {K : sd_K} {E : sd_Env} {M : sd_Mem} {h0 h1 : Nat} {r : Int32} (C : sd_C K E sd_LC RX7 cX7_offeringAlike 8 (some .int)) (k0 : sd_kd h0 = 8) (k1 : sd_kd h1 = 10) {k6 : Int32 → Int32 → Int32 → Int32 → Option Int32} (hk6 : ∀ (x2 : Int32) (x3 : Int32) (x4 : Int32) (x5 : Int32), k6 x2 x3 x4 x5 = some r → sd_Z K rm_X7_offeringAlike E sd_LC 8 (sd_QI K E sd_LC r M) M 6 [(0, .ref (E.2.2 h0)), (1, .ref (E.2.2 h1)), (2, .int x2), (3, .int x3), (4, .int x4), (5, .int x5)] []) : ∀ (x2 : Int32) (x3 : Int32) (x4 : Int32) (x5 : Int32) (x6 : Int32), fn_X7_offeringAlike_71 M h0 h1 k6 x2 x3 x4 x5 x6 = some r → sd_Z K rm_X7_offeringAlike E sd_LC 8 (sd_QI K E sd_LC r M) M 71 [(0, .ref (E.2.2 h0)), (1, .ref (E.2.2 h1)), (2, .int x2), (3, .int x3), (4, .int x4), (5, .int x5), (6, .int x6)] [] := by
  intro x2 x3 x4 x5 x6 hF
  unfold fn_X7_offeringAlike_71 at hF
  refine sd_iload C 4 dX7_offeringAlike_71 rfl rfl (n' := 73) ?_
  refine sd_iload C 6 dX7_offeringAlike_73 rfl rfl (n' := 75) ?_
  refine sd_if_eq C (n' := 78) (tgt := 85) dX7_offeringAlike_75 rfl rfl (fun c75 => ?_) (fun c75 => ?_)
  · replace hF := sd_pos hF c75
    refine sd_iconst C (v := 0) dX7_offeringAlike_85 rfl rfl (n' := 86) ?_
    refine sd_ior C dX7_offeringAlike_86 rfl (n' := 87) ?_
    refine sd_istore [(4, .int (x4 ||| (0 : Int32))), (0, .ref (E.2.2 h0)), (1, .ref (E.2.2 h1)), (2, .int x2), (3, .int x3), (5, .int x5), (6, .int x6)] C dX7_offeringAlike_87 (by decide) rfl rfl (n' := 89) ?_
    refine sd_iinc [(5, .int (x5 + (1 : Int32))), (4, .int (x4 ||| (0 : Int32))), (0, .ref (E.2.2 h0)), (1, .ref (E.2.2 h1)), (2, .int x2), (3, .int x3), (6, .int x6)] 5 C dX7_offeringAlike_89 rfl rfl (by decide) rfl rfl (n' := 92) ?_
    refine sd_goto C (tgt := 6) dX7_offeringAlike_92 rfl ?_
    refine sd_sub [2, 3, 4, 5, 1, 0] rfl ?_
    exact hk6 x2 x3 (x4 ||| (0 : Int32)) (x5 + (1 : Int32)) hF
  · replace hF := sd_neg hF c75
    refine sd_iconst C (v := 1) dX7_offeringAlike_78 rfl rfl (n' := 79) ?_
    refine sd_iload C 5 dX7_offeringAlike_79 rfl rfl (n' := 81) ?_
    refine sd_ishl C dX7_offeringAlike_81 rfl (n' := 82) ?_
    refine sd_goto C (tgt := 86) dX7_offeringAlike_82 rfl ?_
    refine sd_ior C dX7_offeringAlike_86 rfl (n' := 87) ?_
    refine sd_istore [(4, .int (x4 ||| ((1 : Int32) <<< (x5 &&& 31)))), (0, .ref (E.2.2 h0)), (1, .ref (E.2.2 h1)), (2, .int x2), (3, .int x3), (5, .int x5), (6, .int x6)] C dX7_offeringAlike_87 (by decide) rfl rfl (n' := 89) ?_
    refine sd_iinc [(5, .int (x5 + (1 : Int32))), (4, .int (x4 ||| ((1 : Int32) <<< (x5 &&& 31)))), (0, .ref (E.2.2 h0)), (1, .ref (E.2.2 h1)), (2, .int x2), (3, .int x3), (6, .int x6)] 5 C dX7_offeringAlike_89 rfl rfl (by decide) rfl rfl (n' := 92) ?_
    refine sd_goto C (tgt := 6) dX7_offeringAlike_92 rfl ?_
    refine sd_sub [2, 3, 4, 5, 1, 0] rfl ?_
    exact hk6 x2 x3 (x4 ||| ((1 : Int32) <<< (x5 &&& 31))) (x5 + (1 : Int32)) hF
set_option maxRecDepth 100000 in
set_option maxHeartbeats 4000000 in
theorem tb_X7_offeringAlike_31 {K : sd_K} {E : sd_Env} {M : sd_Mem} {h0 h1 : Nat} {r : Int32} (C : sd_C K E sd_LC RX7 cX7_offeringAlike 8 (some .int)) (k0 : sd_kd h0 = 8) (k1 : sd_kd h1 = 10) {k6 : Int32 → Int32 → Int32 → Int32 → Option Int32} (hk6 : ∀ (x2 : Int32) (x3 : Int32) (x4 : Int32) (x5 : Int32), k6 x2 x3 x4 x5 = some r → sd_Z K rm_X7_offeringAlike E sd_LC 8 (sd_QI K E sd_LC r M) M 6 [(0, .ref (E.2.2 h0)), (1, .ref (E.2.2 h1)), (2, .int x2), (3, .int x3), (4, .int x4), (5, .int x5)] []) : ∀ (n : Nat), ∀ (x2 : Int32) (x3 : Int32) (x4 : Int32) (x5 : Int32) (x6 : Int32) (x7 : Int32), fn_X7_offeringAlike_31 M h0 h1 k6 n x2 x3 x4 x5 x6 x7 = some r → sd_Z K rm_X7_offeringAlike E sd_LC 8 (sd_QI K E sd_LC r M) M 31 [(0, .ref (E.2.2 h0)), (1, .ref (E.2.2 h1)), (2, .int x2), (3, .int x3), (4, .int x4), (5, .int x5), (6, .int x6), (7, .int x7)] [] := by
  intro n
  induction n with
  | zero => intro x2 x3 x4 x5 x6 x7 hF; cases hF
  | succ n ih =>
    intro x2 x3 x4 x5 x6 x7 hF
    unfold fn_X7_offeringAlike_31 at hF
    refine sd_iload C 7 dX7_offeringAlike_31 rfl rfl (n' := 33) ?_
    refine sd_iload_n C 3 dX7_offeringAlike_33 rfl rfl rfl (n' := 34) ?_
    refine sd_icmp_gt C (n' := 37) (tgt := 71) dX7_offeringAlike_34 rfl rfl (fun c34 => ?_) (fun c34 => ?_)
    · replace hF := sd_pos hF c34
      refine sd_sub [0, 1, 2, 3, 4, 5, 6] rfl ?_
      exact tb_X7_offeringAlike_71 C k0 k1 hk6 x2 x3 x4 x5 x6 hF
    · replace hF := sd_neg hF c34
      refine sd_iload C 6 dX7_offeringAlike_37 rfl rfl (n' := 39) ?_
      refine sd_aload_n C 1 dX7_offeringAlike_39 rfl rfl rfl (n' := 40) ?_
      refine sd_iload C 5 dX7_offeringAlike_40 rfl rfl (n' := 42) ?_
      refine sd_iload C 7 dX7_offeringAlike_42 rfl rfl (n' := 44) ?_
      obtain ⟨q44, e44, hF⟩ := sd_bind hF
      refine sd_callVI [.int x5, .int x7] [.int x6] C (ct_X9_number M h1 x5 x7 k1 e44) sd_lX7_30 ⟨rfl, rfl, Nat.le_of_ble_eq_true rfl, Nat.le_of_ble_eq_true rfl⟩ (sd_mC (sd_m10 k1)) (sd_e10 k1) rfl rfl rfl (Nat.le_of_ble_eq_true rfl) dX7_offeringAlike_44 rfl (n' := 47) ?_
      refine sd_aload_n C 1 dX7_offeringAlike_47 rfl rfl rfl (n' := 48) ?_
      refine sd_iload_n C 2 dX7_offeringAlike_48 rfl rfl rfl (n' := 49) ?_
      refine sd_iload C 7 dX7_offeringAlike_49 rfl rfl (n' := 51) ?_
      obtain ⟨q51, e51, hF⟩ := sd_bind hF
      refine sd_callVI [.int x2, .int x7] [.int q44, .int x6] C (ct_X9_number M h1 x2 x7 k1 e51) sd_lX7_30 ⟨rfl, rfl, Nat.le_of_ble_eq_true rfl, Nat.le_of_ble_eq_true rfl⟩ (sd_mC (sd_m10 k1)) (sd_e10 k1) rfl rfl rfl (Nat.le_of_ble_eq_true rfl) dX7_offeringAlike_51 rfl (n' := 54) ?_
      refine sd_icmp_ne C (n' := 57) (tgt := 61) dX7_offeringAlike_54 rfl rfl (fun c54 => ?_) (fun c54 => ?_)
      · replace hF := sd_neg hF c54
        refine sd_iconst C (v := 0) dX7_offeringAlike_61 rfl rfl (n' := 62) ?_
        refine sd_iand C dX7_offeringAlike_62 rfl (n' := 63) ?_
        refine sd_istore [(6, .int (x6 &&& (0 : Int32))), (0, .ref (E.2.2 h0)), (1, .ref (E.2.2 h1)), (2, .int x2), (3, .int x3), (4, .int x4), (5, .int x5), (7, .int x7)] C dX7_offeringAlike_63 (by decide) rfl rfl (n' := 65) ?_
        refine sd_iinc [(7, .int (x7 + (1 : Int32))), (6, .int (x6 &&& (0 : Int32))), (0, .ref (E.2.2 h0)), (1, .ref (E.2.2 h1)), (2, .int x2), (3, .int x3), (4, .int x4), (5, .int x5)] 7 C dX7_offeringAlike_65 rfl rfl (by decide) rfl rfl (n' := 68) ?_
        refine sd_goto C (tgt := 31) dX7_offeringAlike_68 rfl ?_
        refine sd_sub [2, 3, 4, 5, 6, 7, 1, 0] rfl ?_
        exact ih x2 x3 x4 x5 (x6 &&& (0 : Int32)) (x7 + (1 : Int32)) hF
      · replace hF := sd_pos hF c54
        refine sd_iconst C (v := 1) dX7_offeringAlike_57 rfl rfl (n' := 58) ?_
        refine sd_goto C (tgt := 62) dX7_offeringAlike_58 rfl ?_
        refine sd_iand C dX7_offeringAlike_62 rfl (n' := 63) ?_
        refine sd_istore [(6, .int (x6 &&& (1 : Int32))), (0, .ref (E.2.2 h0)), (1, .ref (E.2.2 h1)), (2, .int x2), (3, .int x3), (4, .int x4), (5, .int x5), (7, .int x7)] C dX7_offeringAlike_63 (by decide) rfl rfl (n' := 65) ?_
        refine sd_iinc [(7, .int (x7 + (1 : Int32))), (6, .int (x6 &&& (1 : Int32))), (0, .ref (E.2.2 h0)), (1, .ref (E.2.2 h1)), (2, .int x2), (3, .int x3), (4, .int x4), (5, .int x5)] 7 C dX7_offeringAlike_65 rfl rfl (by decide) rfl rfl (n' := 68) ?_
        refine sd_goto C (tgt := 31) dX7_offeringAlike_68 rfl ?_
        refine sd_sub [2, 3, 4, 5, 6, 7, 1, 0] rfl ?_
        exact ih x2 x3 x4 x5 (x6 &&& (1 : Int32)) (x7 + (1 : Int32)) hF
set_option maxRecDepth 100000 in
set_option maxHeartbeats 4000000 in
theorem tb_X7_offeringAlike_6 {K : sd_K} {E : sd_Env} {M : sd_Mem} {h0 h1 : Nat} {r : Int32} (C : sd_C K E sd_LC RX7 cX7_offeringAlike 8 (some .int)) (k0 : sd_kd h0 = 8) (k1 : sd_kd h1 = 10) : ∀ (n : Nat), ∀ (x2 : Int32) (x3 : Int32) (x4 : Int32) (x5 : Int32), fn_X7_offeringAlike_6 M h0 h1 n x2 x3 x4 x5 = some r → sd_Z K rm_X7_offeringAlike E sd_LC 8 (sd_QI K E sd_LC r M) M 6 [(0, .ref (E.2.2 h0)), (1, .ref (E.2.2 h1)), (2, .int x2), (3, .int x3), (4, .int x4), (5, .int x5)] [] := by
  intro n
  induction n with
  | zero => intro x2 x3 x4 x5 hF; cases hF
  | succ n ih =>
    intro x2 x3 x4 x5 hF
    unfold fn_X7_offeringAlike_6 at hF
    refine sd_iload C 5 dX7_offeringAlike_6 rfl rfl (n' := 8) ?_
    refine sd_aload_n C 0 dX7_offeringAlike_8 rfl rfl rfl (n' := 9) ?_
    refine sd_g7_0 C (sd_mC (sd_m8 k0)) k0 sd_w214 dX7_offeringAlike_9 rfl (n' := 12) ?_
    refine sd_iconst C (v := 1) dX7_offeringAlike_12 rfl rfl (n' := 13) ?_
    obtain ⟨q13, e13, hF⟩ := sd_bind hF
    refine sd_callVI [.int (1 : Int32)] [.int x5] C (ct_X5_sorts M 40 (1 : Int32) sd_k40 e13) sd_lX7_44 ⟨rfl, rfl, Nat.le_of_ble_eq_true rfl, Nat.le_of_ble_eq_true rfl⟩ sd_i40 (sd_e6 sd_k40) rfl rfl rfl (Nat.le_of_ble_eq_true rfl) dX7_offeringAlike_13 rfl (n' := 16) ?_
    refine sd_icmp_ge C (n' := 19) (tgt := 95) dX7_offeringAlike_16 rfl rfl (fun c16 => ?_) (fun c16 => ?_)
    · replace hF := sd_pos hF c16
      refine sd_iload C 4 dX7_offeringAlike_95 rfl rfl (n' := 97) ?_
      exact sd_iret C dX7_offeringAlike_97 (Option.some.inj hF) rfl
    · replace hF := sd_neg hF c16
      refine sd_iconst C (v := 1) dX7_offeringAlike_19 rfl rfl (n' := 20) ?_
      refine sd_istore [(6, .int (1 : Int32)), (0, .ref (E.2.2 h0)), (1, .ref (E.2.2 h1)), (2, .int x2), (3, .int x3), (4, .int x4), (5, .int x5)] C dX7_offeringAlike_20 (by decide) rfl rfl (n' := 22) ?_
      refine sd_aload_n C 1 dX7_offeringAlike_22 rfl rfl rfl (n' := 23) ?_
      refine sd_g7_1 C (sd_mC (sd_m8 k0)) k0 sd_w215 dX7_offeringAlike_23 rfl (n' := 26) ?_
      refine sd_gN4_0 C (sd_mC (sd_c8 k0).2) ((sd_c8 k0).1) sd_w175 dX7_offeringAlike_26 rfl (n' := 29) ?_
      refine sd_istore [(7, .int (M.1 (h0 - 3) 0)), (6, .int (1 : Int32)), (0, .ref (E.2.2 h0)), (1, .ref (E.2.2 h1)), (2, .int x2), (3, .int x3), (4, .int x4), (5, .int x5)] C dX7_offeringAlike_29 (by decide) rfl rfl (n' := 31) ?_
      refine sd_sub [2, 3, 4, 5, 6, 7, 1, 0] rfl ?_
      exact tb_X7_offeringAlike_31 C k0 k1 ih sd_FU x2 x3 x4 x5 (1 : Int32) (M.1 (h0 - 3) 0) hF
set_option maxRecDepth 100000 in
set_option maxHeartbeats 4000000 in
theorem tb_X7_offeringAlike_0 {K : sd_K} {E : sd_Env} {M : sd_Mem} {h0 h1 : Nat} {r : Int32} (C : sd_C K E sd_LC RX7 cX7_offeringAlike 8 (some .int)) (k0 : sd_kd h0 = 8) (k1 : sd_kd h1 = 10) : ∀ (x2 : Int32) (x3 : Int32), fn_X7_offeringAlike_0 M h0 h1 x2 x3 = some r → sd_Z K rm_X7_offeringAlike E sd_LC 8 (sd_QI K E sd_LC r M) M 0 [(0, .ref (E.2.2 h0)), (1, .ref (E.2.2 h1)), (2, .int x2), (3, .int x3)] [] := by
  intro x2 x3 hF
  unfold fn_X7_offeringAlike_0 at hF
  refine sd_iconst C (v := 0) dX7_offeringAlike_0 rfl rfl (n' := 1) ?_
  refine sd_istore [(4, .int (0 : Int32)), (0, .ref (E.2.2 h0)), (1, .ref (E.2.2 h1)), (2, .int x2), (3, .int x3)] C dX7_offeringAlike_1 (by decide) rfl rfl (n' := 3) ?_
  refine sd_iconst C (v := 0) dX7_offeringAlike_3 rfl rfl (n' := 4) ?_
  refine sd_istore [(5, .int (0 : Int32)), (4, .int (0 : Int32)), (0, .ref (E.2.2 h0)), (1, .ref (E.2.2 h1)), (2, .int x2), (3, .int x3)] C dX7_offeringAlike_4 (by decide) rfl rfl (n' := 6) ?_
  refine sd_sub [2, 3, 4, 5, 1, 0] rfl ?_
  exact tb_X7_offeringAlike_6 C k0 k1 sd_FU x2 x3 (0 : Int32) (0 : Int32) hF
theorem ct_X7_offeringAlike {l : Launch} {E : sd_Env} (M : sd_Mem) (h0 : Nat) (h1 : Nat) (x2 : Int32) (x3 : Int32) (k0 : sd_kd h0 = 8) (k1 : sd_kd h1 = 10) {r : Int32} (hF : fn_X7_offeringAlike M h0 h1 x2 x3 = some r) : sd_MI l E sd_LC yX7_offeringAlike cX7_offeringAlike 8 (some .int) rm_X7_offeringAlike [.ref (E.2.2 h0), .ref (E.2.2 h1), .int x2, .int x3] M r M := sd_ent0 (by decide +kernel) (Nat.le_of_ble_eq_true rfl) (fun p e s m below meth c C => tb_X7_offeringAlike_0 C k0 k1 x2 x3 hF)
theorem dX10_think_0 : decode cX10_think 0 = .ok (.aload_n 0, 1) := by decide +kernel
theorem dX10_think_1 : decode cX10_think 1 = .ok (.getfield 27, 3) := by decide +kernel
theorem dX10_think_4 : decode cX10_think 4 = .ok (.iconst 1, 1) := by decide +kernel
theorem dX10_think_5 : decode cX10_think 5 = .ok (.iload_n 3, 1) := by decide +kernel
theorem dX10_think_6 : decode cX10_think 6 = .ok (.invokevirtual 159, 3) := by decide +kernel
theorem dX10_think_9 : decode cX10_think 9 = .ok (.ifCond .eq 46, 3) := by decide +kernel
theorem dX10_think_12 : decode cX10_think 12 = .ok (.iload 4, 2) := by decide +kernel
theorem dX10_think_14 : decode cX10_think 14 = .ok (.iconst 0, 1) := by decide +kernel
theorem dX10_think_15 : decode cX10_think 15 = .ok (.aload_n 0, 1) := by decide +kernel
theorem dX10_think_16 : decode cX10_think 16 = .ok (.getfield 27, 3) := by decide +kernel
theorem dX10_think_19 : decode cX10_think 19 = .ok (.invokevirtual 239, 3) := by decide +kernel
theorem dX10_think_22 : decode cX10_think 22 = .ok (.invokestatic 152, 3) := by decide +kernel
theorem dX10_think_25 : decode cX10_think 25 = .ok (.ifCond .eq 30, 3) := by decide +kernel
theorem dX10_think_28 : decode cX10_think 28 = .ok (.iload 5, 2) := by decide +kernel
theorem dX10_think_30 : decode cX10_think 30 = .ok (.iconst 0, 1) := by decide +kernel
theorem dX10_think_31 : decode cX10_think 31 = .ok (.iconst 1, 1) := by decide +kernel
theorem dX10_think_32 : decode cX10_think 32 = .ok (.invokestatic 152, 3) := by decide +kernel
theorem dX10_think_35 : decode cX10_think 35 = .ok (.ifCond .eq 20, 3) := by decide +kernel
theorem dX10_think_38 : decode cX10_think 38 = .ok (.aload_n 0, 1) := by decide +kernel
theorem dX10_think_39 : decode cX10_think 39 = .ok (.getfield 27, 3) := by decide +kernel
theorem dX10_think_42 : decode cX10_think 42 = .ok (.iload 5, 2) := by decide +kernel
theorem dX10_think_44 : decode cX10_think 44 = .ok (.invokestatic 242, 3) := by decide +kernel
theorem dX10_think_47 : decode cX10_think 47 = .ok (.iload 6, 2) := by decide +kernel
theorem dX10_think_49 : decode cX10_think 49 = .ok (.invokevirtual 159, 3) := by decide +kernel
theorem dX10_think_52 : decode cX10_think 52 = .ok (.ifCond .ne 5, 3) := by decide +kernel
theorem dX10_think_55 : decode cX10_think 55 = .ok (.iconst (-1), 1) := by decide +kernel
theorem dX10_think_56 : decode cX10_think 56 = .ok (.ireturn, 1) := by decide +kernel
theorem dX10_think_57 : decode cX10_think 57 = .ok (.aload_n 0, 1) := by decide +kernel
theorem dX10_think_58 : decode cX10_think 58 = .ok (.iload_n 1, 1) := by decide +kernel
theorem dX10_think_59 : decode cX10_think 59 = .ok (.iload_n 2, 1) := by decide +kernel
theorem dX10_think_60 : decode cX10_think 60 = .ok (.iconst 1, 1) := by decide +kernel
theorem dX10_think_61 : decode cX10_think 61 = .ok (.invokevirtual 216, 3) := by decide +kernel
theorem dX10_think_64 : decode cX10_think 64 = .ok (.istore 7, 2) := by decide +kernel
theorem dX10_think_66 : decode cX10_think 66 = .ok (.iload 7, 2) := by decide +kernel
theorem dX10_think_68 : decode cX10_think 68 = .ok (.ifCond .eq 6, 3) := by decide +kernel
theorem dX10_think_71 : decode cX10_think 71 = .ok (.iload 7, 2) := by decide +kernel
theorem dX10_think_73 : decode cX10_think 73 = .ok (.ireturn, 1) := by decide +kernel
theorem dX10_think_74 : decode cX10_think 74 = .ok (.aload_n 0, 1) := by decide +kernel
theorem dX10_think_75 : decode cX10_think 75 = .ok (.getfield 53, 3) := by decide +kernel
theorem dX10_think_78 : decode cX10_think 78 = .ok (.aload_n 0, 1) := by decide +kernel
theorem dX10_think_79 : decode cX10_think 79 = .ok (.getfield 20, 3) := by decide +kernel
theorem dX10_think_82 : decode cX10_think 82 = .ok (.iload_n 1, 1) := by decide +kernel
theorem dX10_think_83 : decode cX10_think 83 = .ok (.aaload, 1) := by decide +kernel
theorem dX10_think_84 : decode cX10_think 84 = .ok (.aload_n 0, 1) := by decide +kernel
theorem dX10_think_85 : decode cX10_think 85 = .ok (.getfield 20, 3) := by decide +kernel
theorem dX10_think_88 : decode cX10_think 88 = .ok (.iload_n 2, 1) := by decide +kernel
theorem dX10_think_89 : decode cX10_think 89 = .ok (.aaload, 1) := by decide +kernel
theorem dX10_think_90 : decode cX10_think 90 = .ok (.iload_n 3, 1) := by decide +kernel
theorem dX10_think_91 : decode cX10_think 91 = .ok (.iload 4, 2) := by decide +kernel
theorem dX10_think_93 : decode cX10_think 93 = .ok (.invokevirtual 245, 3) := by decide +kernel
theorem dX10_think_96 : decode cX10_think 96 = .ok (.istore 8, 2) := by decide +kernel
theorem dX10_think_98 : decode cX10_think 98 = .ok (.iload 8, 2) := by decide +kernel
theorem dX10_think_100 : decode cX10_think 100 = .ok (.ifCond .ne 12, 3) := by decide +kernel
theorem dX10_think_103 : decode cX10_think 103 = .ok (.aload_n 0, 1) := by decide +kernel
theorem dX10_think_104 : decode cX10_think 104 = .ok (.getfield 84, 3) := by decide +kernel
theorem dX10_think_107 : decode cX10_think 107 = .ok (.iconst 4, 1) := by decide +kernel
theorem dX10_think_108 : decode cX10_think 108 = .ok (.invokevirtual 100, 3) := by decide +kernel
theorem dX10_think_111 : decode cX10_think 111 = .ok (.ireturn, 1) := by decide +kernel
theorem dX10_think_112 : decode cX10_think 112 = .ok (.iload 5, 2) := by decide +kernel
theorem dX10_think_114 : decode cX10_think 114 = .ok (.ifCond .ne 22, 3) := by decide +kernel
theorem dX10_think_117 : decode cX10_think 117 = .ok (.aload_n 0, 1) := by decide +kernel
theorem dX10_think_118 : decode cX10_think 118 = .ok (.getfield 53, 3) := by decide +kernel
theorem dX10_think_121 : decode cX10_think 121 = .ok (.aload_n 0, 1) := by decide +kernel
theorem dX10_think_122 : decode cX10_think 122 = .ok (.getfield 20, 3) := by decide +kernel
theorem dX10_think_125 : decode cX10_think 125 = .ok (.iload_n 1, 1) := by decide +kernel
theorem dX10_think_126 : decode cX10_think 126 = .ok (.aaload, 1) := by decide +kernel
theorem dX10_think_127 : decode cX10_think 127 = .ok (.iload_n 3, 1) := by decide +kernel
theorem dX10_think_128 : decode cX10_think 128 = .ok (.iload 4, 2) := by decide +kernel
theorem dX10_think_130 : decode cX10_think 130 = .ok (.invokevirtual 248, 3) := by decide +kernel
theorem dX10_think_133 : decode cX10_think 133 = .ok (.goto 5, 3) := by decide +kernel
theorem dX10_think_136 : decode cX10_think 136 = .ok (.iload 8, 2) := by decide +kernel
theorem dX10_think_138 : decode cX10_think 138 = .ok (.istore 9, 2) := by decide +kernel
theorem dX10_think_140 : decode cX10_think 140 = .ok (.iload 9, 2) := by decide +kernel
theorem dX10_think_142 : decode cX10_think 142 = .ok (.iload 6, 2) := by decide +kernel
theorem dX10_think_144 : decode cX10_think 144 = .ok (.invokestatic 251, 3) := by decide +kernel
theorem dX10_think_147 : decode cX10_think 147 = .ok (.ifCond .eq 20, 3) := by decide +kernel
theorem dX10_think_150 : decode cX10_think 150 = .ok (.aload_n 0, 1) := by decide +kernel
theorem dX10_think_151 : decode cX10_think 151 = .ok (.getfield 27, 3) := by decide +kernel
theorem dX10_think_154 : decode cX10_think 154 = .ok (.iload 5, 2) := by decide +kernel
theorem dX10_think_156 : decode cX10_think 156 = .ok (.invokestatic 242, 3) := by decide +kernel
theorem dX10_think_159 : decode cX10_think 159 = .ok (.iload 6, 2) := by decide +kernel
theorem dX10_think_161 : decode cX10_think 161 = .ok (.invokevirtual 162, 3) := by decide +kernel
theorem dX10_think_164 : decode cX10_think 164 = .ok (.goto 4, 3) := by decide +kernel
theorem dX10_think_167 : decode cX10_think 167 = .ok (.iconst 0, 1) := by decide +kernel
theorem dX10_think_168 : decode cX10_think 168 = .ok (.istore 10, 2) := by decide +kernel
theorem dX10_think_170 : decode cX10_think 170 = .ok (.aload_n 0, 1) := by decide +kernel
theorem dX10_think_171 : decode cX10_think 171 = .ok (.getfield 77, 3) := by decide +kernel
theorem dX10_think_174 : decode cX10_think 174 = .ok (.iload 10, 2) := by decide +kernel
theorem dX10_think_176 : decode cX10_think 176 = .ok (.i2l, 1) := by decide +kernel
theorem dX10_think_177 : decode cX10_think 177 = .ok (.aload_n 0, 1) := by decide +kernel
theorem dX10_think_178 : decode cX10_think 178 = .ok (.getfield 27, 3) := by decide +kernel
theorem dX10_think_181 : decode cX10_think 181 = .ok (.iload 5, 2) := by decide +kernel
theorem dX10_think_183 : decode cX10_think 183 = .ok (.invokestatic 242, 3) := by decide +kernel
theorem dX10_think_186 : decode cX10_think 186 = .ok (.iload 9, 2) := by decide +kernel
theorem dX10_think_188 : decode cX10_think 188 = .ok (.invokevirtual 254, 3) := by decide +kernel
theorem dX10_think_191 : decode cX10_think 191 = .ok (.i2l, 1) := by decide +kernel
theorem dX10_think_192 : decode cX10_think 192 = .ok (.invokevirtual 236, 3) := by decide +kernel
theorem dX10_think_195 : decode cX10_think 195 = .ok (.iconst 1, 1) := by decide +kernel
theorem dX10_think_196 : decode cX10_think 196 = .ok (.ireturn, 1) := by decide +kernel
set_option maxRecDepth 100000 in
set_option maxHeartbeats 4000000 in
theorem tb_X10_think_168 {K : sd_K} {E : sd_Env}   {r : (Int32 × sd_Mem)} (C : sd_C K E sd_LC RX10 cX10_think 11 (some .int))  : ∀ (M : sd_Mem) (x5 : Int32) (x9 : Int32) (xs0 : Int32), fn_X10_think_168 M x5 x9 xs0 = some r → sd_Z K rm_X10_think E sd_LC 11 (sd_QI K E sd_LC r.1 r.2) M 168 [(0, .ref (E.2.2 0)), (5, .int x5), (9, .int x9)] [.int xs0] := by
  intro M x5 x9 xs0 hF
  unfold fn_X10_think_168 at hF
  refine sd_istore [(10, .int xs0), (0, .ref (E.2.2 0)), (5, .int x5), (9, .int x9)] C dX10_think_168 (by decide) rfl rfl (n' := 170) ?_
  refine sd_aload_n C 1 dX10_think_170 rfl rfl rfl (n' := 171) ?_
  refine sd_g10_11 C sd_i0 sd_k0 sd_w339 dX10_think_171 rfl (n' := 174) ?_
  refine sd_iload C 0 dX10_think_174 rfl rfl (n' := 176) ?_
  refine sd_i2l C dX10_think_176 rfl (n' := 177) ?_
  refine sd_aload_n C 1 dX10_think_177 rfl rfl rfl (n' := 178) ?_
  refine sd_g10_3 C sd_i0 sd_k0 sd_w331 dX10_think_178 rfl (n' := 181) ?_
  refine sd_iload C 2 dX10_think_181 rfl rfl (n' := 183) ?_
  obtain ⟨q183, e183, hF⟩ := sd_bind hF
  refine sd_callSI [.int x5] [.ref (E.2.2 40), .long xs0.toInt64, .ref (E.2.2 96)] C (ct_X10_otherSide M x5  e183) sd_lX10_242 ⟨rfl, rfl, Nat.le_of_ble_eq_true rfl, Nat.le_of_ble_eq_true rfl⟩ rfl (Nat.le_of_ble_eq_true rfl) dX10_think_183 rfl (n' := 186) ?_
  refine sd_iload C 3 dX10_think_186 rfl rfl (n' := 188) ?_
  obtain ⟨q188, e188, hF⟩ := sd_bind hF
  refine sd_callVI [.int q183, .int x9] [.long xs0.toInt64, .ref (E.2.2 96)] C (ct_X5_weight M 40 q183 x9 sd_k40 e188) sd_lX10_254 ⟨rfl, rfl, Nat.le_of_ble_eq_true rfl, Nat.le_of_ble_eq_true rfl⟩ sd_i40 (sd_e6 sd_k40) rfl rfl rfl (Nat.le_of_ble_eq_true rfl) dX10_think_188 rfl (n' := 191) ?_
  refine sd_i2l C dX10_think_191 rfl (n' := 192) ?_
  obtain ⟨q192, e192, hF⟩ := sd_bind hF
  refine sd_callVV [.long xs0.toInt64, .long q188.toInt64] [] C (ct_X3_tell M xs0.toInt64 q188.toInt64  e192) sd_lX10_236 ⟨rfl, rfl, Nat.le_of_ble_eq_true rfl, Nat.le_of_ble_eq_true rfl⟩ sd_i96 (sd_e4 sd_k96) rfl rfl rfl (Nat.le_of_ble_eq_true rfl) dX10_think_192 rfl (n' := 195) ?_
  refine sd_iconst C (v := 1) dX10_think_195 rfl rfl (n' := 196) ?_
  exact sd_iret C dX10_think_196 (sd_fst hF) (sd_snd hF)
set_option maxRecDepth 100000 in
set_option maxHeartbeats 4000000 in
theorem tb_X10_think_138 {K : sd_K} {E : sd_Env}   {r : (Int32 × sd_Mem)} (C : sd_C K E sd_LC RX10 cX10_think 11 (some .int))  : ∀ (M : sd_Mem) (x5 : Int32) (x6 : Int32) (xs0 : Int32), fn_X10_think_138 M x5 x6 xs0 = some r → sd_Z K rm_X10_think E sd_LC 11 (sd_QI K E sd_LC r.1 r.2) M 138 [(0, .ref (E.2.2 0)), (5, .int x5), (6, .int x6)] [.int xs0] := by
  intro M x5 x6 xs0 hF
  unfold fn_X10_think_138 at hF
  refine sd_istore [(9, .int xs0), (0, .ref (E.2.2 0)), (5, .int x5), (6, .int x6)] C dX10_think_138 (by decide) rfl rfl (n' := 140) ?_
  refine sd_iload C 0 dX10_think_140 rfl rfl (n' := 142) ?_
  refine sd_iload C 3 dX10_think_142 rfl rfl (n' := 144) ?_
  obtain ⟨q144, e144, hF⟩ := sd_bind hF
  refine sd_callSI [.int xs0, .int x6] [] C (ct_X10_contains M xs0 x6  e144) sd_lX10_251 ⟨rfl, rfl, Nat.le_of_ble_eq_true rfl, Nat.le_of_ble_eq_true rfl⟩ rfl (Nat.le_of_ble_eq_true rfl) dX10_think_144 rfl (n' := 147) ?_
  refine sd_if_eq C (n' := 150) (tgt := 167) dX10_think_147 rfl rfl (fun c147 => ?_) (fun c147 => ?_)
  · replace hF := sd_pos hF c147
    refine sd_iconst C (v := 0) dX10_think_167 rfl rfl (n' := 168) ?_
    refine sd_sub [1, 2, 0] rfl ?_
    exact tb_X10_think_168 C M x5 xs0 (0 : Int32) hF
  · replace hF := sd_neg hF c147
    refine sd_aload_n C 1 dX10_think_150 rfl rfl rfl (n' := 151) ?_
    refine sd_g10_3 C sd_i0 sd_k0 sd_w331 dX10_think_151 rfl (n' := 154) ?_
    refine sd_iload C 2 dX10_think_154 rfl rfl (n' := 156) ?_
    obtain ⟨q156, e156, hF⟩ := sd_bind hF
    refine sd_callSI [.int x5] [.ref (E.2.2 40)] C (ct_X10_otherSide M x5  e156) sd_lX10_242 ⟨rfl, rfl, Nat.le_of_ble_eq_true rfl, Nat.le_of_ble_eq_true rfl⟩ rfl (Nat.le_of_ble_eq_true rfl) dX10_think_156 rfl (n' := 159) ?_
    refine sd_iload C 3 dX10_think_159 rfl rfl (n' := 161) ?_
    obtain ⟨q161, e161, hF⟩ := sd_bind hF
    refine sd_callVI [.int q156, .int x6] [] C (ct_X5_chance M 40 q156 x6 sd_k40 e161) sd_lX10_162 ⟨rfl, rfl, Nat.le_of_ble_eq_true rfl, Nat.le_of_ble_eq_true rfl⟩ sd_i40 (sd_e6 sd_k40) rfl rfl rfl (Nat.le_of_ble_eq_true rfl) dX10_think_161 rfl (n' := 164) ?_
    refine sd_goto C (tgt := 168) dX10_think_164 rfl ?_
    refine sd_sub [1, 2, 0] rfl ?_
    exact tb_X10_think_168 C M x5 xs0 q161 hF
set_option maxRecDepth 100000 in
set_option maxHeartbeats 4000000 in
theorem tb_X10_think_0 {K : sd_K} {E : sd_Env}   {r : (Int32 × sd_Mem)} (C : sd_C K E sd_LC RX10 cX10_think 11 (some .int))  : ∀ (M : sd_Mem) (x1 : Int32) (x2 : Int32) (x3 : Int32) (x4 : Int32) (x5 : Int32) (x6 : Int32), fn_X10_think_0 M x1 x2 x3 x4 x5 x6 = some r → sd_Z K rm_X10_think E sd_LC 11 (sd_QI K E sd_LC r.1 r.2) M 0 [(0, .ref (E.2.2 0)), (1, .int x1), (2, .int x2), (3, .int x3), (4, .int x4), (5, .int x5), (6, .int x6)] [] := by
  intro M x1 x2 x3 x4 x5 x6 hF
  unfold fn_X10_think_0 at hF
  refine sd_aload_n C 0 dX10_think_0 rfl rfl rfl (n' := 1) ?_
  refine sd_g10_3 C sd_i0 sd_k0 sd_w331 dX10_think_1 rfl (n' := 4) ?_
  refine sd_iconst C (v := 1) dX10_think_4 rfl rfl (n' := 5) ?_
  refine sd_iload_n C 3 dX10_think_5 rfl rfl rfl (n' := 6) ?_
  obtain ⟨q6, e6, hF⟩ := sd_bind hF
  refine sd_callVI [.int (1 : Int32), .int x3] [] C (ct_X5_hasSort M 40 (1 : Int32) x3 sd_k40 e6) sd_lX10_159 ⟨rfl, rfl, Nat.le_of_ble_eq_true rfl, Nat.le_of_ble_eq_true rfl⟩ sd_i40 (sd_e6 sd_k40) rfl rfl rfl (Nat.le_of_ble_eq_true rfl) dX10_think_6 rfl (n' := 9) ?_
  refine sd_if_eq C (n' := 12) (tgt := 55) dX10_think_9 rfl rfl (fun c9 => ?_) (fun c9 => ?_)
  · replace hF := sd_pos hF c9
    refine sd_iconst C (v := -1) dX10_think_55 rfl rfl (n' := 56) ?_
    exact sd_iret C dX10_think_56 (sd_fst hF) (sd_snd hF)
  · replace hF := sd_neg hF c9
    refine sd_iload C 4 dX10_think_12 rfl rfl (n' := 14) ?_
    refine sd_iconst C (v := 0) dX10_think_14 rfl rfl (n' := 15) ?_
    refine sd_aload_n C 0 dX10_think_15 rfl rfl rfl (n' := 16) ?_
    refine sd_g10_3 C sd_i0 sd_k0 sd_w331 dX10_think_16 rfl (n' := 19) ?_
    obtain ⟨q19, e19, hF⟩ := sd_bind hF
    refine sd_callVI [] [.int (0 : Int32), .int x4] C (ct_X5_last M 40 sd_k40 e19) sd_lX10_239 ⟨rfl, rfl, Nat.le_of_ble_eq_true rfl, Nat.le_of_ble_eq_true rfl⟩ sd_i40 (sd_e6 sd_k40) rfl rfl rfl (Nat.le_of_ble_eq_true rfl) dX10_think_19 rfl (n' := 22) ?_
    obtain ⟨q22, e22, hF⟩ := sd_bind hF
    refine sd_callSI [.int x4, .int (0 : Int32), .int q19] [] C (ct_X10_within M x4 (0 : Int32) q19  e22) sd_lX10_152 ⟨rfl, rfl, Nat.le_of_ble_eq_true rfl, Nat.le_of_ble_eq_true rfl⟩ rfl (Nat.le_of_ble_eq_true rfl) dX10_think_22 rfl (n' := 25) ?_
    refine sd_if_eq C (n' := 28) (tgt := 55) dX10_think_25 rfl rfl (fun c25 => ?_) (fun c25 => ?_)
    · replace hF := sd_pos hF c25
      refine sd_iconst C (v := -1) dX10_think_55 rfl rfl (n' := 56) ?_
      exact sd_iret C dX10_think_56 (sd_fst hF) (sd_snd hF)
    · replace hF := sd_neg hF c25
      refine sd_iload C 5 dX10_think_28 rfl rfl (n' := 30) ?_
      refine sd_iconst C (v := 0) dX10_think_30 rfl rfl (n' := 31) ?_
      refine sd_iconst C (v := 1) dX10_think_31 rfl rfl (n' := 32) ?_
      obtain ⟨q32, e32, hF⟩ := sd_bind hF
      refine sd_callSI [.int x5, .int (0 : Int32), .int (1 : Int32)] [] C (ct_X10_within M x5 (0 : Int32) (1 : Int32)  e32) sd_lX10_152 ⟨rfl, rfl, Nat.le_of_ble_eq_true rfl, Nat.le_of_ble_eq_true rfl⟩ rfl (Nat.le_of_ble_eq_true rfl) dX10_think_32 rfl (n' := 35) ?_
      refine sd_if_eq C (n' := 38) (tgt := 55) dX10_think_35 rfl rfl (fun c35 => ?_) (fun c35 => ?_)
      · replace hF := sd_pos hF c35
        refine sd_iconst C (v := -1) dX10_think_55 rfl rfl (n' := 56) ?_
        exact sd_iret C dX10_think_56 (sd_fst hF) (sd_snd hF)
      · replace hF := sd_neg hF c35
        refine sd_aload_n C 0 dX10_think_38 rfl rfl rfl (n' := 39) ?_
        refine sd_g10_3 C sd_i0 sd_k0 sd_w331 dX10_think_39 rfl (n' := 42) ?_
        refine sd_iload C 5 dX10_think_42 rfl rfl (n' := 44) ?_
        obtain ⟨q44, e44, hF⟩ := sd_bind hF
        refine sd_callSI [.int x5] [.ref (E.2.2 40)] C (ct_X10_otherSide M x5  e44) sd_lX10_242 ⟨rfl, rfl, Nat.le_of_ble_eq_true rfl, Nat.le_of_ble_eq_true rfl⟩ rfl (Nat.le_of_ble_eq_true rfl) dX10_think_44 rfl (n' := 47) ?_
        refine sd_iload C 6 dX10_think_47 rfl rfl (n' := 49) ?_
        obtain ⟨q49, e49, hF⟩ := sd_bind hF
        refine sd_callVI [.int q44, .int x6] [] C (ct_X5_hasSort M 40 q44 x6 sd_k40 e49) sd_lX10_159 ⟨rfl, rfl, Nat.le_of_ble_eq_true rfl, Nat.le_of_ble_eq_true rfl⟩ sd_i40 (sd_e6 sd_k40) rfl rfl rfl (Nat.le_of_ble_eq_true rfl) dX10_think_49 rfl (n' := 52) ?_
        refine sd_if_ne C (n' := 55) (tgt := 57) dX10_think_52 rfl rfl (fun c52 => ?_) (fun c52 => ?_)
        · replace hF := sd_neg hF c52
          refine sd_aload_n C 0 dX10_think_57 rfl rfl rfl (n' := 58) ?_
          refine sd_iload_n C 1 dX10_think_58 rfl rfl rfl (n' := 59) ?_
          refine sd_iload_n C 2 dX10_think_59 rfl rfl rfl (n' := 60) ?_
          refine sd_iconst C (v := 1) dX10_think_60 rfl rfl (n' := 61) ?_
          obtain ⟨q61, e61, hF⟩ := sd_bind hF
          refine sd_callVI [.int x1, .int x2, .int (1 : Int32)] [] C (ct_X10_refusePair M x1 x2 (1 : Int32)  e61) sd_lX10_216 ⟨rfl, rfl, Nat.le_of_ble_eq_true rfl, Nat.le_of_ble_eq_true rfl⟩ sd_i0 (sd_e11 sd_k0) rfl rfl rfl (Nat.le_of_ble_eq_true rfl) dX10_think_61 rfl (n' := 64) ?_
          refine sd_istore [(7, .int q61.1), (0, .ref (E.2.2 0)), (1, .int x1), (2, .int x2), (3, .int x3), (4, .int x4), (5, .int x5), (6, .int x6)] C dX10_think_64 (by decide) rfl rfl (n' := 66) ?_
          refine sd_iload C 0 dX10_think_66 rfl rfl (n' := 68) ?_
          refine sd_if_eq C (n' := 71) (tgt := 74) dX10_think_68 rfl rfl (fun c68 => ?_) (fun c68 => ?_)
          · replace hF := sd_pos hF c68
            refine sd_aload_n C 1 dX10_think_74 rfl rfl rfl (n' := 75) ?_
            refine sd_g10_7 C sd_i0 sd_k0 sd_w335 dX10_think_75 rfl (n' := 78) ?_
            refine sd_aload_n C 1 dX10_think_78 rfl rfl rfl (n' := 79) ?_
            refine sd_g10_2 C sd_i0 sd_k0 sd_w330 dX10_think_79 rfl (n' := 82) ?_
            refine sd_iload_n C 2 dX10_think_82 rfl rfl rfl (n' := 83) ?_
            obtain ⟨b83, hF⟩ := sd_ok hF
            refine sd_wald C sd_i23 sd_k23 sd_n23 b83 dX10_think_83 rfl (n' := 84) ?_
            refine sd_aload_n C 1 dX10_think_84 rfl rfl rfl (n' := 85) ?_
            refine sd_g10_2 C sd_i0 sd_k0 sd_w330 dX10_think_85 rfl (n' := 88) ?_
            refine sd_iload_n C 3 dX10_think_88 rfl rfl rfl (n' := 89) ?_
            obtain ⟨b89, hF⟩ := sd_ok hF
            refine sd_wald C sd_i23 sd_k23 sd_n23 b89 dX10_think_89 rfl (n' := 90) ?_
            refine sd_iload_n C 4 dX10_think_90 rfl rfl rfl (n' := 91) ?_
            refine sd_iload C 5 dX10_think_91 rfl rfl (n' := 93) ?_
            obtain ⟨q93, e93, hF⟩ := sd_bind hF
            refine sd_callVI [.ref (E.2.2 (23 + 1 + 2 * x1.toNatClampNeg)), .ref (E.2.2 (23 + 1 + 2 * x2.toNatClampNeg)), .int x3, .int x4] [] C (ct_X7_stillOut q61.2 61 (23 + 1 + 2 * x1.toNatClampNeg) (23 + 1 + 2 * x2.toNatClampNeg) x3 x4 sd_k61 ((sd_r23 _ (sd_in_lt b83)).1) ((sd_r23 _ (sd_in_lt b89)).1) e93) sd_lX10_245 ⟨rfl, rfl, Nat.le_of_ble_eq_true rfl, Nat.le_of_ble_eq_true rfl⟩ sd_i61 (sd_e8 sd_k61) rfl rfl rfl (Nat.le_of_ble_eq_true rfl) dX10_think_93 rfl (n' := 96) ?_
            refine sd_istore [(8, .int q93), (7, .int q61.1), (0, .ref (E.2.2 0)), (1, .int x1), (2, .int x2), (3, .int x3), (4, .int x4), (5, .int x5), (6, .int x6)] C dX10_think_96 (by decide) rfl rfl (n' := 98) ?_
            refine sd_iload C 0 dX10_think_98 rfl rfl (n' := 100) ?_
            refine sd_if_ne C (n' := 103) (tgt := 112) dX10_think_100 rfl rfl (fun c100 => ?_) (fun c100 => ?_)
            · replace hF := sd_neg hF c100
              refine sd_iload C 7 dX10_think_112 rfl rfl (n' := 114) ?_
              refine sd_if_ne C (n' := 117) (tgt := 136) dX10_think_114 rfl rfl (fun c114 => ?_) (fun c114 => ?_)
              · replace hF := sd_neg hF c114
                refine sd_iload C 0 dX10_think_136 rfl rfl (n' := 138) ?_
                refine sd_sub [2, 7, 8] rfl ?_
                exact tb_X10_think_138 C q61.2 x5 x6 q93 hF
              · replace hF := sd_pos hF c114
                refine sd_aload_n C 2 dX10_think_117 rfl rfl rfl (n' := 118) ?_
                refine sd_g10_7 C sd_i0 sd_k0 sd_w335 dX10_think_118 rfl (n' := 121) ?_
                refine sd_aload_n C 2 dX10_think_121 rfl rfl rfl (n' := 122) ?_
                refine sd_g10_2 C sd_i0 sd_k0 sd_w330 dX10_think_122 rfl (n' := 125) ?_
                refine sd_iload_n C 3 dX10_think_125 rfl rfl rfl (n' := 126) ?_
                obtain ⟨b126, hF⟩ := sd_ok hF
                refine sd_wald C sd_i23 sd_k23 sd_n23 b126 dX10_think_126 rfl (n' := 127) ?_
                refine sd_iload_n C 5 dX10_think_127 rfl rfl rfl (n' := 128) ?_
                refine sd_iload C 6 dX10_think_128 rfl rfl (n' := 130) ?_
                obtain ⟨q130, e130, hF⟩ := sd_bind hF
                refine sd_callVI [.ref (E.2.2 (23 + 1 + 2 * x1.toNatClampNeg)), .int x3, .int x4] [] C (ct_X7_offeringAlike q61.2 61 (23 + 1 + 2 * x1.toNatClampNeg) x3 x4 sd_k61 ((sd_r23 _ (sd_in_lt b126)).1) e130) sd_lX10_248 ⟨rfl, rfl, Nat.le_of_ble_eq_true rfl, Nat.le_of_ble_eq_true rfl⟩ sd_i61 (sd_e8 sd_k61) rfl rfl rfl (Nat.le_of_ble_eq_true rfl) dX10_think_130 rfl (n' := 133) ?_
                refine sd_goto C (tgt := 138) dX10_think_133 rfl ?_
                refine sd_sub [2, 7, 8] rfl ?_
                exact tb_X10_think_138 C q61.2 x5 x6 q130 hF
            · replace hF := sd_pos hF c100
              refine sd_aload_n C 2 dX10_think_103 rfl rfl rfl (n' := 104) ?_
              refine sd_g10_12 C sd_i0 sd_k0 sd_w340 dX10_think_104 rfl (n' := 107) ?_
              refine sd_iconst C (v := 4) dX10_think_107 rfl rfl (n' := 108) ?_
              obtain ⟨q108, e108, hF⟩ := sd_bind hF
              refine sd_callVI [.int (4 : Int32)] [] C (ct_X2_tell q61.2 (4 : Int32)  e108) sd_lX10_100 ⟨rfl, rfl, Nat.le_of_ble_eq_true rfl, Nat.le_of_ble_eq_true rfl⟩ sd_i97 (sd_e3 sd_k97) rfl rfl rfl (Nat.le_of_ble_eq_true rfl) dX10_think_108 rfl (n' := 111) ?_
              exact sd_iret C dX10_think_111 (sd_fst hF) (sd_snd hF)
          · replace hF := sd_neg hF c68
            refine sd_iload C 0 dX10_think_71 rfl rfl (n' := 73) ?_
            exact sd_iret C dX10_think_73 (sd_fst hF) (sd_snd hF)
        · replace hF := sd_pos hF c52
          refine sd_iconst C (v := -1) dX10_think_55 rfl rfl (n' := 56) ?_
          exact sd_iret C dX10_think_56 (sd_fst hF) (sd_snd hF)
theorem ct_X10_think {l : Launch} {E : sd_Env} (M : sd_Mem) (x1 : Int32) (x2 : Int32) (x3 : Int32) (x4 : Int32) (x5 : Int32) (x6 : Int32)  {r : (Int32 × sd_Mem)} (hF : fn_X10_think M x1 x2 x3 x4 x5 x6 = some r) : sd_MI l E sd_LC yX10_think cX10_think 11 (some .int) rm_X10_think [.ref (E.2.2 0), .int x1, .int x2, .int x3, .int x4, .int x5, .int x6] M r.1 r.2 := sd_ent0 (by decide +kernel) (Nat.le_of_ble_eq_true rfl) (fun p e s m below meth c C => tb_X10_think_0 C M x1 x2 x3 x4 x5 x6 hF)
theorem dX7_pairWeight_0 : decode cX7_pairWeight 0 = .ok (.aload_n 0, 1) := by decide +kernel
theorem dX7_pairWeight_1 : decode cX7_pairWeight 1 = .ok (.getfield 9, 3) := by decide +kernel
theorem dX7_pairWeight_4 : decode cX7_pairWeight 4 = .ok (.iconst 1, 1) := by decide +kernel
theorem dX7_pairWeight_5 : decode cX7_pairWeight 5 = .ok (.iload_n 1, 1) := by decide +kernel
theorem dX7_pairWeight_6 : decode cX7_pairWeight 6 = .ok (.invokevirtual 48, 3) := by decide +kernel
theorem dX7_pairWeight_9 : decode cX7_pairWeight 9 = .ok (.i2l, 1) := by decide +kernel
theorem dX7_pairWeight_10 : decode cX7_pairWeight 10 = .ok (.aload_n 0, 1) := by decide +kernel
theorem dX7_pairWeight_11 : decode cX7_pairWeight 11 = .ok (.getfield 9, 3) := by decide +kernel
theorem dX7_pairWeight_14 : decode cX7_pairWeight 14 = .ok (.iconst 0, 1) := by decide +kernel
theorem dX7_pairWeight_15 : decode cX7_pairWeight 15 = .ok (.iload_n 2, 1) := by decide +kernel
theorem dX7_pairWeight_16 : decode cX7_pairWeight 16 = .ok (.invokevirtual 48, 3) := by decide +kernel
theorem dX7_pairWeight_19 : decode cX7_pairWeight 19 = .ok (.i2l, 1) := by decide +kernel
theorem dX7_pairWeight_20 : decode cX7_pairWeight 20 = .ok (.lmul, 1) := by decide +kernel
theorem dX7_pairWeight_21 : decode cX7_pairWeight 21 = .ok (.lreturn, 1) := by decide +kernel
set_option maxRecDepth 100000 in
set_option maxHeartbeats 4000000 in
theorem tb_X7_pairWeight_0 {K : sd_K} {E : sd_Env} {M : sd_Mem} {h0 : Nat} {r : Int64} (C : sd_C K E sd_LC RX7 cX7_pairWeight 3 (some .long)) (k0 : sd_kd h0 = 8) : ∀ (x1 : Int32) (x2 : Int32), fn_X7_pairWeight_0 M h0 x1 x2 = some r → sd_Z K rm_X7_pairWeight E sd_LC 3 (sd_QL K E sd_LC r M) M 0 [(0, .ref (E.2.2 h0)), (1, .int x1), (2, .int x2)] [] := by
  intro x1 x2 hF
  unfold fn_X7_pairWeight_0 at hF
  refine sd_aload_n C 0 dX7_pairWeight_0 rfl rfl rfl (n' := 1) ?_
  refine sd_g7_0 C (sd_mC (sd_m8 k0)) k0 sd_w214 dX7_pairWeight_1 rfl (n' := 4) ?_
  refine sd_iconst C (v := 1) dX7_pairWeight_4 rfl rfl (n' := 5) ?_
  refine sd_iload_n C 1 dX7_pairWeight_5 rfl rfl rfl (n' := 6) ?_
  obtain ⟨q6, e6, hF⟩ := sd_bind hF
  refine sd_callVI [.int (1 : Int32), .int x1] [] C (ct_X5_chance M 40 (1 : Int32) x1 sd_k40 e6) sd_lX7_48 ⟨rfl, rfl, Nat.le_of_ble_eq_true rfl, Nat.le_of_ble_eq_true rfl⟩ sd_i40 (sd_e6 sd_k40) rfl rfl rfl (Nat.le_of_ble_eq_true rfl) dX7_pairWeight_6 rfl (n' := 9) ?_
  refine sd_i2l C dX7_pairWeight_9 rfl (n' := 10) ?_
  refine sd_aload_n C 0 dX7_pairWeight_10 rfl rfl rfl (n' := 11) ?_
  refine sd_g7_0 C (sd_mC (sd_m8 k0)) k0 sd_w214 dX7_pairWeight_11 rfl (n' := 14) ?_
  refine sd_iconst C (v := 0) dX7_pairWeight_14 rfl rfl (n' := 15) ?_
  refine sd_iload_n C 2 dX7_pairWeight_15 rfl rfl rfl (n' := 16) ?_
  obtain ⟨q16, e16, hF⟩ := sd_bind hF
  refine sd_callVI [.int (0 : Int32), .int x2] [.long q6.toInt64] C (ct_X5_chance M 40 (0 : Int32) x2 sd_k40 e16) sd_lX7_48 ⟨rfl, rfl, Nat.le_of_ble_eq_true rfl, Nat.le_of_ble_eq_true rfl⟩ sd_i40 (sd_e6 sd_k40) rfl rfl rfl (Nat.le_of_ble_eq_true rfl) dX7_pairWeight_16 rfl (n' := 19) ?_
  refine sd_i2l C dX7_pairWeight_19 rfl (n' := 20) ?_
  refine sd_lmul C dX7_pairWeight_20 rfl (n' := 21) ?_
  exact sd_lret C dX7_pairWeight_21 (Option.some.inj hF) rfl
theorem ct_X7_pairWeight {l : Launch} {E : sd_Env} (M : sd_Mem) (h0 : Nat) (x1 : Int32) (x2 : Int32) (k0 : sd_kd h0 = 8) {r : Int64} (hF : fn_X7_pairWeight M h0 x1 x2 = some r) : sd_ML l E sd_LC yX7_pairWeight cX7_pairWeight 3 (some .long) rm_X7_pairWeight [.ref (E.2.2 h0), .int x1, .int x2] M r M := sd_ent0 (by decide +kernel) (Nat.le_of_ble_eq_true rfl) (fun p e s m below meth c C => tb_X7_pairWeight_0 C k0 x1 x2 hF)
theorem dX7_endingWeight_0 : decode cX7_endingWeight 0 = .ok (.lconst 0, 1) := by decide +kernel
theorem dX7_endingWeight_1 : decode cX7_endingWeight 1 = .ok (.lstore 4, 2) := by decide +kernel
theorem dX7_endingWeight_3 : decode cX7_endingWeight 3 = .ok (.iconst 0, 1) := by decide +kernel
theorem dX7_endingWeight_4 : decode cX7_endingWeight 4 = .ok (.istore 6, 2) := by decide +kernel
theorem dX7_endingWeight_6 : decode cX7_endingWeight 6 = .ok (.iload 6, 2) := by decide +kernel
theorem dX7_endingWeight_8 : decode cX7_endingWeight 8 = .ok (.aload_n 0, 1) := by decide +kernel
theorem dX7_endingWeight_9 : decode cX7_endingWeight 9 = .ok (.getfield 9, 3) := by decide +kernel
theorem dX7_endingWeight_12 : decode cX7_endingWeight 12 = .ok (.iconst 1, 1) := by decide +kernel
theorem dX7_endingWeight_13 : decode cX7_endingWeight 13 = .ok (.invokevirtual 44, 3) := by decide +kernel
theorem dX7_endingWeight_16 : decode cX7_endingWeight 16 = .ok (.if_icmp .ge 62, 3) := by decide +kernel
theorem dX7_endingWeight_19 : decode cX7_endingWeight 19 = .ok (.iconst 0, 1) := by decide +kernel
theorem dX7_endingWeight_20 : decode cX7_endingWeight 20 = .ok (.istore 7, 2) := by decide +kernel
theorem dX7_endingWeight_22 : decode cX7_endingWeight 22 = .ok (.iload 7, 2) := by decide +kernel
theorem dX7_endingWeight_24 : decode cX7_endingWeight 24 = .ok (.aload_n 0, 1) := by decide +kernel
theorem dX7_endingWeight_25 : decode cX7_endingWeight 25 = .ok (.getfield 9, 3) := by decide +kernel
theorem dX7_endingWeight_28 : decode cX7_endingWeight 28 = .ok (.iconst 0, 1) := by decide +kernel
theorem dX7_endingWeight_29 : decode cX7_endingWeight 29 = .ok (.invokevirtual 44, 3) := by decide +kernel
theorem dX7_endingWeight_32 : decode cX7_endingWeight 32 = .ok (.if_icmp .ge 40, 3) := by decide +kernel
theorem dX7_endingWeight_35 : decode cX7_endingWeight 35 = .ok (.lload 4, 2) := by decide +kernel
theorem dX7_endingWeight_37 : decode cX7_endingWeight 37 = .ok (.aload_n 0, 1) := by decide +kernel
theorem dX7_endingWeight_38 : decode cX7_endingWeight 38 = .ok (.aload_n 1, 1) := by decide +kernel
theorem dX7_endingWeight_39 : decode cX7_endingWeight 39 = .ok (.aload_n 2, 1) := by decide +kernel
theorem dX7_endingWeight_40 : decode cX7_endingWeight 40 = .ok (.iload 6, 2) := by decide +kernel
theorem dX7_endingWeight_42 : decode cX7_endingWeight 42 = .ok (.iload 7, 2) := by decide +kernel
theorem dX7_endingWeight_44 : decode cX7_endingWeight 44 = .ok (.invokevirtual 58, 3) := by decide +kernel
theorem dX7_endingWeight_47 : decode cX7_endingWeight 47 = .ok (.iload_n 3, 1) := by decide +kernel
theorem dX7_endingWeight_48 : decode cX7_endingWeight 48 = .ok (.if_icmp .ne 14, 3) := by decide +kernel
theorem dX7_endingWeight_51 : decode cX7_endingWeight 51 = .ok (.aload_n 0, 1) := by decide +kernel
theorem dX7_endingWeight_52 : decode cX7_endingWeight 52 = .ok (.iload 6, 2) := by decide +kernel
theorem dX7_endingWeight_54 : decode cX7_endingWeight 54 = .ok (.iload 7, 2) := by decide +kernel
theorem dX7_endingWeight_56 : decode cX7_endingWeight 56 = .ok (.invokevirtual 96, 3) := by decide +kernel
theorem dX7_endingWeight_59 : decode cX7_endingWeight 59 = .ok (.goto 4, 3) := by decide +kernel
theorem dX7_endingWeight_62 : decode cX7_endingWeight 62 = .ok (.lconst 0, 1) := by decide +kernel
theorem dX7_endingWeight_63 : decode cX7_endingWeight 63 = .ok (.ladd, 1) := by decide +kernel
theorem dX7_endingWeight_64 : decode cX7_endingWeight 64 = .ok (.lstore 4, 2) := by decide +kernel
theorem dX7_endingWeight_66 : decode cX7_endingWeight 66 = .ok (.iinc 7 1, 3) := by decide +kernel
theorem dX7_endingWeight_69 : decode cX7_endingWeight 69 = .ok (.goto (-47), 3) := by decide +kernel
theorem dX7_endingWeight_72 : decode cX7_endingWeight 72 = .ok (.iinc 6 1, 3) := by decide +kernel
theorem dX7_endingWeight_75 : decode cX7_endingWeight 75 = .ok (.goto (-69), 3) := by decide +kernel
theorem dX7_endingWeight_78 : decode cX7_endingWeight 78 = .ok (.lload 4, 2) := by decide +kernel
theorem dX7_endingWeight_80 : decode cX7_endingWeight 80 = .ok (.lreturn, 1) := by decide +kernel
set_option maxRecDepth 100000 in
set_option maxHeartbeats 4000000 in
theorem tb_X7_endingWeight_22 {K : sd_K} {E : sd_Env} {M : sd_Mem} {h0 h1 h2 : Nat} {r : Int64} (C : sd_C K E sd_LC RX7 cX7_endingWeight 8 (some .long)) (k0 : sd_kd h0 = 8) (k1 : sd_kd h1 = 10) (k2 : sd_kd h2 = 10) {k6 : Int32 → Int64 → Int32 → Option Int64} (hk6 : ∀ (x3 : Int32) (l4 : Int64) (x6 : Int32), k6 x3 l4 x6 = some r → sd_Z K rm_X7_endingWeight E sd_LC 8 (sd_QL K E sd_LC r M) M 6 [(0, .ref (E.2.2 h0)), (1, .ref (E.2.2 h1)), (2, .ref (E.2.2 h2)), (3, .int x3), (4, .long l4), (6, .int x6)] []) : ∀ (n : Nat), ∀ (x3 : Int32) (l4 : Int64) (x6 : Int32) (x7 : Int32), fn_X7_endingWeight_22 M h0 h1 h2 k6 n x3 l4 x6 x7 = some r → sd_Z K rm_X7_endingWeight E sd_LC 8 (sd_QL K E sd_LC r M) M 22 [(0, .ref (E.2.2 h0)), (1, .ref (E.2.2 h1)), (2, .ref (E.2.2 h2)), (3, .int x3), (4, .long l4), (6, .int x6), (7, .int x7)] [] := by
  intro n
  induction n with
  | zero => intro x3 l4 x6 x7 hF; cases hF
  | succ n ih =>
    intro x3 l4 x6 x7 hF
    unfold fn_X7_endingWeight_22 at hF
    refine sd_iload C 6 dX7_endingWeight_22 rfl rfl (n' := 24) ?_
    refine sd_aload_n C 0 dX7_endingWeight_24 rfl rfl rfl (n' := 25) ?_
    refine sd_g7_0 C (sd_mC (sd_m8 k0)) k0 sd_w214 dX7_endingWeight_25 rfl (n' := 28) ?_
    refine sd_iconst C (v := 0) dX7_endingWeight_28 rfl rfl (n' := 29) ?_
    obtain ⟨q29, e29, hF⟩ := sd_bind hF
    refine sd_callVI [.int (0 : Int32)] [.int x7] C (ct_X5_sorts M 40 (0 : Int32) sd_k40 e29) sd_lX7_44 ⟨rfl, rfl, Nat.le_of_ble_eq_true rfl, Nat.le_of_ble_eq_true rfl⟩ sd_i40 (sd_e6 sd_k40) rfl rfl rfl (Nat.le_of_ble_eq_true rfl) dX7_endingWeight_29 rfl (n' := 32) ?_
    refine sd_icmp_ge C (n' := 35) (tgt := 72) dX7_endingWeight_32 rfl rfl (fun c32 => ?_) (fun c32 => ?_)
    · replace hF := sd_pos hF c32
      refine sd_iinc [(6, .int (x6 + (1 : Int32))), (0, .ref (E.2.2 h0)), (1, .ref (E.2.2 h1)), (2, .ref (E.2.2 h2)), (3, .int x3), (4, .long l4), (7, .int x7)] 5 C dX7_endingWeight_72 rfl rfl (by decide) rfl rfl (n' := 75) ?_
      refine sd_goto C (tgt := 6) dX7_endingWeight_75 rfl ?_
      refine sd_sub [1, 2, 3, 4, 5, 0] rfl ?_
      exact hk6 x3 l4 (x6 + (1 : Int32)) hF
    · replace hF := sd_neg hF c32
      refine sd_lload C 4 dX7_endingWeight_35 rfl rfl (n' := 37) ?_
      refine sd_aload_n C 0 dX7_endingWeight_37 rfl rfl rfl (n' := 38) ?_
      refine sd_aload_n C 1 dX7_endingWeight_38 rfl rfl rfl (n' := 39) ?_
      refine sd_aload_n C 2 dX7_endingWeight_39 rfl rfl rfl (n' := 40) ?_
      refine sd_iload C 5 dX7_endingWeight_40 rfl rfl (n' := 42) ?_
      refine sd_iload C 6 dX7_endingWeight_42 rfl rfl (n' := 44) ?_
      obtain ⟨q44, e44, hF⟩ := sd_bind hF
      refine sd_callVI [.ref (E.2.2 h1), .ref (E.2.2 h2), .int x6, .int x7] [.long l4] C (ct_X7_settlingDay M h0 h1 h2 x6 x7 k0 k1 k2 e44) sd_lX7_58 ⟨rfl, rfl, Nat.le_of_ble_eq_true rfl, Nat.le_of_ble_eq_true rfl⟩ (sd_mC (sd_m8 k0)) (sd_e8 k0) rfl rfl rfl (Nat.le_of_ble_eq_true rfl) dX7_endingWeight_44 rfl (n' := 47) ?_
      refine sd_iload_n C 3 dX7_endingWeight_47 rfl rfl rfl (n' := 48) ?_
      refine sd_icmp_ne C (n' := 51) (tgt := 62) dX7_endingWeight_48 rfl rfl (fun c48 => ?_) (fun c48 => ?_)
      · replace hF := sd_neg hF c48
        refine sd_lconst C (v := 0) dX7_endingWeight_62 rfl rfl (n' := 63) ?_
        refine sd_ladd C dX7_endingWeight_63 rfl (n' := 64) ?_
        refine sd_lstore [(4, .long (l4 + (0 : Int64))), (0, .ref (E.2.2 h0)), (1, .ref (E.2.2 h1)), (2, .ref (E.2.2 h2)), (3, .int x3), (6, .int x6), (7, .int x7)] C dX7_endingWeight_64 (by decide) rfl rfl (n' := 66) ?_
        refine sd_iinc [(7, .int (x7 + (1 : Int32))), (4, .long (l4 + (0 : Int64))), (0, .ref (E.2.2 h0)), (1, .ref (E.2.2 h1)), (2, .ref (E.2.2 h2)), (3, .int x3), (6, .int x6)] 6 C dX7_endingWeight_66 rfl rfl (by decide) rfl rfl (n' := 69) ?_
        refine sd_goto C (tgt := 22) dX7_endingWeight_69 rfl ?_
        refine sd_sub [2, 3, 4, 5, 1, 6, 0] rfl ?_
        exact ih x3 (l4 + (0 : Int64)) x6 (x7 + (1 : Int32)) hF
      · replace hF := sd_pos hF c48
        refine sd_aload_n C 0 dX7_endingWeight_51 rfl rfl rfl (n' := 52) ?_
        refine sd_iload C 5 dX7_endingWeight_52 rfl rfl (n' := 54) ?_
        refine sd_iload C 6 dX7_endingWeight_54 rfl rfl (n' := 56) ?_
        obtain ⟨q56, e56, hF⟩ := sd_bind hF
        refine sd_callVL [.int x6, .int x7] [.long l4] C (ct_X7_pairWeight M h0 x6 x7 k0 e56) sd_lX7_96 ⟨rfl, rfl, Nat.le_of_ble_eq_true rfl, Nat.le_of_ble_eq_true rfl⟩ (sd_mC (sd_m8 k0)) (sd_e8 k0) rfl rfl rfl (Nat.le_of_ble_eq_true rfl) dX7_endingWeight_56 rfl (n' := 59) ?_
        refine sd_goto C (tgt := 63) dX7_endingWeight_59 rfl ?_
        refine sd_ladd C dX7_endingWeight_63 rfl (n' := 64) ?_
        refine sd_lstore [(4, .long (l4 + q56)), (0, .ref (E.2.2 h0)), (1, .ref (E.2.2 h1)), (2, .ref (E.2.2 h2)), (3, .int x3), (6, .int x6), (7, .int x7)] C dX7_endingWeight_64 (by decide) rfl rfl (n' := 66) ?_
        refine sd_iinc [(7, .int (x7 + (1 : Int32))), (4, .long (l4 + q56)), (0, .ref (E.2.2 h0)), (1, .ref (E.2.2 h1)), (2, .ref (E.2.2 h2)), (3, .int x3), (6, .int x6)] 6 C dX7_endingWeight_66 rfl rfl (by decide) rfl rfl (n' := 69) ?_
        refine sd_goto C (tgt := 22) dX7_endingWeight_69 rfl ?_
        refine sd_sub [2, 3, 4, 5, 1, 6, 0] rfl ?_
        exact ih x3 (l4 + q56) x6 (x7 + (1 : Int32)) hF
set_option maxRecDepth 100000 in
set_option maxHeartbeats 4000000 in
theorem tb_X7_endingWeight_6 {K : sd_K} {E : sd_Env} {M : sd_Mem} {h0 h1 h2 : Nat} {r : Int64} (C : sd_C K E sd_LC RX7 cX7_endingWeight 8 (some .long)) (k0 : sd_kd h0 = 8) (k1 : sd_kd h1 = 10) (k2 : sd_kd h2 = 10) : ∀ (n : Nat), ∀ (x3 : Int32) (l4 : Int64) (x6 : Int32), fn_X7_endingWeight_6 M h0 h1 h2 n x3 l4 x6 = some r → sd_Z K rm_X7_endingWeight E sd_LC 8 (sd_QL K E sd_LC r M) M 6 [(0, .ref (E.2.2 h0)), (1, .ref (E.2.2 h1)), (2, .ref (E.2.2 h2)), (3, .int x3), (4, .long l4), (6, .int x6)] [] := by
  intro n
  induction n with
  | zero => intro x3 l4 x6 hF; cases hF
  | succ n ih =>
    intro x3 l4 x6 hF
    unfold fn_X7_endingWeight_6 at hF
    refine sd_iload C 5 dX7_endingWeight_6 rfl rfl (n' := 8) ?_
    refine sd_aload_n C 0 dX7_endingWeight_8 rfl rfl rfl (n' := 9) ?_
    refine sd_g7_0 C (sd_mC (sd_m8 k0)) k0 sd_w214 dX7_endingWeight_9 rfl (n' := 12) ?_
    refine sd_iconst C (v := 1) dX7_endingWeight_12 rfl rfl (n' := 13) ?_
    obtain ⟨q13, e13, hF⟩ := sd_bind hF
    refine sd_callVI [.int (1 : Int32)] [.int x6] C (ct_X5_sorts M 40 (1 : Int32) sd_k40 e13) sd_lX7_44 ⟨rfl, rfl, Nat.le_of_ble_eq_true rfl, Nat.le_of_ble_eq_true rfl⟩ sd_i40 (sd_e6 sd_k40) rfl rfl rfl (Nat.le_of_ble_eq_true rfl) dX7_endingWeight_13 rfl (n' := 16) ?_
    refine sd_icmp_ge C (n' := 19) (tgt := 78) dX7_endingWeight_16 rfl rfl (fun c16 => ?_) (fun c16 => ?_)
    · replace hF := sd_pos hF c16
      refine sd_lload C 4 dX7_endingWeight_78 rfl rfl (n' := 80) ?_
      exact sd_lret C dX7_endingWeight_80 (Option.some.inj hF) rfl
    · replace hF := sd_neg hF c16
      refine sd_iconst C (v := 0) dX7_endingWeight_19 rfl rfl (n' := 20) ?_
      refine sd_istore [(7, .int (0 : Int32)), (0, .ref (E.2.2 h0)), (1, .ref (E.2.2 h1)), (2, .ref (E.2.2 h2)), (3, .int x3), (4, .long l4), (6, .int x6)] C dX7_endingWeight_20 (by decide) rfl rfl (n' := 22) ?_
      refine sd_sub [1, 2, 3, 4, 5, 6, 0] rfl ?_
      exact tb_X7_endingWeight_22 C k0 k1 k2 ih sd_FU x3 l4 x6 (0 : Int32) hF
set_option maxRecDepth 100000 in
set_option maxHeartbeats 4000000 in
theorem tb_X7_endingWeight_0 {K : sd_K} {E : sd_Env} {M : sd_Mem} {h0 h1 h2 : Nat} {r : Int64} (C : sd_C K E sd_LC RX7 cX7_endingWeight 8 (some .long)) (k0 : sd_kd h0 = 8) (k1 : sd_kd h1 = 10) (k2 : sd_kd h2 = 10) : ∀ (x3 : Int32), fn_X7_endingWeight_0 M h0 h1 h2 x3 = some r → sd_Z K rm_X7_endingWeight E sd_LC 8 (sd_QL K E sd_LC r M) M 0 [(0, .ref (E.2.2 h0)), (1, .ref (E.2.2 h1)), (2, .ref (E.2.2 h2)), (3, .int x3)] [] := by
  intro x3 hF
  unfold fn_X7_endingWeight_0 at hF
  refine sd_lconst C (v := 0) dX7_endingWeight_0 rfl rfl (n' := 1) ?_
  refine sd_lstore [(4, .long (0 : Int64)), (0, .ref (E.2.2 h0)), (1, .ref (E.2.2 h1)), (2, .ref (E.2.2 h2)), (3, .int x3)] C dX7_endingWeight_1 (by decide) rfl rfl (n' := 3) ?_
  refine sd_iconst C (v := 0) dX7_endingWeight_3 rfl rfl (n' := 4) ?_
  refine sd_istore [(6, .int (0 : Int32)), (4, .long (0 : Int64)), (0, .ref (E.2.2 h0)), (1, .ref (E.2.2 h1)), (2, .ref (E.2.2 h2)), (3, .int x3)] C dX7_endingWeight_4 (by decide) rfl rfl (n' := 6) ?_
  refine sd_sub [2, 3, 4, 5, 1, 0] rfl ?_
  exact tb_X7_endingWeight_6 C k0 k1 k2 sd_FU x3 (0 : Int64) (0 : Int32) hF
theorem ct_X7_endingWeight {l : Launch} {E : sd_Env} (M : sd_Mem) (h0 : Nat) (h1 : Nat) (h2 : Nat) (x3 : Int32) (k0 : sd_kd h0 = 8) (k1 : sd_kd h1 = 10) (k2 : sd_kd h2 = 10) {r : Int64} (hF : fn_X7_endingWeight M h0 h1 h2 x3 = some r) : sd_ML l E sd_LC yX7_endingWeight cX7_endingWeight 8 (some .long) rm_X7_endingWeight [.ref (E.2.2 h0), .ref (E.2.2 h1), .ref (E.2.2 h2), .int x3] M r M := sd_ent0 (by decide +kernel) (Nat.le_of_ble_eq_true rfl) (fun p e s m below meth c C => tb_X7_endingWeight_0 C k0 k1 k2 x3 hF)
theorem dX5_pairs_0 : decode cX5_pairs 0 = .ok (.aload_n 0, 1) := by decide +kernel
theorem dX5_pairs_1 : decode cX5_pairs 1 = .ok (.iconst 0, 1) := by decide +kernel
theorem dX5_pairs_2 : decode cX5_pairs 2 = .ok (.invokevirtual 73, 3) := by decide +kernel
theorem dX5_pairs_5 : decode cX5_pairs 5 = .ok (.i2l, 1) := by decide +kernel
theorem dX5_pairs_6 : decode cX5_pairs 6 = .ok (.aload_n 0, 1) := by decide +kernel
theorem dX5_pairs_7 : decode cX5_pairs 7 = .ok (.iconst 1, 1) := by decide +kernel
theorem dX5_pairs_8 : decode cX5_pairs 8 = .ok (.invokevirtual 73, 3) := by decide +kernel
theorem dX5_pairs_11 : decode cX5_pairs 11 = .ok (.i2l, 1) := by decide +kernel
theorem dX5_pairs_12 : decode cX5_pairs 12 = .ok (.lmul, 1) := by decide +kernel
theorem dX5_pairs_13 : decode cX5_pairs 13 = .ok (.lreturn, 1) := by decide +kernel
set_option maxRecDepth 100000 in
set_option maxHeartbeats 4000000 in
theorem tb_X5_pairs_0 {K : sd_K} {E : sd_Env} {M : sd_Mem} {h0 : Nat} {r : Int64} (C : sd_C K E sd_LC RX5 cX5_pairs 1 (some .long)) (k0 : sd_kd h0 = 6) : fn_X5_pairs_0 M h0 = some r → sd_Z K rm_X5_pairs E sd_LC 1 (sd_QL K E sd_LC r M) M 0 [(0, .ref (E.2.2 h0))] [] := by
  intro hF
  unfold fn_X5_pairs_0 at hF
  refine sd_aload_n C 0 dX5_pairs_0 rfl rfl rfl (n' := 1) ?_
  refine sd_iconst C (v := 0) dX5_pairs_1 rfl rfl (n' := 2) ?_
  obtain ⟨q2, e2, hF⟩ := sd_bind hF
  refine sd_callVI [.int (0 : Int32)] [] C (ct_X5_total M h0 (0 : Int32) k0 e2) sd_lX5_73 ⟨rfl, rfl, Nat.le_of_ble_eq_true rfl, Nat.le_of_ble_eq_true rfl⟩ (sd_mC (sd_m6 k0)) (sd_e6 k0) rfl rfl rfl (Nat.le_of_ble_eq_true rfl) dX5_pairs_2 rfl (n' := 5) ?_
  refine sd_i2l C dX5_pairs_5 rfl (n' := 6) ?_
  refine sd_aload_n C 0 dX5_pairs_6 rfl rfl rfl (n' := 7) ?_
  refine sd_iconst C (v := 1) dX5_pairs_7 rfl rfl (n' := 8) ?_
  obtain ⟨q8, e8, hF⟩ := sd_bind hF
  refine sd_callVI [.int (1 : Int32)] [.long q2.toInt64] C (ct_X5_total M h0 (1 : Int32) k0 e8) sd_lX5_73 ⟨rfl, rfl, Nat.le_of_ble_eq_true rfl, Nat.le_of_ble_eq_true rfl⟩ (sd_mC (sd_m6 k0)) (sd_e6 k0) rfl rfl rfl (Nat.le_of_ble_eq_true rfl) dX5_pairs_8 rfl (n' := 11) ?_
  refine sd_i2l C dX5_pairs_11 rfl (n' := 12) ?_
  refine sd_lmul C dX5_pairs_12 rfl (n' := 13) ?_
  exact sd_lret C dX5_pairs_13 (Option.some.inj hF) rfl
theorem ct_X5_pairs {l : Launch} {E : sd_Env} (M : sd_Mem) (h0 : Nat) (k0 : sd_kd h0 = 6) {r : Int64} (hF : fn_X5_pairs M h0 = some r) : sd_ML l E sd_LC yX5_pairs cX5_pairs 1 (some .long) rm_X5_pairs [.ref (E.2.2 h0)] M r M := sd_ent0 (by decide +kernel) (Nat.le_of_ble_eq_true rfl) (fun p e s m below meth c C => tb_X5_pairs_0 C k0 hF)
theorem dX10_end_0 : decode cX10_end 0 = .ok (.iload_n 3, 1) := by decide +kernel
theorem dX10_end_1 : decode cX10_end 1 = .ok (.iconst 1, 1) := by decide +kernel
theorem dX10_end_2 : decode cX10_end 2 = .ok (.aload_n 0, 1) := by decide +kernel
theorem dX10_end_3 : decode cX10_end 3 = .ok (.getfield 27, 3) := by decide +kernel
theorem dX10_end_6 : decode cX10_end 6 = .ok (.invokevirtual 239, 3) := by decide +kernel
theorem dX10_end_9 : decode cX10_end 9 = .ok (.iconst 1, 1) := by decide +kernel
theorem dX10_end_10 : decode cX10_end 10 = .ok (.iadd, 1) := by decide +kernel
theorem dX10_end_11 : decode cX10_end 11 = .ok (.invokestatic 152, 3) := by decide +kernel
theorem dX10_end_14 : decode cX10_end 14 = .ok (.ifCond .ne 5, 3) := by decide +kernel
theorem dX10_end_17 : decode cX10_end 17 = .ok (.iconst (-1), 1) := by decide +kernel
theorem dX10_end_18 : decode cX10_end 18 = .ok (.ireturn, 1) := by decide +kernel
theorem dX10_end_19 : decode cX10_end 19 = .ok (.aload_n 0, 1) := by decide +kernel
theorem dX10_end_20 : decode cX10_end 20 = .ok (.iload_n 1, 1) := by decide +kernel
theorem dX10_end_21 : decode cX10_end 21 = .ok (.iload_n 2, 1) := by decide +kernel
theorem dX10_end_22 : decode cX10_end 22 = .ok (.iconst 1, 1) := by decide +kernel
theorem dX10_end_23 : decode cX10_end 23 = .ok (.invokevirtual 216, 3) := by decide +kernel
theorem dX10_end_26 : decode cX10_end 26 = .ok (.istore 4, 2) := by decide +kernel
theorem dX10_end_28 : decode cX10_end 28 = .ok (.iload 4, 2) := by decide +kernel
theorem dX10_end_30 : decode cX10_end 30 = .ok (.ifCond .eq 6, 3) := by decide +kernel
theorem dX10_end_33 : decode cX10_end 33 = .ok (.iload 4, 2) := by decide +kernel
theorem dX10_end_35 : decode cX10_end 35 = .ok (.ireturn, 1) := by decide +kernel
theorem dX10_end_36 : decode cX10_end 36 = .ok (.aload_n 0, 1) := by decide +kernel
theorem dX10_end_37 : decode cX10_end 37 = .ok (.getfield 77, 3) := by decide +kernel
theorem dX10_end_40 : decode cX10_end 40 = .ok (.aload_n 0, 1) := by decide +kernel
theorem dX10_end_41 : decode cX10_end 41 = .ok (.getfield 53, 3) := by decide +kernel
theorem dX10_end_44 : decode cX10_end 44 = .ok (.aload_n 0, 1) := by decide +kernel
theorem dX10_end_45 : decode cX10_end 45 = .ok (.getfield 20, 3) := by decide +kernel
theorem dX10_end_48 : decode cX10_end 48 = .ok (.iload_n 1, 1) := by decide +kernel
theorem dX10_end_49 : decode cX10_end 49 = .ok (.aaload, 1) := by decide +kernel
theorem dX10_end_50 : decode cX10_end 50 = .ok (.aload_n 0, 1) := by decide +kernel
theorem dX10_end_51 : decode cX10_end 51 = .ok (.getfield 20, 3) := by decide +kernel
theorem dX10_end_54 : decode cX10_end 54 = .ok (.iload_n 2, 1) := by decide +kernel
theorem dX10_end_55 : decode cX10_end 55 = .ok (.aaload, 1) := by decide +kernel
theorem dX10_end_56 : decode cX10_end 56 = .ok (.iload_n 3, 1) := by decide +kernel
theorem dX10_end_57 : decode cX10_end 57 = .ok (.invokevirtual 257, 3) := by decide +kernel
theorem dX10_end_60 : decode cX10_end 60 = .ok (.aload_n 0, 1) := by decide +kernel
theorem dX10_end_61 : decode cX10_end 61 = .ok (.getfield 27, 3) := by decide +kernel
theorem dX10_end_64 : decode cX10_end 64 = .ok (.invokevirtual 261, 3) := by decide +kernel
theorem dX10_end_67 : decode cX10_end 67 = .ok (.invokevirtual 236, 3) := by decide +kernel
theorem dX10_end_70 : decode cX10_end 70 = .ok (.iconst 1, 1) := by decide +kernel
theorem dX10_end_71 : decode cX10_end 71 = .ok (.ireturn, 1) := by decide +kernel
set_option maxRecDepth 100000 in
set_option maxHeartbeats 4000000 in
theorem tb_X10_end_0 {K : sd_K} {E : sd_Env}   {r : (Int32 × sd_Mem)} (C : sd_C K E sd_LC RX10 cX10_end 5 (some .int))  : ∀ (M : sd_Mem) (x1 : Int32) (x2 : Int32) (x3 : Int32), fn_X10_end_0 M x1 x2 x3 = some r → sd_Z K rm_X10_end E sd_LC 5 (sd_QI K E sd_LC r.1 r.2) M 0 [(0, .ref (E.2.2 0)), (1, .int x1), (2, .int x2), (3, .int x3)] [] := by
  intro M x1 x2 x3 hF
  unfold fn_X10_end_0 at hF
  refine sd_iload_n C 3 dX10_end_0 rfl rfl rfl (n' := 1) ?_
  refine sd_iconst C (v := 1) dX10_end_1 rfl rfl (n' := 2) ?_
  refine sd_aload_n C 0 dX10_end_2 rfl rfl rfl (n' := 3) ?_
  refine sd_g10_3 C sd_i0 sd_k0 sd_w331 dX10_end_3 rfl (n' := 6) ?_
  obtain ⟨q6, e6, hF⟩ := sd_bind hF
  refine sd_callVI [] [.int (1 : Int32), .int x3] C (ct_X5_last M 40 sd_k40 e6) sd_lX10_239 ⟨rfl, rfl, Nat.le_of_ble_eq_true rfl, Nat.le_of_ble_eq_true rfl⟩ sd_i40 (sd_e6 sd_k40) rfl rfl rfl (Nat.le_of_ble_eq_true rfl) dX10_end_6 rfl (n' := 9) ?_
  refine sd_iconst C (v := 1) dX10_end_9 rfl rfl (n' := 10) ?_
  refine sd_iadd C dX10_end_10 rfl (n' := 11) ?_
  obtain ⟨q11, e11, hF⟩ := sd_bind hF
  refine sd_callSI [.int x3, .int (1 : Int32), .int (q6 + (1 : Int32))] [] C (ct_X10_within M x3 (1 : Int32) (q6 + (1 : Int32))  e11) sd_lX10_152 ⟨rfl, rfl, Nat.le_of_ble_eq_true rfl, Nat.le_of_ble_eq_true rfl⟩ rfl (Nat.le_of_ble_eq_true rfl) dX10_end_11 rfl (n' := 14) ?_
  refine sd_if_ne C (n' := 17) (tgt := 19) dX10_end_14 rfl rfl (fun c14 => ?_) (fun c14 => ?_)
  · replace hF := sd_neg hF c14
    refine sd_aload_n C 0 dX10_end_19 rfl rfl rfl (n' := 20) ?_
    refine sd_iload_n C 1 dX10_end_20 rfl rfl rfl (n' := 21) ?_
    refine sd_iload_n C 2 dX10_end_21 rfl rfl rfl (n' := 22) ?_
    refine sd_iconst C (v := 1) dX10_end_22 rfl rfl (n' := 23) ?_
    obtain ⟨q23, e23, hF⟩ := sd_bind hF
    refine sd_callVI [.int x1, .int x2, .int (1 : Int32)] [] C (ct_X10_refusePair M x1 x2 (1 : Int32)  e23) sd_lX10_216 ⟨rfl, rfl, Nat.le_of_ble_eq_true rfl, Nat.le_of_ble_eq_true rfl⟩ sd_i0 (sd_e11 sd_k0) rfl rfl rfl (Nat.le_of_ble_eq_true rfl) dX10_end_23 rfl (n' := 26) ?_
    refine sd_istore [(4, .int q23.1), (0, .ref (E.2.2 0)), (1, .int x1), (2, .int x2), (3, .int x3)] C dX10_end_26 (by decide) rfl rfl (n' := 28) ?_
    refine sd_iload C 0 dX10_end_28 rfl rfl (n' := 30) ?_
    refine sd_if_eq C (n' := 33) (tgt := 36) dX10_end_30 rfl rfl (fun c30 => ?_) (fun c30 => ?_)
    · replace hF := sd_pos hF c30
      refine sd_aload_n C 1 dX10_end_36 rfl rfl rfl (n' := 37) ?_
      refine sd_g10_11 C sd_i0 sd_k0 sd_w339 dX10_end_37 rfl (n' := 40) ?_
      refine sd_aload_n C 1 dX10_end_40 rfl rfl rfl (n' := 41) ?_
      refine sd_g10_7 C sd_i0 sd_k0 sd_w335 dX10_end_41 rfl (n' := 44) ?_
      refine sd_aload_n C 1 dX10_end_44 rfl rfl rfl (n' := 45) ?_
      refine sd_g10_2 C sd_i0 sd_k0 sd_w330 dX10_end_45 rfl (n' := 48) ?_
      refine sd_iload_n C 2 dX10_end_48 rfl rfl rfl (n' := 49) ?_
      obtain ⟨b49, hF⟩ := sd_ok hF
      refine sd_wald C sd_i23 sd_k23 sd_n23 b49 dX10_end_49 rfl (n' := 50) ?_
      refine sd_aload_n C 1 dX10_end_50 rfl rfl rfl (n' := 51) ?_
      refine sd_g10_2 C sd_i0 sd_k0 sd_w330 dX10_end_51 rfl (n' := 54) ?_
      refine sd_iload_n C 3 dX10_end_54 rfl rfl rfl (n' := 55) ?_
      obtain ⟨b55, hF⟩ := sd_ok hF
      refine sd_wald C sd_i23 sd_k23 sd_n23 b55 dX10_end_55 rfl (n' := 56) ?_
      refine sd_iload_n C 4 dX10_end_56 rfl rfl rfl (n' := 57) ?_
      obtain ⟨q57, e57, hF⟩ := sd_bind hF
      refine sd_callVL [.ref (E.2.2 (23 + 1 + 2 * x1.toNatClampNeg)), .ref (E.2.2 (23 + 1 + 2 * x2.toNatClampNeg)), .int x3] [.ref (E.2.2 96)] C (ct_X7_endingWeight q23.2 61 (23 + 1 + 2 * x1.toNatClampNeg) (23 + 1 + 2 * x2.toNatClampNeg) x3 sd_k61 ((sd_r23 _ (sd_in_lt b49)).1) ((sd_r23 _ (sd_in_lt b55)).1) e57) sd_lX10_257 ⟨rfl, rfl, Nat.le_of_ble_eq_true rfl, Nat.le_of_ble_eq_true rfl⟩ sd_i61 (sd_e8 sd_k61) rfl rfl rfl (Nat.le_of_ble_eq_true rfl) dX10_end_57 rfl (n' := 60) ?_
      refine sd_aload_n C 1 dX10_end_60 rfl rfl rfl (n' := 61) ?_
      refine sd_g10_3 C sd_i0 sd_k0 sd_w331 dX10_end_61 rfl (n' := 64) ?_
      obtain ⟨q64, e64, hF⟩ := sd_bind hF
      refine sd_callVL [] [.long q57, .ref (E.2.2 96)] C (ct_X5_pairs q23.2 40 sd_k40 e64) sd_lX10_261 ⟨rfl, rfl, Nat.le_of_ble_eq_true rfl, Nat.le_of_ble_eq_true rfl⟩ sd_i40 (sd_e6 sd_k40) rfl rfl rfl (Nat.le_of_ble_eq_true rfl) dX10_end_64 rfl (n' := 67) ?_
      obtain ⟨q67, e67, hF⟩ := sd_bind hF
      refine sd_callVV [.long q57, .long q64] [] C (ct_X3_tell q23.2 q57 q64  e67) sd_lX10_236 ⟨rfl, rfl, Nat.le_of_ble_eq_true rfl, Nat.le_of_ble_eq_true rfl⟩ sd_i96 (sd_e4 sd_k96) rfl rfl rfl (Nat.le_of_ble_eq_true rfl) dX10_end_67 rfl (n' := 70) ?_
      refine sd_iconst C (v := 1) dX10_end_70 rfl rfl (n' := 71) ?_
      exact sd_iret C dX10_end_71 (sd_fst hF) (sd_snd hF)
    · replace hF := sd_neg hF c30
      refine sd_iload C 0 dX10_end_33 rfl rfl (n' := 35) ?_
      exact sd_iret C dX10_end_35 (sd_fst hF) (sd_snd hF)
  · replace hF := sd_pos hF c14
    refine sd_iconst C (v := -1) dX10_end_17 rfl rfl (n' := 18) ?_
    exact sd_iret C dX10_end_18 (sd_fst hF) (sd_snd hF)
theorem ct_X10_end {l : Launch} {E : sd_Env} (M : sd_Mem) (x1 : Int32) (x2 : Int32) (x3 : Int32)  {r : (Int32 × sd_Mem)} (hF : fn_X10_end M x1 x2 x3 = some r) : sd_MI l E sd_LC yX10_end cX10_end 5 (some .int) rm_X10_end [.ref (E.2.2 0), .int x1, .int x2, .int x3] M r.1 r.2 := sd_ent0 (by decide +kernel) (Nat.le_of_ble_eq_true rfl) (fun p e s m below meth c C => tb_X10_end_0 C M x1 x2 x3 hF)
theorem dX0_isHeld_0 : decode cX0_isHeld 0 = .ok (.iload_n 0, 1) := by decide +kernel
theorem dX0_isHeld_1 : decode cX0_isHeld 1 = .ok (.iconst 1, 1) := by decide +kernel
theorem dX0_isHeld_2 : decode cX0_isHeld 2 = .ok (.bipush 11, 2) := by decide +kernel
theorem dX0_isHeld_4 : decode cX0_isHeld 4 = .ok (.invokestatic 49, 3) := by decide +kernel
theorem dX0_isHeld_7 : decode cX0_isHeld 7 = .ok (.ifCond .eq 17, 3) := by decide +kernel
theorem dX0_isHeld_10 : decode cX0_isHeld 10 = .ok (.iload_n 1, 1) := by decide +kernel
theorem dX0_isHeld_11 : decode cX0_isHeld 11 = .ok (.iconst 0, 1) := by decide +kernel
theorem dX0_isHeld_12 : decode cX0_isHeld 12 = .ok (.bipush 7, 2) := by decide +kernel
theorem dX0_isHeld_14 : decode cX0_isHeld 14 = .ok (.invokestatic 49, 3) := by decide +kernel
theorem dX0_isHeld_17 : decode cX0_isHeld 17 = .ok (.ifCond .eq 7, 3) := by decide +kernel
theorem dX0_isHeld_20 : decode cX0_isHeld 20 = .ok (.iconst 1, 1) := by decide +kernel
theorem dX0_isHeld_21 : decode cX0_isHeld 21 = .ok (.goto 4, 3) := by decide +kernel
theorem dX0_isHeld_24 : decode cX0_isHeld 24 = .ok (.iconst 0, 1) := by decide +kernel
theorem dX0_isHeld_25 : decode cX0_isHeld 25 = .ok (.ireturn, 1) := by decide +kernel
set_option maxRecDepth 100000 in
set_option maxHeartbeats 4000000 in
theorem tb_X0_isHeld_0 {K : sd_K} {E : sd_Env} {M : sd_Mem}  {r : Int32} (C : sd_C K E sd_LC RX0 cX0_isHeld 2 (some .boolean))  : ∀ (x0 : Int32) (x1 : Int32), fn_X0_isHeld_0 x0 x1 = some r → sd_Z K rm_X0_isHeld E sd_LC 2 (sd_QI K E sd_LC r M) M 0 [(0, .int x0), (1, .int x1)] [] := by
  intro x0 x1 hF
  unfold fn_X0_isHeld_0 at hF
  refine sd_iload_n C 0 dX0_isHeld_0 rfl rfl rfl (n' := 1) ?_
  refine sd_iconst C (v := 1) dX0_isHeld_1 rfl rfl (n' := 2) ?_
  refine sd_bipush C (v := 11) dX0_isHeld_2 rfl rfl (n' := 4) ?_
  obtain ⟨q4, e4, hF⟩ := sd_bind hF
  refine sd_callNI [.int x0, .int (1 : Int32), .int (11 : Int32)] [] C (ct_X10_within M x0 (1 : Int32) (11 : Int32)  e4) sd_lX0_49 ⟨rfl, rfl, Nat.le_of_ble_eq_true rfl, Nat.le_of_ble_eq_true rfl⟩ rfl (Nat.le_of_ble_eq_true rfl) dX0_isHeld_4 rfl (n' := 7) ?_
  refine sd_if_eq C (n' := 10) (tgt := 24) dX0_isHeld_7 rfl rfl (fun c7 => ?_) (fun c7 => ?_)
  · replace hF := sd_pos hF c7
    refine sd_iconst C (v := 0) dX0_isHeld_24 rfl rfl (n' := 25) ?_
    exact sd_zret C dX0_isHeld_25 rfl (Option.some.inj hF) rfl
  · replace hF := sd_neg hF c7
    refine sd_iload_n C 1 dX0_isHeld_10 rfl rfl rfl (n' := 11) ?_
    refine sd_iconst C (v := 0) dX0_isHeld_11 rfl rfl (n' := 12) ?_
    refine sd_bipush C (v := 7) dX0_isHeld_12 rfl rfl (n' := 14) ?_
    obtain ⟨q14, e14, hF⟩ := sd_bind hF
    refine sd_callNI [.int x1, .int (0 : Int32), .int (7 : Int32)] [] C (ct_X10_within M x1 (0 : Int32) (7 : Int32)  e14) sd_lX0_49 ⟨rfl, rfl, Nat.le_of_ble_eq_true rfl, Nat.le_of_ble_eq_true rfl⟩ rfl (Nat.le_of_ble_eq_true rfl) dX0_isHeld_14 rfl (n' := 17) ?_
    refine sd_if_eq C (n' := 20) (tgt := 24) dX0_isHeld_17 rfl rfl (fun c17 => ?_) (fun c17 => ?_)
    · replace hF := sd_pos hF c17
      refine sd_iconst C (v := 0) dX0_isHeld_24 rfl rfl (n' := 25) ?_
      exact sd_zret C dX0_isHeld_25 rfl (Option.some.inj hF) rfl
    · replace hF := sd_neg hF c17
      refine sd_iconst C (v := 1) dX0_isHeld_20 rfl rfl (n' := 21) ?_
      refine sd_goto C (tgt := 25) dX0_isHeld_21 rfl ?_
      exact sd_zret C dX0_isHeld_25 rfl (Option.some.inj hF) rfl
theorem ct_X0_isHeld {l : Launch} {E : sd_Env} (M : sd_Mem) (x0 : Int32) (x1 : Int32)  {r : Int32} (hF : fn_X0_isHeld x0 x1 = some r) : sd_MI l E sd_LC yX0_isHeld cX0_isHeld 2 (some .boolean) rm_X0_isHeld [.int x0, .int x1] M r M := sd_ent0 (by decide +kernel) (Nat.le_of_ble_eq_true rfl) (fun p e s m below meth c C => tb_X0_isHeld_0 C x0 x1 hF)
theorem dX0_keep_0 : decode cX0_keep 0 = .ok (.iload_n 1, 1) := by decide +kernel
theorem dX0_keep_1 : decode cX0_keep 1 = .ok (.iload_n 2, 1) := by decide +kernel
theorem dX0_keep_2 : decode cX0_keep 2 = .ok (.invokestatic 53, 3) := by decide +kernel
theorem dX0_keep_5 : decode cX0_keep 5 = .ok (.ifCond .eq 12, 3) := by decide +kernel
theorem dX0_keep_8 : decode cX0_keep 8 = .ok (.aload_n 0, 1) := by decide +kernel
theorem dX0_keep_9 : decode cX0_keep 9 = .ok (.getfield 11, 3) := by decide +kernel
theorem dX0_keep_12 : decode cX0_keep 12 = .ok (.iload_n 1, 1) := by decide +kernel
theorem dX0_keep_13 : decode cX0_keep 13 = .ok (.aaload, 1) := by decide +kernel
theorem dX0_keep_14 : decode cX0_keep 14 = .ok (.iload_n 2, 1) := by decide +kernel
theorem dX0_keep_15 : decode cX0_keep 15 = .ok (.lload_n 3, 1) := by decide +kernel
theorem dX0_keep_16 : decode cX0_keep 16 = .ok (.lastore, 1) := by decide +kernel
theorem dX0_keep_17 : decode cX0_keep 17 = .ok (.return_, 1) := by decide +kernel
set_option maxRecDepth 100000 in
set_option maxHeartbeats 4000000 in
theorem tb_X0_keep_0 {K : sd_K} {E : sd_Env}   {r : sd_Mem} (C : sd_C K E sd_LC RX0 cX0_keep 5 none)  : ∀ (M : sd_Mem) (x1 : Int32) (x2 : Int32) (l3 : Int64), fn_X0_keep_0 M x1 x2 l3 = some r → sd_Z K rm_X0_keep E sd_LC 5 (sd_QV K E sd_LC r) M 0 [(0, .ref (E.2.2 63)), (1, .int x1), (2, .int x2), (3, .long l3)] [] := by
  intro M x1 x2 l3 hF
  unfold fn_X0_keep_0 at hF
  refine sd_iload_n C 1 dX0_keep_0 rfl rfl rfl (n' := 1) ?_
  refine sd_iload_n C 2 dX0_keep_1 rfl rfl rfl (n' := 2) ?_
  obtain ⟨q2, e2, hF⟩ := sd_bind hF
  refine sd_callSI [.int x1, .int x2] [] C (ct_X0_isHeld M x1 x2  e2) sd_lX0_53 ⟨rfl, rfl, Nat.le_of_ble_eq_true rfl, Nat.le_of_ble_eq_true rfl⟩ rfl (Nat.le_of_ble_eq_true rfl) dX0_keep_2 rfl (n' := 5) ?_
  refine sd_if_eq C (n' := 8) (tgt := 17) dX0_keep_5 rfl rfl (fun c5 => ?_) (fun c5 => ?_)
  · replace hF := sd_pos hF c5
    exact sd_vret C dX0_keep_17 (Option.some.inj hF)
  · replace hF := sd_neg hF c5
    refine sd_aload_n C 0 dX0_keep_8 rfl rfl rfl (n' := 9) ?_
    refine sd_g0_2 C sd_i63 sd_k63 sd_w232 dX0_keep_9 rfl (n' := 12) ?_
    refine sd_iload_n C 1 dX0_keep_12 rfl rfl rfl (n' := 13) ?_
    obtain ⟨b13, hF⟩ := sd_ok hF
    refine sd_hald C sd_i64 sd_k64 sd_n64 b13 dX0_keep_13 rfl (n' := 14) ?_
    refine sd_iload_n C 2 dX0_keep_14 rfl rfl rfl (n' := 15) ?_
    refine sd_lload_n C 3 dX0_keep_15 rfl rfl rfl (n' := 16) ?_
    obtain ⟨b16, hF⟩ := sd_ok hF
    refine sd_last C (sd_mC (sd_r64 _ (sd_in_lt b13)).2) ((sd_r64 _ (sd_in_lt b13)).1.1) ((sd_r64 _ (sd_in_lt b13)).1.2) b16 dX0_keep_16 rfl (n' := 17) ?_
    exact sd_vret C dX0_keep_17 (Option.some.inj hF)
theorem ct_X0_keep {l : Launch} {E : sd_Env} (M : sd_Mem) (x1 : Int32) (x2 : Int32) (l3 : Int64)  {r : sd_Mem} (hF : fn_X0_keep M x1 x2 l3 = some r) : sd_MV l E sd_LC yX0_keep cX0_keep 5 none rm_X0_keep [.ref (E.2.2 63), .int x1, .int x2, .long l3] M r := sd_ent0 (by decide +kernel) (Nat.le_of_ble_eq_true rfl) (fun p e s m below meth c C => tb_X0_keep_0 C M x1 x2 l3 hF)
theorem dX0_endUnsettled_0 : decode cX0_endUnsettled 0 = .ok (.iconst 0, 1) := by decide +kernel
theorem dX0_endUnsettled_1 : decode cX0_endUnsettled 1 = .ok (.istore_n 3, 1) := by decide +kernel
theorem dX0_endUnsettled_2 : decode cX0_endUnsettled 2 = .ok (.iload_n 3, 1) := by decide +kernel
theorem dX0_endUnsettled_3 : decode cX0_endUnsettled 3 = .ok (.bipush 8, 2) := by decide +kernel
theorem dX0_endUnsettled_5 : decode cX0_endUnsettled 5 = .ok (.if_icmp .ge 66, 3) := by decide +kernel
theorem dX0_endUnsettled_8 : decode cX0_endUnsettled 8 = .ok (.aload_n 0, 1) := by decide +kernel
theorem dX0_endUnsettled_9 : decode cX0_endUnsettled 9 = .ok (.getfield 21, 3) := by decide +kernel
theorem dX0_endUnsettled_12 : decode cX0_endUnsettled 12 = .ok (.iload_n 1, 1) := by decide +kernel
theorem dX0_endUnsettled_13 : decode cX0_endUnsettled 13 = .ok (.iload_n 2, 1) := by decide +kernel
theorem dX0_endUnsettled_14 : decode cX0_endUnsettled 14 = .ok (.aload_n 0, 1) := by decide +kernel
theorem dX0_endUnsettled_15 : decode cX0_endUnsettled 15 = .ok (.getfield 21, 3) := by decide +kernel
theorem dX0_endUnsettled_18 : decode cX0_endUnsettled 18 = .ok (.getfield 61, 3) := by decide +kernel
theorem dX0_endUnsettled_21 : decode cX0_endUnsettled 21 = .ok (.iconst 1, 1) := by decide +kernel
theorem dX0_endUnsettled_22 : decode cX0_endUnsettled 22 = .ok (.iadd, 1) := by decide +kernel
theorem dX0_endUnsettled_23 : decode cX0_endUnsettled 23 = .ok (.aload_n 0, 1) := by decide +kernel
theorem dX0_endUnsettled_24 : decode cX0_endUnsettled 24 = .ok (.getfield 21, 3) := by decide +kernel
theorem dX0_endUnsettled_27 : decode cX0_endUnsettled 27 = .ok (.getfield 85, 3) := by decide +kernel
theorem dX0_endUnsettled_30 : decode cX0_endUnsettled 30 = .ok (.invokevirtual 88, 3) := by decide +kernel
theorem dX0_endUnsettled_33 : decode cX0_endUnsettled 33 = .ok (.lstore 4, 2) := by decide +kernel
theorem dX0_endUnsettled_35 : decode cX0_endUnsettled 35 = .ok (.aload_n 0, 1) := by decide +kernel
theorem dX0_endUnsettled_36 : decode cX0_endUnsettled 36 = .ok (.aload_n 0, 1) := by decide +kernel
theorem dX0_endUnsettled_37 : decode cX0_endUnsettled 37 = .ok (.getfield 21, 3) := by decide +kernel
theorem dX0_endUnsettled_40 : decode cX0_endUnsettled 40 = .ok (.getfield 61, 3) := by decide +kernel
theorem dX0_endUnsettled_43 : decode cX0_endUnsettled 43 = .ok (.iconst 1, 1) := by decide +kernel
theorem dX0_endUnsettled_44 : decode cX0_endUnsettled 44 = .ok (.iadd, 1) := by decide +kernel
theorem dX0_endUnsettled_45 : decode cX0_endUnsettled 45 = .ok (.iload_n 3, 1) := by decide +kernel
theorem dX0_endUnsettled_46 : decode cX0_endUnsettled 46 = .ok (.lload 4, 2) := by decide +kernel
theorem dX0_endUnsettled_48 : decode cX0_endUnsettled 48 = .ok (.aload_n 0, 1) := by decide +kernel
theorem dX0_endUnsettled_49 : decode cX0_endUnsettled 49 = .ok (.getfield 21, 3) := by decide +kernel
theorem dX0_endUnsettled_52 : decode cX0_endUnsettled 52 = .ok (.iload_n 1, 1) := by decide +kernel
theorem dX0_endUnsettled_53 : decode cX0_endUnsettled 53 = .ok (.invokestatic 36, 3) := by decide +kernel
theorem dX0_endUnsettled_56 : decode cX0_endUnsettled 56 = .ok (.iload_n 3, 1) := by decide +kernel
theorem dX0_endUnsettled_57 : decode cX0_endUnsettled 57 = .ok (.invokevirtual 92, 3) := by decide +kernel
theorem dX0_endUnsettled_60 : decode cX0_endUnsettled 60 = .ok (.i2l, 1) := by decide +kernel
theorem dX0_endUnsettled_61 : decode cX0_endUnsettled 61 = .ok (.lmul, 1) := by decide +kernel
theorem dX0_endUnsettled_62 : decode cX0_endUnsettled 62 = .ok (.invokevirtual 78, 3) := by decide +kernel
theorem dX0_endUnsettled_65 : decode cX0_endUnsettled 65 = .ok (.iinc 3 1, 3) := by decide +kernel
theorem dX0_endUnsettled_68 : decode cX0_endUnsettled 68 = .ok (.goto (-66), 3) := by decide +kernel
theorem dX0_endUnsettled_71 : decode cX0_endUnsettled 71 = .ok (.return_, 1) := by decide +kernel
set_option maxRecDepth 100000 in
set_option maxHeartbeats 4000000 in
theorem tb_X0_endUnsettled_2 {K : sd_K} {E : sd_Env}   {r : sd_Mem} (C : sd_C K E sd_LC RX0 cX0_endUnsettled 6 none)  : ∀ (n : Nat), ∀ (M : sd_Mem) (x1 : Int32) (x2 : Int32) (x3 : Int32), fn_X0_endUnsettled_2 n M x1 x2 x3 = some r → sd_Z K rm_X0_endUnsettled E sd_LC 6 (sd_QV K E sd_LC r) M 2 [(0, .ref (E.2.2 63)), (1, .int x1), (2, .int x2), (3, .int x3)] [] := by
  intro n
  induction n with
  | zero => intro M x1 x2 x3 hF; cases hF
  | succ n ih =>
    intro M x1 x2 x3 hF
    unfold fn_X0_endUnsettled_2 at hF
    refine sd_iload_n C 3 dX0_endUnsettled_2 rfl rfl rfl (n' := 3) ?_
    refine sd_bipush C (v := 8) dX0_endUnsettled_3 rfl rfl (n' := 5) ?_
    refine sd_icmp_ge C (n' := 8) (tgt := 71) dX0_endUnsettled_5 rfl rfl (fun c5 => ?_) (fun c5 => ?_)
    · replace hF := sd_pos hF c5
      exact sd_vret C dX0_endUnsettled_71 (Option.some.inj hF)
    · replace hF := sd_neg hF c5
      refine sd_aload_n C 0 dX0_endUnsettled_8 rfl rfl rfl (n' := 9) ?_
      refine sd_g0_0 C sd_i63 sd_k63 sd_w230 dX0_endUnsettled_9 rfl (n' := 12) ?_
      refine sd_iload_n C 1 dX0_endUnsettled_12 rfl rfl rfl (n' := 13) ?_
      refine sd_iload_n C 2 dX0_endUnsettled_13 rfl rfl rfl (n' := 14) ?_
      refine sd_aload_n C 0 dX0_endUnsettled_14 rfl rfl rfl (n' := 15) ?_
      refine sd_g0_0 C sd_i63 sd_k63 sd_w230 dX0_endUnsettled_15 rfl (n' := 18) ?_
      refine sd_gN5_6 C sd_i40 sd_k40 sd_w144 dX0_endUnsettled_18 rfl (n' := 21) ?_
      refine sd_iconst C (v := 1) dX0_endUnsettled_21 rfl rfl (n' := 22) ?_
      refine sd_iadd C dX0_endUnsettled_22 rfl (n' := 23) ?_
      refine sd_aload_n C 0 dX0_endUnsettled_23 rfl rfl rfl (n' := 24) ?_
      refine sd_g0_0 C sd_i63 sd_k63 sd_w230 dX0_endUnsettled_24 rfl (n' := 27) ?_
      refine sd_gN5_7 C sd_i40 sd_k40 sd_w148 dX0_endUnsettled_27 rfl (n' := 30) ?_
      obtain ⟨q30, e30, hF⟩ := sd_bind hF
      refine sd_callVL [.int x1, .int x2, .int ((M.1 40 6) + (1 : Int32)), .int (M.1 40 7)] [] C (ct_X5_pay M 40 x1 x2 ((M.1 40 6) + (1 : Int32)) (M.1 40 7) sd_k40 e30) sd_lX0_88 ⟨rfl, rfl, Nat.le_of_ble_eq_true rfl, Nat.le_of_ble_eq_true rfl⟩ sd_i40 (sd_e6 sd_k40) rfl rfl rfl (Nat.le_of_ble_eq_true rfl) dX0_endUnsettled_30 rfl (n' := 33) ?_
      refine sd_lstore [(4, .long q30), (0, .ref (E.2.2 63)), (1, .int x1), (2, .int x2), (3, .int x3)] C dX0_endUnsettled_33 (by decide) rfl rfl (n' := 35) ?_
      refine sd_aload_n C 1 dX0_endUnsettled_35 rfl rfl rfl (n' := 36) ?_
      refine sd_aload_n C 1 dX0_endUnsettled_36 rfl rfl rfl (n' := 37) ?_
      refine sd_g0_0 C sd_i63 sd_k63 sd_w230 dX0_endUnsettled_37 rfl (n' := 40) ?_
      refine sd_gN5_6 C sd_i40 sd_k40 sd_w144 dX0_endUnsettled_40 rfl (n' := 43) ?_
      refine sd_iconst C (v := 1) dX0_endUnsettled_43 rfl rfl (n' := 44) ?_
      refine sd_iadd C dX0_endUnsettled_44 rfl (n' := 45) ?_
      refine sd_iload_n C 4 dX0_endUnsettled_45 rfl rfl rfl (n' := 46) ?_
      refine sd_lload C 0 dX0_endUnsettled_46 rfl rfl (n' := 48) ?_
      refine sd_aload_n C 1 dX0_endUnsettled_48 rfl rfl rfl (n' := 49) ?_
      refine sd_g0_0 C sd_i63 sd_k63 sd_w230 dX0_endUnsettled_49 rfl (n' := 52) ?_
      refine sd_iload_n C 2 dX0_endUnsettled_52 rfl rfl rfl (n' := 53) ?_
      obtain ⟨q53, e53, hF⟩ := sd_bind hF
      refine sd_callNI [.int x1] [.ref (E.2.2 40), .long q30, .int x3, .int ((M.1 40 6) + (1 : Int32)), .ref (E.2.2 63)] C (ct_X10_otherSide M x1  e53) sd_lX0_36 ⟨rfl, rfl, Nat.le_of_ble_eq_true rfl, Nat.le_of_ble_eq_true rfl⟩ rfl (Nat.le_of_ble_eq_true rfl) dX0_endUnsettled_53 rfl (n' := 56) ?_
      refine sd_iload_n C 4 dX0_endUnsettled_56 rfl rfl rfl (n' := 57) ?_
      obtain ⟨q57, e57, hF⟩ := sd_bind hF
      refine sd_callVI [.int q53, .int x3] [.long q30, .int x3, .int ((M.1 40 6) + (1 : Int32)), .ref (E.2.2 63)] C (ct_X5_weight M 40 q53 x3 sd_k40 e57) sd_lX0_92 ⟨rfl, rfl, Nat.le_of_ble_eq_true rfl, Nat.le_of_ble_eq_true rfl⟩ sd_i40 (sd_e6 sd_k40) rfl rfl rfl (Nat.le_of_ble_eq_true rfl) dX0_endUnsettled_57 rfl (n' := 60) ?_
      refine sd_i2l C dX0_endUnsettled_60 rfl (n' := 61) ?_
      refine sd_lmul C dX0_endUnsettled_61 rfl (n' := 62) ?_
      obtain ⟨q62, e62, hF⟩ := sd_bind hF
      refine sd_callVV [.int ((M.1 40 6) + (1 : Int32)), .int x3, .long (q30 * q57.toInt64)] [] C (ct_X0_keep M ((M.1 40 6) + (1 : Int32)) x3 (q30 * q57.toInt64)  e62) sd_lX0_78 ⟨rfl, rfl, Nat.le_of_ble_eq_true rfl, Nat.le_of_ble_eq_true rfl⟩ sd_i63 (sd_e1 sd_k63) rfl rfl rfl (Nat.le_of_ble_eq_true rfl) dX0_endUnsettled_62 rfl (n' := 65) ?_
      refine sd_iinc [(3, .int (x3 + (1 : Int32))), (4, .long q30), (0, .ref (E.2.2 63)), (1, .int x1), (2, .int x2)] 4 C dX0_endUnsettled_65 rfl rfl (by decide) rfl rfl (n' := 68) ?_
      refine sd_goto C (tgt := 2) dX0_endUnsettled_68 rfl ?_
      refine sd_sub [2, 3, 4, 0] rfl ?_
      exact ih q62 x1 x2 (x3 + (1 : Int32)) hF
set_option maxRecDepth 100000 in
set_option maxHeartbeats 4000000 in
theorem tb_X0_endUnsettled_0 {K : sd_K} {E : sd_Env}   {r : sd_Mem} (C : sd_C K E sd_LC RX0 cX0_endUnsettled 6 none)  : ∀ (M : sd_Mem) (x1 : Int32) (x2 : Int32), fn_X0_endUnsettled_0 M x1 x2 = some r → sd_Z K rm_X0_endUnsettled E sd_LC 6 (sd_QV K E sd_LC r) M 0 [(0, .ref (E.2.2 63)), (1, .int x1), (2, .int x2)] [] := by
  intro M x1 x2 hF
  unfold fn_X0_endUnsettled_0 at hF
  refine sd_iconst C (v := 0) dX0_endUnsettled_0 rfl rfl (n' := 1) ?_
  refine sd_istore_n [(3, .int (0 : Int32)), (0, .ref (E.2.2 63)), (1, .int x1), (2, .int x2)] C dX0_endUnsettled_1 rfl (by decide) rfl rfl (n' := 2) ?_
  refine sd_sub [1, 2, 3, 0] rfl ?_
  exact tb_X0_endUnsettled_2 C sd_FU M x1 x2 (0 : Int32) hF
theorem ct_X0_endUnsettled {l : Launch} {E : sd_Env} (M : sd_Mem) (x1 : Int32) (x2 : Int32)  {r : sd_Mem} (hF : fn_X0_endUnsettled M x1 x2 = some r) : sd_MV l E sd_LC yX0_endUnsettled cX0_endUnsettled 6 none rm_X0_endUnsettled [.ref (E.2.2 63), .int x1, .int x2] M r := sd_ent0 (by decide +kernel) (Nat.le_of_ble_eq_true rfl) (fun p e s m below meth c C => tb_X0_endUnsettled_0 C M x1 x2 hF)
theorem dX0_sum_0 : decode cX0_sum 0 = .ok (.iload_n 1, 1) := by decide +kernel
theorem dX0_sum_1 : decode cX0_sum 1 = .ok (.iload_n 2, 1) := by decide +kernel
theorem dX0_sum_2 : decode cX0_sum 2 = .ok (.invokestatic 53, 3) := by decide +kernel
theorem dX0_sum_5 : decode cX0_sum 5 = .ok (.ifCond .eq 14, 3) := by decide +kernel
theorem dX0_sum_8 : decode cX0_sum 8 = .ok (.aload_n 0, 1) := by decide +kernel
theorem dX0_sum_9 : decode cX0_sum 9 = .ok (.getfield 11, 3) := by decide +kernel
theorem dX0_sum_12 : decode cX0_sum 12 = .ok (.iload_n 1, 1) := by decide +kernel
theorem dX0_sum_13 : decode cX0_sum 13 = .ok (.aaload, 1) := by decide +kernel
theorem dX0_sum_14 : decode cX0_sum 14 = .ok (.iload_n 2, 1) := by decide +kernel
theorem dX0_sum_15 : decode cX0_sum 15 = .ok (.laload, 1) := by decide +kernel
theorem dX0_sum_16 : decode cX0_sum 16 = .ok (.goto 4, 3) := by decide +kernel
theorem dX0_sum_19 : decode cX0_sum 19 = .ok (.lconst 0, 1) := by decide +kernel
theorem dX0_sum_20 : decode cX0_sum 20 = .ok (.lreturn, 1) := by decide +kernel
set_option maxRecDepth 100000 in
set_option maxHeartbeats 4000000 in
theorem tb_X0_sum_0 {K : sd_K} {E : sd_Env} {M : sd_Mem}  {r : Int64} (C : sd_C K E sd_LC RX0 cX0_sum 3 (some .long))  : ∀ (x1 : Int32) (x2 : Int32), fn_X0_sum_0 M x1 x2 = some r → sd_Z K rm_X0_sum E sd_LC 3 (sd_QL K E sd_LC r M) M 0 [(0, .ref (E.2.2 63)), (1, .int x1), (2, .int x2)] [] := by
  intro x1 x2 hF
  unfold fn_X0_sum_0 at hF
  refine sd_iload_n C 1 dX0_sum_0 rfl rfl rfl (n' := 1) ?_
  refine sd_iload_n C 2 dX0_sum_1 rfl rfl rfl (n' := 2) ?_
  obtain ⟨q2, e2, hF⟩ := sd_bind hF
  refine sd_callSI [.int x1, .int x2] [] C (ct_X0_isHeld M x1 x2  e2) sd_lX0_53 ⟨rfl, rfl, Nat.le_of_ble_eq_true rfl, Nat.le_of_ble_eq_true rfl⟩ rfl (Nat.le_of_ble_eq_true rfl) dX0_sum_2 rfl (n' := 5) ?_
  refine sd_if_eq C (n' := 8) (tgt := 19) dX0_sum_5 rfl rfl (fun c5 => ?_) (fun c5 => ?_)
  · replace hF := sd_pos hF c5
    refine sd_lconst C (v := 0) dX0_sum_19 rfl rfl (n' := 20) ?_
    exact sd_lret C dX0_sum_20 (Option.some.inj hF) rfl
  · replace hF := sd_neg hF c5
    refine sd_aload_n C 0 dX0_sum_8 rfl rfl rfl (n' := 9) ?_
    refine sd_g0_2 C sd_i63 sd_k63 sd_w232 dX0_sum_9 rfl (n' := 12) ?_
    refine sd_iload_n C 1 dX0_sum_12 rfl rfl rfl (n' := 13) ?_
    obtain ⟨b13, hF⟩ := sd_ok hF
    refine sd_hald C sd_i64 sd_k64 sd_n64 b13 dX0_sum_13 rfl (n' := 14) ?_
    refine sd_iload_n C 2 dX0_sum_14 rfl rfl rfl (n' := 15) ?_
    obtain ⟨b15, hF⟩ := sd_ok hF
    refine sd_lald C (sd_mC (sd_r64 _ (sd_in_lt b13)).2) ((sd_r64 _ (sd_in_lt b13)).1.1) ((sd_r64 _ (sd_in_lt b13)).1.2) b15 dX0_sum_15 rfl (n' := 16) ?_
    refine sd_goto C (tgt := 20) dX0_sum_16 rfl ?_
    exact sd_lret C dX0_sum_20 (Option.some.inj hF) rfl
theorem ct_X0_sum {l : Launch} {E : sd_Env} (M : sd_Mem) (x1 : Int32) (x2 : Int32)  {r : Int64} (hF : fn_X0_sum M x1 x2 = some r) : sd_ML l E sd_LC yX0_sum cX0_sum 3 (some .long) rm_X0_sum [.ref (E.2.2 63), .int x1, .int x2] M r M := sd_ent0 (by decide +kernel) (Nat.le_of_ble_eq_true rfl) (fun p e s m below meth c C => tb_X0_sum_0 C x1 x2 hF)
theorem dX0_settled_0 : decode cX0_settled 0 = .ok (.aload_n 0, 1) := by decide +kernel
theorem dX0_settled_1 : decode cX0_settled 1 = .ok (.getfield 21, 3) := by decide +kernel
theorem dX0_settled_4 : decode cX0_settled 4 = .ok (.iload_n 1, 1) := by decide +kernel
theorem dX0_settled_5 : decode cX0_settled 5 = .ok (.iload_n 2, 1) := by decide +kernel
theorem dX0_settled_6 : decode cX0_settled 6 = .ok (.iload_n 3, 1) := by decide +kernel
theorem dX0_settled_7 : decode cX0_settled 7 = .ok (.iload 5, 2) := by decide +kernel
theorem dX0_settled_9 : decode cX0_settled 9 = .ok (.invokevirtual 88, 3) := by decide +kernel
theorem dX0_settled_12 : decode cX0_settled 12 = .ok (.aload_n 0, 1) := by decide +kernel
theorem dX0_settled_13 : decode cX0_settled 13 = .ok (.getfield 21, 3) := by decide +kernel
theorem dX0_settled_16 : decode cX0_settled 16 = .ok (.iload_n 1, 1) := by decide +kernel
theorem dX0_settled_17 : decode cX0_settled 17 = .ok (.invokestatic 36, 3) := by decide +kernel
theorem dX0_settled_20 : decode cX0_settled 20 = .ok (.iload 4, 2) := by decide +kernel
theorem dX0_settled_22 : decode cX0_settled 22 = .ok (.invokevirtual 92, 3) := by decide +kernel
theorem dX0_settled_25 : decode cX0_settled 25 = .ok (.i2l, 1) := by decide +kernel
theorem dX0_settled_26 : decode cX0_settled 26 = .ok (.lmul, 1) := by decide +kernel
theorem dX0_settled_27 : decode cX0_settled 27 = .ok (.lstore 6, 2) := by decide +kernel
theorem dX0_settled_29 : decode cX0_settled 29 = .ok (.lload 6, 2) := by decide +kernel
theorem dX0_settled_31 : decode cX0_settled 31 = .ok (.aload_n 0, 1) := by decide +kernel
theorem dX0_settled_32 : decode cX0_settled 32 = .ok (.getfield 21, 3) := by decide +kernel
theorem dX0_settled_35 : decode cX0_settled 35 = .ok (.getfield 61, 3) := by decide +kernel
theorem dX0_settled_38 : decode cX0_settled 38 = .ok (.iload_n 3, 1) := by decide +kernel
theorem dX0_settled_39 : decode cX0_settled 39 = .ok (.isub, 1) := by decide +kernel
theorem dX0_settled_40 : decode cX0_settled 40 = .ok (.invokestatic 96, 3) := by decide +kernel
theorem dX0_settled_43 : decode cX0_settled 43 = .ok (.lmul, 1) := by decide +kernel
theorem dX0_settled_44 : decode cX0_settled 44 = .ok (.lreturn, 1) := by decide +kernel
set_option maxRecDepth 100000 in
set_option maxHeartbeats 4000000 in
theorem tb_X0_settled_0 {K : sd_K} {E : sd_Env} {M : sd_Mem}  {r : Int64} (C : sd_C K E sd_LC RX0 cX0_settled 8 (some .long))  : ∀ (x1 : Int32) (x2 : Int32) (x3 : Int32) (x4 : Int32) (x5 : Int32), fn_X0_settled_0 M x1 x2 x3 x4 x5 = some r → sd_Z K rm_X0_settled E sd_LC 8 (sd_QL K E sd_LC r M) M 0 [(0, .ref (E.2.2 63)), (1, .int x1), (2, .int x2), (3, .int x3), (4, .int x4), (5, .int x5)] [] := by
  intro x1 x2 x3 x4 x5 hF
  unfold fn_X0_settled_0 at hF
  refine sd_aload_n C 0 dX0_settled_0 rfl rfl rfl (n' := 1) ?_
  refine sd_g0_0 C sd_i63 sd_k63 sd_w230 dX0_settled_1 rfl (n' := 4) ?_
  refine sd_iload_n C 1 dX0_settled_4 rfl rfl rfl (n' := 5) ?_
  refine sd_iload_n C 2 dX0_settled_5 rfl rfl rfl (n' := 6) ?_
  refine sd_iload_n C 3 dX0_settled_6 rfl rfl rfl (n' := 7) ?_
  refine sd_iload C 5 dX0_settled_7 rfl rfl (n' := 9) ?_
  obtain ⟨q9, e9, hF⟩ := sd_bind hF
  refine sd_callVL [.int x1, .int x2, .int x3, .int x5] [] C (ct_X5_pay M 40 x1 x2 x3 x5 sd_k40 e9) sd_lX0_88 ⟨rfl, rfl, Nat.le_of_ble_eq_true rfl, Nat.le_of_ble_eq_true rfl⟩ sd_i40 (sd_e6 sd_k40) rfl rfl rfl (Nat.le_of_ble_eq_true rfl) dX0_settled_9 rfl (n' := 12) ?_
  refine sd_aload_n C 0 dX0_settled_12 rfl rfl rfl (n' := 13) ?_
  refine sd_g0_0 C sd_i63 sd_k63 sd_w230 dX0_settled_13 rfl (n' := 16) ?_
  refine sd_iload_n C 1 dX0_settled_16 rfl rfl rfl (n' := 17) ?_
  obtain ⟨q17, e17, hF⟩ := sd_bind hF
  refine sd_callNI [.int x1] [.ref (E.2.2 40), .long q9] C (ct_X10_otherSide M x1  e17) sd_lX0_36 ⟨rfl, rfl, Nat.le_of_ble_eq_true rfl, Nat.le_of_ble_eq_true rfl⟩ rfl (Nat.le_of_ble_eq_true rfl) dX0_settled_17 rfl (n' := 20) ?_
  refine sd_iload C 4 dX0_settled_20 rfl rfl (n' := 22) ?_
  obtain ⟨q22, e22, hF⟩ := sd_bind hF
  refine sd_callVI [.int q17, .int x4] [.long q9] C (ct_X5_weight M 40 q17 x4 sd_k40 e22) sd_lX0_92 ⟨rfl, rfl, Nat.le_of_ble_eq_true rfl, Nat.le_of_ble_eq_true rfl⟩ sd_i40 (sd_e6 sd_k40) rfl rfl rfl (Nat.le_of_ble_eq_true rfl) dX0_settled_22 rfl (n' := 25) ?_
  refine sd_i2l C dX0_settled_25 rfl (n' := 26) ?_
  refine sd_lmul C dX0_settled_26 rfl (n' := 27) ?_
  refine sd_lstore [(6, .long (q9 * q22.toInt64)), (0, .ref (E.2.2 63)), (1, .int x1), (2, .int x2), (3, .int x3), (4, .int x4), (5, .int x5)] C dX0_settled_27 (by decide) rfl rfl (n' := 29) ?_
  refine sd_lload C 0 dX0_settled_29 rfl rfl (n' := 31) ?_
  refine sd_aload_n C 1 dX0_settled_31 rfl rfl rfl (n' := 32) ?_
  refine sd_g0_0 C sd_i63 sd_k63 sd_w230 dX0_settled_32 rfl (n' := 35) ?_
  refine sd_gN5_6 C sd_i40 sd_k40 sd_w144 dX0_settled_35 rfl (n' := 38) ?_
  refine sd_iload_n C 4 dX0_settled_38 rfl rfl rfl (n' := 39) ?_
  refine sd_isub C dX0_settled_39 rfl (n' := 40) ?_
  obtain ⟨q40, e40, hF⟩ := sd_bind hF
  refine sd_callSL [.int ((M.1 40 6) - x3)] [.long (q9 * q22.toInt64)] C (ct_X5_power M ((M.1 40 6) - x3)  e40) sd_lX0_96 ⟨rfl, rfl, Nat.le_of_ble_eq_true rfl, Nat.le_of_ble_eq_true rfl⟩ rfl (Nat.le_of_ble_eq_true rfl) dX0_settled_40 rfl (n' := 43) ?_
  refine sd_lmul C dX0_settled_43 rfl (n' := 44) ?_
  exact sd_lret C dX0_settled_44 (Option.some.inj hF) rfl
theorem ct_X0_settled {l : Launch} {E : sd_Env} (M : sd_Mem) (x1 : Int32) (x2 : Int32) (x3 : Int32) (x4 : Int32) (x5 : Int32)  {r : Int64} (hF : fn_X0_settled M x1 x2 x3 x4 x5 = some r) : sd_ML l E sd_LC yX0_settled cX0_settled 8 (some .long) rm_X0_settled [.ref (E.2.2 63), .int x1, .int x2, .int x3, .int x4, .int x5] M r M := sd_ent0 (by decide +kernel) (Nat.le_of_ble_eq_true rfl) (fun p e s m below meth c C => tb_X0_settled_0 C x1 x2 x3 x4 x5 hF)
theorem dX0_bestByTaking_0 : decode cX0_bestByTaking 0 = .ok (.lconst 0, 1) := by decide +kernel
theorem dX0_bestByTaking_1 : decode cX0_bestByTaking 1 = .ok (.lstore 5, 2) := by decide +kernel
theorem dX0_bestByTaking_3 : decode cX0_bestByTaking 3 = .ok (.iconst 0, 1) := by decide +kernel
theorem dX0_bestByTaking_4 : decode cX0_bestByTaking 4 = .ok (.istore 7, 2) := by decide +kernel
theorem dX0_bestByTaking_6 : decode cX0_bestByTaking 6 = .ok (.iload 7, 2) := by decide +kernel
theorem dX0_bestByTaking_8 : decode cX0_bestByTaking 8 = .ok (.bipush 12, 2) := by decide +kernel
theorem dX0_bestByTaking_10 : decode cX0_bestByTaking 10 = .ok (.if_icmp .gt 97, 3) := by decide +kernel
theorem dX0_bestByTaking_13 : decode cX0_bestByTaking 13 = .ok (.iconst 0, 1) := by decide +kernel
theorem dX0_bestByTaking_14 : decode cX0_bestByTaking 14 = .ok (.istore 8, 2) := by decide +kernel
theorem dX0_bestByTaking_16 : decode cX0_bestByTaking 16 = .ok (.iconst 0, 1) := by decide +kernel
theorem dX0_bestByTaking_17 : decode cX0_bestByTaking 17 = .ok (.istore 9, 2) := by decide +kernel
theorem dX0_bestByTaking_19 : decode cX0_bestByTaking 19 = .ok (.iload 9, 2) := by decide +kernel
theorem dX0_bestByTaking_21 : decode cX0_bestByTaking 21 = .ok (.aload_n 0, 1) := by decide +kernel
theorem dX0_bestByTaking_22 : decode cX0_bestByTaking 22 = .ok (.getfield 21, 3) := by decide +kernel
theorem dX0_bestByTaking_25 : decode cX0_bestByTaking 25 = .ok (.iconst 1, 1) := by decide +kernel
theorem dX0_bestByTaking_26 : decode cX0_bestByTaking 26 = .ok (.invokevirtual 108, 3) := by decide +kernel
theorem dX0_bestByTaking_29 : decode cX0_bestByTaking 29 = .ok (.if_icmp .ge 44, 3) := by decide +kernel
theorem dX0_bestByTaking_32 : decode cX0_bestByTaking 32 = .ok (.iload 8, 2) := by decide +kernel
theorem dX0_bestByTaking_34 : decode cX0_bestByTaking 34 = .ok (.iload 4, 2) := by decide +kernel
theorem dX0_bestByTaking_36 : decode cX0_bestByTaking 36 = .ok (.iload 9, 2) := by decide +kernel
theorem dX0_bestByTaking_38 : decode cX0_bestByTaking 38 = .ok (.invokestatic 111, 3) := by decide +kernel
theorem dX0_bestByTaking_41 : decode cX0_bestByTaking 41 = .ok (.ifCond .eq 22, 3) := by decide +kernel
theorem dX0_bestByTaking_44 : decode cX0_bestByTaking 44 = .ok (.aload_n 1, 1) := by decide +kernel
theorem dX0_bestByTaking_45 : decode cX0_bestByTaking 45 = .ok (.iload 9, 2) := by decide +kernel
theorem dX0_bestByTaking_47 : decode cX0_bestByTaking 47 = .ok (.iload_n 3, 1) := by decide +kernel
theorem dX0_bestByTaking_48 : decode cX0_bestByTaking 48 = .ok (.invokevirtual 114, 3) := by decide +kernel
theorem dX0_bestByTaking_51 : decode cX0_bestByTaking 51 = .ok (.iload 7, 2) := by decide +kernel
theorem dX0_bestByTaking_53 : decode cX0_bestByTaking 53 = .ok (.if_icmp .ne 10, 3) := by decide +kernel
theorem dX0_bestByTaking_56 : decode cX0_bestByTaking 56 = .ok (.iconst 1, 1) := by decide +kernel
theorem dX0_bestByTaking_57 : decode cX0_bestByTaking 57 = .ok (.iload 9, 2) := by decide +kernel
theorem dX0_bestByTaking_59 : decode cX0_bestByTaking 59 = .ok (.ishl, 1) := by decide +kernel
theorem dX0_bestByTaking_60 : decode cX0_bestByTaking 60 = .ok (.goto 4, 3) := by decide +kernel
theorem dX0_bestByTaking_63 : decode cX0_bestByTaking 63 = .ok (.iconst 0, 1) := by decide +kernel
theorem dX0_bestByTaking_64 : decode cX0_bestByTaking 64 = .ok (.ior, 1) := by decide +kernel
theorem dX0_bestByTaking_65 : decode cX0_bestByTaking 65 = .ok (.istore 8, 2) := by decide +kernel
theorem dX0_bestByTaking_67 : decode cX0_bestByTaking 67 = .ok (.iinc 9 1, 3) := by decide +kernel
theorem dX0_bestByTaking_70 : decode cX0_bestByTaking 70 = .ok (.goto (-51), 3) := by decide +kernel
theorem dX0_bestByTaking_73 : decode cX0_bestByTaking 73 = .ok (.lload 5, 2) := by decide +kernel
theorem dX0_bestByTaking_75 : decode cX0_bestByTaking 75 = .ok (.aload_n 0, 1) := by decide +kernel
theorem dX0_bestByTaking_76 : decode cX0_bestByTaking 76 = .ok (.iconst 0, 1) := by decide +kernel
theorem dX0_bestByTaking_77 : decode cX0_bestByTaking 77 = .ok (.iload_n 2, 1) := by decide +kernel
theorem dX0_bestByTaking_78 : decode cX0_bestByTaking 78 = .ok (.iload_n 3, 1) := by decide +kernel
theorem dX0_bestByTaking_79 : decode cX0_bestByTaking 79 = .ok (.iload 8, 2) := by decide +kernel
theorem dX0_bestByTaking_81 : decode cX0_bestByTaking 81 = .ok (.iload 7, 2) := by decide +kernel
theorem dX0_bestByTaking_83 : decode cX0_bestByTaking 83 = .ok (.invokevirtual 104, 3) := by decide +kernel
theorem dX0_bestByTaking_86 : decode cX0_bestByTaking 86 = .ok (.aload_n 0, 1) := by decide +kernel
theorem dX0_bestByTaking_87 : decode cX0_bestByTaking 87 = .ok (.iload_n 3, 1) := by decide +kernel
theorem dX0_bestByTaking_88 : decode cX0_bestByTaking 88 = .ok (.iconst 1, 1) := by decide +kernel
theorem dX0_bestByTaking_89 : decode cX0_bestByTaking 89 = .ok (.iadd, 1) := by decide +kernel
theorem dX0_bestByTaking_90 : decode cX0_bestByTaking 90 = .ok (.iload 8, 2) := by decide +kernel
theorem dX0_bestByTaking_92 : decode cX0_bestByTaking 92 = .ok (.invokevirtual 45, 3) := by decide +kernel
theorem dX0_bestByTaking_95 : decode cX0_bestByTaking 95 = .ok (.invokestatic 119, 3) := by decide +kernel
theorem dX0_bestByTaking_98 : decode cX0_bestByTaking 98 = .ok (.ladd, 1) := by decide +kernel
theorem dX0_bestByTaking_99 : decode cX0_bestByTaking 99 = .ok (.lstore 5, 2) := by decide +kernel
theorem dX0_bestByTaking_101 : decode cX0_bestByTaking 101 = .ok (.iinc 7 1, 3) := by decide +kernel
theorem dX0_bestByTaking_104 : decode cX0_bestByTaking 104 = .ok (.goto (-98), 3) := by decide +kernel
theorem dX0_bestByTaking_107 : decode cX0_bestByTaking 107 = .ok (.lload 5, 2) := by decide +kernel
theorem dX0_bestByTaking_109 : decode cX0_bestByTaking 109 = .ok (.lreturn, 1) := by decide +kernel
set_option maxRecDepth 100000 in
set_option maxHeartbeats 4000000 in
theorem tb_X0_bestByTaking_73 {K : sd_K} {E : sd_Env} {M : sd_Mem} {h1 : Nat} {r : Int64} (C : sd_C K E sd_LC RX0 cX0_bestByTaking 10 (some .long)) (k1 : sd_kd h1 = 10) {k6 : Int32 → Int32 → Int32 → Int64 → Int32 → Option Int64} (hk6 : ∀ (x2 : Int32) (x3 : Int32) (x4 : Int32) (l5 : Int64) (x7 : Int32), k6 x2 x3 x4 l5 x7 = some r → sd_Z K rm_X0_bestByTaking E sd_LC 10 (sd_QL K E sd_LC r M) M 6 [(0, .ref (E.2.2 63)), (1, .ref (E.2.2 h1)), (2, .int x2), (3, .int x3), (4, .int x4), (5, .long l5), (7, .int x7)] []) : ∀ (x2 : Int32) (x3 : Int32) (x4 : Int32) (l5 : Int64) (x7 : Int32) (x8 : Int32), fn_X0_bestByTaking_73 M h1 k6 x2 x3 x4 l5 x7 x8 = some r → sd_Z K rm_X0_bestByTaking E sd_LC 10 (sd_QL K E sd_LC r M) M 73 [(0, .ref (E.2.2 63)), (1, .ref (E.2.2 h1)), (2, .int x2), (3, .int x3), (4, .int x4), (5, .long l5), (7, .int x7), (8, .int x8)] [] := by
  intro x2 x3 x4 l5 x7 x8 hF
  unfold fn_X0_bestByTaking_73 at hF
  refine sd_lload C 5 dX0_bestByTaking_73 rfl rfl (n' := 75) ?_
  refine sd_aload_n C 0 dX0_bestByTaking_75 rfl rfl rfl (n' := 76) ?_
  refine sd_iconst C (v := 0) dX0_bestByTaking_76 rfl rfl (n' := 77) ?_
  refine sd_iload_n C 2 dX0_bestByTaking_77 rfl rfl rfl (n' := 78) ?_
  refine sd_iload_n C 3 dX0_bestByTaking_78 rfl rfl rfl (n' := 79) ?_
  refine sd_iload C 7 dX0_bestByTaking_79 rfl rfl (n' := 81) ?_
  refine sd_iload C 6 dX0_bestByTaking_81 rfl rfl (n' := 83) ?_
  obtain ⟨q83, e83, hF⟩ := sd_bind hF
  refine sd_callVL [.int (0 : Int32), .int x2, .int x3, .int x8, .int x7] [.long l5] C (ct_X0_settled M (0 : Int32) x2 x3 x8 x7  e83) sd_lX0_104 ⟨rfl, rfl, Nat.le_of_ble_eq_true rfl, Nat.le_of_ble_eq_true rfl⟩ sd_i63 (sd_e1 sd_k63) rfl rfl rfl (Nat.le_of_ble_eq_true rfl) dX0_bestByTaking_83 rfl (n' := 86) ?_
  refine sd_aload_n C 0 dX0_bestByTaking_86 rfl rfl rfl (n' := 87) ?_
  refine sd_iload_n C 3 dX0_bestByTaking_87 rfl rfl rfl (n' := 88) ?_
  refine sd_iconst C (v := 1) dX0_bestByTaking_88 rfl rfl (n' := 89) ?_
  refine sd_iadd C dX0_bestByTaking_89 rfl (n' := 90) ?_
  refine sd_iload C 7 dX0_bestByTaking_90 rfl rfl (n' := 92) ?_
  obtain ⟨q92, e92, hF⟩ := sd_bind hF
  refine sd_callVL [.int (x3 + (1 : Int32)), .int x8] [.long q83, .long l5] C (ct_X0_sum M (x3 + (1 : Int32)) x8  e92) sd_lX0_45 ⟨rfl, rfl, Nat.le_of_ble_eq_true rfl, Nat.le_of_ble_eq_true rfl⟩ sd_i63 (sd_e1 sd_k63) rfl rfl rfl (Nat.le_of_ble_eq_true rfl) dX0_bestByTaking_92 rfl (n' := 95) ?_
  refine sd_mmaxL C sd_w803 sd_wm_mmaxL_s sd_w87 sd_wm_mmaxL_c (Nat.le_of_ble_eq_true rfl) (Nat.le_of_ble_eq_true rfl) dX0_bestByTaking_95 rfl (n' := 98) ?_
  refine sd_ladd C dX0_bestByTaking_98 rfl (n' := 99) ?_
  refine sd_lstore [(5, .long (l5 + (if q92 < q83 then q83 else q92))), (0, .ref (E.2.2 63)), (1, .ref (E.2.2 h1)), (2, .int x2), (3, .int x3), (4, .int x4), (7, .int x7), (8, .int x8)] C dX0_bestByTaking_99 (by decide) rfl rfl (n' := 101) ?_
  refine sd_iinc [(7, .int (x7 + (1 : Int32))), (5, .long (l5 + (if q92 < q83 then q83 else q92))), (0, .ref (E.2.2 63)), (1, .ref (E.2.2 h1)), (2, .int x2), (3, .int x3), (4, .int x4), (8, .int x8)] 6 C dX0_bestByTaking_101 rfl rfl (by decide) rfl rfl (n' := 104) ?_
  refine sd_goto C (tgt := 6) dX0_bestByTaking_104 rfl ?_
  refine sd_sub [2, 3, 4, 5, 6, 1, 0] rfl ?_
  exact hk6 x2 x3 x4 (l5 + (if q92 < q83 then q83 else q92)) (x7 + (1 : Int32)) hF
set_option maxRecDepth 100000 in
set_option maxHeartbeats 4000000 in
theorem tb_X0_bestByTaking_19 {K : sd_K} {E : sd_Env} {M : sd_Mem} {h1 : Nat} {r : Int64} (C : sd_C K E sd_LC RX0 cX0_bestByTaking 10 (some .long)) (k1 : sd_kd h1 = 10) {k6 : Int32 → Int32 → Int32 → Int64 → Int32 → Option Int64} (hk6 : ∀ (x2 : Int32) (x3 : Int32) (x4 : Int32) (l5 : Int64) (x7 : Int32), k6 x2 x3 x4 l5 x7 = some r → sd_Z K rm_X0_bestByTaking E sd_LC 10 (sd_QL K E sd_LC r M) M 6 [(0, .ref (E.2.2 63)), (1, .ref (E.2.2 h1)), (2, .int x2), (3, .int x3), (4, .int x4), (5, .long l5), (7, .int x7)] []) : ∀ (n : Nat), ∀ (x2 : Int32) (x3 : Int32) (x4 : Int32) (l5 : Int64) (x7 : Int32) (x8 : Int32) (x9 : Int32), fn_X0_bestByTaking_19 M h1 k6 n x2 x3 x4 l5 x7 x8 x9 = some r → sd_Z K rm_X0_bestByTaking E sd_LC 10 (sd_QL K E sd_LC r M) M 19 [(0, .ref (E.2.2 63)), (1, .ref (E.2.2 h1)), (2, .int x2), (3, .int x3), (4, .int x4), (5, .long l5), (7, .int x7), (8, .int x8), (9, .int x9)] [] := by
  intro n
  induction n with
  | zero => intro x2 x3 x4 l5 x7 x8 x9 hF; cases hF
  | succ n ih =>
    intro x2 x3 x4 l5 x7 x8 x9 hF
    unfold fn_X0_bestByTaking_19 at hF
    refine sd_iload C 8 dX0_bestByTaking_19 rfl rfl (n' := 21) ?_
    refine sd_aload_n C 0 dX0_bestByTaking_21 rfl rfl rfl (n' := 22) ?_
    refine sd_g0_0 C sd_i63 sd_k63 sd_w230 dX0_bestByTaking_22 rfl (n' := 25) ?_
    refine sd_iconst C (v := 1) dX0_bestByTaking_25 rfl rfl (n' := 26) ?_
    obtain ⟨q26, e26, hF⟩ := sd_bind hF
    refine sd_callVI [.int (1 : Int32)] [.int x9] C (ct_X5_sorts M 40 (1 : Int32) sd_k40 e26) sd_lX0_108 ⟨rfl, rfl, Nat.le_of_ble_eq_true rfl, Nat.le_of_ble_eq_true rfl⟩ sd_i40 (sd_e6 sd_k40) rfl rfl rfl (Nat.le_of_ble_eq_true rfl) dX0_bestByTaking_26 rfl (n' := 29) ?_
    refine sd_icmp_ge C (n' := 32) (tgt := 73) dX0_bestByTaking_29 rfl rfl (fun c29 => ?_) (fun c29 => ?_)
    · replace hF := sd_pos hF c29
      refine sd_sub [0, 1, 2, 3, 4, 5, 6, 7] rfl ?_
      exact tb_X0_bestByTaking_73 C k1 hk6 x2 x3 x4 l5 x7 x8 hF
    · replace hF := sd_neg hF c29
      refine sd_iload C 7 dX0_bestByTaking_32 rfl rfl (n' := 34) ?_
      refine sd_iload C 4 dX0_bestByTaking_34 rfl rfl (n' := 36) ?_
      refine sd_iload C 8 dX0_bestByTaking_36 rfl rfl (n' := 38) ?_
      obtain ⟨q38, e38, hF⟩ := sd_bind hF
      refine sd_callNI [.int x4, .int x9] [.int x8] C (ct_X10_contains M x4 x9  e38) sd_lX0_111 ⟨rfl, rfl, Nat.le_of_ble_eq_true rfl, Nat.le_of_ble_eq_true rfl⟩ rfl (Nat.le_of_ble_eq_true rfl) dX0_bestByTaking_38 rfl (n' := 41) ?_
      refine sd_if_eq C (n' := 44) (tgt := 63) dX0_bestByTaking_41 rfl rfl (fun c41 => ?_) (fun c41 => ?_)
      · replace hF := sd_pos hF c41
        refine sd_iconst C (v := 0) dX0_bestByTaking_63 rfl rfl (n' := 64) ?_
        refine sd_ior C dX0_bestByTaking_64 rfl (n' := 65) ?_
        refine sd_istore [(8, .int (x8 ||| (0 : Int32))), (0, .ref (E.2.2 63)), (1, .ref (E.2.2 h1)), (2, .int x2), (3, .int x3), (4, .int x4), (5, .long l5), (7, .int x7), (9, .int x9)] C dX0_bestByTaking_65 (by decide) rfl rfl (n' := 67) ?_
        refine sd_iinc [(9, .int (x9 + (1 : Int32))), (8, .int (x8 ||| (0 : Int32))), (0, .ref (E.2.2 63)), (1, .ref (E.2.2 h1)), (2, .int x2), (3, .int x3), (4, .int x4), (5, .long l5), (7, .int x7)] 8 C dX0_bestByTaking_67 rfl rfl (by decide) rfl rfl (n' := 70) ?_
        refine sd_goto C (tgt := 19) dX0_bestByTaking_70 rfl ?_
        refine sd_sub [2, 3, 4, 5, 6, 7, 8, 1, 0] rfl ?_
        exact ih x2 x3 x4 l5 x7 (x8 ||| (0 : Int32)) (x9 + (1 : Int32)) hF
      · replace hF := sd_neg hF c41
        refine sd_aload_n C 1 dX0_bestByTaking_44 rfl rfl rfl (n' := 45) ?_
        refine sd_iload C 8 dX0_bestByTaking_45 rfl rfl (n' := 47) ?_
        refine sd_iload_n C 3 dX0_bestByTaking_47 rfl rfl rfl (n' := 48) ?_
        obtain ⟨q48, e48, hF⟩ := sd_bind hF
        refine sd_callVI [.int x9, .int x3] [.int x8] C (ct_X9_number M h1 x9 x3 k1 e48) sd_lX0_114 ⟨rfl, rfl, Nat.le_of_ble_eq_true rfl, Nat.le_of_ble_eq_true rfl⟩ (sd_mC (sd_m10 k1)) (sd_e10 k1) rfl rfl rfl (Nat.le_of_ble_eq_true rfl) dX0_bestByTaking_48 rfl (n' := 51) ?_
        refine sd_iload C 6 dX0_bestByTaking_51 rfl rfl (n' := 53) ?_
        refine sd_icmp_ne C (n' := 56) (tgt := 63) dX0_bestByTaking_53 rfl rfl (fun c53 => ?_) (fun c53 => ?_)
        · replace hF := sd_neg hF c53
          refine sd_iconst C (v := 0) dX0_bestByTaking_63 rfl rfl (n' := 64) ?_
          refine sd_ior C dX0_bestByTaking_64 rfl (n' := 65) ?_
          refine sd_istore [(8, .int (x8 ||| (0 : Int32))), (0, .ref (E.2.2 63)), (1, .ref (E.2.2 h1)), (2, .int x2), (3, .int x3), (4, .int x4), (5, .long l5), (7, .int x7), (9, .int x9)] C dX0_bestByTaking_65 (by decide) rfl rfl (n' := 67) ?_
          refine sd_iinc [(9, .int (x9 + (1 : Int32))), (8, .int (x8 ||| (0 : Int32))), (0, .ref (E.2.2 63)), (1, .ref (E.2.2 h1)), (2, .int x2), (3, .int x3), (4, .int x4), (5, .long l5), (7, .int x7)] 8 C dX0_bestByTaking_67 rfl rfl (by decide) rfl rfl (n' := 70) ?_
          refine sd_goto C (tgt := 19) dX0_bestByTaking_70 rfl ?_
          refine sd_sub [2, 3, 4, 5, 6, 7, 8, 1, 0] rfl ?_
          exact ih x2 x3 x4 l5 x7 (x8 ||| (0 : Int32)) (x9 + (1 : Int32)) hF
        · replace hF := sd_pos hF c53
          refine sd_iconst C (v := 1) dX0_bestByTaking_56 rfl rfl (n' := 57) ?_
          refine sd_iload C 8 dX0_bestByTaking_57 rfl rfl (n' := 59) ?_
          refine sd_ishl C dX0_bestByTaking_59 rfl (n' := 60) ?_
          refine sd_goto C (tgt := 64) dX0_bestByTaking_60 rfl ?_
          refine sd_ior C dX0_bestByTaking_64 rfl (n' := 65) ?_
          refine sd_istore [(8, .int (x8 ||| ((1 : Int32) <<< (x9 &&& 31)))), (0, .ref (E.2.2 63)), (1, .ref (E.2.2 h1)), (2, .int x2), (3, .int x3), (4, .int x4), (5, .long l5), (7, .int x7), (9, .int x9)] C dX0_bestByTaking_65 (by decide) rfl rfl (n' := 67) ?_
          refine sd_iinc [(9, .int (x9 + (1 : Int32))), (8, .int (x8 ||| ((1 : Int32) <<< (x9 &&& 31)))), (0, .ref (E.2.2 63)), (1, .ref (E.2.2 h1)), (2, .int x2), (3, .int x3), (4, .int x4), (5, .long l5), (7, .int x7)] 8 C dX0_bestByTaking_67 rfl rfl (by decide) rfl rfl (n' := 70) ?_
          refine sd_goto C (tgt := 19) dX0_bestByTaking_70 rfl ?_
          refine sd_sub [2, 3, 4, 5, 6, 7, 8, 1, 0] rfl ?_
          exact ih x2 x3 x4 l5 x7 (x8 ||| ((1 : Int32) <<< (x9 &&& 31))) (x9 + (1 : Int32)) hF
set_option maxRecDepth 100000 in
set_option maxHeartbeats 4000000 in
theorem tb_X0_bestByTaking_6 {K : sd_K} {E : sd_Env} {M : sd_Mem} {h1 : Nat} {r : Int64} (C : sd_C K E sd_LC RX0 cX0_bestByTaking 10 (some .long)) (k1 : sd_kd h1 = 10) : ∀ (n : Nat), ∀ (x2 : Int32) (x3 : Int32) (x4 : Int32) (l5 : Int64) (x7 : Int32), fn_X0_bestByTaking_6 M h1 n x2 x3 x4 l5 x7 = some r → sd_Z K rm_X0_bestByTaking E sd_LC 10 (sd_QL K E sd_LC r M) M 6 [(0, .ref (E.2.2 63)), (1, .ref (E.2.2 h1)), (2, .int x2), (3, .int x3), (4, .int x4), (5, .long l5), (7, .int x7)] [] := by
  intro n
  induction n with
  | zero => intro x2 x3 x4 l5 x7 hF; cases hF
  | succ n ih =>
    intro x2 x3 x4 l5 x7 hF
    unfold fn_X0_bestByTaking_6 at hF
    refine sd_iload C 6 dX0_bestByTaking_6 rfl rfl (n' := 8) ?_
    refine sd_bipush C (v := 12) dX0_bestByTaking_8 rfl rfl (n' := 10) ?_
    refine sd_icmp_gt C (n' := 13) (tgt := 107) dX0_bestByTaking_10 rfl rfl (fun c10 => ?_) (fun c10 => ?_)
    · replace hF := sd_pos hF c10
      refine sd_lload C 5 dX0_bestByTaking_107 rfl rfl (n' := 109) ?_
      exact sd_lret C dX0_bestByTaking_109 (Option.some.inj hF) rfl
    · replace hF := sd_neg hF c10
      refine sd_iconst C (v := 0) dX0_bestByTaking_13 rfl rfl (n' := 14) ?_
      refine sd_istore [(8, .int (0 : Int32)), (0, .ref (E.2.2 63)), (1, .ref (E.2.2 h1)), (2, .int x2), (3, .int x3), (4, .int x4), (5, .long l5), (7, .int x7)] C dX0_bestByTaking_14 (by decide) rfl rfl (n' := 16) ?_
      refine sd_iconst C (v := 0) dX0_bestByTaking_16 rfl rfl (n' := 17) ?_
      refine sd_istore [(9, .int (0 : Int32)), (8, .int (0 : Int32)), (0, .ref (E.2.2 63)), (1, .ref (E.2.2 h1)), (2, .int x2), (3, .int x3), (4, .int x4), (5, .long l5), (7, .int x7)] C dX0_bestByTaking_17 (by decide) rfl rfl (n' := 19) ?_
      refine sd_sub [2, 3, 4, 5, 6, 7, 8, 1, 0] rfl ?_
      exact tb_X0_bestByTaking_19 C k1 ih sd_FU x2 x3 x4 l5 x7 (0 : Int32) (0 : Int32) hF
set_option maxRecDepth 100000 in
set_option maxHeartbeats 4000000 in
theorem tb_X0_bestByTaking_0 {K : sd_K} {E : sd_Env} {M : sd_Mem} {h1 : Nat} {r : Int64} (C : sd_C K E sd_LC RX0 cX0_bestByTaking 10 (some .long)) (k1 : sd_kd h1 = 10) : ∀ (x2 : Int32) (x3 : Int32) (x4 : Int32), fn_X0_bestByTaking_0 M h1 x2 x3 x4 = some r → sd_Z K rm_X0_bestByTaking E sd_LC 10 (sd_QL K E sd_LC r M) M 0 [(0, .ref (E.2.2 63)), (1, .ref (E.2.2 h1)), (2, .int x2), (3, .int x3), (4, .int x4)] [] := by
  intro x2 x3 x4 hF
  unfold fn_X0_bestByTaking_0 at hF
  refine sd_lconst C (v := 0) dX0_bestByTaking_0 rfl rfl (n' := 1) ?_
  refine sd_lstore [(5, .long (0 : Int64)), (0, .ref (E.2.2 63)), (1, .ref (E.2.2 h1)), (2, .int x2), (3, .int x3), (4, .int x4)] C dX0_bestByTaking_1 (by decide) rfl rfl (n' := 3) ?_
  refine sd_iconst C (v := 0) dX0_bestByTaking_3 rfl rfl (n' := 4) ?_
  refine sd_istore [(7, .int (0 : Int32)), (5, .long (0 : Int64)), (0, .ref (E.2.2 63)), (1, .ref (E.2.2 h1)), (2, .int x2), (3, .int x3), (4, .int x4)] C dX0_bestByTaking_4 (by decide) rfl rfl (n' := 6) ?_
  refine sd_sub [2, 3, 4, 5, 6, 1, 0] rfl ?_
  exact tb_X0_bestByTaking_6 C k1 sd_FU x2 x3 x4 (0 : Int64) (0 : Int32) hF
theorem ct_X0_bestByTaking {l : Launch} {E : sd_Env} (M : sd_Mem) (h1 : Nat) (x2 : Int32) (x3 : Int32) (x4 : Int32) (k1 : sd_kd h1 = 10) {r : Int64} (hF : fn_X0_bestByTaking M h1 x2 x3 x4 = some r) : sd_ML l E sd_LC yX0_bestByTaking cX0_bestByTaking 10 (some .long) rm_X0_bestByTaking [.ref (E.2.2 63), .ref (E.2.2 h1), .int x2, .int x3, .int x4] M r M := sd_ent0 (by decide +kernel) (Nat.le_of_ble_eq_true rfl) (fun p e s m below meth c C => tb_X0_bestByTaking_0 C k1 x2 x3 x4 hF)
theorem dX0_judged_0 : decode cX0_judged 0 = .ok (.aload_n 0, 1) := by decide +kernel
theorem dX0_judged_1 : decode cX0_judged 1 = .ok (.getfield 25, 3) := by decide +kernel
theorem dX0_judged_4 : decode cX0_judged 4 = .ok (.getfield 100, 3) := by decide +kernel
theorem dX0_judged_7 : decode cX0_judged 7 = .ok (.i2l, 1) := by decide +kernel
theorem dX0_judged_8 : decode cX0_judged 8 = .ok (.aload_n 0, 1) := by decide +kernel
theorem dX0_judged_9 : decode cX0_judged 9 = .ok (.iload_n 1, 1) := by decide +kernel
theorem dX0_judged_10 : decode cX0_judged 10 = .ok (.iload_n 2, 1) := by decide +kernel
theorem dX0_judged_11 : decode cX0_judged 11 = .ok (.iload_n 3, 1) := by decide +kernel
theorem dX0_judged_12 : decode cX0_judged 12 = .ok (.iload 4, 2) := by decide +kernel
theorem dX0_judged_14 : decode cX0_judged 14 = .ok (.aload_n 0, 1) := by decide +kernel
theorem dX0_judged_15 : decode cX0_judged 15 = .ok (.getfield 25, 3) := by decide +kernel
theorem dX0_judged_18 : decode cX0_judged 18 = .ok (.getfield 103, 3) := by decide +kernel
theorem dX0_judged_21 : decode cX0_judged 21 = .ok (.invokevirtual 104, 3) := by decide +kernel
theorem dX0_judged_24 : decode cX0_judged 24 = .ok (.lmul, 1) := by decide +kernel
theorem dX0_judged_25 : decode cX0_judged 25 = .ok (.bipush 12, 2) := by decide +kernel
theorem dX0_judged_27 : decode cX0_judged 27 = .ok (.aload_n 0, 1) := by decide +kernel
theorem dX0_judged_28 : decode cX0_judged 28 = .ok (.getfield 25, 3) := by decide +kernel
theorem dX0_judged_31 : decode cX0_judged 31 = .ok (.getfield 100, 3) := by decide +kernel
theorem dX0_judged_34 : decode cX0_judged 34 = .ok (.isub, 1) := by decide +kernel
theorem dX0_judged_35 : decode cX0_judged 35 = .ok (.i2l, 1) := by decide +kernel
theorem dX0_judged_36 : decode cX0_judged 36 = .ok (.lload 5, 2) := by decide +kernel
theorem dX0_judged_38 : decode cX0_judged 38 = .ok (.lmul, 1) := by decide +kernel
theorem dX0_judged_39 : decode cX0_judged 39 = .ok (.ladd, 1) := by decide +kernel
theorem dX0_judged_40 : decode cX0_judged 40 = .ok (.lreturn, 1) := by decide +kernel
set_option maxRecDepth 100000 in
set_option maxHeartbeats 4000000 in
theorem tb_X0_judged_0 {K : sd_K} {E : sd_Env} {M : sd_Mem}  {r : Int64} (C : sd_C K E sd_LC RX0 cX0_judged 7 (some .long))  : ∀ (x1 : Int32) (x2 : Int32) (x3 : Int32) (x4 : Int32) (l5 : Int64), fn_X0_judged_0 M x1 x2 x3 x4 l5 = some r → sd_Z K rm_X0_judged E sd_LC 7 (sd_QL K E sd_LC r M) M 0 [(0, .ref (E.2.2 63)), (1, .int x1), (2, .int x2), (3, .int x3), (4, .int x4), (5, .long l5)] [] := by
  intro x1 x2 x3 x4 l5 hF
  unfold fn_X0_judged_0 at hF
  refine sd_aload_n C 0 dX0_judged_0 rfl rfl rfl (n' := 1) ?_
  refine sd_g0_1 C sd_i63 sd_k63 sd_w231 dX0_judged_1 rfl (n' := 4) ?_
  refine sd_gN4_1 C sd_i58 sd_k58 sd_w180 dX0_judged_4 rfl (n' := 7) ?_
  refine sd_i2l C dX0_judged_7 rfl (n' := 8) ?_
  refine sd_aload_n C 0 dX0_judged_8 rfl rfl rfl (n' := 9) ?_
  refine sd_iload_n C 1 dX0_judged_9 rfl rfl rfl (n' := 10) ?_
  refine sd_iload_n C 2 dX0_judged_10 rfl rfl rfl (n' := 11) ?_
  refine sd_iload_n C 3 dX0_judged_11 rfl rfl rfl (n' := 12) ?_
  refine sd_iload C 4 dX0_judged_12 rfl rfl (n' := 14) ?_
  refine sd_aload_n C 0 dX0_judged_14 rfl rfl rfl (n' := 15) ?_
  refine sd_g0_1 C sd_i63 sd_k63 sd_w231 dX0_judged_15 rfl (n' := 18) ?_
  refine sd_gN4_2 C sd_i58 sd_k58 sd_w184 dX0_judged_18 rfl (n' := 21) ?_
  obtain ⟨q21, e21, hF⟩ := sd_bind hF
  refine sd_callVL [.int x1, .int x2, .int x3, .int x4, .int (M.1 58 2)] [.long ((M.1 58 1).toInt64)] C (ct_X0_settled M x1 x2 x3 x4 (M.1 58 2)  e21) sd_lX0_104 ⟨rfl, rfl, Nat.le_of_ble_eq_true rfl, Nat.le_of_ble_eq_true rfl⟩ sd_i63 (sd_e1 sd_k63) rfl rfl rfl (Nat.le_of_ble_eq_true rfl) dX0_judged_21 rfl (n' := 24) ?_
  refine sd_lmul C dX0_judged_24 rfl (n' := 25) ?_
  refine sd_bipush C (v := 12) dX0_judged_25 rfl rfl (n' := 27) ?_
  refine sd_aload_n C 0 dX0_judged_27 rfl rfl rfl (n' := 28) ?_
  refine sd_g0_1 C sd_i63 sd_k63 sd_w231 dX0_judged_28 rfl (n' := 31) ?_
  refine sd_gN4_1 C sd_i58 sd_k58 sd_w180 dX0_judged_31 rfl (n' := 34) ?_
  refine sd_isub C dX0_judged_34 rfl (n' := 35) ?_
  refine sd_i2l C dX0_judged_35 rfl (n' := 36) ?_
  refine sd_lload C 5 dX0_judged_36 rfl rfl (n' := 38) ?_
  refine sd_lmul C dX0_judged_38 rfl (n' := 39) ?_
  refine sd_ladd C dX0_judged_39 rfl (n' := 40) ?_
  exact sd_lret C dX0_judged_40 (Option.some.inj hF) rfl
theorem ct_X0_judged {l : Launch} {E : sd_Env} (M : sd_Mem) (x1 : Int32) (x2 : Int32) (x3 : Int32) (x4 : Int32) (l5 : Int64)  {r : Int64} (hF : fn_X0_judged M x1 x2 x3 x4 l5 = some r) : sd_ML l E sd_LC yX0_judged cX0_judged 7 (some .long) rm_X0_judged [.ref (E.2.2 63), .int x1, .int x2, .int x3, .int x4, .long l5] M r M := sd_ent0 (by decide +kernel) (Nat.le_of_ble_eq_true rfl) (fun p e s m below meth c C => tb_X0_judged_0 C x1 x2 x3 x4 l5 hF)
theorem dX0_weighTaking_0 : decode cX0_weighTaking 0 = .ok (.aload_n 0, 1) := by decide +kernel
theorem dX0_weighTaking_1 : decode cX0_weighTaking 1 = .ok (.iconst 0, 1) := by decide +kernel
theorem dX0_weighTaking_2 : decode cX0_weighTaking 2 = .ok (.iload_n 2, 1) := by decide +kernel
theorem dX0_weighTaking_3 : decode cX0_weighTaking 3 = .ok (.invokevirtual 57, 3) := by decide +kernel
theorem dX0_weighTaking_6 : decode cX0_weighTaking 6 = .ok (.aload_n 0, 1) := by decide +kernel
theorem dX0_weighTaking_7 : decode cX0_weighTaking 7 = .ok (.getfield 21, 3) := by decide +kernel
theorem dX0_weighTaking_10 : decode cX0_weighTaking 10 = .ok (.getfield 61, 3) := by decide +kernel
theorem dX0_weighTaking_13 : decode cX0_weighTaking 13 = .ok (.istore_n 3, 1) := by decide +kernel
theorem dX0_weighTaking_14 : decode cX0_weighTaking 14 = .ok (.iload_n 3, 1) := by decide +kernel
theorem dX0_weighTaking_15 : decode cX0_weighTaking 15 = .ok (.iconst 1, 1) := by decide +kernel
theorem dX0_weighTaking_16 : decode cX0_weighTaking 16 = .ok (.if_icmp .lt 83, 3) := by decide +kernel
theorem dX0_weighTaking_19 : decode cX0_weighTaking 19 = .ok (.iconst 0, 1) := by decide +kernel
theorem dX0_weighTaking_20 : decode cX0_weighTaking 20 = .ok (.istore 4, 2) := by decide +kernel
theorem dX0_weighTaking_22 : decode cX0_weighTaking 22 = .ok (.iload 4, 2) := by decide +kernel
theorem dX0_weighTaking_24 : decode cX0_weighTaking 24 = .ok (.aload_n 0, 1) := by decide +kernel
theorem dX0_weighTaking_25 : decode cX0_weighTaking 25 = .ok (.getfield 21, 3) := by decide +kernel
theorem dX0_weighTaking_28 : decode cX0_weighTaking 28 = .ok (.iconst 1, 1) := by decide +kernel
theorem dX0_weighTaking_29 : decode cX0_weighTaking 29 = .ok (.invokevirtual 40, 3) := by decide +kernel
theorem dX0_weighTaking_32 : decode cX0_weighTaking 32 = .ok (.if_icmp .gt 61, 3) := by decide +kernel
theorem dX0_weighTaking_35 : decode cX0_weighTaking 35 = .ok (.iload_n 3, 1) := by decide +kernel
theorem dX0_weighTaking_36 : decode cX0_weighTaking 36 = .ok (.aload_n 0, 1) := by decide +kernel
theorem dX0_weighTaking_37 : decode cX0_weighTaking 37 = .ok (.getfield 25, 3) := by decide +kernel
theorem dX0_weighTaking_40 : decode cX0_weighTaking 40 = .ok (.getfield 65, 3) := by decide +kernel
theorem dX0_weighTaking_43 : decode cX0_weighTaking 43 = .ok (.if_icmp .ge 15, 3) := by decide +kernel
theorem dX0_weighTaking_46 : decode cX0_weighTaking 46 = .ok (.aload_n 0, 1) := by decide +kernel
theorem dX0_weighTaking_47 : decode cX0_weighTaking 47 = .ok (.iload_n 3, 1) := by decide +kernel
theorem dX0_weighTaking_48 : decode cX0_weighTaking 48 = .ok (.iconst 1, 1) := by decide +kernel
theorem dX0_weighTaking_49 : decode cX0_weighTaking 49 = .ok (.iadd, 1) := by decide +kernel
theorem dX0_weighTaking_50 : decode cX0_weighTaking 50 = .ok (.iload 4, 2) := by decide +kernel
theorem dX0_weighTaking_52 : decode cX0_weighTaking 52 = .ok (.invokevirtual 45, 3) := by decide +kernel
theorem dX0_weighTaking_55 : decode cX0_weighTaking 55 = .ok (.goto 12, 3) := by decide +kernel
theorem dX0_weighTaking_58 : decode cX0_weighTaking 58 = .ok (.aload_n 0, 1) := by decide +kernel
theorem dX0_weighTaking_59 : decode cX0_weighTaking 59 = .ok (.aload_n 1, 1) := by decide +kernel
theorem dX0_weighTaking_60 : decode cX0_weighTaking 60 = .ok (.iload_n 2, 1) := by decide +kernel
theorem dX0_weighTaking_61 : decode cX0_weighTaking 61 = .ok (.iload_n 3, 1) := by decide +kernel
theorem dX0_weighTaking_62 : decode cX0_weighTaking 62 = .ok (.iload 4, 2) := by decide +kernel
theorem dX0_weighTaking_64 : decode cX0_weighTaking 64 = .ok (.invokevirtual 70, 3) := by decide +kernel
theorem dX0_weighTaking_67 : decode cX0_weighTaking 67 = .ok (.lstore 5, 2) := by decide +kernel
theorem dX0_weighTaking_69 : decode cX0_weighTaking 69 = .ok (.aload_n 0, 1) := by decide +kernel
theorem dX0_weighTaking_70 : decode cX0_weighTaking 70 = .ok (.iload_n 3, 1) := by decide +kernel
theorem dX0_weighTaking_71 : decode cX0_weighTaking 71 = .ok (.iload 4, 2) := by decide +kernel
theorem dX0_weighTaking_73 : decode cX0_weighTaking 73 = .ok (.aload_n 0, 1) := by decide +kernel
theorem dX0_weighTaking_74 : decode cX0_weighTaking 74 = .ok (.iconst 0, 1) := by decide +kernel
theorem dX0_weighTaking_75 : decode cX0_weighTaking 75 = .ok (.iload_n 2, 1) := by decide +kernel
theorem dX0_weighTaking_76 : decode cX0_weighTaking 76 = .ok (.iload_n 3, 1) := by decide +kernel
theorem dX0_weighTaking_77 : decode cX0_weighTaking 77 = .ok (.iload 4, 2) := by decide +kernel
theorem dX0_weighTaking_79 : decode cX0_weighTaking 79 = .ok (.lload 5, 2) := by decide +kernel
theorem dX0_weighTaking_81 : decode cX0_weighTaking 81 = .ok (.invokevirtual 74, 3) := by decide +kernel
theorem dX0_weighTaking_84 : decode cX0_weighTaking 84 = .ok (.invokevirtual 78, 3) := by decide +kernel
theorem dX0_weighTaking_87 : decode cX0_weighTaking 87 = .ok (.iinc 4 1, 3) := by decide +kernel
theorem dX0_weighTaking_90 : decode cX0_weighTaking 90 = .ok (.goto (-68), 3) := by decide +kernel
theorem dX0_weighTaking_93 : decode cX0_weighTaking 93 = .ok (.iinc 3 (-1), 3) := by decide +kernel
theorem dX0_weighTaking_96 : decode cX0_weighTaking 96 = .ok (.goto (-82), 3) := by decide +kernel
theorem dX0_weighTaking_99 : decode cX0_weighTaking 99 = .ok (.return_, 1) := by decide +kernel
set_option maxRecDepth 100000 in
set_option maxHeartbeats 4000000 in
theorem tb_X0_weighTaking_67 {K : sd_K} {E : sd_Env}  {h1 : Nat} {r : sd_Mem} (C : sd_C K E sd_LC RX0 cX0_weighTaking 7 none) (k1 : sd_kd h1 = 10) {k14 : sd_Mem → Int32 → Int32 → Option sd_Mem} (hk14 : ∀ (M : sd_Mem) (x2 : Int32) (x3 : Int32), k14 M x2 x3 = some r → sd_Z K rm_X0_weighTaking E sd_LC 7 (sd_QV K E sd_LC r) M 14 [(0, .ref (E.2.2 63)), (1, .ref (E.2.2 h1)), (2, .int x2), (3, .int x3)] []) {k22 : sd_Mem → Int32 → Int32 → Int32 → Option sd_Mem} (hk22 : ∀ (M : sd_Mem) (x2 : Int32) (x3 : Int32) (x4 : Int32), k22 M x2 x3 x4 = some r → sd_Z K rm_X0_weighTaking E sd_LC 7 (sd_QV K E sd_LC r) M 22 [(0, .ref (E.2.2 63)), (1, .ref (E.2.2 h1)), (2, .int x2), (3, .int x3), (4, .int x4)] []) : ∀ (M : sd_Mem) (x2 : Int32) (x3 : Int32) (x4 : Int32) (ls0 : Int64), fn_X0_weighTaking_67 h1 k14 k22 M x2 x3 x4 ls0 = some r → sd_Z K rm_X0_weighTaking E sd_LC 7 (sd_QV K E sd_LC r) M 67 [(0, .ref (E.2.2 63)), (1, .ref (E.2.2 h1)), (2, .int x2), (3, .int x3), (4, .int x4)] [.long ls0] := by
  intro M x2 x3 x4 ls0 hF
  unfold fn_X0_weighTaking_67 at hF
  refine sd_lstore [(5, .long ls0), (0, .ref (E.2.2 63)), (1, .ref (E.2.2 h1)), (2, .int x2), (3, .int x3), (4, .int x4)] C dX0_weighTaking_67 (by decide) rfl rfl (n' := 69) ?_
  refine sd_aload_n C 1 dX0_weighTaking_69 rfl rfl rfl (n' := 70) ?_
  refine sd_iload_n C 4 dX0_weighTaking_70 rfl rfl rfl (n' := 71) ?_
  refine sd_iload C 5 dX0_weighTaking_71 rfl rfl (n' := 73) ?_
  refine sd_aload_n C 1 dX0_weighTaking_73 rfl rfl rfl (n' := 74) ?_
  refine sd_iconst C (v := 0) dX0_weighTaking_74 rfl rfl (n' := 75) ?_
  refine sd_iload_n C 3 dX0_weighTaking_75 rfl rfl rfl (n' := 76) ?_
  refine sd_iload_n C 4 dX0_weighTaking_76 rfl rfl rfl (n' := 77) ?_
  refine sd_iload C 5 dX0_weighTaking_77 rfl rfl (n' := 79) ?_
  refine sd_lload C 0 dX0_weighTaking_79 rfl rfl (n' := 81) ?_
  obtain ⟨q81, e81, hF⟩ := sd_bind hF
  refine sd_callVL [.int (0 : Int32), .int x2, .int x3, .int x4, .long ls0] [.int x4, .int x3, .ref (E.2.2 63)] C (ct_X0_judged M (0 : Int32) x2 x3 x4 ls0  e81) sd_lX0_74 ⟨rfl, rfl, Nat.le_of_ble_eq_true rfl, Nat.le_of_ble_eq_true rfl⟩ sd_i63 (sd_e1 sd_k63) rfl rfl rfl (Nat.le_of_ble_eq_true rfl) dX0_weighTaking_81 rfl (n' := 84) ?_
  obtain ⟨q84, e84, hF⟩ := sd_bind hF
  refine sd_callVV [.int x3, .int x4, .long q81] [] C (ct_X0_keep M x3 x4 q81  e84) sd_lX0_78 ⟨rfl, rfl, Nat.le_of_ble_eq_true rfl, Nat.le_of_ble_eq_true rfl⟩ sd_i63 (sd_e1 sd_k63) rfl rfl rfl (Nat.le_of_ble_eq_true rfl) dX0_weighTaking_84 rfl (n' := 87) ?_
  refine sd_iinc [(4, .int (x4 + (1 : Int32))), (5, .long ls0), (0, .ref (E.2.2 63)), (1, .ref (E.2.2 h1)), (2, .int x2), (3, .int x3)] 5 C dX0_weighTaking_87 rfl rfl (by decide) rfl rfl (n' := 90) ?_
  refine sd_goto C (tgt := 22) dX0_weighTaking_90 rfl ?_
  refine sd_sub [2, 3, 4, 5, 0] rfl ?_
  exact hk22 q84 x2 x3 (x4 + (1 : Int32)) hF
set_option maxRecDepth 100000 in
set_option maxHeartbeats 4000000 in
theorem tb_X0_weighTaking_22 {K : sd_K} {E : sd_Env}  {h1 : Nat} {r : sd_Mem} (C : sd_C K E sd_LC RX0 cX0_weighTaking 7 none) (k1 : sd_kd h1 = 10) {k14 : sd_Mem → Int32 → Int32 → Option sd_Mem} (hk14 : ∀ (M : sd_Mem) (x2 : Int32) (x3 : Int32), k14 M x2 x3 = some r → sd_Z K rm_X0_weighTaking E sd_LC 7 (sd_QV K E sd_LC r) M 14 [(0, .ref (E.2.2 63)), (1, .ref (E.2.2 h1)), (2, .int x2), (3, .int x3)] []) : ∀ (n : Nat), ∀ (M : sd_Mem) (x2 : Int32) (x3 : Int32) (x4 : Int32), fn_X0_weighTaking_22 h1 k14 n M x2 x3 x4 = some r → sd_Z K rm_X0_weighTaking E sd_LC 7 (sd_QV K E sd_LC r) M 22 [(0, .ref (E.2.2 63)), (1, .ref (E.2.2 h1)), (2, .int x2), (3, .int x3), (4, .int x4)] [] := by
  intro n
  induction n with
  | zero => intro M x2 x3 x4 hF; cases hF
  | succ n ih =>
    intro M x2 x3 x4 hF
    unfold fn_X0_weighTaking_22 at hF
    refine sd_iload C 4 dX0_weighTaking_22 rfl rfl (n' := 24) ?_
    refine sd_aload_n C 0 dX0_weighTaking_24 rfl rfl rfl (n' := 25) ?_
    refine sd_g0_0 C sd_i63 sd_k63 sd_w230 dX0_weighTaking_25 rfl (n' := 28) ?_
    refine sd_iconst C (v := 1) dX0_weighTaking_28 rfl rfl (n' := 29) ?_
    obtain ⟨q29, e29, hF⟩ := sd_bind hF
    refine sd_callVI [.int (1 : Int32)] [.int x4] C (ct_X5_everySort M 40 (1 : Int32) sd_k40 e29) sd_lX0_40 ⟨rfl, rfl, Nat.le_of_ble_eq_true rfl, Nat.le_of_ble_eq_true rfl⟩ sd_i40 (sd_e6 sd_k40) rfl rfl rfl (Nat.le_of_ble_eq_true rfl) dX0_weighTaking_29 rfl (n' := 32) ?_
    refine sd_icmp_gt C (n' := 35) (tgt := 93) dX0_weighTaking_32 rfl rfl (fun c32 => ?_) (fun c32 => ?_)
    · replace hF := sd_pos hF c32
      refine sd_iinc [(3, .int (x3 + (-1 : Int32))), (0, .ref (E.2.2 63)), (1, .ref (E.2.2 h1)), (2, .int x2), (4, .int x4)] 3 C dX0_weighTaking_93 rfl rfl (by decide) rfl rfl (n' := 96) ?_
      refine sd_goto C (tgt := 14) dX0_weighTaking_96 rfl ?_
      refine sd_sub [1, 2, 3, 0] rfl ?_
      exact hk14 M x2 (x3 + (-1 : Int32)) hF
    · replace hF := sd_neg hF c32
      refine sd_iload_n C 3 dX0_weighTaking_35 rfl rfl rfl (n' := 36) ?_
      refine sd_aload_n C 0 dX0_weighTaking_36 rfl rfl rfl (n' := 37) ?_
      refine sd_g0_1 C sd_i63 sd_k63 sd_w231 dX0_weighTaking_37 rfl (n' := 40) ?_
      refine sd_gN4_0 C sd_i58 sd_k58 sd_w176 dX0_weighTaking_40 rfl (n' := 43) ?_
      refine sd_icmp_ge C (n' := 46) (tgt := 58) dX0_weighTaking_43 rfl rfl (fun c43 => ?_) (fun c43 => ?_)
      · replace hF := sd_pos hF c43
        refine sd_aload_n C 0 dX0_weighTaking_58 rfl rfl rfl (n' := 59) ?_
        refine sd_aload_n C 1 dX0_weighTaking_59 rfl rfl rfl (n' := 60) ?_
        refine sd_iload_n C 2 dX0_weighTaking_60 rfl rfl rfl (n' := 61) ?_
        refine sd_iload_n C 3 dX0_weighTaking_61 rfl rfl rfl (n' := 62) ?_
        refine sd_iload C 4 dX0_weighTaking_62 rfl rfl (n' := 64) ?_
        obtain ⟨q64, e64, hF⟩ := sd_bind hF
        refine sd_callVL [.ref (E.2.2 h1), .int x2, .int x3, .int x4] [] C (ct_X0_bestByTaking M h1 x2 x3 x4 k1 e64) sd_lX0_70 ⟨rfl, rfl, Nat.le_of_ble_eq_true rfl, Nat.le_of_ble_eq_true rfl⟩ sd_i63 (sd_e1 sd_k63) rfl rfl rfl (Nat.le_of_ble_eq_true rfl) dX0_weighTaking_64 rfl (n' := 67) ?_
        exact tb_X0_weighTaking_67 C k1 hk14 ih M x2 x3 x4 q64 hF
      · replace hF := sd_neg hF c43
        refine sd_aload_n C 0 dX0_weighTaking_46 rfl rfl rfl (n' := 47) ?_
        refine sd_iload_n C 3 dX0_weighTaking_47 rfl rfl rfl (n' := 48) ?_
        refine sd_iconst C (v := 1) dX0_weighTaking_48 rfl rfl (n' := 49) ?_
        refine sd_iadd C dX0_weighTaking_49 rfl (n' := 50) ?_
        refine sd_iload C 4 dX0_weighTaking_50 rfl rfl (n' := 52) ?_
        obtain ⟨q52, e52, hF⟩ := sd_bind hF
        refine sd_callVL [.int (x3 + (1 : Int32)), .int x4] [] C (ct_X0_sum M (x3 + (1 : Int32)) x4  e52) sd_lX0_45 ⟨rfl, rfl, Nat.le_of_ble_eq_true rfl, Nat.le_of_ble_eq_true rfl⟩ sd_i63 (sd_e1 sd_k63) rfl rfl rfl (Nat.le_of_ble_eq_true rfl) dX0_weighTaking_52 rfl (n' := 55) ?_
        refine sd_goto C (tgt := 67) dX0_weighTaking_55 rfl ?_
        exact tb_X0_weighTaking_67 C k1 hk14 ih M x2 x3 x4 q52 hF
set_option maxRecDepth 100000 in
set_option maxHeartbeats 4000000 in
theorem tb_X0_weighTaking_14 {K : sd_K} {E : sd_Env}  {h1 : Nat} {r : sd_Mem} (C : sd_C K E sd_LC RX0 cX0_weighTaking 7 none) (k1 : sd_kd h1 = 10) : ∀ (n : Nat), ∀ (M : sd_Mem) (x2 : Int32) (x3 : Int32), fn_X0_weighTaking_14 h1 n M x2 x3 = some r → sd_Z K rm_X0_weighTaking E sd_LC 7 (sd_QV K E sd_LC r) M 14 [(0, .ref (E.2.2 63)), (1, .ref (E.2.2 h1)), (2, .int x2), (3, .int x3)] [] := by
  intro n
  induction n with
  | zero => intro M x2 x3 hF; cases hF
  | succ n ih =>
    intro M x2 x3 hF
    unfold fn_X0_weighTaking_14 at hF
    refine sd_iload_n C 3 dX0_weighTaking_14 rfl rfl rfl (n' := 15) ?_
    refine sd_iconst C (v := 1) dX0_weighTaking_15 rfl rfl (n' := 16) ?_
    refine sd_icmp_lt C (n' := 19) (tgt := 99) dX0_weighTaking_16 rfl rfl (fun c16 => ?_) (fun c16 => ?_)
    · replace hF := sd_pos hF c16
      exact sd_vret C dX0_weighTaking_99 (Option.some.inj hF)
    · replace hF := sd_neg hF c16
      refine sd_iconst C (v := 0) dX0_weighTaking_19 rfl rfl (n' := 20) ?_
      refine sd_istore [(4, .int (0 : Int32)), (0, .ref (E.2.2 63)), (1, .ref (E.2.2 h1)), (2, .int x2), (3, .int x3)] C dX0_weighTaking_20 (by decide) rfl rfl (n' := 22) ?_
      refine sd_sub [1, 2, 3, 4, 0] rfl ?_
      exact tb_X0_weighTaking_22 C k1 ih sd_FU M x2 x3 (0 : Int32) hF
set_option maxRecDepth 100000 in
set_option maxHeartbeats 4000000 in
theorem tb_X0_weighTaking_0 {K : sd_K} {E : sd_Env}  {h1 : Nat} {r : sd_Mem} (C : sd_C K E sd_LC RX0 cX0_weighTaking 7 none) (k1 : sd_kd h1 = 10) : ∀ (M : sd_Mem) (x2 : Int32), fn_X0_weighTaking_0 h1 M x2 = some r → sd_Z K rm_X0_weighTaking E sd_LC 7 (sd_QV K E sd_LC r) M 0 [(0, .ref (E.2.2 63)), (1, .ref (E.2.2 h1)), (2, .int x2)] [] := by
  intro M x2 hF
  unfold fn_X0_weighTaking_0 at hF
  refine sd_aload_n C 0 dX0_weighTaking_0 rfl rfl rfl (n' := 1) ?_
  refine sd_iconst C (v := 0) dX0_weighTaking_1 rfl rfl (n' := 2) ?_
  refine sd_iload_n C 2 dX0_weighTaking_2 rfl rfl rfl (n' := 3) ?_
  obtain ⟨q3, e3, hF⟩ := sd_bind hF
  refine sd_callVV [.int (0 : Int32), .int x2] [] C (ct_X0_endUnsettled M (0 : Int32) x2  e3) sd_lX0_57 ⟨rfl, rfl, Nat.le_of_ble_eq_true rfl, Nat.le_of_ble_eq_true rfl⟩ sd_i63 (sd_e1 sd_k63) rfl rfl rfl (Nat.le_of_ble_eq_true rfl) dX0_weighTaking_3 rfl (n' := 6) ?_
  refine sd_aload_n C 0 dX0_weighTaking_6 rfl rfl rfl (n' := 7) ?_
  refine sd_g0_0 C sd_i63 sd_k63 sd_w230 dX0_weighTaking_7 rfl (n' := 10) ?_
  refine sd_gN5_6 C sd_i40 sd_k40 sd_w144 dX0_weighTaking_10 rfl (n' := 13) ?_
  refine sd_istore_n [(3, .int (q3.1 40 6)), (0, .ref (E.2.2 63)), (1, .ref (E.2.2 h1)), (2, .int x2)] C dX0_weighTaking_13 rfl (by decide) rfl rfl (n' := 14) ?_
  refine sd_sub [1, 2, 3, 0] rfl ?_
  exact tb_X0_weighTaking_14 C k1 sd_FU q3 x2 (q3.1 40 6) hF
theorem ct_X0_weighTaking {l : Launch} {E : sd_Env} (M : sd_Mem) (h1 : Nat) (x2 : Int32) (k1 : sd_kd h1 = 10) {r : sd_Mem} (hF : fn_X0_weighTaking M h1 x2 = some r) : sd_MV l E sd_LC yX0_weighTaking cX0_weighTaking 7 none rm_X0_weighTaking [.ref (E.2.2 63), .ref (E.2.2 h1), .int x2] M r := sd_ent0 (by decide +kernel) (Nat.le_of_ble_eq_true rfl) (fun p e s m below meth c C => tb_X0_weighTaking_0 C k1 M x2 hF)
theorem dX0_refusing_0 : decode cX0_refusing 0 = .ok (.iconst 0, 1) := by decide +kernel
theorem dX0_refusing_1 : decode cX0_refusing 1 = .ok (.istore 5, 2) := by decide +kernel
theorem dX0_refusing_3 : decode cX0_refusing 3 = .ok (.iconst 0, 1) := by decide +kernel
theorem dX0_refusing_4 : decode cX0_refusing 4 = .ok (.istore 6, 2) := by decide +kernel
theorem dX0_refusing_6 : decode cX0_refusing 6 = .ok (.iload 6, 2) := by decide +kernel
theorem dX0_refusing_8 : decode cX0_refusing 8 = .ok (.aload_n 0, 1) := by decide +kernel
theorem dX0_refusing_9 : decode cX0_refusing 9 = .ok (.getfield 21, 3) := by decide +kernel
theorem dX0_refusing_12 : decode cX0_refusing 12 = .ok (.iconst 0, 1) := by decide +kernel
theorem dX0_refusing_13 : decode cX0_refusing 13 = .ok (.invokevirtual 108, 3) := by decide +kernel
theorem dX0_refusing_16 : decode cX0_refusing 16 = .ok (.if_icmp .ge 43, 3) := by decide +kernel
theorem dX0_refusing_19 : decode cX0_refusing 19 = .ok (.iload 5, 2) := by decide +kernel
theorem dX0_refusing_21 : decode cX0_refusing 21 = .ok (.iload_n 3, 1) := by decide +kernel
theorem dX0_refusing_22 : decode cX0_refusing 22 = .ok (.iload 6, 2) := by decide +kernel
theorem dX0_refusing_24 : decode cX0_refusing 24 = .ok (.invokestatic 111, 3) := by decide +kernel
theorem dX0_refusing_27 : decode cX0_refusing 27 = .ok (.ifCond .eq 22, 3) := by decide +kernel
theorem dX0_refusing_30 : decode cX0_refusing 30 = .ok (.iload 4, 2) := by decide +kernel
theorem dX0_refusing_32 : decode cX0_refusing 32 = .ok (.aload_n 1, 1) := by decide +kernel
theorem dX0_refusing_33 : decode cX0_refusing 33 = .ok (.iload 6, 2) := by decide +kernel
theorem dX0_refusing_35 : decode cX0_refusing 35 = .ok (.iload_n 2, 1) := by decide +kernel
theorem dX0_refusing_36 : decode cX0_refusing 36 = .ok (.invokevirtual 114, 3) := by decide +kernel
theorem dX0_refusing_39 : decode cX0_refusing 39 = .ok (.if_icmp .ge 10, 3) := by decide +kernel
theorem dX0_refusing_42 : decode cX0_refusing 42 = .ok (.iconst 1, 1) := by decide +kernel
theorem dX0_refusing_43 : decode cX0_refusing 43 = .ok (.iload 6, 2) := by decide +kernel
theorem dX0_refusing_45 : decode cX0_refusing 45 = .ok (.ishl, 1) := by decide +kernel
theorem dX0_refusing_46 : decode cX0_refusing 46 = .ok (.goto 4, 3) := by decide +kernel
theorem dX0_refusing_49 : decode cX0_refusing 49 = .ok (.iconst 0, 1) := by decide +kernel
theorem dX0_refusing_50 : decode cX0_refusing 50 = .ok (.ior, 1) := by decide +kernel
theorem dX0_refusing_51 : decode cX0_refusing 51 = .ok (.istore 5, 2) := by decide +kernel
theorem dX0_refusing_53 : decode cX0_refusing 53 = .ok (.iinc 6 1, 3) := by decide +kernel
theorem dX0_refusing_56 : decode cX0_refusing 56 = .ok (.goto (-50), 3) := by decide +kernel
theorem dX0_refusing_59 : decode cX0_refusing 59 = .ok (.iload 5, 2) := by decide +kernel
theorem dX0_refusing_61 : decode cX0_refusing 61 = .ok (.ireturn, 1) := by decide +kernel
set_option maxRecDepth 100000 in
set_option maxHeartbeats 4000000 in
theorem tb_X0_refusing_6 {K : sd_K} {E : sd_Env} {M : sd_Mem} {h1 : Nat} {r : Int32} (C : sd_C K E sd_LC RX0 cX0_refusing 7 (some .int)) (k1 : sd_kd h1 = 10) : ∀ (n : Nat), ∀ (x2 : Int32) (x3 : Int32) (x4 : Int32) (x5 : Int32) (x6 : Int32), fn_X0_refusing_6 M h1 n x2 x3 x4 x5 x6 = some r → sd_Z K rm_X0_refusing E sd_LC 7 (sd_QI K E sd_LC r M) M 6 [(0, .ref (E.2.2 63)), (1, .ref (E.2.2 h1)), (2, .int x2), (3, .int x3), (4, .int x4), (5, .int x5), (6, .int x6)] [] := by
  intro n
  induction n with
  | zero => intro x2 x3 x4 x5 x6 hF; cases hF
  | succ n ih =>
    intro x2 x3 x4 x5 x6 hF
    unfold fn_X0_refusing_6 at hF
    refine sd_iload C 6 dX0_refusing_6 rfl rfl (n' := 8) ?_
    refine sd_aload_n C 0 dX0_refusing_8 rfl rfl rfl (n' := 9) ?_
    refine sd_g0_0 C sd_i63 sd_k63 sd_w230 dX0_refusing_9 rfl (n' := 12) ?_
    refine sd_iconst C (v := 0) dX0_refusing_12 rfl rfl (n' := 13) ?_
    obtain ⟨q13, e13, hF⟩ := sd_bind hF
    refine sd_callVI [.int (0 : Int32)] [.int x6] C (ct_X5_sorts M 40 (0 : Int32) sd_k40 e13) sd_lX0_108 ⟨rfl, rfl, Nat.le_of_ble_eq_true rfl, Nat.le_of_ble_eq_true rfl⟩ sd_i40 (sd_e6 sd_k40) rfl rfl rfl (Nat.le_of_ble_eq_true rfl) dX0_refusing_13 rfl (n' := 16) ?_
    refine sd_icmp_ge C (n' := 19) (tgt := 59) dX0_refusing_16 rfl rfl (fun c16 => ?_) (fun c16 => ?_)
    · replace hF := sd_pos hF c16
      refine sd_iload C 5 dX0_refusing_59 rfl rfl (n' := 61) ?_
      exact sd_iret C dX0_refusing_61 (Option.some.inj hF) rfl
    · replace hF := sd_neg hF c16
      refine sd_iload C 5 dX0_refusing_19 rfl rfl (n' := 21) ?_
      refine sd_iload_n C 3 dX0_refusing_21 rfl rfl rfl (n' := 22) ?_
      refine sd_iload C 6 dX0_refusing_22 rfl rfl (n' := 24) ?_
      obtain ⟨q24, e24, hF⟩ := sd_bind hF
      refine sd_callNI [.int x3, .int x6] [.int x5] C (ct_X10_contains M x3 x6  e24) sd_lX0_111 ⟨rfl, rfl, Nat.le_of_ble_eq_true rfl, Nat.le_of_ble_eq_true rfl⟩ rfl (Nat.le_of_ble_eq_true rfl) dX0_refusing_24 rfl (n' := 27) ?_
      refine sd_if_eq C (n' := 30) (tgt := 49) dX0_refusing_27 rfl rfl (fun c27 => ?_) (fun c27 => ?_)
      · replace hF := sd_pos hF c27
        refine sd_iconst C (v := 0) dX0_refusing_49 rfl rfl (n' := 50) ?_
        refine sd_ior C dX0_refusing_50 rfl (n' := 51) ?_
        refine sd_istore [(5, .int (x5 ||| (0 : Int32))), (0, .ref (E.2.2 63)), (1, .ref (E.2.2 h1)), (2, .int x2), (3, .int x3), (4, .int x4), (6, .int x6)] C dX0_refusing_51 (by decide) rfl rfl (n' := 53) ?_
        refine sd_iinc [(6, .int (x6 + (1 : Int32))), (5, .int (x5 ||| (0 : Int32))), (0, .ref (E.2.2 63)), (1, .ref (E.2.2 h1)), (2, .int x2), (3, .int x3), (4, .int x4)] 6 C dX0_refusing_53 rfl rfl (by decide) rfl rfl (n' := 56) ?_
        refine sd_goto C (tgt := 6) dX0_refusing_56 rfl ?_
        refine sd_sub [2, 3, 4, 5, 6, 1, 0] rfl ?_
        exact ih x2 x3 x4 (x5 ||| (0 : Int32)) (x6 + (1 : Int32)) hF
      · replace hF := sd_neg hF c27
        refine sd_iload C 4 dX0_refusing_30 rfl rfl (n' := 32) ?_
        refine sd_aload_n C 1 dX0_refusing_32 rfl rfl rfl (n' := 33) ?_
        refine sd_iload C 6 dX0_refusing_33 rfl rfl (n' := 35) ?_
        refine sd_iload_n C 2 dX0_refusing_35 rfl rfl rfl (n' := 36) ?_
        obtain ⟨q36, e36, hF⟩ := sd_bind hF
        refine sd_callVI [.int x6, .int x2] [.int x4, .int x5] C (ct_X9_number M h1 x6 x2 k1 e36) sd_lX0_114 ⟨rfl, rfl, Nat.le_of_ble_eq_true rfl, Nat.le_of_ble_eq_true rfl⟩ (sd_mC (sd_m10 k1)) (sd_e10 k1) rfl rfl rfl (Nat.le_of_ble_eq_true rfl) dX0_refusing_36 rfl (n' := 39) ?_
        refine sd_icmp_ge C (n' := 42) (tgt := 49) dX0_refusing_39 rfl rfl (fun c39 => ?_) (fun c39 => ?_)
        · replace hF := sd_pos hF c39
          refine sd_iconst C (v := 0) dX0_refusing_49 rfl rfl (n' := 50) ?_
          refine sd_ior C dX0_refusing_50 rfl (n' := 51) ?_
          refine sd_istore [(5, .int (x5 ||| (0 : Int32))), (0, .ref (E.2.2 63)), (1, .ref (E.2.2 h1)), (2, .int x2), (3, .int x3), (4, .int x4), (6, .int x6)] C dX0_refusing_51 (by decide) rfl rfl (n' := 53) ?_
          refine sd_iinc [(6, .int (x6 + (1 : Int32))), (5, .int (x5 ||| (0 : Int32))), (0, .ref (E.2.2 63)), (1, .ref (E.2.2 h1)), (2, .int x2), (3, .int x3), (4, .int x4)] 6 C dX0_refusing_53 rfl rfl (by decide) rfl rfl (n' := 56) ?_
          refine sd_goto C (tgt := 6) dX0_refusing_56 rfl ?_
          refine sd_sub [2, 3, 4, 5, 6, 1, 0] rfl ?_
          exact ih x2 x3 x4 (x5 ||| (0 : Int32)) (x6 + (1 : Int32)) hF
        · replace hF := sd_neg hF c39
          refine sd_iconst C (v := 1) dX0_refusing_42 rfl rfl (n' := 43) ?_
          refine sd_iload C 6 dX0_refusing_43 rfl rfl (n' := 45) ?_
          refine sd_ishl C dX0_refusing_45 rfl (n' := 46) ?_
          refine sd_goto C (tgt := 50) dX0_refusing_46 rfl ?_
          refine sd_ior C dX0_refusing_50 rfl (n' := 51) ?_
          refine sd_istore [(5, .int (x5 ||| ((1 : Int32) <<< (x6 &&& 31)))), (0, .ref (E.2.2 63)), (1, .ref (E.2.2 h1)), (2, .int x2), (3, .int x3), (4, .int x4), (6, .int x6)] C dX0_refusing_51 (by decide) rfl rfl (n' := 53) ?_
          refine sd_iinc [(6, .int (x6 + (1 : Int32))), (5, .int (x5 ||| ((1 : Int32) <<< (x6 &&& 31)))), (0, .ref (E.2.2 63)), (1, .ref (E.2.2 h1)), (2, .int x2), (3, .int x3), (4, .int x4)] 6 C dX0_refusing_53 rfl rfl (by decide) rfl rfl (n' := 56) ?_
          refine sd_goto C (tgt := 6) dX0_refusing_56 rfl ?_
          refine sd_sub [2, 3, 4, 5, 6, 1, 0] rfl ?_
          exact ih x2 x3 x4 (x5 ||| ((1 : Int32) <<< (x6 &&& 31))) (x6 + (1 : Int32)) hF
set_option maxRecDepth 100000 in
set_option maxHeartbeats 4000000 in
theorem tb_X0_refusing_0 {K : sd_K} {E : sd_Env} {M : sd_Mem} {h1 : Nat} {r : Int32} (C : sd_C K E sd_LC RX0 cX0_refusing 7 (some .int)) (k1 : sd_kd h1 = 10) : ∀ (x2 : Int32) (x3 : Int32) (x4 : Int32), fn_X0_refusing_0 M h1 x2 x3 x4 = some r → sd_Z K rm_X0_refusing E sd_LC 7 (sd_QI K E sd_LC r M) M 0 [(0, .ref (E.2.2 63)), (1, .ref (E.2.2 h1)), (2, .int x2), (3, .int x3), (4, .int x4)] [] := by
  intro x2 x3 x4 hF
  unfold fn_X0_refusing_0 at hF
  refine sd_iconst C (v := 0) dX0_refusing_0 rfl rfl (n' := 1) ?_
  refine sd_istore [(5, .int (0 : Int32)), (0, .ref (E.2.2 63)), (1, .ref (E.2.2 h1)), (2, .int x2), (3, .int x3), (4, .int x4)] C dX0_refusing_1 (by decide) rfl rfl (n' := 3) ?_
  refine sd_iconst C (v := 0) dX0_refusing_3 rfl rfl (n' := 4) ?_
  refine sd_istore [(6, .int (0 : Int32)), (5, .int (0 : Int32)), (0, .ref (E.2.2 63)), (1, .ref (E.2.2 h1)), (2, .int x2), (3, .int x3), (4, .int x4)] C dX0_refusing_4 (by decide) rfl rfl (n' := 6) ?_
  refine sd_sub [2, 3, 4, 5, 6, 1, 0] rfl ?_
  exact tb_X0_refusing_6 C k1 sd_FU x2 x3 x4 (0 : Int32) (0 : Int32) hF
theorem ct_X0_refusing {l : Launch} {E : sd_Env} (M : sd_Mem) (h1 : Nat) (x2 : Int32) (x3 : Int32) (x4 : Int32) (k1 : sd_kd h1 = 10) {r : Int32} (hF : fn_X0_refusing M h1 x2 x3 x4 = some r) : sd_MI l E sd_LC yX0_refusing cX0_refusing 7 (some .int) rm_X0_refusing [.ref (E.2.2 63), .ref (E.2.2 h1), .int x2, .int x3, .int x4] M r M := sd_ent0 (by decide +kernel) (Nat.le_of_ble_eq_true rfl) (fun p e s m below meth c C => tb_X0_refusing_0 C k1 x2 x3 x4 hF)
