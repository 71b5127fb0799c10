theorem dX11_told_0 : decode cX11_told 0 = .ok (.iload_n 1, 1) := by decide +kernel
theorem dX11_told_1 : decode cX11_told 1 = .ok (.iconst 0, 1) := by decide +kernel
theorem dX11_told_2 : decode cX11_told 2 = .ok (.bipush 8, 2) := by decide +kernel
theorem dX11_told_4 : decode cX11_told 4 = .ok (.invokestatic 97, 3) := by decide +kernel
theorem dX11_told_7 : decode cX11_told 7 = .ok (.ifCond .eq 16, 3) := by decide +kernel
theorem dX11_told_10 : decode cX11_told 10 = .ok (.aload_n 0, 1) := by decide +kernel
theorem dX11_told_11 : decode cX11_told 11 = .ok (.aload_n 0, 1) := by decide +kernel
theorem dX11_told_12 : decode cX11_told 12 = .ok (.iload_n 1, 1) := by decide +kernel
theorem dX11_told_13 : decode cX11_told 13 = .ok (.invokevirtual 150, 3) := by decide +kernel
theorem dX11_told_16 : decode cX11_told 16 = .ok (.iconst 1, 1) := by decide +kernel
theorem dX11_told_17 : decode cX11_told 17 = .ok (.invokevirtual 119, 3) := by decide +kernel
theorem dX11_told_20 : decode cX11_told 20 = .ok (.goto 4, 3) := by decide +kernel
theorem dX11_told_23 : decode cX11_told 23 = .ok (.iconst (-1), 1) := by decide +kernel
theorem dX11_told_24 : decode cX11_told 24 = .ok (.ireturn, 1) := by decide +kernel
set_option maxRecDepth 100000 in
set_option maxHeartbeats 4000000 in
theorem tb_X11_told_0 {K : sd_K} {E : sd_Env}   {r : (Int32 × sd_Mem)} (C : sd_C K E sd_LM RX11 cX11_told 2 (some .int))  : ∀ (M : sd_Mem) (x1 : Int32), fn_X11_told_0 M x1 = some r → sd_Z K rm_X11_told E sd_LM 2 (sd_QI K E sd_LM r.1 r.2) M 0 [(0, .ref (E.2.2 100)), (1, .int x1)] [] := by
  intro M x1 hF
  unfold fn_X11_told_0 at hF
  refine sd_iload_n C 1 dX11_told_0 rfl rfl rfl (n' := 1) ?_
  refine sd_iconst C (v := 0) dX11_told_1 rfl rfl (n' := 2) ?_
  refine sd_bipush C (v := 8) dX11_told_2 rfl rfl (n' := 4) ?_
  obtain ⟨q4, e4, hF⟩ := sd_bind hF
  refine sd_callSI [.int x1, .int (0 : Int32), .int (8 : Int32)] [] C (ct_X11_in M x1 (0 : Int32) (8 : Int32)  e4) sd_lX11_97 ⟨rfl, rfl, Nat.le_of_ble_eq_true rfl, Nat.le_of_ble_eq_true rfl⟩ rfl (Nat.le_of_ble_eq_true rfl) dX11_told_4 rfl (n' := 7) ?_
  refine sd_if_eq C (n' := 10) (tgt := 23) dX11_told_7 rfl rfl (fun c7 => ?_) (fun c7 => ?_)
  · replace hF := sd_pos hF c7
    refine sd_iconst C (v := -1) dX11_told_23 rfl rfl (n' := 24) ?_
    exact sd_iret C dX11_told_24 (sd_fst hF) (sd_snd hF)
  · replace hF := sd_neg hF c7
    refine sd_aload_n C 0 dX11_told_10 rfl rfl rfl (n' := 11) ?_
    refine sd_aload_n C 0 dX11_told_11 rfl rfl rfl (n' := 12) ?_
    refine sd_iload_n C 1 dX11_told_12 rfl rfl rfl (n' := 13) ?_
    obtain ⟨q13, e13, hF⟩ := sd_bind hF
    refine sd_callVI [.int x1] [.ref (E.2.2 100)] C (ct_X11_tells M x1  e13) sd_lX11_150 ⟨rfl, rfl, Nat.le_of_ble_eq_true rfl, Nat.le_of_ble_eq_true rfl⟩ sd_i100 (sd_e12 sd_k100) rfl rfl rfl (Nat.le_of_ble_eq_true rfl) dX11_told_13 rfl (n' := 16) ?_
    refine sd_iconst C (v := 1) dX11_told_16 rfl rfl (n' := 17) ?_
    obtain ⟨q17, e17, hF⟩ := sd_bind hF
    refine sd_callVI [.int q13, .int (1 : Int32)] [] C (ct_X11_ask M q13 (1 : Int32)  e17) sd_lX11_119 ⟨rfl, rfl, Nat.le_of_ble_eq_true rfl, Nat.le_of_ble_eq_true rfl⟩ sd_i100 (sd_e12 sd_k100) rfl rfl rfl (Nat.le_of_ble_eq_true rfl) dX11_told_17 rfl (n' := 20) ?_
    refine sd_goto C (tgt := 24) dX11_told_20 rfl ?_
    exact sd_iret C dX11_told_24 (sd_fst hF) (sd_snd hF)
theorem ct_X11_told {l : Launch} {E : sd_Env} (M : sd_Mem) (x1 : Int32)  {r : (Int32 × sd_Mem)} (hF : fn_X11_told M x1 = some r) : sd_MI l E sd_LM yX11_told cX11_told 2 (some .int) rm_X11_told [.ref (E.2.2 100), .int x1] M r.1 r.2 := sd_ent0 (by decide +kernel) (Nat.le_of_ble_eq_true rfl) (fun p e s m below meth c C => tb_X11_told_0 C M x1 hF)
theorem dX11_isSort_0 : decode cX11_isSort 0 = .ok (.iload_n 1, 1) := by decide +kernel
theorem dX11_isSort_1 : decode cX11_isSort 1 = .ok (.iconst 0, 1) := by decide +kernel
theorem dX11_isSort_2 : decode cX11_isSort 2 = .ok (.iconst 1, 1) := by decide +kernel
theorem dX11_isSort_3 : decode cX11_isSort 3 = .ok (.invokestatic 97, 3) := by decide +kernel
theorem dX11_isSort_6 : decode cX11_isSort 6 = .ok (.ifCond .eq 23, 3) := by decide +kernel
theorem dX11_isSort_9 : decode cX11_isSort 9 = .ok (.iload_n 2, 1) := by decide +kernel
theorem dX11_isSort_10 : decode cX11_isSort 10 = .ok (.iconst 0, 1) := by decide +kernel
theorem dX11_isSort_11 : decode cX11_isSort 11 = .ok (.aload_n 0, 1) := by decide +kernel
theorem dX11_isSort_12 : decode cX11_isSort 12 = .ok (.getfield 32, 3) := by decide +kernel
theorem dX11_isSort_15 : decode cX11_isSort 15 = .ok (.iload_n 1, 1) := by decide +kernel
theorem dX11_isSort_16 : decode cX11_isSort 16 = .ok (.iaload, 1) := by decide +kernel
theorem dX11_isSort_17 : decode cX11_isSort 17 = .ok (.iconst 1, 1) := by decide +kernel
theorem dX11_isSort_18 : decode cX11_isSort 18 = .ok (.isub, 1) := by decide +kernel
theorem dX11_isSort_19 : decode cX11_isSort 19 = .ok (.invokestatic 97, 3) := by decide +kernel
theorem dX11_isSort_22 : decode cX11_isSort 22 = .ok (.ifCond .eq 7, 3) := by decide +kernel
theorem dX11_isSort_25 : decode cX11_isSort 25 = .ok (.iconst 1, 1) := by decide +kernel
theorem dX11_isSort_26 : decode cX11_isSort 26 = .ok (.goto 4, 3) := by decide +kernel
theorem dX11_isSort_29 : decode cX11_isSort 29 = .ok (.iconst 0, 1) := by decide +kernel
theorem dX11_isSort_30 : decode cX11_isSort 30 = .ok (.ireturn, 1) := by decide +kernel
set_option maxRecDepth 100000 in
set_option maxHeartbeats 4000000 in
theorem tb_X11_isSort_0 {K : sd_K} {E : sd_Env} {M : sd_Mem}  {r : Int32} (C : sd_C K E sd_LM RX11 cX11_isSort 3 (some .boolean))  : ∀ (x1 : Int32) (x2 : Int32), fn_X11_isSort_0 M x1 x2 = some r → sd_Z K rm_X11_isSort E sd_LM 3 (sd_QI K E sd_LM r M) M 0 [(0, .ref (E.2.2 100)), (1, .int x1), (2, .int x2)] [] := by
  intro x1 x2 hF
  unfold fn_X11_isSort_0 at hF
  refine sd_iload_n C 1 dX11_isSort_0 rfl rfl rfl (n' := 1) ?_
  refine sd_iconst C (v := 0) dX11_isSort_1 rfl rfl (n' := 2) ?_
  refine sd_iconst C (v := 1) dX11_isSort_2 rfl rfl (n' := 3) ?_
  obtain ⟨q3, e3, hF⟩ := sd_bind hF
  refine sd_callSI [.int x1, .int (0 : Int32), .int (1 : Int32)] [] C (ct_X11_in M x1 (0 : Int32) (1 : Int32)  e3) sd_lX11_97 ⟨rfl, rfl, Nat.le_of_ble_eq_true rfl, Nat.le_of_ble_eq_true rfl⟩ rfl (Nat.le_of_ble_eq_true rfl) dX11_isSort_3 rfl (n' := 6) ?_
  refine sd_if_eq C (n' := 9) (tgt := 29) dX11_isSort_6 rfl rfl (fun c6 => ?_) (fun c6 => ?_)
  · replace hF := sd_pos hF c6
    refine sd_iconst C (v := 0) dX11_isSort_29 rfl rfl (n' := 30) ?_
    exact sd_zret C dX11_isSort_30 rfl (Option.some.inj hF) rfl
  · replace hF := sd_neg hF c6
    refine sd_iload_n C 2 dX11_isSort_9 rfl rfl rfl (n' := 10) ?_
    refine sd_iconst C (v := 0) dX11_isSort_10 rfl rfl (n' := 11) ?_
    refine sd_aload_n C 0 dX11_isSort_11 rfl rfl rfl (n' := 12) ?_
    refine sd_g11_10 C sd_i100 sd_k100 sd_w1051 dX11_isSort_12 rfl (n' := 15) ?_
    refine sd_iload_n C 1 dX11_isSort_15 rfl rfl rfl (n' := 16) ?_
    obtain ⟨b16, hF⟩ := sd_ok hF
    refine sd_iald C sd_i107 sd_k107 sd_n107 b16 dX11_isSort_16 rfl (n' := 17) ?_
    refine sd_iconst C (v := 1) dX11_isSort_17 rfl rfl (n' := 18) ?_
    refine sd_isub C dX11_isSort_18 rfl (n' := 19) ?_
    obtain ⟨q19, e19, hF⟩ := sd_bind hF
    refine sd_callSI [.int x2, .int (0 : Int32), .int ((M.1 107 x1.toNatClampNeg) - (1 : Int32))] [] C (ct_X11_in M x2 (0 : Int32) ((M.1 107 x1.toNatClampNeg) - (1 : Int32))  e19) sd_lX11_97 ⟨rfl, rfl, Nat.le_of_ble_eq_true rfl, Nat.le_of_ble_eq_true rfl⟩ rfl (Nat.le_of_ble_eq_true rfl) dX11_isSort_19 rfl (n' := 22) ?_
    refine sd_if_eq C (n' := 25) (tgt := 29) dX11_isSort_22 rfl rfl (fun c22 => ?_) (fun c22 => ?_)
    · replace hF := sd_pos hF c22
      refine sd_iconst C (v := 0) dX11_isSort_29 rfl rfl (n' := 30) ?_
      exact sd_zret C dX11_isSort_30 rfl (Option.some.inj hF) rfl
    · replace hF := sd_neg hF c22
      refine sd_iconst C (v := 1) dX11_isSort_25 rfl rfl (n' := 26) ?_
      refine sd_goto C (tgt := 30) dX11_isSort_26 rfl ?_
      exact sd_zret C dX11_isSort_30 rfl (Option.some.inj hF) rfl
theorem ct_X11_isSort {l : Launch} {E : sd_Env} (M : sd_Mem) (x1 : Int32) (x2 : Int32)  {r : Int32} (hF : fn_X11_isSort M x1 x2 = some r) : sd_MI l E sd_LM yX11_isSort cX11_isSort 3 (some .boolean) rm_X11_isSort [.ref (E.2.2 100), .int x1, .int x2] M r M := sd_ent0 (by decide +kernel) (Nat.le_of_ble_eq_true rfl) (fun p e s m below meth c C => tb_X11_isSort_0 C x1 x2 hF)
theorem dX11_sort_0 : decode cX11_sort 0 = .ok (.aload_n 0, 1) := by decide +kernel
theorem dX11_sort_1 : decode cX11_sort 1 = .ok (.iload_n 1, 1) := by decide +kernel
theorem dX11_sort_2 : decode cX11_sort 2 = .ok (.iload_n 2, 1) := by decide +kernel
theorem dX11_sort_3 : decode cX11_sort 3 = .ok (.invokevirtual 153, 3) := by decide +kernel
theorem dX11_sort_6 : decode cX11_sort 6 = .ok (.ifCond .eq 47, 3) := by decide +kernel
theorem dX11_sort_9 : decode cX11_sort 9 = .ok (.iload_n 3, 1) := by decide +kernel
theorem dX11_sort_10 : decode cX11_sort 10 = .ok (.iconst 0, 1) := by decide +kernel
theorem dX11_sort_11 : decode cX11_sort 11 = .ok (.iconst 1, 1) := by decide +kernel
theorem dX11_sort_12 : decode cX11_sort 12 = .ok (.invokestatic 97, 3) := by decide +kernel
theorem dX11_sort_15 : decode cX11_sort 15 = .ok (.ifCond .eq 38, 3) := by decide +kernel
theorem dX11_sort_18 : decode cX11_sort 18 = .ok (.aload_n 0, 1) := by decide +kernel
theorem dX11_sort_19 : decode cX11_sort 19 = .ok (.iload_n 3, 1) := by decide +kernel
theorem dX11_sort_20 : decode cX11_sort 20 = .ok (.ifCond .ne 16, 3) := by decide +kernel
theorem dX11_sort_23 : decode cX11_sort 23 = .ok (.aload_n 0, 1) := by decide +kernel
theorem dX11_sort_24 : decode cX11_sort 24 = .ok (.getfield 35, 3) := by decide +kernel
theorem dX11_sort_27 : decode cX11_sort 27 = .ok (.iconst 3, 1) := by decide +kernel
theorem dX11_sort_28 : decode cX11_sort 28 = .ok (.iload_n 1, 1) := by decide +kernel
theorem dX11_sort_29 : decode cX11_sort 29 = .ok (.imul, 1) := by decide +kernel
theorem dX11_sort_30 : decode cX11_sort 30 = .ok (.iload_n 2, 1) := by decide +kernel
theorem dX11_sort_31 : decode cX11_sort 31 = .ok (.iadd, 1) := by decide +kernel
theorem dX11_sort_32 : decode cX11_sort 32 = .ok (.iaload, 1) := by decide +kernel
theorem dX11_sort_33 : decode cX11_sort 33 = .ok (.goto 13, 3) := by decide +kernel
theorem dX11_sort_36 : decode cX11_sort 36 = .ok (.aload_n 0, 1) := by decide +kernel
theorem dX11_sort_37 : decode cX11_sort 37 = .ok (.getfield 38, 3) := by decide +kernel
theorem dX11_sort_40 : decode cX11_sort 40 = .ok (.iconst 3, 1) := by decide +kernel
theorem dX11_sort_41 : decode cX11_sort 41 = .ok (.iload_n 1, 1) := by decide +kernel
theorem dX11_sort_42 : decode cX11_sort 42 = .ok (.imul, 1) := by decide +kernel
theorem dX11_sort_43 : decode cX11_sort 43 = .ok (.iload_n 2, 1) := by decide +kernel
theorem dX11_sort_44 : decode cX11_sort 44 = .ok (.iadd, 1) := by decide +kernel
theorem dX11_sort_45 : decode cX11_sort 45 = .ok (.iaload, 1) := by decide +kernel
theorem dX11_sort_46 : decode cX11_sort 46 = .ok (.iconst 1, 1) := by decide +kernel
theorem dX11_sort_47 : decode cX11_sort 47 = .ok (.invokevirtual 119, 3) := by decide +kernel
theorem dX11_sort_50 : decode cX11_sort 50 = .ok (.goto 4, 3) := by decide +kernel
theorem dX11_sort_53 : decode cX11_sort 53 = .ok (.iconst (-1), 1) := by decide +kernel
theorem dX11_sort_54 : decode cX11_sort 54 = .ok (.ireturn, 1) := by decide +kernel
set_option maxRecDepth 100000 in
set_option maxHeartbeats 4000000 in
theorem tb_X11_sort_0 {K : sd_K} {E : sd_Env}   {r : (Int32 × sd_Mem)} (C : sd_C K E sd_LM RX11 cX11_sort 4 (some .int))  : ∀ (M : sd_Mem) (x1 : Int32) (x2 : Int32) (x3 : Int32), fn_X11_sort_0 M x1 x2 x3 = some r → sd_Z K rm_X11_sort E sd_LM 4 (sd_QI K E sd_LM r.1 r.2) M 0 [(0, .ref (E.2.2 100)), (1, .int x1), (2, .int x2), (3, .int x3)] [] := by
  intro M x1 x2 x3 hF
  unfold fn_X11_sort_0 at hF
  refine sd_aload_n C 0 dX11_sort_0 rfl rfl rfl (n' := 1) ?_
  refine sd_iload_n C 1 dX11_sort_1 rfl rfl rfl (n' := 2) ?_
  refine sd_iload_n C 2 dX11_sort_2 rfl rfl rfl (n' := 3) ?_
  obtain ⟨q3, e3, hF⟩ := sd_bind hF
  refine sd_callVI [.int x1, .int x2] [] C (ct_X11_isSort M x1 x2  e3) sd_lX11_153 ⟨rfl, rfl, Nat.le_of_ble_eq_true rfl, Nat.le_of_ble_eq_true rfl⟩ sd_i100 (sd_e12 sd_k100) rfl rfl rfl (Nat.le_of_ble_eq_true rfl) dX11_sort_3 rfl (n' := 6) ?_
  refine sd_if_eq C (n' := 9) (tgt := 53) dX11_sort_6 rfl rfl (fun c6 => ?_) (fun c6 => ?_)
  · replace hF := sd_pos hF c6
    refine sd_iconst C (v := -1) dX11_sort_53 rfl rfl (n' := 54) ?_
    exact sd_iret C dX11_sort_54 (sd_fst hF) (sd_snd hF)
  · replace hF := sd_neg hF c6
    refine sd_iload_n C 3 dX11_sort_9 rfl rfl rfl (n' := 10) ?_
    refine sd_iconst C (v := 0) dX11_sort_10 rfl rfl (n' := 11) ?_
    refine sd_iconst C (v := 1) dX11_sort_11 rfl rfl (n' := 12) ?_
    obtain ⟨q12, e12, hF⟩ := sd_bind hF
    refine sd_callSI [.int x3, .int (0 : Int32), .int (1 : Int32)] [] C (ct_X11_in M x3 (0 : Int32) (1 : Int32)  e12) sd_lX11_97 ⟨rfl, rfl, Nat.le_of_ble_eq_true rfl, Nat.le_of_ble_eq_true rfl⟩ rfl (Nat.le_of_ble_eq_true rfl) dX11_sort_12 rfl (n' := 15) ?_
    refine sd_if_eq C (n' := 18) (tgt := 53) dX11_sort_15 rfl rfl (fun c15 => ?_) (fun c15 => ?_)
    · replace hF := sd_pos hF c15
      refine sd_iconst C (v := -1) dX11_sort_53 rfl rfl (n' := 54) ?_
      exact sd_iret C dX11_sort_54 (sd_fst hF) (sd_snd hF)
    · replace hF := sd_neg hF c15
      refine sd_aload_n C 0 dX11_sort_18 rfl rfl rfl (n' := 19) ?_
      refine sd_iload_n C 3 dX11_sort_19 rfl rfl rfl (n' := 20) ?_
      refine sd_if_ne C (n' := 23) (tgt := 36) dX11_sort_20 rfl rfl (fun c20 => ?_) (fun c20 => ?_)
      · replace hF := sd_neg hF c20
        refine sd_aload_n C 0 dX11_sort_36 rfl rfl rfl (n' := 37) ?_
        refine sd_g11_12 C sd_i100 sd_k100 sd_w1053 dX11_sort_37 rfl (n' := 40) ?_
        refine sd_iconst C (v := 3) dX11_sort_40 rfl rfl (n' := 41) ?_
        refine sd_iload_n C 1 dX11_sort_41 rfl rfl rfl (n' := 42) ?_
        refine sd_imul C dX11_sort_42 rfl (n' := 43) ?_
        refine sd_iload_n C 2 dX11_sort_43 rfl rfl rfl (n' := 44) ?_
        refine sd_iadd C dX11_sort_44 rfl (n' := 45) ?_
        obtain ⟨b45, hF⟩ := sd_ok hF
        refine sd_iald C sd_i109 sd_k109 sd_n109 b45 dX11_sort_45 rfl (n' := 46) ?_
        refine sd_iconst C (v := 1) dX11_sort_46 rfl rfl (n' := 47) ?_
        obtain ⟨q47, e47, hF⟩ := sd_bind hF
        refine sd_callVI [.int (M.1 109 (((3 : Int32) * x1) + x2).toNatClampNeg), .int (1 : Int32)] [] C (ct_X11_ask M (M.1 109 (((3 : Int32) * x1) + x2).toNatClampNeg) (1 : Int32)  e47) sd_lX11_119 ⟨rfl, rfl, Nat.le_of_ble_eq_true rfl, Nat.le_of_ble_eq_true rfl⟩ sd_i100 (sd_e12 sd_k100) rfl rfl rfl (Nat.le_of_ble_eq_true rfl) dX11_sort_47 rfl (n' := 50) ?_
        refine sd_goto C (tgt := 54) dX11_sort_50 rfl ?_
        exact sd_iret C dX11_sort_54 (sd_fst hF) (sd_snd hF)
      · replace hF := sd_pos hF c20
        refine sd_aload_n C 0 dX11_sort_23 rfl rfl rfl (n' := 24) ?_
        refine sd_g11_11 C sd_i100 sd_k100 sd_w1052 dX11_sort_24 rfl (n' := 27) ?_
        refine sd_iconst C (v := 3) dX11_sort_27 rfl rfl (n' := 28) ?_
        refine sd_iload_n C 1 dX11_sort_28 rfl rfl rfl (n' := 29) ?_
        refine sd_imul C dX11_sort_29 rfl (n' := 30) ?_
        refine sd_iload_n C 2 dX11_sort_30 rfl rfl rfl (n' := 31) ?_
        refine sd_iadd C dX11_sort_31 rfl (n' := 32) ?_
        obtain ⟨b32, hF⟩ := sd_ok hF
        refine sd_iald C sd_i108 sd_k108 sd_n108 b32 dX11_sort_32 rfl (n' := 33) ?_
        refine sd_goto C (tgt := 46) dX11_sort_33 rfl ?_
        refine sd_iconst C (v := 1) dX11_sort_46 rfl rfl (n' := 47) ?_
        obtain ⟨q47, e47, hF⟩ := sd_bind hF
        refine sd_callVI [.int (M.1 108 (((3 : Int32) * x1) + x2).toNatClampNeg), .int (1 : Int32)] [] C (ct_X11_ask M (M.1 108 (((3 : Int32) * x1) + x2).toNatClampNeg) (1 : Int32)  e47) sd_lX11_119 ⟨rfl, rfl, Nat.le_of_ble_eq_true rfl, Nat.le_of_ble_eq_true rfl⟩ sd_i100 (sd_e12 sd_k100) rfl rfl rfl (Nat.le_of_ble_eq_true rfl) dX11_sort_47 rfl (n' := 50) ?_
        refine sd_goto C (tgt := 54) dX11_sort_50 rfl ?_
        exact sd_iret C dX11_sort_54 (sd_fst hF) (sd_snd hF)
theorem ct_X11_sort {l : Launch} {E : sd_Env} (M : sd_Mem) (x1 : Int32) (x2 : Int32) (x3 : Int32)  {r : (Int32 × sd_Mem)} (hF : fn_X11_sort M x1 x2 x3 = some r) : sd_MI l E sd_LM yX11_sort cX11_sort 4 (some .int) rm_X11_sort [.ref (E.2.2 100), .int x1, .int x2, .int x3] M r.1 r.2 := sd_ent0 (by decide +kernel) (Nat.le_of_ble_eq_true rfl) (fun p e s m below meth c C => tb_X11_sort_0 C M x1 x2 x3 hF)
theorem dX11_isDay_0 : decode cX11_isDay 0 = .ok (.iload_n 0, 1) := by decide +kernel
theorem dX11_isDay_1 : decode cX11_isDay 1 = .ok (.iconst 1, 1) := by decide +kernel
theorem dX11_isDay_2 : decode cX11_isDay 2 = .ok (.bipush 10, 2) := by decide +kernel
theorem dX11_isDay_4 : decode cX11_isDay 4 = .ok (.invokestatic 97, 3) := by decide +kernel
theorem dX11_isDay_7 : decode cX11_isDay 7 = .ok (.ireturn, 1) := by decide +kernel
set_option maxRecDepth 100000 in
set_option maxHeartbeats 4000000 in
theorem tb_X11_isDay_0 {K : sd_K} {E : sd_Env} {M : sd_Mem}  {r : Int32} (C : sd_C K E sd_LM RX11 cX11_isDay 1 (some .boolean))  : ∀ (x0 : Int32), fn_X11_isDay_0 x0 = some r → sd_Z K rm_X11_isDay E sd_LM 1 (sd_QI K E sd_LM r M) M 0 [(0, .int x0)] [] := by
  intro x0 hF
  unfold fn_X11_isDay_0 at hF
  refine sd_iload_n C 0 dX11_isDay_0 rfl rfl rfl (n' := 1) ?_
  refine sd_iconst C (v := 1) dX11_isDay_1 rfl rfl (n' := 2) ?_
  refine sd_bipush C (v := 10) dX11_isDay_2 rfl rfl (n' := 4) ?_
  obtain ⟨q4, e4, hF⟩ := sd_bind hF
  refine sd_callSI [.int x0, .int (1 : Int32), .int (10 : Int32)] [] C (ct_X11_in M x0 (1 : Int32) (10 : Int32)  e4) sd_lX11_97 ⟨rfl, rfl, Nat.le_of_ble_eq_true rfl, Nat.le_of_ble_eq_true rfl⟩ rfl (Nat.le_of_ble_eq_true rfl) dX11_isDay_4 rfl (n' := 7) ?_
  obtain ⟨b7, hF⟩ := sd_ok hF
  exact sd_zret C dX11_isDay_7 (Decidable.of_not_not b7) (Option.some.inj hF) rfl
theorem ct_X11_isDay {l : Launch} {E : sd_Env} (M : sd_Mem) (x0 : Int32)  {r : Int32} (hF : fn_X11_isDay x0 = some r) : sd_MI l E sd_LM yX11_isDay cX11_isDay 1 (some .boolean) rm_X11_isDay [.int x0] M r M := sd_ent0 (by decide +kernel) (Nat.le_of_ble_eq_true rfl) (fun p e s m below meth c C => tb_X11_isDay_0 C x0 hF)
theorem dX11_notice_0 : decode cX11_notice 0 = .ok (.iload_n 1, 1) := by decide +kernel
theorem dX11_notice_1 : decode cX11_notice 1 = .ok (.invokestatic 156, 3) := by decide +kernel
theorem dX11_notice_4 : decode cX11_notice 4 = .ok (.ifCond .ne 5, 3) := by decide +kernel
theorem dX11_notice_7 : decode cX11_notice 7 = .ok (.iconst (-1), 1) := by decide +kernel
theorem dX11_notice_8 : decode cX11_notice 8 = .ok (.ireturn, 1) := by decide +kernel
theorem dX11_notice_9 : decode cX11_notice 9 = .ok (.aload_n 0, 1) := by decide +kernel
theorem dX11_notice_10 : decode cX11_notice 10 = .ok (.getfield 44, 3) := by decide +kernel
theorem dX11_notice_13 : decode cX11_notice 13 = .ok (.istore_n 2, 1) := by decide +kernel
theorem dX11_notice_14 : decode cX11_notice 14 = .ok (.aload_n 0, 1) := by decide +kernel
theorem dX11_notice_15 : decode cX11_notice 15 = .ok (.iload_n 1, 1) := by decide +kernel
theorem dX11_notice_16 : decode cX11_notice 16 = .ok (.putfield 44, 3) := by decide +kernel
theorem dX11_notice_19 : decode cX11_notice 19 = .ok (.iload_n 2, 1) := by decide +kernel
theorem dX11_notice_20 : decode cX11_notice 20 = .ok (.ireturn, 1) := by decide +kernel
set_option maxRecDepth 100000 in
set_option maxHeartbeats 4000000 in
theorem tb_X11_notice_0 {K : sd_K} {E : sd_Env}   {r : (Int32 × sd_Mem)} (C : sd_C K E sd_LM RX11 cX11_notice 3 (some .int))  : ∀ (M : sd_Mem) (x1 : Int32), fn_X11_notice_0 M x1 = some r → sd_Z K rm_X11_notice E sd_LM 3 (sd_QI K E sd_LM r.1 r.2) M 0 [(0, .ref (E.2.2 100)), (1, .int x1)] [] := by
  intro M x1 hF
  unfold fn_X11_notice_0 at hF
  refine sd_iload_n C 1 dX11_notice_0 rfl rfl rfl (n' := 1) ?_
  obtain ⟨q1, e1, hF⟩ := sd_bind hF
  refine sd_callSI [.int x1] [] C (ct_X11_isDay M x1  e1) sd_lX11_156 ⟨rfl, rfl, Nat.le_of_ble_eq_true rfl, Nat.le_of_ble_eq_true rfl⟩ rfl (Nat.le_of_ble_eq_true rfl) dX11_notice_1 rfl (n' := 4) ?_
  refine sd_if_ne C (n' := 7) (tgt := 9) dX11_notice_4 rfl rfl (fun c4 => ?_) (fun c4 => ?_)
  · replace hF := sd_neg hF c4
    refine sd_aload_n C 0 dX11_notice_9 rfl rfl rfl (n' := 10) ?_
    refine sd_g11_14 C sd_i100 sd_k100 sd_w1055 dX11_notice_10 rfl (n' := 13) ?_
    refine sd_istore_n [(2, .int (M.1 100 14)), (0, .ref (E.2.2 100)), (1, .int x1)] C dX11_notice_13 rfl (by decide) rfl rfl (n' := 14) ?_
    refine sd_aload_n C 1 dX11_notice_14 rfl rfl rfl (n' := 15) ?_
    refine sd_iload_n C 2 dX11_notice_15 rfl rfl rfl (n' := 16) ?_
    refine sd_p11_14 C sd_i100 sd_k100 sd_w1055 dX11_notice_16 rfl (n' := 19) ?_
    refine sd_iload_n C 0 dX11_notice_19 rfl rfl rfl (n' := 20) ?_
    exact sd_iret C dX11_notice_20 (sd_fst hF) (sd_snd hF)
  · replace hF := sd_pos hF c4
    refine sd_iconst C (v := -1) dX11_notice_7 rfl rfl (n' := 8) ?_
    exact sd_iret C dX11_notice_8 (sd_fst hF) (sd_snd hF)
theorem ct_X11_notice {l : Launch} {E : sd_Env} (M : sd_Mem) (x1 : Int32)  {r : (Int32 × sd_Mem)} (hF : fn_X11_notice M x1 = some r) : sd_MI l E sd_LM yX11_notice cX11_notice 3 (some .int) rm_X11_notice [.ref (E.2.2 100), .int x1] M r.1 r.2 := sd_ent0 (by decide +kernel) (Nat.le_of_ble_eq_true rfl) (fun p e s m below meth c C => tb_X11_notice_0 C M x1 hF)
theorem dX11_judge_0 : decode cX11_judge 0 = .ok (.iload_n 1, 1) := by decide +kernel
theorem dX11_judge_1 : decode cX11_judge 1 = .ok (.iconst 0, 1) := by decide +kernel
theorem dX11_judge_2 : decode cX11_judge 2 = .ok (.bipush 12, 2) := by decide +kernel
theorem dX11_judge_4 : decode cX11_judge 4 = .ok (.invokestatic 97, 3) := by decide +kernel
theorem dX11_judge_7 : decode cX11_judge 7 = .ok (.ifCond .eq 13, 3) := by decide +kernel
theorem dX11_judge_10 : decode cX11_judge 10 = .ok (.iload_n 2, 1) := by decide +kernel
theorem dX11_judge_11 : decode cX11_judge 11 = .ok (.iconst 0, 1) := by decide +kernel
theorem dX11_judge_12 : decode cX11_judge 12 = .ok (.bipush 12, 2) := by decide +kernel
theorem dX11_judge_14 : decode cX11_judge 14 = .ok (.invokestatic 97, 3) := by decide +kernel
theorem dX11_judge_17 : decode cX11_judge 17 = .ok (.ifCond .ne 5, 3) := by decide +kernel
theorem dX11_judge_20 : decode cX11_judge 20 = .ok (.iconst (-1), 1) := by decide +kernel
theorem dX11_judge_21 : decode cX11_judge 21 = .ok (.ireturn, 1) := by decide +kernel
theorem dX11_judge_22 : decode cX11_judge 22 = .ok (.aload_n 0, 1) := by decide +kernel
theorem dX11_judge_23 : decode cX11_judge 23 = .ok (.iload_n 1, 1) := by decide +kernel
theorem dX11_judge_24 : decode cX11_judge 24 = .ok (.putfield 147, 3) := by decide +kernel
theorem dX11_judge_27 : decode cX11_judge 27 = .ok (.aload_n 0, 1) := by decide +kernel
theorem dX11_judge_28 : decode cX11_judge 28 = .ok (.iload_n 2, 1) := by decide +kernel
theorem dX11_judge_29 : decode cX11_judge 29 = .ok (.putfield 48, 3) := by decide +kernel
theorem dX11_judge_32 : decode cX11_judge 32 = .ok (.iconst 1, 1) := by decide +kernel
theorem dX11_judge_33 : decode cX11_judge 33 = .ok (.ireturn, 1) := by decide +kernel
set_option maxRecDepth 100000 in
set_option maxHeartbeats 4000000 in
theorem tb_X11_judge_0 {K : sd_K} {E : sd_Env}   {r : (Int32 × sd_Mem)} (C : sd_C K E sd_LM RX11 cX11_judge 3 (some .int))  : ∀ (M : sd_Mem) (x1 : Int32) (x2 : Int32), fn_X11_judge_0 M x1 x2 = some r → sd_Z K rm_X11_judge E sd_LM 3 (sd_QI K E sd_LM r.1 r.2) M 0 [(0, .ref (E.2.2 100)), (1, .int x1), (2, .int x2)] [] := by
  intro M x1 x2 hF
  unfold fn_X11_judge_0 at hF
  refine sd_iload_n C 1 dX11_judge_0 rfl rfl rfl (n' := 1) ?_
  refine sd_iconst C (v := 0) dX11_judge_1 rfl rfl (n' := 2) ?_
  refine sd_bipush C (v := 12) dX11_judge_2 rfl rfl (n' := 4) ?_
  obtain ⟨q4, e4, hF⟩ := sd_bind hF
  refine sd_callSI [.int x1, .int (0 : Int32), .int (12 : Int32)] [] C (ct_X11_in M x1 (0 : Int32) (12 : Int32)  e4) sd_lX11_97 ⟨rfl, rfl, Nat.le_of_ble_eq_true rfl, Nat.le_of_ble_eq_true rfl⟩ rfl (Nat.le_of_ble_eq_true rfl) dX11_judge_4 rfl (n' := 7) ?_
  refine sd_if_eq C (n' := 10) (tgt := 20) dX11_judge_7 rfl rfl (fun c7 => ?_) (fun c7 => ?_)
  · replace hF := sd_pos hF c7
    refine sd_iconst C (v := -1) dX11_judge_20 rfl rfl (n' := 21) ?_
    exact sd_iret C dX11_judge_21 (sd_fst hF) (sd_snd hF)
  · replace hF := sd_neg hF c7
    refine sd_iload_n C 2 dX11_judge_10 rfl rfl rfl (n' := 11) ?_
    refine sd_iconst C (v := 0) dX11_judge_11 rfl rfl (n' := 12) ?_
    refine sd_bipush C (v := 12) dX11_judge_12 rfl rfl (n' := 14) ?_
    obtain ⟨q14, e14, hF⟩ := sd_bind hF
    refine sd_callSI [.int x2, .int (0 : Int32), .int (12 : Int32)] [] C (ct_X11_in M x2 (0 : Int32) (12 : Int32)  e14) sd_lX11_97 ⟨rfl, rfl, Nat.le_of_ble_eq_true rfl, Nat.le_of_ble_eq_true rfl⟩ rfl (Nat.le_of_ble_eq_true rfl) dX11_judge_14 rfl (n' := 17) ?_
    refine sd_if_ne C (n' := 20) (tgt := 22) dX11_judge_17 rfl rfl (fun c17 => ?_) (fun c17 => ?_)
    · replace hF := sd_neg hF c17
      refine sd_aload_n C 0 dX11_judge_22 rfl rfl rfl (n' := 23) ?_
      refine sd_iload_n C 1 dX11_judge_23 rfl rfl rfl (n' := 24) ?_
      refine sd_p11_15 C sd_i100 sd_k100 sd_w1056 dX11_judge_24 rfl (n' := 27) ?_
      refine sd_aload_n C 0 dX11_judge_27 rfl rfl rfl (n' := 28) ?_
      refine sd_iload_n C 2 dX11_judge_28 rfl rfl rfl (n' := 29) ?_
      refine sd_p11_16 C sd_i100 sd_k100 sd_w1057 dX11_judge_29 rfl (n' := 32) ?_
      refine sd_iconst C (v := 1) dX11_judge_32 rfl rfl (n' := 33) ?_
      exact sd_iret C dX11_judge_33 (sd_fst hF) (sd_snd hF)
    · replace hF := sd_pos hF c17
      refine sd_iconst C (v := -1) dX11_judge_20 rfl rfl (n' := 21) ?_
      exact sd_iret C dX11_judge_21 (sd_fst hF) (sd_snd hF)
theorem ct_X11_judge {l : Launch} {E : sd_Env} (M : sd_Mem) (x1 : Int32) (x2 : Int32)  {r : (Int32 × sd_Mem)} (hF : fn_X11_judge M x1 x2 = some r) : sd_MI l E sd_LM yX11_judge cX11_judge 3 (some .int) rm_X11_judge [.ref (E.2.2 100), .int x1, .int x2] M r.1 r.2 := sd_ent0 (by decide +kernel) (Nat.le_of_ble_eq_true rfl) (fun p e s m below meth c C => tb_X11_judge_0 C M x1 x2 hF)
theorem dX11_isWay_0 : decode cX11_isWay 0 = .ok (.iload_n 0, 1) := by decide +kernel
theorem dX11_isWay_1 : decode cX11_isWay 1 = .ok (.iconst 0, 1) := by decide +kernel
theorem dX11_isWay_2 : decode cX11_isWay 2 = .ok (.bipush 7, 2) := by decide +kernel
theorem dX11_isWay_4 : decode cX11_isWay 4 = .ok (.invokestatic 97, 3) := by decide +kernel
theorem dX11_isWay_7 : decode cX11_isWay 7 = .ok (.ireturn, 1) := by decide +kernel
set_option maxRecDepth 100000 in
set_option maxHeartbeats 4000000 in
theorem tb_X11_isWay_0 {K : sd_K} {E : sd_Env} {M : sd_Mem}  {r : Int32} (C : sd_C K E sd_LM RX11 cX11_isWay 1 (some .boolean))  : ∀ (x0 : Int32), fn_X11_isWay_0 x0 = some r → sd_Z K rm_X11_isWay E sd_LM 1 (sd_QI K E sd_LM r M) M 0 [(0, .int x0)] [] := by
  intro x0 hF
  unfold fn_X11_isWay_0 at hF
  refine sd_iload_n C 0 dX11_isWay_0 rfl rfl rfl (n' := 1) ?_
  refine sd_iconst C (v := 0) dX11_isWay_1 rfl rfl (n' := 2) ?_
  refine sd_bipush C (v := 7) dX11_isWay_2 rfl rfl (n' := 4) ?_
  obtain ⟨q4, e4, hF⟩ := sd_bind hF
  refine sd_callSI [.int x0, .int (0 : Int32), .int (7 : Int32)] [] C (ct_X11_in M x0 (0 : Int32) (7 : Int32)  e4) sd_lX11_97 ⟨rfl, rfl, Nat.le_of_ble_eq_true rfl, Nat.le_of_ble_eq_true rfl⟩ rfl (Nat.le_of_ble_eq_true rfl) dX11_isWay_4 rfl (n' := 7) ?_
  obtain ⟨b7, hF⟩ := sd_ok hF
  exact sd_zret C dX11_isWay_7 (Decidable.of_not_not b7) (Option.some.inj hF) rfl
theorem ct_X11_isWay {l : Launch} {E : sd_Env} (M : sd_Mem) (x0 : Int32)  {r : Int32} (hF : fn_X11_isWay x0 = some r) : sd_MI l E sd_LM yX11_isWay cX11_isWay 1 (some .boolean) rm_X11_isWay [.int x0] M r M := sd_ent0 (by decide +kernel) (Nat.le_of_ble_eq_true rfl) (fun p e s m below meth c C => tb_X11_isWay_0 C x0 hF)
theorem dX11_way_0 : decode cX11_way 0 = .ok (.iload_n 1, 1) := by decide +kernel
theorem dX11_way_1 : decode cX11_way 1 = .ok (.invokestatic 162, 3) := by decide +kernel
theorem dX11_way_4 : decode cX11_way 4 = .ok (.ifCond .eq 12, 3) := by decide +kernel
theorem dX11_way_7 : decode cX11_way 7 = .ok (.iload_n 2, 1) := by decide +kernel
theorem dX11_way_8 : decode cX11_way 8 = .ok (.iconst 0, 1) := by decide +kernel
theorem dX11_way_9 : decode cX11_way 9 = .ok (.iconst 4, 1) := by decide +kernel
theorem dX11_way_10 : decode cX11_way 10 = .ok (.invokestatic 97, 3) := by decide +kernel
theorem dX11_way_13 : decode cX11_way 13 = .ok (.ifCond .ne 5, 3) := by decide +kernel
theorem dX11_way_16 : decode cX11_way 16 = .ok (.iconst (-1), 1) := by decide +kernel
theorem dX11_way_17 : decode cX11_way 17 = .ok (.ireturn, 1) := by decide +kernel
theorem dX11_way_18 : decode cX11_way 18 = .ok (.aload_n 0, 1) := by decide +kernel
theorem dX11_way_19 : decode cX11_way 19 = .ok (.getfield 63, 3) := by decide +kernel
theorem dX11_way_22 : decode cX11_way 22 = .ok (.iload_n 1, 1) := by decide +kernel
theorem dX11_way_23 : decode cX11_way 23 = .ok (.iload_n 2, 1) := by decide +kernel
theorem dX11_way_24 : decode cX11_way 24 = .ok (.iastore, 1) := by decide +kernel
theorem dX11_way_25 : decode cX11_way 25 = .ok (.iconst 0, 1) := by decide +kernel
theorem dX11_way_26 : decode cX11_way 26 = .ok (.istore_n 3, 1) := by decide +kernel
theorem dX11_way_27 : decode cX11_way 27 = .ok (.iload_n 3, 1) := by decide +kernel
theorem dX11_way_28 : decode cX11_way 28 = .ok (.bipush 30, 2) := by decide +kernel
theorem dX11_way_30 : decode cX11_way 30 = .ok (.if_icmp .ge 21, 3) := by decide +kernel
theorem dX11_way_33 : decode cX11_way 33 = .ok (.aload_n 0, 1) := by decide +kernel
theorem dX11_way_34 : decode cX11_way 34 = .ok (.getfield 66, 3) := by decide +kernel
theorem dX11_way_37 : decode cX11_way 37 = .ok (.bipush 30, 2) := by decide +kernel
theorem dX11_way_39 : decode cX11_way 39 = .ok (.iload_n 1, 1) := by decide +kernel
theorem dX11_way_40 : decode cX11_way 40 = .ok (.imul, 1) := by decide +kernel
theorem dX11_way_41 : decode cX11_way 41 = .ok (.iload_n 3, 1) := by decide +kernel
theorem dX11_way_42 : decode cX11_way 42 = .ok (.iadd, 1) := by decide +kernel
theorem dX11_way_43 : decode cX11_way 43 = .ok (.iconst 0, 1) := by decide +kernel
theorem dX11_way_44 : decode cX11_way 44 = .ok (.iastore, 1) := by decide +kernel
theorem dX11_way_45 : decode cX11_way 45 = .ok (.iinc 3 1, 3) := by decide +kernel
theorem dX11_way_48 : decode cX11_way 48 = .ok (.goto (-21), 3) := by decide +kernel
theorem dX11_way_51 : decode cX11_way 51 = .ok (.iconst 1, 1) := by decide +kernel
theorem dX11_way_52 : decode cX11_way 52 = .ok (.ireturn, 1) := by decide +kernel
set_option maxRecDepth 100000 in
set_option maxHeartbeats 4000000 in
theorem tb_X11_way_27 {K : sd_K} {E : sd_Env}   {r : (Int32 × sd_Mem)} (C : sd_C K E sd_LM RX11 cX11_way 4 (some .int))  : ∀ (n : Nat), ∀ (M : sd_Mem) (x1 : Int32) (x3 : Int32), fn_X11_way_27 n M x1 x3 = some r → sd_Z K rm_X11_way E sd_LM 4 (sd_QI K E sd_LM r.1 r.2) M 27 [(0, .ref (E.2.2 100)), (1, .int x1), (3, .int x3)] [] := by
  intro n
  induction n with
  | zero => intro M x1 x3 hF; cases hF
  | succ n ih =>
    intro M x1 x3 hF
    unfold fn_X11_way_27 at hF
    refine sd_iload_n C 2 dX11_way_27 rfl rfl rfl (n' := 28) ?_
    refine sd_bipush C (v := 30) dX11_way_28 rfl rfl (n' := 30) ?_
    refine sd_icmp_ge C (n' := 33) (tgt := 51) dX11_way_30 rfl rfl (fun c30 => ?_) (fun c30 => ?_)
    · replace hF := sd_pos hF c30
      refine sd_iconst C (v := 1) dX11_way_51 rfl rfl (n' := 52) ?_
      exact sd_iret C dX11_way_52 (sd_fst hF) (sd_snd hF)
    · replace hF := sd_neg hF c30
      refine sd_aload_n C 0 dX11_way_33 rfl rfl rfl (n' := 34) ?_
      refine sd_g11_24 C sd_i100 sd_k100 sd_w1065 dX11_way_34 rfl (n' := 37) ?_
      refine sd_bipush C (v := 30) dX11_way_37 rfl rfl (n' := 39) ?_
      refine sd_iload_n C 1 dX11_way_39 rfl rfl rfl (n' := 40) ?_
      refine sd_imul C dX11_way_40 rfl (n' := 41) ?_
      refine sd_iload_n C 2 dX11_way_41 rfl rfl rfl (n' := 42) ?_
      refine sd_iadd C dX11_way_42 rfl (n' := 43) ?_
      refine sd_iconst C (v := 0) dX11_way_43 rfl rfl (n' := 44) ?_
      obtain ⟨b44, hF⟩ := sd_ok hF
      refine sd_iast C sd_i116 sd_k116 sd_n116 b44 dX11_way_44 rfl (n' := 45) ?_
      refine sd_iinc [(3, .int (x3 + (1 : Int32))), (0, .ref (E.2.2 100)), (1, .int x1)] 2 C dX11_way_45 rfl rfl (by decide) rfl rfl (n' := 48) ?_
      refine sd_goto C (tgt := 27) dX11_way_48 rfl ?_
      refine sd_sub [1, 2, 0] rfl ?_
      exact ih (sd_setI M 116 (((30 : Int32) * x1) + x3).toNatClampNeg (0 : Int32)) x1 (x3 + (1 : Int32)) hF
set_option maxRecDepth 100000 in
set_option maxHeartbeats 4000000 in
theorem tb_X11_way_0 {K : sd_K} {E : sd_Env}   {r : (Int32 × sd_Mem)} (C : sd_C K E sd_LM RX11 cX11_way 4 (some .int))  : ∀ (M : sd_Mem) (x1 : Int32) (x2 : Int32), fn_X11_way_0 M x1 x2 = some r → sd_Z K rm_X11_way E sd_LM 4 (sd_QI K E sd_LM r.1 r.2) M 0 [(0, .ref (E.2.2 100)), (1, .int x1), (2, .int x2)] [] := by
  intro M x1 x2 hF
  unfold fn_X11_way_0 at hF
  refine sd_iload_n C 1 dX11_way_0 rfl rfl rfl (n' := 1) ?_
  obtain ⟨q1, e1, hF⟩ := sd_bind hF
  refine sd_callSI [.int x1] [] C (ct_X11_isWay M x1  e1) sd_lX11_162 ⟨rfl, rfl, Nat.le_of_ble_eq_true rfl, Nat.le_of_ble_eq_true rfl⟩ rfl (Nat.le_of_ble_eq_true rfl) dX11_way_1 rfl (n' := 4) ?_
  refine sd_if_eq C (n' := 7) (tgt := 16) dX11_way_4 rfl rfl (fun c4 => ?_) (fun c4 => ?_)
  · replace hF := sd_pos hF c4
    refine sd_iconst C (v := -1) dX11_way_16 rfl rfl (n' := 17) ?_
    exact sd_iret C dX11_way_17 (sd_fst hF) (sd_snd hF)
  · replace hF := sd_neg hF c4
    refine sd_iload_n C 2 dX11_way_7 rfl rfl rfl (n' := 8) ?_
    refine sd_iconst C (v := 0) dX11_way_8 rfl rfl (n' := 9) ?_
    refine sd_iconst C (v := 4) dX11_way_9 rfl rfl (n' := 10) ?_
    obtain ⟨q10, e10, hF⟩ := sd_bind hF
    refine sd_callSI [.int x2, .int (0 : Int32), .int (4 : Int32)] [] C (ct_X11_in M x2 (0 : Int32) (4 : Int32)  e10) sd_lX11_97 ⟨rfl, rfl, Nat.le_of_ble_eq_true rfl, Nat.le_of_ble_eq_true rfl⟩ rfl (Nat.le_of_ble_eq_true rfl) dX11_way_10 rfl (n' := 13) ?_
    refine sd_if_ne C (n' := 16) (tgt := 18) dX11_way_13 rfl rfl (fun c13 => ?_) (fun c13 => ?_)
    · replace hF := sd_neg hF c13
      refine sd_aload_n C 0 dX11_way_18 rfl rfl rfl (n' := 19) ?_
      refine sd_g11_23 C sd_i100 sd_k100 sd_w1064 dX11_way_19 rfl (n' := 22) ?_
      refine sd_iload_n C 1 dX11_way_22 rfl rfl rfl (n' := 23) ?_
      refine sd_iload_n C 2 dX11_way_23 rfl rfl rfl (n' := 24) ?_
      obtain ⟨b24, hF⟩ := sd_ok hF
      refine sd_iast C sd_i115 sd_k115 sd_n115 b24 dX11_way_24 rfl (n' := 25) ?_
      refine sd_iconst C (v := 0) dX11_way_25 rfl rfl (n' := 26) ?_
      refine sd_istore_n [(3, .int (0 : Int32)), (0, .ref (E.2.2 100)), (1, .int x1), (2, .int x2)] C dX11_way_26 rfl (by decide) rfl rfl (n' := 27) ?_
      refine sd_sub [1, 2, 0] rfl ?_
      exact tb_X11_way_27 C sd_FU (sd_setI M 115 x1.toNatClampNeg x2) x1 (0 : Int32) hF
    · replace hF := sd_pos hF c13
      refine sd_iconst C (v := -1) dX11_way_16 rfl rfl (n' := 17) ?_
      exact sd_iret C dX11_way_17 (sd_fst hF) (sd_snd hF)
theorem ct_X11_way {l : Launch} {E : sd_Env} (M : sd_Mem) (x1 : Int32) (x2 : Int32)  {r : (Int32 × sd_Mem)} (hF : fn_X11_way M x1 x2 = some r) : sd_MI l E sd_LM yX11_way cX11_way 4 (some .int) rm_X11_way [.ref (E.2.2 100), .int x1, .int x2] M r.1 r.2 := sd_ent0 (by decide +kernel) (Nat.le_of_ble_eq_true rfl) (fun p e s m below meth c C => tb_X11_way_0 C M x1 x2 hF)
theorem dX11_isPlace_0 : decode cX11_isPlace 0 = .ok (.iload_n 0, 1) := by decide +kernel
theorem dX11_isPlace_1 : decode cX11_isPlace 1 = .ok (.iconst 0, 1) := by decide +kernel
theorem dX11_isPlace_2 : decode cX11_isPlace 2 = .ok (.iconst 2, 1) := by decide +kernel
theorem dX11_isPlace_3 : decode cX11_isPlace 3 = .ok (.invokestatic 97, 3) := by decide +kernel
theorem dX11_isPlace_6 : decode cX11_isPlace 6 = .ok (.ifCond .eq 14, 3) := by decide +kernel
theorem dX11_isPlace_9 : decode cX11_isPlace 9 = .ok (.iload_n 1, 1) := by decide +kernel
theorem dX11_isPlace_10 : decode cX11_isPlace 10 = .ok (.invokestatic 156, 3) := by decide +kernel
theorem dX11_isPlace_13 : decode cX11_isPlace 13 = .ok (.ifCond .eq 7, 3) := by decide +kernel
theorem dX11_isPlace_16 : decode cX11_isPlace 16 = .ok (.iconst 1, 1) := by decide +kernel
theorem dX11_isPlace_17 : decode cX11_isPlace 17 = .ok (.goto 4, 3) := by decide +kernel
theorem dX11_isPlace_20 : decode cX11_isPlace 20 = .ok (.iconst 0, 1) := by decide +kernel
theorem dX11_isPlace_21 : decode cX11_isPlace 21 = .ok (.ireturn, 1) := by decide +kernel
set_option maxRecDepth 100000 in
set_option maxHeartbeats 4000000 in
theorem tb_X11_isPlace_0 {K : sd_K} {E : sd_Env} {M : sd_Mem}  {r : Int32} (C : sd_C K E sd_LM RX11 cX11_isPlace 2 (some .boolean))  : ∀ (x0 : Int32) (x1 : Int32), fn_X11_isPlace_0 x0 x1 = some r → sd_Z K rm_X11_isPlace E sd_LM 2 (sd_QI K E sd_LM r M) M 0 [(0, .int x0), (1, .int x1)] [] := by
  intro x0 x1 hF
  unfold fn_X11_isPlace_0 at hF
  refine sd_iload_n C 0 dX11_isPlace_0 rfl rfl rfl (n' := 1) ?_
  refine sd_iconst C (v := 0) dX11_isPlace_1 rfl rfl (n' := 2) ?_
  refine sd_iconst C (v := 2) dX11_isPlace_2 rfl rfl (n' := 3) ?_
  obtain ⟨q3, e3, hF⟩ := sd_bind hF
  refine sd_callSI [.int x0, .int (0 : Int32), .int (2 : Int32)] [] C (ct_X11_in M x0 (0 : Int32) (2 : Int32)  e3) sd_lX11_97 ⟨rfl, rfl, Nat.le_of_ble_eq_true rfl, Nat.le_of_ble_eq_true rfl⟩ rfl (Nat.le_of_ble_eq_true rfl) dX11_isPlace_3 rfl (n' := 6) ?_
  refine sd_if_eq C (n' := 9) (tgt := 20) dX11_isPlace_6 rfl rfl (fun c6 => ?_) (fun c6 => ?_)
  · replace hF := sd_pos hF c6
    refine sd_iconst C (v := 0) dX11_isPlace_20 rfl rfl (n' := 21) ?_
    exact sd_zret C dX11_isPlace_21 rfl (Option.some.inj hF) rfl
  · replace hF := sd_neg hF c6
    refine sd_iload_n C 1 dX11_isPlace_9 rfl rfl rfl (n' := 10) ?_
    obtain ⟨q10, e10, hF⟩ := sd_bind hF
    refine sd_callSI [.int x1] [] C (ct_X11_isDay M x1  e10) sd_lX11_156 ⟨rfl, rfl, Nat.le_of_ble_eq_true rfl, Nat.le_of_ble_eq_true rfl⟩ rfl (Nat.le_of_ble_eq_true rfl) dX11_isPlace_10 rfl (n' := 13) ?_
    refine sd_if_eq C (n' := 16) (tgt := 20) dX11_isPlace_13 rfl rfl (fun c13 => ?_) (fun c13 => ?_)
    · replace hF := sd_pos hF c13
      refine sd_iconst C (v := 0) dX11_isPlace_20 rfl rfl (n' := 21) ?_
      exact sd_zret C dX11_isPlace_21 rfl (Option.some.inj hF) rfl
    · replace hF := sd_neg hF c13
      refine sd_iconst C (v := 1) dX11_isPlace_16 rfl rfl (n' := 17) ?_
      refine sd_goto C (tgt := 21) dX11_isPlace_17 rfl ?_
      exact sd_zret C dX11_isPlace_21 rfl (Option.some.inj hF) rfl
theorem ct_X11_isPlace {l : Launch} {E : sd_Env} (M : sd_Mem) (x0 : Int32) (x1 : Int32)  {r : Int32} (hF : fn_X11_isPlace x0 x1 = some r) : sd_MI l E sd_LM yX11_isPlace cX11_isPlace 2 (some .boolean) rm_X11_isPlace [.int x0, .int x1] M r M := sd_ent0 (by decide +kernel) (Nat.le_of_ble_eq_true rfl) (fun p e s m below meth c C => tb_X11_isPlace_0 C x0 x1 hF)
theorem dX11_askedWay_0 : decode cX11_askedWay 0 = .ok (.iload_n 1, 1) := by decide +kernel
theorem dX11_askedWay_1 : decode cX11_askedWay 1 = .ok (.invokestatic 162, 3) := by decide +kernel
theorem dX11_askedWay_4 : decode cX11_askedWay 4 = .ok (.ifCond .ne 7, 3) := by decide +kernel
theorem dX11_askedWay_7 : decode cX11_askedWay 7 = .ok (.iconst (-1), 1) := by decide +kernel
theorem dX11_askedWay_8 : decode cX11_askedWay 8 = .ok (.goto 21, 3) := by decide +kernel
theorem dX11_askedWay_11 : decode cX11_askedWay 11 = .ok (.aload_n 0, 1) := by decide +kernel
theorem dX11_askedWay_12 : decode cX11_askedWay 12 = .ok (.getfield 63, 3) := by decide +kernel
theorem dX11_askedWay_15 : decode cX11_askedWay 15 = .ok (.iload_n 1, 1) := by decide +kernel
theorem dX11_askedWay_16 : decode cX11_askedWay 16 = .ok (.iaload, 1) := by decide +kernel
theorem dX11_askedWay_17 : decode cX11_askedWay 17 = .ok (.ifCond .ge 11, 3) := by decide +kernel
theorem dX11_askedWay_20 : decode cX11_askedWay 20 = .ok (.aload_n 0, 1) := by decide +kernel
theorem dX11_askedWay_21 : decode cX11_askedWay 21 = .ok (.iconst 1, 1) := by decide +kernel
theorem dX11_askedWay_22 : decode cX11_askedWay 22 = .ok (.invokevirtual 105, 3) := by decide +kernel
theorem dX11_askedWay_25 : decode cX11_askedWay 25 = .ok (.goto 4, 3) := by decide +kernel
theorem dX11_askedWay_28 : decode cX11_askedWay 28 = .ok (.iconst 0, 1) := by decide +kernel
theorem dX11_askedWay_29 : decode cX11_askedWay 29 = .ok (.ireturn, 1) := by decide +kernel
set_option maxRecDepth 100000 in
set_option maxHeartbeats 4000000 in
theorem tb_X11_askedWay_0 {K : sd_K} {E : sd_Env}   {r : (Int32 × sd_Mem)} (C : sd_C K E sd_LM RX11 cX11_askedWay 2 (some .int))  : ∀ (M : sd_Mem) (x1 : Int32), fn_X11_askedWay_0 M x1 = some r → sd_Z K rm_X11_askedWay E sd_LM 2 (sd_QI K E sd_LM r.1 r.2) M 0 [(0, .ref (E.2.2 100)), (1, .int x1)] [] := by
  intro M x1 hF
  unfold fn_X11_askedWay_0 at hF
  refine sd_iload_n C 1 dX11_askedWay_0 rfl rfl rfl (n' := 1) ?_
  obtain ⟨q1, e1, hF⟩ := sd_bind hF
  refine sd_callSI [.int x1] [] C (ct_X11_isWay M x1  e1) sd_lX11_162 ⟨rfl, rfl, Nat.le_of_ble_eq_true rfl, Nat.le_of_ble_eq_true rfl⟩ rfl (Nat.le_of_ble_eq_true rfl) dX11_askedWay_1 rfl (n' := 4) ?_
  refine sd_if_ne C (n' := 7) (tgt := 11) dX11_askedWay_4 rfl rfl (fun c4 => ?_) (fun c4 => ?_)
  · replace hF := sd_neg hF c4
    refine sd_aload_n C 0 dX11_askedWay_11 rfl rfl rfl (n' := 12) ?_
    refine sd_g11_23 C sd_i100 sd_k100 sd_w1064 dX11_askedWay_12 rfl (n' := 15) ?_
    refine sd_iload_n C 1 dX11_askedWay_15 rfl rfl rfl (n' := 16) ?_
    obtain ⟨b16, hF⟩ := sd_ok hF
    refine sd_iald C sd_i115 sd_k115 sd_n115 b16 dX11_askedWay_16 rfl (n' := 17) ?_
    refine sd_if_ge C (n' := 20) (tgt := 28) dX11_askedWay_17 rfl rfl (fun c17 => ?_) (fun c17 => ?_)
    · replace hF := sd_pos hF c17
      refine sd_iconst C (v := 0) dX11_askedWay_28 rfl rfl (n' := 29) ?_
      exact sd_iret C dX11_askedWay_29 (sd_fst hF) (sd_snd hF)
    · replace hF := sd_neg hF c17
      refine sd_aload_n C 0 dX11_askedWay_20 rfl rfl rfl (n' := 21) ?_
      refine sd_iconst C (v := 1) dX11_askedWay_21 rfl rfl (n' := 22) ?_
      obtain ⟨q22, e22, hF⟩ := sd_bind hF
      refine sd_callVI [.int (1 : Int32)] [] C (ct_X11_meets M (1 : Int32)  e22) sd_lX11_105 ⟨rfl, rfl, Nat.le_of_ble_eq_true rfl, Nat.le_of_ble_eq_true rfl⟩ sd_i100 (sd_e12 sd_k100) rfl rfl rfl (Nat.le_of_ble_eq_true rfl) dX11_askedWay_22 rfl (n' := 25) ?_
      refine sd_goto C (tgt := 29) dX11_askedWay_25 rfl ?_
      exact sd_iret C dX11_askedWay_29 (sd_fst hF) (sd_snd hF)
  · replace hF := sd_pos hF c4
    refine sd_iconst C (v := -1) dX11_askedWay_7 rfl rfl (n' := 8) ?_
    refine sd_goto C (tgt := 29) dX11_askedWay_8 rfl ?_
    exact sd_iret C dX11_askedWay_29 (sd_fst hF) (sd_snd hF)
theorem ct_X11_askedWay {l : Launch} {E : sd_Env} (M : sd_Mem) (x1 : Int32)  {r : (Int32 × sd_Mem)} (hF : fn_X11_askedWay M x1 = some r) : sd_MI l E sd_LM yX11_askedWay cX11_askedWay 2 (some .int) rm_X11_askedWay [.ref (E.2.2 100), .int x1] M r.1 r.2 := sd_ent0 (by decide +kernel) (Nat.le_of_ble_eq_true rfl) (fun p e s m below meth c C => tb_X11_askedWay_0 C M x1 hF)
theorem dX11_isOfKind_0 : decode cX11_isOfKind 0 = .ok (.iload_n 2, 1) := by decide +kernel
theorem dX11_isOfKind_1 : decode cX11_isOfKind 1 = .ok (.iconst 0, 1) := by decide +kernel
theorem dX11_isOfKind_2 : decode cX11_isOfKind 2 = .ok (.aload_n 0, 1) := by decide +kernel
theorem dX11_isOfKind_3 : decode cX11_isOfKind 3 = .ok (.getfield 63, 3) := by decide +kernel
theorem dX11_isOfKind_6 : decode cX11_isOfKind 6 = .ok (.iload_n 1, 1) := by decide +kernel
theorem dX11_isOfKind_7 : decode cX11_isOfKind 7 = .ok (.iaload, 1) := by decide +kernel
theorem dX11_isOfKind_8 : decode cX11_isOfKind 8 = .ok (.iconst 1, 1) := by decide +kernel
theorem dX11_isOfKind_9 : decode cX11_isOfKind 9 = .ok (.if_icmp .ne 8, 3) := by decide +kernel
theorem dX11_isOfKind_12 : decode cX11_isOfKind 12 = .ok (.bipush 12, 2) := by decide +kernel
theorem dX11_isOfKind_14 : decode cX11_isOfKind 14 = .ok (.goto 30, 3) := by decide +kernel
theorem dX11_isOfKind_17 : decode cX11_isOfKind 17 = .ok (.aload_n 0, 1) := by decide +kernel
theorem dX11_isOfKind_18 : decode cX11_isOfKind 18 = .ok (.getfield 63, 3) := by decide +kernel
theorem dX11_isOfKind_21 : decode cX11_isOfKind 21 = .ok (.iload_n 1, 1) := by decide +kernel
theorem dX11_isOfKind_22 : decode cX11_isOfKind 22 = .ok (.iaload, 1) := by decide +kernel
theorem dX11_isOfKind_23 : decode cX11_isOfKind 23 = .ok (.iconst 2, 1) := by decide +kernel
theorem dX11_isOfKind_24 : decode cX11_isOfKind 24 = .ok (.if_icmp .eq 13, 3) := by decide +kernel
theorem dX11_isOfKind_27 : decode cX11_isOfKind 27 = .ok (.aload_n 0, 1) := by decide +kernel
theorem dX11_isOfKind_28 : decode cX11_isOfKind 28 = .ok (.getfield 63, 3) := by decide +kernel
theorem dX11_isOfKind_31 : decode cX11_isOfKind 31 = .ok (.iload_n 1, 1) := by decide +kernel
theorem dX11_isOfKind_32 : decode cX11_isOfKind 32 = .ok (.iaload, 1) := by decide +kernel
theorem dX11_isOfKind_33 : decode cX11_isOfKind 33 = .ok (.iconst 3, 1) := by decide +kernel
theorem dX11_isOfKind_34 : decode cX11_isOfKind 34 = .ok (.if_icmp .ne 8, 3) := by decide +kernel
theorem dX11_isOfKind_37 : decode cX11_isOfKind 37 = .ok (.bipush 13, 2) := by decide +kernel
theorem dX11_isOfKind_39 : decode cX11_isOfKind 39 = .ok (.goto 5, 3) := by decide +kernel
theorem dX11_isOfKind_42 : decode cX11_isOfKind 42 = .ok (.bipush 99, 2) := by decide +kernel
theorem dX11_isOfKind_44 : decode cX11_isOfKind 44 = .ok (.invokestatic 97, 3) := by decide +kernel
theorem dX11_isOfKind_47 : decode cX11_isOfKind 47 = .ok (.ireturn, 1) := by decide +kernel
set_option maxRecDepth 100000 in
set_option maxHeartbeats 4000000 in
theorem tb_X11_isOfKind_0 {K : sd_K} {E : sd_Env} {M : sd_Mem}  {r : Int32} (C : sd_C K E sd_LM RX11 cX11_isOfKind 3 (some .boolean))  : ∀ (x1 : Int32) (x2 : Int32), fn_X11_isOfKind_0 M x1 x2 = some r → sd_Z K rm_X11_isOfKind E sd_LM 3 (sd_QI K E sd_LM r M) M 0 [(0, .ref (E.2.2 100)), (1, .int x1), (2, .int x2)] [] := by
  intro x1 x2 hF
  unfold fn_X11_isOfKind_0 at hF
  refine sd_iload_n C 2 dX11_isOfKind_0 rfl rfl rfl (n' := 1) ?_
  refine sd_iconst C (v := 0) dX11_isOfKind_1 rfl rfl (n' := 2) ?_
  refine sd_aload_n C 0 dX11_isOfKind_2 rfl rfl rfl (n' := 3) ?_
  refine sd_g11_23 C sd_i100 sd_k100 sd_w1064 dX11_isOfKind_3 rfl (n' := 6) ?_
  refine sd_iload_n C 1 dX11_isOfKind_6 rfl rfl rfl (n' := 7) ?_
  obtain ⟨b7, hF⟩ := sd_ok hF
  refine sd_iald C sd_i115 sd_k115 sd_n115 b7 dX11_isOfKind_7 rfl (n' := 8) ?_
  refine sd_iconst C (v := 1) dX11_isOfKind_8 rfl rfl (n' := 9) ?_
  refine sd_icmp_ne C (n' := 12) (tgt := 17) dX11_isOfKind_9 rfl rfl (fun c9 => ?_) (fun c9 => ?_)
  · replace hF := sd_neg hF c9
    refine sd_aload_n C 0 dX11_isOfKind_17 rfl rfl rfl (n' := 18) ?_
    refine sd_g11_23 C sd_i100 sd_k100 sd_w1064 dX11_isOfKind_18 rfl (n' := 21) ?_
    refine sd_iload_n C 1 dX11_isOfKind_21 rfl rfl rfl (n' := 22) ?_
    obtain ⟨b22, hF⟩ := sd_ok hF
    refine sd_iald C sd_i115 sd_k115 sd_n115 b22 dX11_isOfKind_22 rfl (n' := 23) ?_
    refine sd_iconst C (v := 2) dX11_isOfKind_23 rfl rfl (n' := 24) ?_
    refine sd_icmp_eq C (n' := 27) (tgt := 37) dX11_isOfKind_24 rfl rfl (fun c24 => ?_) (fun c24 => ?_)
    · replace hF := sd_pos hF c24
      refine sd_bipush C (v := 13) dX11_isOfKind_37 rfl rfl (n' := 39) ?_
      refine sd_goto C (tgt := 44) dX11_isOfKind_39 rfl ?_
      obtain ⟨q44, e44, hF⟩ := sd_bind hF
      refine sd_callSI [.int x2, .int (0 : Int32), .int (13 : Int32)] [] C (ct_X11_in M x2 (0 : Int32) (13 : Int32)  e44) sd_lX11_97 ⟨rfl, rfl, Nat.le_of_ble_eq_true rfl, Nat.le_of_ble_eq_true rfl⟩ rfl (Nat.le_of_ble_eq_true rfl) dX11_isOfKind_44 rfl (n' := 47) ?_
      obtain ⟨b47, hF⟩ := sd_ok hF
      exact sd_zret C dX11_isOfKind_47 (Decidable.of_not_not b47) (Option.some.inj hF) rfl
    · replace hF := sd_neg hF c24
      refine sd_aload_n C 0 dX11_isOfKind_27 rfl rfl rfl (n' := 28) ?_
      refine sd_g11_23 C sd_i100 sd_k100 sd_w1064 dX11_isOfKind_28 rfl (n' := 31) ?_
      refine sd_iload_n C 1 dX11_isOfKind_31 rfl rfl rfl (n' := 32) ?_
      obtain ⟨b32, hF⟩ := sd_ok hF
      refine sd_iald C sd_i115 sd_k115 sd_n115 b32 dX11_isOfKind_32 rfl (n' := 33) ?_
      refine sd_iconst C (v := 3) dX11_isOfKind_33 rfl rfl (n' := 34) ?_
      refine sd_icmp_ne C (n' := 37) (tgt := 42) dX11_isOfKind_34 rfl rfl (fun c34 => ?_) (fun c34 => ?_)
      · replace hF := sd_neg hF c34
        refine sd_bipush C (v := 99) dX11_isOfKind_42 rfl rfl (n' := 44) ?_
        obtain ⟨q44, e44, hF⟩ := sd_bind hF
        refine sd_callSI [.int x2, .int (0 : Int32), .int (99 : Int32)] [] C (ct_X11_in M x2 (0 : Int32) (99 : Int32)  e44) sd_lX11_97 ⟨rfl, rfl, Nat.le_of_ble_eq_true rfl, Nat.le_of_ble_eq_true rfl⟩ rfl (Nat.le_of_ble_eq_true rfl) dX11_isOfKind_44 rfl (n' := 47) ?_
        obtain ⟨b47, hF⟩ := sd_ok hF
        exact sd_zret C dX11_isOfKind_47 (Decidable.of_not_not b47) (Option.some.inj hF) rfl
      · replace hF := sd_pos hF c34
        refine sd_bipush C (v := 13) dX11_isOfKind_37 rfl rfl (n' := 39) ?_
        refine sd_goto C (tgt := 44) dX11_isOfKind_39 rfl ?_
        obtain ⟨q44, e44, hF⟩ := sd_bind hF
        refine sd_callSI [.int x2, .int (0 : Int32), .int (13 : Int32)] [] C (ct_X11_in M x2 (0 : Int32) (13 : Int32)  e44) sd_lX11_97 ⟨rfl, rfl, Nat.le_of_ble_eq_true rfl, Nat.le_of_ble_eq_true rfl⟩ rfl (Nat.le_of_ble_eq_true rfl) dX11_isOfKind_44 rfl (n' := 47) ?_
        obtain ⟨b47, hF⟩ := sd_ok hF
        exact sd_zret C dX11_isOfKind_47 (Decidable.of_not_not b47) (Option.some.inj hF) rfl
  · replace hF := sd_pos hF c9
    refine sd_bipush C (v := 12) dX11_isOfKind_12 rfl rfl (n' := 14) ?_
    refine sd_goto C (tgt := 44) dX11_isOfKind_14 rfl ?_
    obtain ⟨q44, e44, hF⟩ := sd_bind hF
    refine sd_callSI [.int x2, .int (0 : Int32), .int (12 : Int32)] [] C (ct_X11_in M x2 (0 : Int32) (12 : Int32)  e44) sd_lX11_97 ⟨rfl, rfl, Nat.le_of_ble_eq_true rfl, Nat.le_of_ble_eq_true rfl⟩ rfl (Nat.le_of_ble_eq_true rfl) dX11_isOfKind_44 rfl (n' := 47) ?_
    obtain ⟨b47, hF⟩ := sd_ok hF
    exact sd_zret C dX11_isOfKind_47 (Decidable.of_not_not b47) (Option.some.inj hF) rfl
theorem ct_X11_isOfKind {l : Launch} {E : sd_Env} (M : sd_Mem) (x1 : Int32) (x2 : Int32)  {r : Int32} (hF : fn_X11_isOfKind M x1 x2 = some r) : sd_MI l E sd_LM yX11_isOfKind cX11_isOfKind 3 (some .boolean) rm_X11_isOfKind [.ref (E.2.2 100), .int x1, .int x2] M r M := sd_ent0 (by decide +kernel) (Nat.le_of_ble_eq_true rfl) (fun p e s m below meth c C => tb_X11_isOfKind_0 C x1 x2 hF)
theorem dX11_number_0 : decode cX11_number 0 = .ok (.aload_n 0, 1) := by decide +kernel
theorem dX11_number_1 : decode cX11_number 1 = .ok (.getfield 66, 3) := by decide +kernel
theorem dX11_number_4 : decode cX11_number 4 = .ok (.bipush 30, 2) := by decide +kernel
theorem dX11_number_6 : decode cX11_number 6 = .ok (.iload_n 1, 1) := by decide +kernel
theorem dX11_number_7 : decode cX11_number 7 = .ok (.imul, 1) := by decide +kernel
theorem dX11_number_8 : decode cX11_number 8 = .ok (.bipush 10, 2) := by decide +kernel
theorem dX11_number_10 : decode cX11_number 10 = .ok (.iload_n 2, 1) := by decide +kernel
theorem dX11_number_11 : decode cX11_number 11 = .ok (.imul, 1) := by decide +kernel
theorem dX11_number_12 : decode cX11_number 12 = .ok (.iadd, 1) := by decide +kernel
theorem dX11_number_13 : decode cX11_number 13 = .ok (.iload_n 3, 1) := by decide +kernel
theorem dX11_number_14 : decode cX11_number 14 = .ok (.iadd, 1) := by decide +kernel
theorem dX11_number_15 : decode cX11_number 15 = .ok (.iconst 1, 1) := by decide +kernel
theorem dX11_number_16 : decode cX11_number 16 = .ok (.isub, 1) := by decide +kernel
theorem dX11_number_17 : decode cX11_number 17 = .ok (.iaload, 1) := by decide +kernel
theorem dX11_number_18 : decode cX11_number 18 = .ok (.ireturn, 1) := by decide +kernel
set_option maxRecDepth 100000 in
set_option maxHeartbeats 4000000 in
theorem tb_X11_number_0 {K : sd_K} {E : sd_Env} {M : sd_Mem}  {r : Int32} (C : sd_C K E sd_LM RX11 cX11_number 4 (some .int))  : ∀ (x1 : Int32) (x2 : Int32) (x3 : Int32), fn_X11_number_0 M x1 x2 x3 = some r → sd_Z K rm_X11_number E sd_LM 4 (sd_QI K E sd_LM r M) M 0 [(0, .ref (E.2.2 100)), (1, .int x1), (2, .int x2), (3, .int x3)] [] := by
  intro x1 x2 x3 hF
  unfold fn_X11_number_0 at hF
  refine sd_aload_n C 0 dX11_number_0 rfl rfl rfl (n' := 1) ?_
  refine sd_g11_24 C sd_i100 sd_k100 sd_w1065 dX11_number_1 rfl (n' := 4) ?_
  refine sd_bipush C (v := 30) dX11_number_4 rfl rfl (n' := 6) ?_
  refine sd_iload_n C 1 dX11_number_6 rfl rfl rfl (n' := 7) ?_
  refine sd_imul C dX11_number_7 rfl (n' := 8) ?_
  refine sd_bipush C (v := 10) dX11_number_8 rfl rfl (n' := 10) ?_
  refine sd_iload_n C 2 dX11_number_10 rfl rfl rfl (n' := 11) ?_
  refine sd_imul C dX11_number_11 rfl (n' := 12) ?_
  refine sd_iadd C dX11_number_12 rfl (n' := 13) ?_
  refine sd_iload_n C 3 dX11_number_13 rfl rfl rfl (n' := 14) ?_
  refine sd_iadd C dX11_number_14 rfl (n' := 15) ?_
  refine sd_iconst C (v := 1) dX11_number_15 rfl rfl (n' := 16) ?_
  refine sd_isub C dX11_number_16 rfl (n' := 17) ?_
  obtain ⟨b17, hF⟩ := sd_ok hF
  refine sd_iald C sd_i116 sd_k116 sd_n116 b17 dX11_number_17 rfl (n' := 18) ?_
  exact sd_iret C dX11_number_18 (Option.some.inj hF) rfl
theorem ct_X11_number {l : Launch} {E : sd_Env} (M : sd_Mem) (x1 : Int32) (x2 : Int32) (x3 : Int32)  {r : Int32} (hF : fn_X11_number M x1 x2 x3 = some r) : sd_MI l E sd_LM yX11_number cX11_number 4 (some .int) rm_X11_number [.ref (E.2.2 100), .int x1, .int x2, .int x3] M r M := sd_ent0 (by decide +kernel) (Nat.le_of_ble_eq_true rfl) (fun p e s m below meth c C => tb_X11_number_0 C x1 x2 x3 hF)
theorem dX11_set_0 : decode cX11_set 0 = .ok (.iload_n 2, 1) := by decide +kernel
theorem dX11_set_1 : decode cX11_set 1 = .ok (.iload_n 3, 1) := by decide +kernel
theorem dX11_set_2 : decode cX11_set 2 = .ok (.invokestatic 165, 3) := by decide +kernel
theorem dX11_set_5 : decode cX11_set 5 = .ok (.ifCond .ne 5, 3) := by decide +kernel
theorem dX11_set_8 : decode cX11_set 8 = .ok (.iconst (-1), 1) := by decide +kernel
theorem dX11_set_9 : decode cX11_set 9 = .ok (.ireturn, 1) := by decide +kernel
theorem dX11_set_10 : decode cX11_set 10 = .ok (.aload_n 0, 1) := by decide +kernel
theorem dX11_set_11 : decode cX11_set 11 = .ok (.iload_n 1, 1) := by decide +kernel
theorem dX11_set_12 : decode cX11_set 12 = .ok (.invokevirtual 168, 3) := by decide +kernel
theorem dX11_set_15 : decode cX11_set 15 = .ok (.istore 5, 2) := by decide +kernel
theorem dX11_set_17 : decode cX11_set 17 = .ok (.iload 5, 2) := by decide +kernel
theorem dX11_set_19 : decode cX11_set 19 = .ok (.ifCond .ge 6, 3) := by decide +kernel
theorem dX11_set_22 : decode cX11_set 22 = .ok (.iload 5, 2) := by decide +kernel
theorem dX11_set_24 : decode cX11_set 24 = .ok (.ireturn, 1) := by decide +kernel
theorem dX11_set_25 : decode cX11_set 25 = .ok (.aload_n 0, 1) := by decide +kernel
theorem dX11_set_26 : decode cX11_set 26 = .ok (.iload_n 1, 1) := by decide +kernel
theorem dX11_set_27 : decode cX11_set 27 = .ok (.iload 4, 2) := by decide +kernel
theorem dX11_set_29 : decode cX11_set 29 = .ok (.invokevirtual 171, 3) := by decide +kernel
theorem dX11_set_32 : decode cX11_set 32 = .ok (.ifCond .ne 9, 3) := by decide +kernel
theorem dX11_set_35 : decode cX11_set 35 = .ok (.aload_n 0, 1) := by decide +kernel
theorem dX11_set_36 : decode cX11_set 36 = .ok (.iconst 3, 1) := by decide +kernel
theorem dX11_set_37 : decode cX11_set 37 = .ok (.invokevirtual 105, 3) := by decide +kernel
theorem dX11_set_40 : decode cX11_set 40 = .ok (.ireturn, 1) := by decide +kernel
theorem dX11_set_41 : decode cX11_set 41 = .ok (.aload_n 0, 1) := by decide +kernel
theorem dX11_set_42 : decode cX11_set 42 = .ok (.iload_n 1, 1) := by decide +kernel
theorem dX11_set_43 : decode cX11_set 43 = .ok (.iload_n 2, 1) := by decide +kernel
theorem dX11_set_44 : decode cX11_set 44 = .ok (.iload_n 3, 1) := by decide +kernel
theorem dX11_set_45 : decode cX11_set 45 = .ok (.invokevirtual 174, 3) := by decide +kernel
theorem dX11_set_48 : decode cX11_set 48 = .ok (.istore 6, 2) := by decide +kernel
theorem dX11_set_50 : decode cX11_set 50 = .ok (.aload_n 0, 1) := by decide +kernel
theorem dX11_set_51 : decode cX11_set 51 = .ok (.getfield 66, 3) := by decide +kernel
theorem dX11_set_54 : decode cX11_set 54 = .ok (.bipush 30, 2) := by decide +kernel
theorem dX11_set_56 : decode cX11_set 56 = .ok (.iload_n 1, 1) := by decide +kernel
theorem dX11_set_57 : decode cX11_set 57 = .ok (.imul, 1) := by decide +kernel
theorem dX11_set_58 : decode cX11_set 58 = .ok (.bipush 10, 2) := by decide +kernel
theorem dX11_set_60 : decode cX11_set 60 = .ok (.iload_n 2, 1) := by decide +kernel
theorem dX11_set_61 : decode cX11_set 61 = .ok (.imul, 1) := by decide +kernel
theorem dX11_set_62 : decode cX11_set 62 = .ok (.iadd, 1) := by decide +kernel
theorem dX11_set_63 : decode cX11_set 63 = .ok (.iload_n 3, 1) := by decide +kernel
theorem dX11_set_64 : decode cX11_set 64 = .ok (.iadd, 1) := by decide +kernel
theorem dX11_set_65 : decode cX11_set 65 = .ok (.iconst 1, 1) := by decide +kernel
theorem dX11_set_66 : decode cX11_set 66 = .ok (.isub, 1) := by decide +kernel
theorem dX11_set_67 : decode cX11_set 67 = .ok (.iload 4, 2) := by decide +kernel
theorem dX11_set_69 : decode cX11_set 69 = .ok (.iastore, 1) := by decide +kernel
theorem dX11_set_70 : decode cX11_set 70 = .ok (.iload 6, 2) := by decide +kernel
theorem dX11_set_72 : decode cX11_set 72 = .ok (.ireturn, 1) := by decide +kernel
set_option maxRecDepth 100000 in
set_option maxHeartbeats 4000000 in
theorem tb_X11_set_0 {K : sd_K} {E : sd_Env}   {r : (Int32 × sd_Mem)} (C : sd_C K E sd_LM RX11 cX11_set 7 (some .int))  : ∀ (M : sd_Mem) (x1 : Int32) (x2 : Int32) (x3 : Int32) (x4 : Int32), fn_X11_set_0 M x1 x2 x3 x4 = some r → sd_Z K rm_X11_set E sd_LM 7 (sd_QI K E sd_LM r.1 r.2) M 0 [(0, .ref (E.2.2 100)), (1, .int x1), (2, .int x2), (3, .int x3), (4, .int x4)] [] := by
  intro M x1 x2 x3 x4 hF
  unfold fn_X11_set_0 at hF
  refine sd_iload_n C 2 dX11_set_0 rfl rfl rfl (n' := 1) ?_
  refine sd_iload_n C 3 dX11_set_1 rfl rfl rfl (n' := 2) ?_
  obtain ⟨q2, e2, hF⟩ := sd_bind hF
  refine sd_callSI [.int x2, .int x3] [] C (ct_X11_isPlace M x2 x3  e2) sd_lX11_165 ⟨rfl, rfl, Nat.le_of_ble_eq_true rfl, Nat.le_of_ble_eq_true rfl⟩ rfl (Nat.le_of_ble_eq_true rfl) dX11_set_2 rfl (n' := 5) ?_
  refine sd_if_ne C (n' := 8) (tgt := 10) dX11_set_5 rfl rfl (fun c5 => ?_) (fun c5 => ?_)
  · replace hF := sd_neg hF c5
    refine sd_aload_n C 0 dX11_set_10 rfl rfl rfl (n' := 11) ?_
    refine sd_iload_n C 1 dX11_set_11 rfl rfl rfl (n' := 12) ?_
    obtain ⟨q12, e12, hF⟩ := sd_bind hF
    refine sd_callVI [.int x1] [] C (ct_X11_askedWay M x1  e12) sd_lX11_168 ⟨rfl, rfl, Nat.le_of_ble_eq_true rfl, Nat.le_of_ble_eq_true rfl⟩ sd_i100 (sd_e12 sd_k100) rfl rfl rfl (Nat.le_of_ble_eq_true rfl) dX11_set_12 rfl (n' := 15) ?_
    refine sd_istore [(5, .int q12.1), (0, .ref (E.2.2 100)), (1, .int x1), (2, .int x2), (3, .int x3), (4, .int x4)] C dX11_set_15 (by decide) rfl rfl (n' := 17) ?_
    refine sd_iload C 0 dX11_set_17 rfl rfl (n' := 19) ?_
    refine sd_if_ge C (n' := 22) (tgt := 25) dX11_set_19 rfl rfl (fun c19 => ?_) (fun c19 => ?_)
    · replace hF := sd_pos hF c19
      refine sd_aload_n C 1 dX11_set_25 rfl rfl rfl (n' := 26) ?_
      refine sd_iload_n C 2 dX11_set_26 rfl rfl rfl (n' := 27) ?_
      refine sd_iload C 5 dX11_set_27 rfl rfl (n' := 29) ?_
      obtain ⟨q29, e29, hF⟩ := sd_bind hF
      refine sd_callVI [.int x1, .int x4] [] C (ct_X11_isOfKind q12.2 x1 x4  e29) sd_lX11_171 ⟨rfl, rfl, Nat.le_of_ble_eq_true rfl, Nat.le_of_ble_eq_true rfl⟩ sd_i100 (sd_e12 sd_k100) rfl rfl rfl (Nat.le_of_ble_eq_true rfl) dX11_set_29 rfl (n' := 32) ?_
      refine sd_if_ne C (n' := 35) (tgt := 41) dX11_set_32 rfl rfl (fun c32 => ?_) (fun c32 => ?_)
      · replace hF := sd_neg hF c32
        refine sd_aload_n C 1 dX11_set_41 rfl rfl rfl (n' := 42) ?_
        refine sd_iload_n C 2 dX11_set_42 rfl rfl rfl (n' := 43) ?_
        refine sd_iload_n C 3 dX11_set_43 rfl rfl rfl (n' := 44) ?_
        refine sd_iload_n C 4 dX11_set_44 rfl rfl rfl (n' := 45) ?_
        obtain ⟨q45, e45, hF⟩ := sd_bind hF
        refine sd_callVI [.int x1, .int x2, .int x3] [] C (ct_X11_number q12.2 x1 x2 x3  e45) sd_lX11_174 ⟨rfl, rfl, Nat.le_of_ble_eq_true rfl, Nat.le_of_ble_eq_true rfl⟩ sd_i100 (sd_e12 sd_k100) rfl rfl rfl (Nat.le_of_ble_eq_true rfl) dX11_set_45 rfl (n' := 48) ?_
        refine sd_istore [(6, .int q45), (5, .int q12.1), (0, .ref (E.2.2 100)), (1, .int x1), (2, .int x2), (3, .int x3), (4, .int x4)] C dX11_set_48 (by decide) rfl rfl (n' := 50) ?_
        refine sd_aload_n C 2 dX11_set_50 rfl rfl rfl (n' := 51) ?_
        refine sd_g11_24 C sd_i100 sd_k100 sd_w1065 dX11_set_51 rfl (n' := 54) ?_
        refine sd_bipush C (v := 30) dX11_set_54 rfl rfl (n' := 56) ?_
        refine sd_iload_n C 3 dX11_set_56 rfl rfl rfl (n' := 57) ?_
        refine sd_imul C dX11_set_57 rfl (n' := 58) ?_
        refine sd_bipush C (v := 10) dX11_set_58 rfl rfl (n' := 60) ?_
        refine sd_iload_n C 4 dX11_set_60 rfl rfl rfl (n' := 61) ?_
        refine sd_imul C dX11_set_61 rfl (n' := 62) ?_
        refine sd_iadd C dX11_set_62 rfl (n' := 63) ?_
        refine sd_iload_n C 5 dX11_set_63 rfl rfl rfl (n' := 64) ?_
        refine sd_iadd C dX11_set_64 rfl (n' := 65) ?_
        refine sd_iconst C (v := 1) dX11_set_65 rfl rfl (n' := 66) ?_
        refine sd_isub C dX11_set_66 rfl (n' := 67) ?_
        refine sd_iload C 6 dX11_set_67 rfl rfl (n' := 69) ?_
        obtain ⟨b69, hF⟩ := sd_ok hF
        refine sd_iast C sd_i116 sd_k116 sd_n116 b69 dX11_set_69 rfl (n' := 70) ?_
        refine sd_iload C 0 dX11_set_70 rfl rfl (n' := 72) ?_
        exact sd_iret C dX11_set_72 (sd_fst hF) (sd_snd hF)
      · replace hF := sd_pos hF c32
        refine sd_aload_n C 1 dX11_set_35 rfl rfl rfl (n' := 36) ?_
        refine sd_iconst C (v := 3) dX11_set_36 rfl rfl (n' := 37) ?_
        obtain ⟨q37, e37, hF⟩ := sd_bind hF
        refine sd_callVI [.int (3 : Int32)] [] C (ct_X11_meets q12.2 (3 : Int32)  e37) sd_lX11_105 ⟨rfl, rfl, Nat.le_of_ble_eq_true rfl, Nat.le_of_ble_eq_true rfl⟩ sd_i100 (sd_e12 sd_k100) rfl rfl rfl (Nat.le_of_ble_eq_true rfl) dX11_set_37 rfl (n' := 40) ?_
        exact sd_iret C dX11_set_40 (sd_fst hF) (sd_snd hF)
    · replace hF := sd_neg hF c19
      refine sd_iload C 0 dX11_set_22 rfl rfl (n' := 24) ?_
      exact sd_iret C dX11_set_24 (sd_fst hF) (sd_snd hF)
  · replace hF := sd_pos hF c5
    refine sd_iconst C (v := -1) dX11_set_8 rfl rfl (n' := 9) ?_
    exact sd_iret C dX11_set_9 (sd_fst hF) (sd_snd hF)
theorem ct_X11_set {l : Launch} {E : sd_Env} (M : sd_Mem) (x1 : Int32) (x2 : Int32) (x3 : Int32) (x4 : Int32)  {r : (Int32 × sd_Mem)} (hF : fn_X11_set M x1 x2 x3 x4 = some r) : sd_MI l E sd_LM yX11_set cX11_set 7 (some .int) rm_X11_set [.ref (E.2.2 100), .int x1, .int x2, .int x3, .int x4] M r.1 r.2 := sd_ent0 (by decide +kernel) (Nat.le_of_ble_eq_true rfl) (fun p e s m below meth c C => tb_X11_set_0 C M x1 x2 x3 x4 hF)
theorem dX11_setAll_0 : decode cX11_setAll 0 = .ok (.iload_n 1, 1) := by decide +kernel
theorem dX11_setAll_1 : decode cX11_setAll 1 = .ok (.invokestatic 162, 3) := by decide +kernel
theorem dX11_setAll_4 : decode cX11_setAll 4 = .ok (.ifCond .eq 18, 3) := by decide +kernel
theorem dX11_setAll_7 : decode cX11_setAll 7 = .ok (.iload_n 2, 1) := by decide +kernel
theorem dX11_setAll_8 : decode cX11_setAll 8 = .ok (.iconst 1, 1) := by decide +kernel
theorem dX11_setAll_9 : decode cX11_setAll 9 = .ok (.invokestatic 165, 3) := by decide +kernel
theorem dX11_setAll_12 : decode cX11_setAll 12 = .ok (.ifCond .eq 10, 3) := by decide +kernel
theorem dX11_setAll_15 : decode cX11_setAll 15 = .ok (.iload_n 3, 1) := by decide +kernel
theorem dX11_setAll_16 : decode cX11_setAll 16 = .ok (.invokestatic 101, 3) := by decide +kernel
theorem dX11_setAll_19 : decode cX11_setAll 19 = .ok (.ifCond .ne 5, 3) := by decide +kernel
theorem dX11_setAll_22 : decode cX11_setAll 22 = .ok (.iconst (-1), 1) := by decide +kernel
theorem dX11_setAll_23 : decode cX11_setAll 23 = .ok (.ireturn, 1) := by decide +kernel
theorem dX11_setAll_24 : decode cX11_setAll 24 = .ok (.aload_n 0, 1) := by decide +kernel
theorem dX11_setAll_25 : decode cX11_setAll 25 = .ok (.getfield 63, 3) := by decide +kernel
theorem dX11_setAll_28 : decode cX11_setAll 28 = .ok (.iload_n 1, 1) := by decide +kernel
theorem dX11_setAll_29 : decode cX11_setAll 29 = .ok (.iaload, 1) := by decide +kernel
theorem dX11_setAll_30 : decode cX11_setAll 30 = .ok (.ifCond .lt 12, 3) := by decide +kernel
theorem dX11_setAll_33 : decode cX11_setAll 33 = .ok (.aload_n 0, 1) := by decide +kernel
theorem dX11_setAll_34 : decode cX11_setAll 34 = .ok (.getfield 17, 3) := by decide +kernel
theorem dX11_setAll_37 : decode cX11_setAll 37 = .ok (.iload_n 3, 1) := by decide +kernel
theorem dX11_setAll_38 : decode cX11_setAll 38 = .ok (.iaload, 1) := by decide +kernel
theorem dX11_setAll_39 : decode cX11_setAll 39 = .ok (.ifCond .ge 9, 3) := by decide +kernel
theorem dX11_setAll_42 : decode cX11_setAll 42 = .ok (.aload_n 0, 1) := by decide +kernel
theorem dX11_setAll_43 : decode cX11_setAll 43 = .ok (.iconst 1, 1) := by decide +kernel
theorem dX11_setAll_44 : decode cX11_setAll 44 = .ok (.invokevirtual 105, 3) := by decide +kernel
theorem dX11_setAll_47 : decode cX11_setAll 47 = .ok (.ireturn, 1) := by decide +kernel
theorem dX11_setAll_48 : decode cX11_setAll 48 = .ok (.aload_n 0, 1) := by decide +kernel
theorem dX11_setAll_49 : decode cX11_setAll 49 = .ok (.getfield 17, 3) := by decide +kernel
theorem dX11_setAll_52 : decode cX11_setAll 52 = .ok (.iload_n 3, 1) := by decide +kernel
theorem dX11_setAll_53 : decode cX11_setAll 53 = .ok (.iaload, 1) := by decide +kernel
theorem dX11_setAll_54 : decode cX11_setAll 54 = .ok (.bipush 10, 2) := by decide +kernel
theorem dX11_setAll_56 : decode cX11_setAll 56 = .ok (.if_icmp .eq 9, 3) := by decide +kernel
theorem dX11_setAll_59 : decode cX11_setAll 59 = .ok (.aload_n 0, 1) := by decide +kernel
theorem dX11_setAll_60 : decode cX11_setAll 60 = .ok (.iconst 5, 1) := by decide +kernel
theorem dX11_setAll_61 : decode cX11_setAll 61 = .ok (.invokevirtual 105, 3) := by decide +kernel
theorem dX11_setAll_64 : decode cX11_setAll 64 = .ok (.ireturn, 1) := by decide +kernel
theorem dX11_setAll_65 : decode cX11_setAll 65 = .ok (.iconst 1, 1) := by decide +kernel
theorem dX11_setAll_66 : decode cX11_setAll 66 = .ok (.istore 4, 2) := by decide +kernel
theorem dX11_setAll_68 : decode cX11_setAll 68 = .ok (.iconst 0, 1) := by decide +kernel
theorem dX11_setAll_69 : decode cX11_setAll 69 = .ok (.istore 5, 2) := by decide +kernel
theorem dX11_setAll_71 : decode cX11_setAll 71 = .ok (.iload 5, 2) := by decide +kernel
theorem dX11_setAll_73 : decode cX11_setAll 73 = .ok (.bipush 10, 2) := by decide +kernel
theorem dX11_setAll_75 : decode cX11_setAll 75 = .ok (.if_icmp .ge 37, 3) := by decide +kernel
theorem dX11_setAll_78 : decode cX11_setAll 78 = .ok (.iload 4, 2) := by decide +kernel
theorem dX11_setAll_80 : decode cX11_setAll 80 = .ok (.ifCond .eq 23, 3) := by decide +kernel
theorem dX11_setAll_83 : decode cX11_setAll 83 = .ok (.aload_n 0, 1) := by decide +kernel
theorem dX11_setAll_84 : decode cX11_setAll 84 = .ok (.iload_n 1, 1) := by decide +kernel
theorem dX11_setAll_85 : decode cX11_setAll 85 = .ok (.aload_n 0, 1) := by decide +kernel
theorem dX11_setAll_86 : decode cX11_setAll 86 = .ok (.iload_n 3, 1) := by decide +kernel
theorem dX11_setAll_87 : decode cX11_setAll 87 = .ok (.iload 5, 2) := by decide +kernel
theorem dX11_setAll_89 : decode cX11_setAll 89 = .ok (.invokevirtual 115, 3) := by decide +kernel
theorem dX11_setAll_92 : decode cX11_setAll 92 = .ok (.i2b, 1) := by decide +kernel
theorem dX11_setAll_93 : decode cX11_setAll 93 = .ok (.invokevirtual 171, 3) := by decide +kernel
theorem dX11_setAll_96 : decode cX11_setAll 96 = .ok (.ifCond .eq 7, 3) := by decide +kernel
theorem dX11_setAll_99 : decode cX11_setAll 99 = .ok (.iconst 1, 1) := by decide +kernel
theorem dX11_setAll_100 : decode cX11_setAll 100 = .ok (.goto 4, 3) := by decide +kernel
theorem dX11_setAll_103 : decode cX11_setAll 103 = .ok (.iconst 0, 1) := by decide +kernel
theorem dX11_setAll_104 : decode cX11_setAll 104 = .ok (.istore 4, 2) := by decide +kernel
theorem dX11_setAll_106 : decode cX11_setAll 106 = .ok (.iinc 5 1, 3) := by decide +kernel
theorem dX11_setAll_109 : decode cX11_setAll 109 = .ok (.goto (-38), 3) := by decide +kernel
theorem dX11_setAll_112 : decode cX11_setAll 112 = .ok (.iload 4, 2) := by decide +kernel
theorem dX11_setAll_114 : decode cX11_setAll 114 = .ok (.ifCond .ne 9, 3) := by decide +kernel
theorem dX11_setAll_117 : decode cX11_setAll 117 = .ok (.aload_n 0, 1) := by decide +kernel
theorem dX11_setAll_118 : decode cX11_setAll 118 = .ok (.iconst 3, 1) := by decide +kernel
theorem dX11_setAll_119 : decode cX11_setAll 119 = .ok (.invokevirtual 105, 3) := by decide +kernel
theorem dX11_setAll_122 : decode cX11_setAll 122 = .ok (.ireturn, 1) := by decide +kernel
theorem dX11_setAll_123 : decode cX11_setAll 123 = .ok (.iconst 0, 1) := by decide +kernel
theorem dX11_setAll_124 : decode cX11_setAll 124 = .ok (.istore 5, 2) := by decide +kernel
theorem dX11_setAll_126 : decode cX11_setAll 126 = .ok (.iload 5, 2) := by decide +kernel
theorem dX11_setAll_128 : decode cX11_setAll 128 = .ok (.bipush 10, 2) := by decide +kernel
theorem dX11_setAll_130 : decode cX11_setAll 130 = .ok (.if_icmp .ge 34, 3) := by decide +kernel
theorem dX11_setAll_133 : decode cX11_setAll 133 = .ok (.aload_n 0, 1) := by decide +kernel
theorem dX11_setAll_134 : decode cX11_setAll 134 = .ok (.getfield 66, 3) := by decide +kernel
theorem dX11_setAll_137 : decode cX11_setAll 137 = .ok (.bipush 30, 2) := by decide +kernel
theorem dX11_setAll_139 : decode cX11_setAll 139 = .ok (.iload_n 1, 1) := by decide +kernel
theorem dX11_setAll_140 : decode cX11_setAll 140 = .ok (.imul, 1) := by decide +kernel
theorem dX11_setAll_141 : decode cX11_setAll 141 = .ok (.bipush 10, 2) := by decide +kernel
theorem dX11_setAll_143 : decode cX11_setAll 143 = .ok (.iload_n 2, 1) := by decide +kernel
theorem dX11_setAll_144 : decode cX11_setAll 144 = .ok (.imul, 1) := by decide +kernel
theorem dX11_setAll_145 : decode cX11_setAll 145 = .ok (.iadd, 1) := by decide +kernel
theorem dX11_setAll_146 : decode cX11_setAll 146 = .ok (.iload 5, 2) := by decide +kernel
theorem dX11_setAll_148 : decode cX11_setAll 148 = .ok (.iadd, 1) := by decide +kernel
theorem dX11_setAll_149 : decode cX11_setAll 149 = .ok (.aload_n 0, 1) := by decide +kernel
theorem dX11_setAll_150 : decode cX11_setAll 150 = .ok (.iload_n 3, 1) := by decide +kernel
theorem dX11_setAll_151 : decode cX11_setAll 151 = .ok (.iload 5, 2) := by decide +kernel
theorem dX11_setAll_153 : decode cX11_setAll 153 = .ok (.invokevirtual 115, 3) := by decide +kernel
theorem dX11_setAll_156 : decode cX11_setAll 156 = .ok (.i2b, 1) := by decide +kernel
theorem dX11_setAll_157 : decode cX11_setAll 157 = .ok (.iastore, 1) := by decide +kernel
theorem dX11_setAll_158 : decode cX11_setAll 158 = .ok (.iinc 5 1, 3) := by decide +kernel
theorem dX11_setAll_161 : decode cX11_setAll 161 = .ok (.goto (-35), 3) := by decide +kernel
theorem dX11_setAll_164 : decode cX11_setAll 164 = .ok (.iconst 1, 1) := by decide +kernel
theorem dX11_setAll_165 : decode cX11_setAll 165 = .ok (.ireturn, 1) := by decide +kernel
set_option maxRecDepth 100000 in
set_option maxHeartbeats 4000000 in
theorem tb_X11_setAll_126 {K : sd_K} {E : sd_Env}   {r : (Int32 × sd_Mem)} (C : sd_C K E sd_LM RX11 cX11_setAll 6 (some .int))  : ∀ (n : Nat), ∀ (M : sd_Mem) (x1 : Int32) (x2 : Int32) (x3 : Int32) (x5 : Int32), fn_X11_setAll_126 n M x1 x2 x3 x5 = some r → sd_Z K rm_X11_setAll E sd_LM 6 (sd_QI K E sd_LM r.1 r.2) M 126 [(0, .ref (E.2.2 100)), (1, .int x1), (2, .int x2), (3, .int x3), (5, .int x5)] [] := by
  intro n
  induction n with
  | zero => intro M x1 x2 x3 x5 hF; cases hF
  | succ n ih =>
    intro M x1 x2 x3 x5 hF
    unfold fn_X11_setAll_126 at hF
    refine sd_iload C 4 dX11_setAll_126 rfl rfl (n' := 128) ?_
    refine sd_bipush C (v := 10) dX11_setAll_128 rfl rfl (n' := 130) ?_
    refine sd_icmp_ge C (n' := 133) (tgt := 164) dX11_setAll_130 rfl rfl (fun c130 => ?_) (fun c130 => ?_)
    · replace hF := sd_pos hF c130
      refine sd_iconst C (v := 1) dX11_setAll_164 rfl rfl (n' := 165) ?_
      exact sd_iret C dX11_setAll_165 (sd_fst hF) (sd_snd hF)
    · replace hF := sd_neg hF c130
      refine sd_aload_n C 0 dX11_setAll_133 rfl rfl rfl (n' := 134) ?_
      refine sd_g11_24 C sd_i100 sd_k100 sd_w1065 dX11_setAll_134 rfl (n' := 137) ?_
      refine sd_bipush C (v := 30) dX11_setAll_137 rfl rfl (n' := 139) ?_
      refine sd_iload_n C 1 dX11_setAll_139 rfl rfl rfl (n' := 140) ?_
      refine sd_imul C dX11_setAll_140 rfl (n' := 141) ?_
      refine sd_bipush C (v := 10) dX11_setAll_141 rfl rfl (n' := 143) ?_
      refine sd_iload_n C 2 dX11_setAll_143 rfl rfl rfl (n' := 144) ?_
      refine sd_imul C dX11_setAll_144 rfl (n' := 145) ?_
      refine sd_iadd C dX11_setAll_145 rfl (n' := 146) ?_
      refine sd_iload C 4 dX11_setAll_146 rfl rfl (n' := 148) ?_
      refine sd_iadd C dX11_setAll_148 rfl (n' := 149) ?_
      refine sd_aload_n C 0 dX11_setAll_149 rfl rfl rfl (n' := 150) ?_
      refine sd_iload_n C 3 dX11_setAll_150 rfl rfl rfl (n' := 151) ?_
      refine sd_iload C 4 dX11_setAll_151 rfl rfl (n' := 153) ?_
      obtain ⟨q153, e153, hF⟩ := sd_bind hF
      refine sd_callVI [.int x3, .int x5] [.int ((((30 : Int32) * x1) + ((10 : Int32) * x2)) + x5), .ref (E.2.2 116)] C (ct_X11_rowAt M x3 x5  e153) sd_lX11_115 ⟨rfl, rfl, Nat.le_of_ble_eq_true rfl, Nat.le_of_ble_eq_true rfl⟩ sd_i100 (sd_e12 sd_k100) rfl rfl rfl (Nat.le_of_ble_eq_true rfl) dX11_setAll_153 rfl (n' := 156) ?_
      refine sd_i2b C dX11_setAll_156 rfl (n' := 157) ?_
      obtain ⟨b157, hF⟩ := sd_ok hF
      refine sd_iast C sd_i116 sd_k116 sd_n116 b157 dX11_setAll_157 rfl (n' := 158) ?_
      refine sd_iinc [(5, .int (x5 + (1 : Int32))), (0, .ref (E.2.2 100)), (1, .int x1), (2, .int x2), (3, .int x3)] 4 C dX11_setAll_158 rfl rfl (by decide) rfl rfl (n' := 161) ?_
      refine sd_goto C (tgt := 126) dX11_setAll_161 rfl ?_
      refine sd_sub [1, 2, 3, 4, 0] rfl ?_
      exact ih (sd_setI M 116 ((((30 : Int32) * x1) + ((10 : Int32) * x2)) + x5).toNatClampNeg q153.toInt8.toInt32) x1 x2 x3 (x5 + (1 : Int32)) hF
set_option maxRecDepth 100000 in
set_option maxHeartbeats 4000000 in
theorem tb_X11_setAll_112 {K : sd_K} {E : sd_Env}   {r : (Int32 × sd_Mem)} (C : sd_C K E sd_LM RX11 cX11_setAll 6 (some .int))  : ∀ (M : sd_Mem) (x1 : Int32) (x2 : Int32) (x3 : Int32) (x4 : Int32), fn_X11_setAll_112 M x1 x2 x3 x4 = some r → sd_Z K rm_X11_setAll E sd_LM 6 (sd_QI K E sd_LM r.1 r.2) M 112 [(0, .ref (E.2.2 100)), (1, .int x1), (2, .int x2), (3, .int x3), (4, .int x4)] [] := by
  intro M x1 x2 x3 x4 hF
  unfold fn_X11_setAll_112 at hF
  refine sd_iload C 4 dX11_setAll_112 rfl rfl (n' := 114) ?_
  refine sd_if_ne C (n' := 117) (tgt := 123) dX11_setAll_114 rfl rfl (fun c114 => ?_) (fun c114 => ?_)
  · replace hF := sd_neg hF c114
    refine sd_iconst C (v := 0) dX11_setAll_123 rfl rfl (n' := 124) ?_
    refine sd_istore [(5, .int (0 : Int32)), (0, .ref (E.2.2 100)), (1, .int x1), (2, .int x2), (3, .int x3), (4, .int x4)] C dX11_setAll_124 (by decide) rfl rfl (n' := 126) ?_
    refine sd_sub [1, 2, 3, 4, 0] rfl ?_
    exact tb_X11_setAll_126 C sd_FU M x1 x2 x3 (0 : Int32) hF
  · replace hF := sd_pos hF c114
    refine sd_aload_n C 0 dX11_setAll_117 rfl rfl rfl (n' := 118) ?_
    refine sd_iconst C (v := 3) dX11_setAll_118 rfl rfl (n' := 119) ?_
    obtain ⟨q119, e119, hF⟩ := sd_bind hF
    refine sd_callVI [.int (3 : Int32)] [] C (ct_X11_meets M (3 : Int32)  e119) sd_lX11_105 ⟨rfl, rfl, Nat.le_of_ble_eq_true rfl, Nat.le_of_ble_eq_true rfl⟩ sd_i100 (sd_e12 sd_k100) rfl rfl rfl (Nat.le_of_ble_eq_true rfl) dX11_setAll_119 rfl (n' := 122) ?_
    exact sd_iret C dX11_setAll_122 (sd_fst hF) (sd_snd hF)
set_option maxRecDepth 100000 in
set_option maxHeartbeats 4000000 in
theorem tb_X11_setAll_71 {K : sd_K} {E : sd_Env}   {r : (Int32 × sd_Mem)} (C : sd_C K E sd_LM RX11 cX11_setAll 6 (some .int))  : ∀ (n : Nat), ∀ (M : sd_Mem) (x1 : Int32) (x2 : Int32) (x3 : Int32) (x4 : Int32) (x5 : Int32), fn_X11_setAll_71 n M x1 x2 x3 x4 x5 = some r → sd_Z K rm_X11_setAll E sd_LM 6 (sd_QI K E sd_LM r.1 r.2) M 71 [(0, .ref (E.2.2 100)), (1, .int x1), (2, .int x2), (3, .int x3), (4, .int x4), (5, .int x5)] [] := by
  intro n
  induction n with
  | zero => intro M x1 x2 x3 x4 x5 hF; cases hF
  | succ n ih =>
    intro M x1 x2 x3 x4 x5 hF
    unfold fn_X11_setAll_71 at hF
    refine sd_iload C 5 dX11_setAll_71 rfl rfl (n' := 73) ?_
    refine sd_bipush C (v := 10) dX11_setAll_73 rfl rfl (n' := 75) ?_
    refine sd_icmp_ge C (n' := 78) (tgt := 112) dX11_setAll_75 rfl rfl (fun c75 => ?_) (fun c75 => ?_)
    · replace hF := sd_pos hF c75
      refine sd_sub [0, 1, 2, 3, 4] rfl ?_
      exact tb_X11_setAll_112 C M x1 x2 x3 x4 hF
    · replace hF := sd_neg hF c75
      refine sd_iload C 4 dX11_setAll_78 rfl rfl (n' := 80) ?_
      refine sd_if_eq C (n' := 83) (tgt := 103) dX11_setAll_80 rfl rfl (fun c80 => ?_) (fun c80 => ?_)
      · replace hF := sd_pos hF c80
        refine sd_iconst C (v := 0) dX11_setAll_103 rfl rfl (n' := 104) ?_
        refine sd_istore [(4, .int (0 : Int32)), (0, .ref (E.2.2 100)), (1, .int x1), (2, .int x2), (3, .int x3), (5, .int x5)] C dX11_setAll_104 (by decide) rfl rfl (n' := 106) ?_
        refine sd_iinc [(5, .int (x5 + (1 : Int32))), (4, .int (0 : Int32)), (0, .ref (E.2.2 100)), (1, .int x1), (2, .int x2), (3, .int x3)] 5 C dX11_setAll_106 rfl rfl (by decide) rfl rfl (n' := 109) ?_
        refine sd_goto C (tgt := 71) dX11_setAll_109 rfl ?_
        refine sd_sub [2, 3, 4, 5, 1, 0] rfl ?_
        exact ih M x1 x2 x3 (0 : Int32) (x5 + (1 : Int32)) hF
      · replace hF := sd_neg hF c80
        refine sd_aload_n C 0 dX11_setAll_83 rfl rfl rfl (n' := 84) ?_
        refine sd_iload_n C 1 dX11_setAll_84 rfl rfl rfl (n' := 85) ?_
        refine sd_aload_n C 0 dX11_setAll_85 rfl rfl rfl (n' := 86) ?_
        refine sd_iload_n C 3 dX11_setAll_86 rfl rfl rfl (n' := 87) ?_
        refine sd_iload C 5 dX11_setAll_87 rfl rfl (n' := 89) ?_
        obtain ⟨q89, e89, hF⟩ := sd_bind hF
        refine sd_callVI [.int x3, .int x5] [.int x1, .ref (E.2.2 100)] C (ct_X11_rowAt M x3 x5  e89) sd_lX11_115 ⟨rfl, rfl, Nat.le_of_ble_eq_true rfl, Nat.le_of_ble_eq_true rfl⟩ sd_i100 (sd_e12 sd_k100) rfl rfl rfl (Nat.le_of_ble_eq_true rfl) dX11_setAll_89 rfl (n' := 92) ?_
        refine sd_i2b C dX11_setAll_92 rfl (n' := 93) ?_
        obtain ⟨q93, e93, hF⟩ := sd_bind hF
        refine sd_callVI [.int x1, .int q89.toInt8.toInt32] [] C (ct_X11_isOfKind M x1 q89.toInt8.toInt32  e93) sd_lX11_171 ⟨rfl, rfl, Nat.le_of_ble_eq_true rfl, Nat.le_of_ble_eq_true rfl⟩ sd_i100 (sd_e12 sd_k100) rfl rfl rfl (Nat.le_of_ble_eq_true rfl) dX11_setAll_93 rfl (n' := 96) ?_
        refine sd_if_eq C (n' := 99) (tgt := 103) dX11_setAll_96 rfl rfl (fun c96 => ?_) (fun c96 => ?_)
        · replace hF := sd_pos hF c96
          refine sd_iconst C (v := 0) dX11_setAll_103 rfl rfl (n' := 104) ?_
          refine sd_istore [(4, .int (0 : Int32)), (0, .ref (E.2.2 100)), (1, .int x1), (2, .int x2), (3, .int x3), (5, .int x5)] C dX11_setAll_104 (by decide) rfl rfl (n' := 106) ?_
          refine sd_iinc [(5, .int (x5 + (1 : Int32))), (4, .int (0 : Int32)), (0, .ref (E.2.2 100)), (1, .int x1), (2, .int x2), (3, .int x3)] 5 C dX11_setAll_106 rfl rfl (by decide) rfl rfl (n' := 109) ?_
          refine sd_goto C (tgt := 71) dX11_setAll_109 rfl ?_
          refine sd_sub [2, 3, 4, 5, 1, 0] rfl ?_
          exact ih M x1 x2 x3 (0 : Int32) (x5 + (1 : Int32)) hF
        · replace hF := sd_neg hF c96
          refine sd_iconst C (v := 1) dX11_setAll_99 rfl rfl (n' := 100) ?_
          refine sd_goto C (tgt := 104) dX11_setAll_100 rfl ?_
          refine sd_istore [(4, .int (1 : Int32)), (0, .ref (E.2.2 100)), (1, .int x1), (2, .int x2), (3, .int x3), (5, .int x5)] C dX11_setAll_104 (by decide) rfl rfl (n' := 106) ?_
          refine sd_iinc [(5, .int (x5 + (1 : Int32))), (4, .int (1 : Int32)), (0, .ref (E.2.2 100)), (1, .int x1), (2, .int x2), (3, .int x3)] 5 C dX11_setAll_106 rfl rfl (by decide) rfl rfl (n' := 109) ?_
          refine sd_goto C (tgt := 71) dX11_setAll_109 rfl ?_
          refine sd_sub [2, 3, 4, 5, 1, 0] rfl ?_
          exact ih M x1 x2 x3 (1 : Int32) (x5 + (1 : Int32)) hF
set_option maxRecDepth 100000 in
set_option maxHeartbeats 4000000 in
theorem tb_X11_setAll_0 {K : sd_K} {E : sd_Env}   {r : (Int32 × sd_Mem)} (C : sd_C K E sd_LM RX11 cX11_setAll 6 (some .int))  : ∀ (M : sd_Mem) (x1 : Int32) (x2 : Int32) (x3 : Int32), fn_X11_setAll_0 M x1 x2 x3 = some r → sd_Z K rm_X11_setAll E sd_LM 6 (sd_QI K E sd_LM r.1 r.2) M 0 [(0, .ref (E.2.2 100)), (1, .int x1), (2, .int x2), (3, .int x3)] [] := by
  intro M x1 x2 x3 hF
  unfold fn_X11_setAll_0 at hF
  refine sd_iload_n C 1 dX11_setAll_0 rfl rfl rfl (n' := 1) ?_
  obtain ⟨q1, e1, hF⟩ := sd_bind hF
  refine sd_callSI [.int x1] [] C (ct_X11_isWay M x1  e1) sd_lX11_162 ⟨rfl, rfl, Nat.le_of_ble_eq_true rfl, Nat.le_of_ble_eq_true rfl⟩ rfl (Nat.le_of_ble_eq_true rfl) dX11_setAll_1 rfl (n' := 4) ?_
  refine sd_if_eq C (n' := 7) (tgt := 22) dX11_setAll_4 rfl rfl (fun c4 => ?_) (fun c4 => ?_)
  · replace hF := sd_pos hF c4
    refine sd_iconst C (v := -1) dX11_setAll_22 rfl rfl (n' := 23) ?_
    exact sd_iret C dX11_setAll_23 (sd_fst hF) (sd_snd hF)
  · replace hF := sd_neg hF c4
    refine sd_iload_n C 2 dX11_setAll_7 rfl rfl rfl (n' := 8) ?_
    refine sd_iconst C (v := 1) dX11_setAll_8 rfl rfl (n' := 9) ?_
    obtain ⟨q9, e9, hF⟩ := sd_bind hF
    refine sd_callSI [.int x2, .int (1 : Int32)] [] C (ct_X11_isPlace M x2 (1 : Int32)  e9) sd_lX11_165 ⟨rfl, rfl, Nat.le_of_ble_eq_true rfl, Nat.le_of_ble_eq_true rfl⟩ rfl (Nat.le_of_ble_eq_true rfl) dX11_setAll_9 rfl (n' := 12) ?_
    refine sd_if_eq C (n' := 15) (tgt := 22) dX11_setAll_12 rfl rfl (fun c12 => ?_) (fun c12 => ?_)
    · replace hF := sd_pos hF c12
      refine sd_iconst C (v := -1) dX11_setAll_22 rfl rfl (n' := 23) ?_
      exact sd_iret C dX11_setAll_23 (sd_fst hF) (sd_snd hF)
    · replace hF := sd_neg hF c12
      refine sd_iload_n C 3 dX11_setAll_15 rfl rfl rfl (n' := 16) ?_
      obtain ⟨q16, e16, hF⟩ := sd_bind hF
      refine sd_callSI [.int x3] [] C (ct_X11_isRow M x3  e16) sd_lX11_101 ⟨rfl, rfl, Nat.le_of_ble_eq_true rfl, Nat.le_of_ble_eq_true rfl⟩ rfl (Nat.le_of_ble_eq_true rfl) dX11_setAll_16 rfl (n' := 19) ?_
      refine sd_if_ne C (n' := 22) (tgt := 24) dX11_setAll_19 rfl rfl (fun c19 => ?_) (fun c19 => ?_)
      · replace hF := sd_neg hF c19
        refine sd_aload_n C 0 dX11_setAll_24 rfl rfl rfl (n' := 25) ?_
        refine sd_g11_23 C sd_i100 sd_k100 sd_w1064 dX11_setAll_25 rfl (n' := 28) ?_
        refine sd_iload_n C 1 dX11_setAll_28 rfl rfl rfl (n' := 29) ?_
        obtain ⟨b29, hF⟩ := sd_ok hF
        refine sd_iald C sd_i115 sd_k115 sd_n115 b29 dX11_setAll_29 rfl (n' := 30) ?_
        refine sd_if_lt C (n' := 33) (tgt := 42) dX11_setAll_30 rfl rfl (fun c30 => ?_) (fun c30 => ?_)
        · replace hF := sd_pos hF c30
          refine sd_aload_n C 0 dX11_setAll_42 rfl rfl rfl (n' := 43) ?_
          refine sd_iconst C (v := 1) dX11_setAll_43 rfl rfl (n' := 44) ?_
          obtain ⟨q44, e44, hF⟩ := sd_bind hF
          refine sd_callVI [.int (1 : Int32)] [] C (ct_X11_meets M (1 : Int32)  e44) sd_lX11_105 ⟨rfl, rfl, Nat.le_of_ble_eq_true rfl, Nat.le_of_ble_eq_true rfl⟩ sd_i100 (sd_e12 sd_k100) rfl rfl rfl (Nat.le_of_ble_eq_true rfl) dX11_setAll_44 rfl (n' := 47) ?_
          exact sd_iret C dX11_setAll_47 (sd_fst hF) (sd_snd hF)
        · replace hF := sd_neg hF c30
          refine sd_aload_n C 0 dX11_setAll_33 rfl rfl rfl (n' := 34) ?_
          refine sd_g11_5 C sd_i100 sd_k100 sd_w1046 dX11_setAll_34 rfl (n' := 37) ?_
          refine sd_iload_n C 3 dX11_setAll_37 rfl rfl rfl (n' := 38) ?_
          obtain ⟨b38, hF⟩ := sd_ok hF
          refine sd_iald C sd_i102 sd_k102 sd_n102 b38 dX11_setAll_38 rfl (n' := 39) ?_
          refine sd_if_ge C (n' := 42) (tgt := 48) dX11_setAll_39 rfl rfl (fun c39 => ?_) (fun c39 => ?_)
          · replace hF := sd_pos hF c39
            refine sd_aload_n C 0 dX11_setAll_48 rfl rfl rfl (n' := 49) ?_
            refine sd_g11_5 C sd_i100 sd_k100 sd_w1046 dX11_setAll_49 rfl (n' := 52) ?_
            refine sd_iload_n C 3 dX11_setAll_52 rfl rfl rfl (n' := 53) ?_
            obtain ⟨b53, hF⟩ := sd_ok hF
            refine sd_iald C sd_i102 sd_k102 sd_n102 b53 dX11_setAll_53 rfl (n' := 54) ?_
            refine sd_bipush C (v := 10) dX11_setAll_54 rfl rfl (n' := 56) ?_
            refine sd_icmp_eq C (n' := 59) (tgt := 65) dX11_setAll_56 rfl rfl (fun c56 => ?_) (fun c56 => ?_)
            · replace hF := sd_pos hF c56
              refine sd_iconst C (v := 1) dX11_setAll_65 rfl rfl (n' := 66) ?_
              refine sd_istore [(4, .int (1 : Int32)), (0, .ref (E.2.2 100)), (1, .int x1), (2, .int x2), (3, .int x3)] C dX11_setAll_66 (by decide) rfl rfl (n' := 68) ?_
              refine sd_iconst C (v := 0) dX11_setAll_68 rfl rfl (n' := 69) ?_
              refine sd_istore [(5, .int (0 : Int32)), (4, .int (1 : Int32)), (0, .ref (E.2.2 100)), (1, .int x1), (2, .int x2), (3, .int x3)] C dX11_setAll_69 (by decide) rfl rfl (n' := 71) ?_
              refine sd_sub [2, 3, 4, 5, 1, 0] rfl ?_
              exact tb_X11_setAll_71 C sd_FU M x1 x2 x3 (1 : Int32) (0 : Int32) hF
            · replace hF := sd_neg hF c56
              refine sd_aload_n C 0 dX11_setAll_59 rfl rfl rfl (n' := 60) ?_
              refine sd_iconst C (v := 5) dX11_setAll_60 rfl rfl (n' := 61) ?_
              obtain ⟨q61, e61, hF⟩ := sd_bind hF
              refine sd_callVI [.int (5 : Int32)] [] C (ct_X11_meets M (5 : Int32)  e61) sd_lX11_105 ⟨rfl, rfl, Nat.le_of_ble_eq_true rfl, Nat.le_of_ble_eq_true rfl⟩ sd_i100 (sd_e12 sd_k100) rfl rfl rfl (Nat.le_of_ble_eq_true rfl) dX11_setAll_61 rfl (n' := 64) ?_
              exact sd_iret C dX11_setAll_64 (sd_fst hF) (sd_snd hF)
          · replace hF := sd_neg hF c39
            refine sd_aload_n C 0 dX11_setAll_42 rfl rfl rfl (n' := 43) ?_
            refine sd_iconst C (v := 1) dX11_setAll_43 rfl rfl (n' := 44) ?_
            obtain ⟨q44, e44, hF⟩ := sd_bind hF
            refine sd_callVI [.int (1 : Int32)] [] C (ct_X11_meets M (1 : Int32)  e44) sd_lX11_105 ⟨rfl, rfl, Nat.le_of_ble_eq_true rfl, Nat.le_of_ble_eq_true rfl⟩ sd_i100 (sd_e12 sd_k100) rfl rfl rfl (Nat.le_of_ble_eq_true rfl) dX11_setAll_44 rfl (n' := 47) ?_
            exact sd_iret C dX11_setAll_47 (sd_fst hF) (sd_snd hF)
      · replace hF := sd_pos hF c19
        refine sd_iconst C (v := -1) dX11_setAll_22 rfl rfl (n' := 23) ?_
        exact sd_iret C dX11_setAll_23 (sd_fst hF) (sd_snd hF)
theorem ct_X11_setAll {l : Launch} {E : sd_Env} (M : sd_Mem) (x1 : Int32) (x2 : Int32) (x3 : Int32)  {r : (Int32 × sd_Mem)} (hF : fn_X11_setAll M x1 x2 x3 = some r) : sd_MI l E sd_LM yX11_setAll cX11_setAll 6 (some .int) rm_X11_setAll [.ref (E.2.2 100), .int x1, .int x2, .int x3] M r.1 r.2 := sd_ent0 (by decide +kernel) (Nat.le_of_ble_eq_true rfl) (fun p e s m below meth c C => tb_X11_setAll_0 C M x1 x2 x3 hF)
theorem dX11_at_0 : decode cX11_at 0 = .ok (.iload_n 2, 1) := by decide +kernel
theorem dX11_at_1 : decode cX11_at 1 = .ok (.iload_n 3, 1) := by decide +kernel
theorem dX11_at_2 : decode cX11_at 2 = .ok (.invokestatic 165, 3) := by decide +kernel
theorem dX11_at_5 : decode cX11_at 5 = .ok (.ifCond .ne 5, 3) := by decide +kernel
theorem dX11_at_8 : decode cX11_at 8 = .ok (.iconst (-1), 1) := by decide +kernel
theorem dX11_at_9 : decode cX11_at 9 = .ok (.ireturn, 1) := by decide +kernel
theorem dX11_at_10 : decode cX11_at 10 = .ok (.aload_n 0, 1) := by decide +kernel
theorem dX11_at_11 : decode cX11_at 11 = .ok (.iload_n 1, 1) := by decide +kernel
theorem dX11_at_12 : decode cX11_at 12 = .ok (.invokevirtual 168, 3) := by decide +kernel
theorem dX11_at_15 : decode cX11_at 15 = .ok (.istore 4, 2) := by decide +kernel
theorem dX11_at_17 : decode cX11_at 17 = .ok (.iload 4, 2) := by decide +kernel
theorem dX11_at_19 : decode cX11_at 19 = .ok (.ifCond .ge 8, 3) := by decide +kernel
theorem dX11_at_22 : decode cX11_at 22 = .ok (.iload 4, 2) := by decide +kernel
theorem dX11_at_24 : decode cX11_at 24 = .ok (.goto 10, 3) := by decide +kernel
theorem dX11_at_27 : decode cX11_at 27 = .ok (.aload_n 0, 1) := by decide +kernel
theorem dX11_at_28 : decode cX11_at 28 = .ok (.iload_n 1, 1) := by decide +kernel
theorem dX11_at_29 : decode cX11_at 29 = .ok (.iload_n 2, 1) := by decide +kernel
theorem dX11_at_30 : decode cX11_at 30 = .ok (.iload_n 3, 1) := by decide +kernel
theorem dX11_at_31 : decode cX11_at 31 = .ok (.invokevirtual 174, 3) := by decide +kernel
theorem dX11_at_34 : decode cX11_at 34 = .ok (.ireturn, 1) := by decide +kernel
set_option maxRecDepth 100000 in
set_option maxHeartbeats 4000000 in
theorem tb_X11_at_0 {K : sd_K} {E : sd_Env}   {r : (Int32 × sd_Mem)} (C : sd_C K E sd_LM RX11 cX11_at 5 (some .int))  : ∀ (M : sd_Mem) (x1 : Int32) (x2 : Int32) (x3 : Int32), fn_X11_at_0 M x1 x2 x3 = some r → sd_Z K rm_X11_at E sd_LM 5 (sd_QI K E sd_LM r.1 r.2) M 0 [(0, .ref (E.2.2 100)), (1, .int x1), (2, .int x2), (3, .int x3)] [] := by
  intro M x1 x2 x3 hF
  unfold fn_X11_at_0 at hF
  refine sd_iload_n C 2 dX11_at_0 rfl rfl rfl (n' := 1) ?_
  refine sd_iload_n C 3 dX11_at_1 rfl rfl rfl (n' := 2) ?_
  obtain ⟨q2, e2, hF⟩ := sd_bind hF
  refine sd_callSI [.int x2, .int x3] [] C (ct_X11_isPlace M x2 x3  e2) sd_lX11_165 ⟨rfl, rfl, Nat.le_of_ble_eq_true rfl, Nat.le_of_ble_eq_true rfl⟩ rfl (Nat.le_of_ble_eq_true rfl) dX11_at_2 rfl (n' := 5) ?_
  refine sd_if_ne C (n' := 8) (tgt := 10) dX11_at_5 rfl rfl (fun c5 => ?_) (fun c5 => ?_)
  · replace hF := sd_neg hF c5
    refine sd_aload_n C 0 dX11_at_10 rfl rfl rfl (n' := 11) ?_
    refine sd_iload_n C 1 dX11_at_11 rfl rfl rfl (n' := 12) ?_
    obtain ⟨q12, e12, hF⟩ := sd_bind hF
    refine sd_callVI [.int x1] [] C (ct_X11_askedWay M x1  e12) sd_lX11_168 ⟨rfl, rfl, Nat.le_of_ble_eq_true rfl, Nat.le_of_ble_eq_true rfl⟩ sd_i100 (sd_e12 sd_k100) rfl rfl rfl (Nat.le_of_ble_eq_true rfl) dX11_at_12 rfl (n' := 15) ?_
    refine sd_istore [(4, .int q12.1), (0, .ref (E.2.2 100)), (1, .int x1), (2, .int x2), (3, .int x3)] C dX11_at_15 (by decide) rfl rfl (n' := 17) ?_
    refine sd_iload C 0 dX11_at_17 rfl rfl (n' := 19) ?_
    refine sd_if_ge C (n' := 22) (tgt := 27) dX11_at_19 rfl rfl (fun c19 => ?_) (fun c19 => ?_)
    · replace hF := sd_pos hF c19
      refine sd_aload_n C 1 dX11_at_27 rfl rfl rfl (n' := 28) ?_
      refine sd_iload_n C 2 dX11_at_28 rfl rfl rfl (n' := 29) ?_
      refine sd_iload_n C 3 dX11_at_29 rfl rfl rfl (n' := 30) ?_
      refine sd_iload_n C 4 dX11_at_30 rfl rfl rfl (n' := 31) ?_
      obtain ⟨q31, e31, hF⟩ := sd_bind hF
      refine sd_callVI [.int x1, .int x2, .int x3] [] C (ct_X11_number q12.2 x1 x2 x3  e31) sd_lX11_174 ⟨rfl, rfl, Nat.le_of_ble_eq_true rfl, Nat.le_of_ble_eq_true rfl⟩ sd_i100 (sd_e12 sd_k100) rfl rfl rfl (Nat.le_of_ble_eq_true rfl) dX11_at_31 rfl (n' := 34) ?_
      exact sd_iret C dX11_at_34 (sd_fst hF) (sd_snd hF)
    · replace hF := sd_neg hF c19
      refine sd_iload C 0 dX11_at_22 rfl rfl (n' := 24) ?_
      refine sd_goto C (tgt := 34) dX11_at_24 rfl ?_
      exact sd_iret C dX11_at_34 (sd_fst hF) (sd_snd hF)
  · replace hF := sd_pos hF c5
    refine sd_iconst C (v := -1) dX11_at_8 rfl rfl (n' := 9) ?_
    exact sd_iret C dX11_at_9 (sd_fst hF) (sd_snd hF)
theorem ct_X11_at {l : Launch} {E : sd_Env} (M : sd_Mem) (x1 : Int32) (x2 : Int32) (x3 : Int32)  {r : (Int32 × sd_Mem)} (hF : fn_X11_at M x1 x2 x3 = some r) : sd_MI l E sd_LM yX11_at cX11_at 5 (some .int) rm_X11_at [.ref (E.2.2 100), .int x1, .int x2, .int x3] M r.1 r.2 := sd_ent0 (by decide +kernel) (Nat.le_of_ble_eq_true rfl) (fun p e s m below meth c C => tb_X11_at_0 C M x1 x2 x3 hF)
theorem dX11_kind_0 : decode cX11_kind 0 = .ok (.aload_n 0, 1) := by decide +kernel
theorem dX11_kind_1 : decode cX11_kind 1 = .ok (.iload_n 1, 1) := by decide +kernel
theorem dX11_kind_2 : decode cX11_kind 2 = .ok (.invokevirtual 168, 3) := by decide +kernel
theorem dX11_kind_5 : decode cX11_kind 5 = .ok (.istore_n 2, 1) := by decide +kernel
theorem dX11_kind_6 : decode cX11_kind 6 = .ok (.iload_n 2, 1) := by decide +kernel
theorem dX11_kind_7 : decode cX11_kind 7 = .ok (.ifCond .ge 7, 3) := by decide +kernel
theorem dX11_kind_10 : decode cX11_kind 10 = .ok (.iload_n 2, 1) := by decide +kernel
theorem dX11_kind_11 : decode cX11_kind 11 = .ok (.goto 9, 3) := by decide +kernel
theorem dX11_kind_14 : decode cX11_kind 14 = .ok (.aload_n 0, 1) := by decide +kernel
theorem dX11_kind_15 : decode cX11_kind 15 = .ok (.getfield 63, 3) := by decide +kernel
theorem dX11_kind_18 : decode cX11_kind 18 = .ok (.iload_n 1, 1) := by decide +kernel
theorem dX11_kind_19 : decode cX11_kind 19 = .ok (.iaload, 1) := by decide +kernel
theorem dX11_kind_20 : decode cX11_kind 20 = .ok (.ireturn, 1) := by decide +kernel
set_option maxRecDepth 100000 in
set_option maxHeartbeats 4000000 in
theorem tb_X11_kind_0 {K : sd_K} {E : sd_Env}   {r : (Int32 × sd_Mem)} (C : sd_C K E sd_LM RX11 cX11_kind 3 (some .int))  : ∀ (M : sd_Mem) (x1 : Int32), fn_X11_kind_0 M x1 = some r → sd_Z K rm_X11_kind E sd_LM 3 (sd_QI K E sd_LM r.1 r.2) M 0 [(0, .ref (E.2.2 100)), (1, .int x1)] [] := by
  intro M x1 hF
  unfold fn_X11_kind_0 at hF
  refine sd_aload_n C 0 dX11_kind_0 rfl rfl rfl (n' := 1) ?_
  refine sd_iload_n C 1 dX11_kind_1 rfl rfl rfl (n' := 2) ?_
  obtain ⟨q2, e2, hF⟩ := sd_bind hF
  refine sd_callVI [.int x1] [] C (ct_X11_askedWay M x1  e2) sd_lX11_168 ⟨rfl, rfl, Nat.le_of_ble_eq_true rfl, Nat.le_of_ble_eq_true rfl⟩ sd_i100 (sd_e12 sd_k100) rfl rfl rfl (Nat.le_of_ble_eq_true rfl) dX11_kind_2 rfl (n' := 5) ?_
  refine sd_istore_n [(2, .int q2.1), (0, .ref (E.2.2 100)), (1, .int x1)] C dX11_kind_5 rfl (by decide) rfl rfl (n' := 6) ?_
  refine sd_iload_n C 0 dX11_kind_6 rfl rfl rfl (n' := 7) ?_
  refine sd_if_ge C (n' := 10) (tgt := 14) dX11_kind_7 rfl rfl (fun c7 => ?_) (fun c7 => ?_)
  · replace hF := sd_pos hF c7
    refine sd_aload_n C 1 dX11_kind_14 rfl rfl rfl (n' := 15) ?_
    refine sd_g11_23 C sd_i100 sd_k100 sd_w1064 dX11_kind_15 rfl (n' := 18) ?_
    refine sd_iload_n C 2 dX11_kind_18 rfl rfl rfl (n' := 19) ?_
    obtain ⟨b19, hF⟩ := sd_ok hF
    refine sd_iald C sd_i115 sd_k115 sd_n115 b19 dX11_kind_19 rfl (n' := 20) ?_
    exact sd_iret C dX11_kind_20 (sd_fst hF) (sd_snd hF)
  · replace hF := sd_neg hF c7
    refine sd_iload_n C 0 dX11_kind_10 rfl rfl rfl (n' := 11) ?_
    refine sd_goto C (tgt := 20) dX11_kind_11 rfl ?_
    exact sd_iret C dX11_kind_20 (sd_fst hF) (sd_snd hF)
theorem ct_X11_kind {l : Launch} {E : sd_Env} (M : sd_Mem) (x1 : Int32)  {r : (Int32 × sd_Mem)} (hF : fn_X11_kind M x1 = some r) : sd_MI l E sd_LM yX11_kind cX11_kind 3 (some .int) rm_X11_kind [.ref (E.2.2 100), .int x1] M r.1 r.2 := sd_ent0 (by decide +kernel) (Nat.le_of_ble_eq_true rfl) (fun p e s m below meth c C => tb_X11_kind_0 C M x1 hF)
theorem dX11_whoAll_0 : decode cX11_whoAll 0 = .ok (.iconst 1, 1) := by decide +kernel
theorem dX11_whoAll_1 : decode cX11_whoAll 1 = .ok (.aload_n 0, 1) := by decide +kernel
theorem dX11_whoAll_2 : decode cX11_whoAll 2 = .ok (.getfield 32, 3) := by decide +kernel
theorem dX11_whoAll_5 : decode cX11_whoAll 5 = .ok (.iload_n 1, 1) := by decide +kernel
theorem dX11_whoAll_6 : decode cX11_whoAll 6 = .ok (.iaload, 1) := by decide +kernel
theorem dX11_whoAll_7 : decode cX11_whoAll 7 = .ok (.ishl, 1) := by decide +kernel
theorem dX11_whoAll_8 : decode cX11_whoAll 8 = .ok (.iconst 1, 1) := by decide +kernel
theorem dX11_whoAll_9 : decode cX11_whoAll 9 = .ok (.isub, 1) := by decide +kernel
theorem dX11_whoAll_10 : decode cX11_whoAll 10 = .ok (.ireturn, 1) := by decide +kernel
set_option maxRecDepth 100000 in
set_option maxHeartbeats 4000000 in
theorem tb_X11_whoAll_0 {K : sd_K} {E : sd_Env} {M : sd_Mem}  {r : Int32} (C : sd_C K E sd_LM RX11 cX11_whoAll 2 (some .int))  : ∀ (x1 : Int32), fn_X11_whoAll_0 M x1 = some r → sd_Z K rm_X11_whoAll E sd_LM 2 (sd_QI K E sd_LM r M) M 0 [(0, .ref (E.2.2 100)), (1, .int x1)] [] := by
  intro x1 hF
  unfold fn_X11_whoAll_0 at hF
  refine sd_iconst C (v := 1) dX11_whoAll_0 rfl rfl (n' := 1) ?_
  refine sd_aload_n C 0 dX11_whoAll_1 rfl rfl rfl (n' := 2) ?_
  refine sd_g11_10 C sd_i100 sd_k100 sd_w1051 dX11_whoAll_2 rfl (n' := 5) ?_
  refine sd_iload_n C 1 dX11_whoAll_5 rfl rfl rfl (n' := 6) ?_
  obtain ⟨b6, hF⟩ := sd_ok hF
  refine sd_iald C sd_i107 sd_k107 sd_n107 b6 dX11_whoAll_6 rfl (n' := 7) ?_
  refine sd_ishl C dX11_whoAll_7 rfl (n' := 8) ?_
  refine sd_iconst C (v := 1) dX11_whoAll_8 rfl rfl (n' := 9) ?_
  refine sd_isub C dX11_whoAll_9 rfl (n' := 10) ?_
  exact sd_iret C dX11_whoAll_10 (Option.some.inj hF) rfl
theorem ct_X11_whoAll {l : Launch} {E : sd_Env} (M : sd_Mem) (x1 : Int32)  {r : Int32} (hF : fn_X11_whoAll M x1 = some r) : sd_MI l E sd_LM yX11_whoAll cX11_whoAll 2 (some .int) rm_X11_whoAll [.ref (E.2.2 100), .int x1] M r M := sd_ent0 (by decide +kernel) (Nat.le_of_ble_eq_true rfl) (fun p e s m below meth c C => tb_X11_whoAll_0 C x1 hF)
theorem dX11_isIn_0 : decode cX11_isIn 0 = .ok (.iload_n 0, 1) := by decide +kernel
theorem dX11_isIn_1 : decode cX11_isIn 1 = .ok (.iload_n 1, 1) := by decide +kernel
theorem dX11_isIn_2 : decode cX11_isIn 2 = .ok (.ishr, 1) := by decide +kernel
theorem dX11_isIn_3 : decode cX11_isIn 3 = .ok (.iconst 1, 1) := by decide +kernel
theorem dX11_isIn_4 : decode cX11_isIn 4 = .ok (.iand, 1) := by decide +kernel
theorem dX11_isIn_5 : decode cX11_isIn 5 = .ok (.iconst 1, 1) := by decide +kernel
theorem dX11_isIn_6 : decode cX11_isIn 6 = .ok (.if_icmp .ne 7, 3) := by decide +kernel
theorem dX11_isIn_9 : decode cX11_isIn 9 = .ok (.iconst 1, 1) := by decide +kernel
theorem dX11_isIn_10 : decode cX11_isIn 10 = .ok (.goto 4, 3) := by decide +kernel
theorem dX11_isIn_13 : decode cX11_isIn 13 = .ok (.iconst 0, 1) := by decide +kernel
theorem dX11_isIn_14 : decode cX11_isIn 14 = .ok (.ireturn, 1) := by decide +kernel
set_option maxRecDepth 100000 in
set_option maxHeartbeats 4000000 in
theorem tb_X11_isIn_0 {K : sd_K} {E : sd_Env} {M : sd_Mem}  {r : Int32} (C : sd_C K E sd_LM RX11 cX11_isIn 2 (some .boolean))  : ∀ (x0 : Int32) (x1 : Int32), fn_X11_isIn_0 x0 x1 = some r → sd_Z K rm_X11_isIn E sd_LM 2 (sd_QI K E sd_LM r M) M 0 [(0, .int x0), (1, .int x1)] [] := by
  intro x0 x1 hF
  unfold fn_X11_isIn_0 at hF
  refine sd_iload_n C 0 dX11_isIn_0 rfl rfl rfl (n' := 1) ?_
  refine sd_iload_n C 1 dX11_isIn_1 rfl rfl rfl (n' := 2) ?_
  refine sd_ishr C dX11_isIn_2 rfl (n' := 3) ?_
  refine sd_iconst C (v := 1) dX11_isIn_3 rfl rfl (n' := 4) ?_
  refine sd_iand C dX11_isIn_4 rfl (n' := 5) ?_
  refine sd_iconst C (v := 1) dX11_isIn_5 rfl rfl (n' := 6) ?_
  refine sd_icmp_ne C (n' := 9) (tgt := 13) dX11_isIn_6 rfl rfl (fun c6 => ?_) (fun c6 => ?_)
  · replace hF := sd_neg hF c6
    refine sd_iconst C (v := 0) dX11_isIn_13 rfl rfl (n' := 14) ?_
    exact sd_zret C dX11_isIn_14 rfl (Option.some.inj hF) rfl
  · replace hF := sd_pos hF c6
    refine sd_iconst C (v := 1) dX11_isIn_9 rfl rfl (n' := 10) ?_
    refine sd_goto C (tgt := 14) dX11_isIn_10 rfl ?_
    exact sd_zret C dX11_isIn_14 rfl (Option.some.inj hF) rfl
theorem ct_X11_isIn {l : Launch} {E : sd_Env} (M : sd_Mem) (x0 : Int32) (x1 : Int32)  {r : Int32} (hF : fn_X11_isIn x0 x1 = some r) : sd_MI l E sd_LM yX11_isIn cX11_isIn 2 (some .boolean) rm_X11_isIn [.int x0, .int x1] M r M := sd_ent0 (by decide +kernel) (Nat.le_of_ble_eq_true rfl) (fun p e s m below meth c C => tb_X11_isIn_0 C x0 x1 hF)
theorem dX11_chances_0 : decode cX11_chances 0 = .ok (.iconst 0, 1) := by decide +kernel
theorem dX11_chances_1 : decode cX11_chances 1 = .ok (.istore_n 3, 1) := by decide +kernel
theorem dX11_chances_2 : decode cX11_chances 2 = .ok (.iconst 0, 1) := by decide +kernel
theorem dX11_chances_3 : decode cX11_chances 3 = .ok (.istore 4, 2) := by decide +kernel
theorem dX11_chances_5 : decode cX11_chances 5 = .ok (.iload 4, 2) := by decide +kernel
theorem dX11_chances_7 : decode cX11_chances 7 = .ok (.aload_n 0, 1) := by decide +kernel
theorem dX11_chances_8 : decode cX11_chances 8 = .ok (.getfield 32, 3) := by decide +kernel
theorem dX11_chances_11 : decode cX11_chances 11 = .ok (.iload_n 1, 1) := by decide +kernel
theorem dX11_chances_12 : decode cX11_chances 12 = .ok (.iaload, 1) := by decide +kernel
theorem dX11_chances_13 : decode cX11_chances 13 = .ok (.if_icmp .ge 36, 3) := by decide +kernel
theorem dX11_chances_16 : decode cX11_chances 16 = .ok (.iload_n 3, 1) := by decide +kernel
theorem dX11_chances_17 : decode cX11_chances 17 = .ok (.iload_n 2, 1) := by decide +kernel
theorem dX11_chances_18 : decode cX11_chances 18 = .ok (.iload 4, 2) := by decide +kernel
theorem dX11_chances_20 : decode cX11_chances 20 = .ok (.invokestatic 159, 3) := by decide +kernel
theorem dX11_chances_23 : decode cX11_chances 23 = .ok (.ifCond .eq 17, 3) := by decide +kernel
theorem dX11_chances_26 : decode cX11_chances 26 = .ok (.aload_n 0, 1) := by decide +kernel
theorem dX11_chances_27 : decode cX11_chances 27 = .ok (.getfield 35, 3) := by decide +kernel
theorem dX11_chances_30 : decode cX11_chances 30 = .ok (.iconst 3, 1) := by decide +kernel
theorem dX11_chances_31 : decode cX11_chances 31 = .ok (.iload_n 1, 1) := by decide +kernel
theorem dX11_chances_32 : decode cX11_chances 32 = .ok (.imul, 1) := by decide +kernel
theorem dX11_chances_33 : decode cX11_chances 33 = .ok (.iload 4, 2) := by decide +kernel
theorem dX11_chances_35 : decode cX11_chances 35 = .ok (.iadd, 1) := by decide +kernel
theorem dX11_chances_36 : decode cX11_chances 36 = .ok (.iaload, 1) := by decide +kernel
theorem dX11_chances_37 : decode cX11_chances 37 = .ok (.goto 4, 3) := by decide +kernel
theorem dX11_chances_40 : decode cX11_chances 40 = .ok (.iconst 0, 1) := by decide +kernel
theorem dX11_chances_41 : decode cX11_chances 41 = .ok (.iadd, 1) := by decide +kernel
theorem dX11_chances_42 : decode cX11_chances 42 = .ok (.istore_n 3, 1) := by decide +kernel
theorem dX11_chances_43 : decode cX11_chances 43 = .ok (.iinc 4 1, 3) := by decide +kernel
theorem dX11_chances_46 : decode cX11_chances 46 = .ok (.goto (-41), 3) := by decide +kernel
theorem dX11_chances_49 : decode cX11_chances 49 = .ok (.iload_n 3, 1) := by decide +kernel
theorem dX11_chances_50 : decode cX11_chances 50 = .ok (.ireturn, 1) := by decide +kernel
set_option maxRecDepth 100000 in
set_option maxHeartbeats 4000000 in
theorem tb_X11_chances_5 {K : sd_K} {E : sd_Env} {M : sd_Mem}  {r : Int32} (C : sd_C K E sd_LM RX11 cX11_chances 5 (some .int))  : ∀ (n : Nat), ∀ (x1 : Int32) (x2 : Int32) (x3 : Int32) (x4 : Int32), fn_X11_chances_5 M n x1 x2 x3 x4 = some r → sd_Z K rm_X11_chances E sd_LM 5 (sd_QI K E sd_LM r M) M 5 [(0, .ref (E.2.2 100)), (1, .int x1), (2, .int x2), (3, .int x3), (4, .int x4)] [] := by
  intro n
  induction n with
  | zero => intro x1 x2 x3 x4 hF; cases hF
  | succ n ih =>
    intro x1 x2 x3 x4 hF
    unfold fn_X11_chances_5 at hF
    refine sd_iload C 4 dX11_chances_5 rfl rfl (n' := 7) ?_
    refine sd_aload_n C 0 dX11_chances_7 rfl rfl rfl (n' := 8) ?_
    refine sd_g11_10 C sd_i100 sd_k100 sd_w1051 dX11_chances_8 rfl (n' := 11) ?_
    refine sd_iload_n C 1 dX11_chances_11 rfl rfl rfl (n' := 12) ?_
    obtain ⟨b12, hF⟩ := sd_ok hF
    refine sd_iald C sd_i107 sd_k107 sd_n107 b12 dX11_chances_12 rfl (n' := 13) ?_
    refine sd_icmp_ge C (n' := 16) (tgt := 49) dX11_chances_13 rfl rfl (fun c13 => ?_) (fun c13 => ?_)
    · replace hF := sd_pos hF c13
      refine sd_iload_n C 3 dX11_chances_49 rfl rfl rfl (n' := 50) ?_
      exact sd_iret C dX11_chances_50 (Option.some.inj hF) rfl
    · replace hF := sd_neg hF c13
      refine sd_iload_n C 3 dX11_chances_16 rfl rfl rfl (n' := 17) ?_
      refine sd_iload_n C 2 dX11_chances_17 rfl rfl rfl (n' := 18) ?_
      refine sd_iload C 4 dX11_chances_18 rfl rfl (n' := 20) ?_
      obtain ⟨q20, e20, hF⟩ := sd_bind hF
      refine sd_callSI [.int x2, .int x4] [.int x3] C (ct_X11_isIn M x2 x4  e20) sd_lX11_159 ⟨rfl, rfl, Nat.le_of_ble_eq_true rfl, Nat.le_of_ble_eq_true rfl⟩ rfl (Nat.le_of_ble_eq_true rfl) dX11_chances_20 rfl (n' := 23) ?_
      refine sd_if_eq C (n' := 26) (tgt := 40) dX11_chances_23 rfl rfl (fun c23 => ?_) (fun c23 => ?_)
      · replace hF := sd_pos hF c23
        refine sd_iconst C (v := 0) dX11_chances_40 rfl rfl (n' := 41) ?_
        refine sd_iadd C dX11_chances_41 rfl (n' := 42) ?_
        refine sd_istore_n [(3, .int (x3 + (0 : Int32))), (0, .ref (E.2.2 100)), (1, .int x1), (2, .int x2), (4, .int x4)] C dX11_chances_42 rfl (by decide) rfl rfl (n' := 43) ?_
        refine sd_iinc [(4, .int (x4 + (1 : Int32))), (3, .int (x3 + (0 : Int32))), (0, .ref (E.2.2 100)), (1, .int x1), (2, .int x2)] 4 C dX11_chances_43 rfl rfl (by decide) rfl rfl (n' := 46) ?_
        refine sd_goto C (tgt := 5) dX11_chances_46 rfl ?_
        refine sd_sub [2, 3, 4, 1, 0] rfl ?_
        exact ih x1 x2 (x3 + (0 : Int32)) (x4 + (1 : Int32)) hF
      · replace hF := sd_neg hF c23
        refine sd_aload_n C 0 dX11_chances_26 rfl rfl rfl (n' := 27) ?_
        refine sd_g11_11 C sd_i100 sd_k100 sd_w1052 dX11_chances_27 rfl (n' := 30) ?_
        refine sd_iconst C (v := 3) dX11_chances_30 rfl rfl (n' := 31) ?_
        refine sd_iload_n C 1 dX11_chances_31 rfl rfl rfl (n' := 32) ?_
        refine sd_imul C dX11_chances_32 rfl (n' := 33) ?_
        refine sd_iload C 4 dX11_chances_33 rfl rfl (n' := 35) ?_
        refine sd_iadd C dX11_chances_35 rfl (n' := 36) ?_
        obtain ⟨b36, hF⟩ := sd_ok hF
        refine sd_iald C sd_i108 sd_k108 sd_n108 b36 dX11_chances_36 rfl (n' := 37) ?_
        refine sd_goto C (tgt := 41) dX11_chances_37 rfl ?_
        refine sd_iadd C dX11_chances_41 rfl (n' := 42) ?_
        refine sd_istore_n [(3, .int (x3 + (M.1 108 (((3 : Int32) * x1) + x4).toNatClampNeg))), (0, .ref (E.2.2 100)), (1, .int x1), (2, .int x2), (4, .int x4)] C dX11_chances_42 rfl (by decide) rfl rfl (n' := 43) ?_
        refine sd_iinc [(4, .int (x4 + (1 : Int32))), (3, .int (x3 + (M.1 108 (((3 : Int32) * x1) + x4).toNatClampNeg))), (0, .ref (E.2.2 100)), (1, .int x1), (2, .int x2)] 4 C dX11_chances_43 rfl rfl (by decide) rfl rfl (n' := 46) ?_
        refine sd_goto C (tgt := 5) dX11_chances_46 rfl ?_
        refine sd_sub [2, 3, 4, 1, 0] rfl ?_
        exact ih x1 x2 (x3 + (M.1 108 (((3 : Int32) * x1) + x4).toNatClampNeg)) (x4 + (1 : Int32)) hF
set_option maxRecDepth 100000 in
set_option maxHeartbeats 4000000 in
theorem tb_X11_chances_0 {K : sd_K} {E : sd_Env} {M : sd_Mem}  {r : Int32} (C : sd_C K E sd_LM RX11 cX11_chances 5 (some .int))  : ∀ (x1 : Int32) (x2 : Int32), fn_X11_chances_0 M x1 x2 = some r → sd_Z K rm_X11_chances E sd_LM 5 (sd_QI K E sd_LM r M) M 0 [(0, .ref (E.2.2 100)), (1, .int x1), (2, .int x2)] [] := by
  intro x1 x2 hF
  unfold fn_X11_chances_0 at hF
  refine sd_iconst C (v := 0) dX11_chances_0 rfl rfl (n' := 1) ?_
  refine sd_istore_n [(3, .int (0 : Int32)), (0, .ref (E.2.2 100)), (1, .int x1), (2, .int x2)] C dX11_chances_1 rfl (by decide) rfl rfl (n' := 2) ?_
  refine sd_iconst C (v := 0) dX11_chances_2 rfl rfl (n' := 3) ?_
  refine sd_istore [(4, .int (0 : Int32)), (3, .int (0 : Int32)), (0, .ref (E.2.2 100)), (1, .int x1), (2, .int x2)] C dX11_chances_3 (by decide) rfl rfl (n' := 5) ?_
  refine sd_sub [2, 3, 4, 1, 0] rfl ?_
  exact tb_X11_chances_5 C sd_FU x1 x2 (0 : Int32) (0 : Int32) hF
theorem ct_X11_chances {l : Launch} {E : sd_Env} (M : sd_Mem) (x1 : Int32) (x2 : Int32)  {r : Int32} (hF : fn_X11_chances M x1 x2 = some r) : sd_MI l E sd_LM yX11_chances cX11_chances 5 (some .int) rm_X11_chances [.ref (E.2.2 100), .int x1, .int x2] M r M := sd_ent0 (by decide +kernel) (Nat.le_of_ble_eq_true rfl) (fun p e s m below meth c C => tb_X11_chances_0 C x1 x2 hF)
theorem dX11_needed_0 : decode cX11_needed 0 = .ok (.iconst 0, 1) := by decide +kernel
theorem dX11_needed_1 : decode cX11_needed 1 = .ok (.istore_n 1, 1) := by decide +kernel
theorem dX11_needed_2 : decode cX11_needed 2 = .ok (.iconst 3, 1) := by decide +kernel
theorem dX11_needed_3 : decode cX11_needed 3 = .ok (.istore_n 2, 1) := by decide +kernel
theorem dX11_needed_4 : decode cX11_needed 4 = .ok (.iconst 0, 1) := by decide +kernel
theorem dX11_needed_5 : decode cX11_needed 5 = .ok (.istore_n 3, 1) := by decide +kernel
theorem dX11_needed_6 : decode cX11_needed 6 = .ok (.iload_n 3, 1) := by decide +kernel
theorem dX11_needed_7 : decode cX11_needed 7 = .ok (.aload_n 0, 1) := by decide +kernel
theorem dX11_needed_8 : decode cX11_needed 8 = .ok (.iconst 0, 1) := by decide +kernel
theorem dX11_needed_9 : decode cX11_needed 9 = .ok (.invokevirtual 178, 3) := by decide +kernel
theorem dX11_needed_12 : decode cX11_needed 12 = .ok (.if_icmp .gt 73, 3) := by decide +kernel
theorem dX11_needed_15 : decode cX11_needed 15 = .ok (.iload_n 3, 1) := by decide +kernel
theorem dX11_needed_16 : decode cX11_needed 16 = .ok (.iconst 1, 1) := by decide +kernel
theorem dX11_needed_17 : decode cX11_needed 17 = .ok (.iand, 1) := by decide +kernel
theorem dX11_needed_18 : decode cX11_needed 18 = .ok (.iload_n 3, 1) := by decide +kernel
theorem dX11_needed_19 : decode cX11_needed 19 = .ok (.iconst 1, 1) := by decide +kernel
theorem dX11_needed_20 : decode cX11_needed 20 = .ok (.ishr, 1) := by decide +kernel
theorem dX11_needed_21 : decode cX11_needed 21 = .ok (.iconst 1, 1) := by decide +kernel
theorem dX11_needed_22 : decode cX11_needed 22 = .ok (.iand, 1) := by decide +kernel
theorem dX11_needed_23 : decode cX11_needed 23 = .ok (.iadd, 1) := by decide +kernel
theorem dX11_needed_24 : decode cX11_needed 24 = .ok (.iload_n 3, 1) := by decide +kernel
theorem dX11_needed_25 : decode cX11_needed 25 = .ok (.iconst 2, 1) := by decide +kernel
theorem dX11_needed_26 : decode cX11_needed 26 = .ok (.ishr, 1) := by decide +kernel
theorem dX11_needed_27 : decode cX11_needed 27 = .ok (.iconst 1, 1) := by decide +kernel
theorem dX11_needed_28 : decode cX11_needed 28 = .ok (.iand, 1) := by decide +kernel
theorem dX11_needed_29 : decode cX11_needed 29 = .ok (.iadd, 1) := by decide +kernel
theorem dX11_needed_30 : decode cX11_needed 30 = .ok (.istore 4, 2) := by decide +kernel
theorem dX11_needed_32 : decode cX11_needed 32 = .ok (.iconst 2, 1) := by decide +kernel
theorem dX11_needed_33 : decode cX11_needed 33 = .ok (.aload_n 0, 1) := by decide +kernel
theorem dX11_needed_34 : decode cX11_needed 34 = .ok (.iconst 0, 1) := by decide +kernel
theorem dX11_needed_35 : decode cX11_needed 35 = .ok (.iload_n 3, 1) := by decide +kernel
theorem dX11_needed_36 : decode cX11_needed 36 = .ok (.invokevirtual 181, 3) := by decide +kernel
theorem dX11_needed_39 : decode cX11_needed 39 = .ok (.imul, 1) := by decide +kernel
theorem dX11_needed_40 : decode cX11_needed 40 = .ok (.aload_n 0, 1) := by decide +kernel
theorem dX11_needed_41 : decode cX11_needed 41 = .ok (.iconst 0, 1) := by decide +kernel
theorem dX11_needed_42 : decode cX11_needed 42 = .ok (.aload_n 0, 1) := by decide +kernel
theorem dX11_needed_43 : decode cX11_needed 43 = .ok (.iconst 0, 1) := by decide +kernel
theorem dX11_needed_44 : decode cX11_needed 44 = .ok (.invokevirtual 178, 3) := by decide +kernel
theorem dX11_needed_47 : decode cX11_needed 47 = .ok (.invokevirtual 181, 3) := by decide +kernel
theorem dX11_needed_50 : decode cX11_needed 50 = .ok (.if_icmp .le 14, 3) := by decide +kernel
theorem dX11_needed_53 : decode cX11_needed 53 = .ok (.iload 4, 2) := by decide +kernel
theorem dX11_needed_55 : decode cX11_needed 55 = .ok (.iload_n 2, 1) := by decide +kernel
theorem dX11_needed_56 : decode cX11_needed 56 = .ok (.if_icmp .ge 8, 3) := by decide +kernel
theorem dX11_needed_59 : decode cX11_needed 59 = .ok (.iload 4, 2) := by decide +kernel
theorem dX11_needed_61 : decode cX11_needed 61 = .ok (.goto 4, 3) := by decide +kernel
theorem dX11_needed_64 : decode cX11_needed 64 = .ok (.iload_n 2, 1) := by decide +kernel
theorem dX11_needed_65 : decode cX11_needed 65 = .ok (.istore_n 2, 1) := by decide +kernel
theorem dX11_needed_66 : decode cX11_needed 66 = .ok (.iload 4, 2) := by decide +kernel
theorem dX11_needed_68 : decode cX11_needed 68 = .ok (.iload_n 1, 1) := by decide +kernel
theorem dX11_needed_69 : decode cX11_needed 69 = .ok (.if_icmp .le 8, 3) := by decide +kernel
theorem dX11_needed_72 : decode cX11_needed 72 = .ok (.iload 4, 2) := by decide +kernel
theorem dX11_needed_74 : decode cX11_needed 74 = .ok (.goto 4, 3) := by decide +kernel
theorem dX11_needed_77 : decode cX11_needed 77 = .ok (.iload_n 1, 1) := by decide +kernel
theorem dX11_needed_78 : decode cX11_needed 78 = .ok (.istore_n 1, 1) := by decide +kernel
theorem dX11_needed_79 : decode cX11_needed 79 = .ok (.iinc 3 1, 3) := by decide +kernel
theorem dX11_needed_82 : decode cX11_needed 82 = .ok (.goto (-76), 3) := by decide +kernel
theorem dX11_needed_85 : decode cX11_needed 85 = .ok (.iload_n 2, 1) := by decide +kernel
theorem dX11_needed_86 : decode cX11_needed 86 = .ok (.iload_n 1, 1) := by decide +kernel
theorem dX11_needed_87 : decode cX11_needed 87 = .ok (.if_icmp .ge 7, 3) := by decide +kernel
theorem dX11_needed_90 : decode cX11_needed 90 = .ok (.iload_n 2, 1) := by decide +kernel
theorem dX11_needed_91 : decode cX11_needed 91 = .ok (.goto 4, 3) := by decide +kernel
theorem dX11_needed_94 : decode cX11_needed 94 = .ok (.iload_n 1, 1) := by decide +kernel
theorem dX11_needed_95 : decode cX11_needed 95 = .ok (.ireturn, 1) := by decide +kernel
set_option maxRecDepth 100000 in
set_option maxHeartbeats 4000000 in
theorem tb_X11_needed_65 {K : sd_K} {E : sd_Env} {M : sd_Mem}  {r : Int32} (C : sd_C K E sd_LM RX11 cX11_needed 5 (some .int))  {k6 : Int32 → Int32 → Int32 → Option Int32} (hk6 : ∀ (x1 : Int32) (x2 : Int32) (x3 : Int32), k6 x1 x2 x3 = some r → sd_Z K rm_X11_needed E sd_LM 5 (sd_QI K E sd_LM r M) M 6 [(0, .ref (E.2.2 100)), (1, .int x1), (2, .int x2), (3, .int x3)] []) : ∀ (x1 : Int32) (x3 : Int32) (x4 : Int32) (xs0 : Int32), fn_X11_needed_65 M k6 x1 x3 x4 xs0 = some r → sd_Z K rm_X11_needed E sd_LM 5 (sd_QI K E sd_LM r M) M 65 [(0, .ref (E.2.2 100)), (1, .int x1), (3, .int x3), (4, .int x4)] [.int xs0] := by
  intro x1 x3 x4 xs0 hF
  unfold fn_X11_needed_65 at hF
  refine sd_istore_n [(2, .int xs0), (0, .ref (E.2.2 100)), (1, .int x1), (3, .int x3), (4, .int x4)] C dX11_needed_65 rfl (by decide) rfl rfl (n' := 66) ?_
  refine sd_iload C 4 dX11_needed_66 rfl rfl (n' := 68) ?_
  refine sd_iload_n C 2 dX11_needed_68 rfl rfl rfl (n' := 69) ?_
  refine sd_icmp_le C (n' := 72) (tgt := 77) dX11_needed_69 rfl rfl (fun c69 => ?_) (fun c69 => ?_)
  · replace hF := sd_pos hF c69
    refine sd_iload_n C 2 dX11_needed_77 rfl rfl rfl (n' := 78) ?_
    refine sd_istore_n [(1, .int x1), (2, .int xs0), (0, .ref (E.2.2 100)), (3, .int x3), (4, .int x4)] C dX11_needed_78 rfl (by decide) rfl rfl (n' := 79) ?_
    refine sd_iinc [(3, .int (x3 + (1 : Int32))), (1, .int x1), (2, .int xs0), (0, .ref (E.2.2 100)), (4, .int x4)] 3 C dX11_needed_79 rfl rfl (by decide) rfl rfl (n' := 82) ?_
    refine sd_goto C (tgt := 6) dX11_needed_82 rfl ?_
    refine sd_sub [3, 1, 2, 0] rfl ?_
    exact hk6 x1 xs0 (x3 + (1 : Int32)) hF
  · replace hF := sd_neg hF c69
    refine sd_iload C 4 dX11_needed_72 rfl rfl (n' := 74) ?_
    refine sd_goto C (tgt := 78) dX11_needed_74 rfl ?_
    refine sd_istore_n [(1, .int x4), (2, .int xs0), (0, .ref (E.2.2 100)), (3, .int x3), (4, .int x4)] C dX11_needed_78 rfl (by decide) rfl rfl (n' := 79) ?_
    refine sd_iinc [(3, .int (x3 + (1 : Int32))), (1, .int x4), (2, .int xs0), (0, .ref (E.2.2 100)), (4, .int x4)] 3 C dX11_needed_79 rfl rfl (by decide) rfl rfl (n' := 82) ?_
    refine sd_goto C (tgt := 6) dX11_needed_82 rfl ?_
    refine sd_sub [3, 1, 2, 0] rfl ?_
    exact hk6 x4 xs0 (x3 + (1 : Int32)) hF
set_option maxRecDepth 100000 in
set_option maxHeartbeats 4000000 in
theorem tb_X11_needed_85 {K : sd_K} {E : sd_Env} {M : sd_Mem}  {r : Int32} (C : sd_C K E sd_LM RX11 cX11_needed 5 (some .int))  : ∀ (x1 : Int32) (x2 : Int32), fn_X11_needed_85 M x1 x2 = some r → sd_Z K rm_X11_needed E sd_LM 5 (sd_QI K E sd_LM r M) M 85 [(1, .int x1), (2, .int x2)] [] := by
  intro x1 x2 hF
  unfold fn_X11_needed_85 at hF
  refine sd_iload_n C 1 dX11_needed_85 rfl rfl rfl (n' := 86) ?_
  refine sd_iload_n C 0 dX11_needed_86 rfl rfl rfl (n' := 87) ?_
  refine sd_icmp_ge C (n' := 90) (tgt := 94) dX11_needed_87 rfl rfl (fun c87 => ?_) (fun c87 => ?_)
  · replace hF := sd_pos hF c87
    refine sd_iload_n C 0 dX11_needed_94 rfl rfl rfl (n' := 95) ?_
    exact sd_iret C dX11_needed_95 (Option.some.inj hF) rfl
  · replace hF := sd_neg hF c87
    refine sd_iload_n C 1 dX11_needed_90 rfl rfl rfl (n' := 91) ?_
    refine sd_goto C (tgt := 95) dX11_needed_91 rfl ?_
    exact sd_iret C dX11_needed_95 (Option.some.inj hF) rfl
set_option maxRecDepth 100000 in
set_option maxHeartbeats 4000000 in
theorem tb_X11_needed_6 {K : sd_K} {E : sd_Env} {M : sd_Mem}  {r : Int32} (C : sd_C K E sd_LM RX11 cX11_needed 5 (some .int))  : ∀ (n : Nat), ∀ (x1 : Int32) (x2 : Int32) (x3 : Int32), fn_X11_needed_6 M n x1 x2 x3 = some r → sd_Z K rm_X11_needed E sd_LM 5 (sd_QI K E sd_LM r M) M 6 [(0, .ref (E.2.2 100)), (1, .int x1), (2, .int x2), (3, .int x3)] [] := by
  intro n
  induction n with
  | zero => intro x1 x2 x3 hF; cases hF
  | succ n ih =>
    intro x1 x2 x3 hF
    unfold fn_X11_needed_6 at hF
    refine sd_iload_n C 3 dX11_needed_6 rfl rfl rfl (n' := 7) ?_
    refine sd_aload_n C 0 dX11_needed_7 rfl rfl rfl (n' := 8) ?_
    refine sd_iconst C (v := 0) dX11_needed_8 rfl rfl (n' := 9) ?_
    obtain ⟨q9, e9, hF⟩ := sd_bind hF
    refine sd_callVI [.int (0 : Int32)] [.int x3] C (ct_X11_whoAll M (0 : Int32)  e9) sd_lX11_178 ⟨rfl, rfl, Nat.le_of_ble_eq_true rfl, Nat.le_of_ble_eq_true rfl⟩ sd_i100 (sd_e12 sd_k100) rfl rfl rfl (Nat.le_of_ble_eq_true rfl) dX11_needed_9 rfl (n' := 12) ?_
    refine sd_icmp_gt C (n' := 15) (tgt := 85) dX11_needed_12 rfl rfl (fun c12 => ?_) (fun c12 => ?_)
    · replace hF := sd_pos hF c12
      refine sd_sub [1, 2] rfl ?_
      exact tb_X11_needed_85 C x1 x2 hF
    · replace hF := sd_neg hF c12
      refine sd_iload_n C 3 dX11_needed_15 rfl rfl rfl (n' := 16) ?_
      refine sd_iconst C (v := 1) dX11_needed_16 rfl rfl (n' := 17) ?_
      refine sd_iand C dX11_needed_17 rfl (n' := 18) ?_
      refine sd_iload_n C 3 dX11_needed_18 rfl rfl rfl (n' := 19) ?_
      refine sd_iconst C (v := 1) dX11_needed_19 rfl rfl (n' := 20) ?_
      refine sd_ishr C dX11_needed_20 rfl (n' := 21) ?_
      refine sd_iconst C (v := 1) dX11_needed_21 rfl rfl (n' := 22) ?_
      refine sd_iand C dX11_needed_22 rfl (n' := 23) ?_
      refine sd_iadd C dX11_needed_23 rfl (n' := 24) ?_
      refine sd_iload_n C 3 dX11_needed_24 rfl rfl rfl (n' := 25) ?_
      refine sd_iconst C (v := 2) dX11_needed_25 rfl rfl (n' := 26) ?_
      refine sd_ishr C dX11_needed_26 rfl (n' := 27) ?_
      refine sd_iconst C (v := 1) dX11_needed_27 rfl rfl (n' := 28) ?_
      refine sd_iand C dX11_needed_28 rfl (n' := 29) ?_
      refine sd_iadd C dX11_needed_29 rfl (n' := 30) ?_
      refine sd_istore [(4, .int (((x3 &&& (1 : Int32)) + ((x3 >>> ((1 : Int32) &&& 31)) &&& (1 : Int32))) + ((x3 >>> ((2 : Int32) &&& 31)) &&& (1 : Int32)))), (0, .ref (E.2.2 100)), (1, .int x1), (2, .int x2), (3, .int x3)] C dX11_needed_30 (by decide) rfl rfl (n' := 32) ?_
      refine sd_iconst C (v := 2) dX11_needed_32 rfl rfl (n' := 33) ?_
      refine sd_aload_n C 1 dX11_needed_33 rfl rfl rfl (n' := 34) ?_
      refine sd_iconst C (v := 0) dX11_needed_34 rfl rfl (n' := 35) ?_
      refine sd_iload_n C 4 dX11_needed_35 rfl rfl rfl (n' := 36) ?_
      obtain ⟨q36, e36, hF⟩ := sd_bind hF
      refine sd_callVI [.int (0 : Int32), .int x3] [.int (2 : Int32)] C (ct_X11_chances M (0 : Int32) x3  e36) sd_lX11_181 ⟨rfl, rfl, Nat.le_of_ble_eq_true rfl, Nat.le_of_ble_eq_true rfl⟩ sd_i100 (sd_e12 sd_k100) rfl rfl rfl (Nat.le_of_ble_eq_true rfl) dX11_needed_36 rfl (n' := 39) ?_
      refine sd_imul C dX11_needed_39 rfl (n' := 40) ?_
      refine sd_aload_n C 1 dX11_needed_40 rfl rfl rfl (n' := 41) ?_
      refine sd_iconst C (v := 0) dX11_needed_41 rfl rfl (n' := 42) ?_
      refine sd_aload_n C 1 dX11_needed_42 rfl rfl rfl (n' := 43) ?_
      refine sd_iconst C (v := 0) dX11_needed_43 rfl rfl (n' := 44) ?_
      obtain ⟨q44, e44, hF⟩ := sd_bind hF
      refine sd_callVI [.int (0 : Int32)] [.int (0 : Int32), .ref (E.2.2 100), .int ((2 : Int32) * q36)] C (ct_X11_whoAll M (0 : Int32)  e44) sd_lX11_178 ⟨rfl, rfl, Nat.le_of_ble_eq_true rfl, Nat.le_of_ble_eq_true rfl⟩ sd_i100 (sd_e12 sd_k100) rfl rfl rfl (Nat.le_of_ble_eq_true rfl) dX11_needed_44 rfl (n' := 47) ?_
      obtain ⟨q47, e47, hF⟩ := sd_bind hF
      refine sd_callVI [.int (0 : Int32), .int q44] [.int ((2 : Int32) * q36)] C (ct_X11_chances M (0 : Int32) q44  e47) sd_lX11_181 ⟨rfl, rfl, Nat.le_of_ble_eq_true rfl, Nat.le_of_ble_eq_true rfl⟩ sd_i100 (sd_e12 sd_k100) rfl rfl rfl (Nat.le_of_ble_eq_true rfl) dX11_needed_47 rfl (n' := 50) ?_
      refine sd_icmp_le C (n' := 53) (tgt := 64) dX11_needed_50 rfl rfl (fun c50 => ?_) (fun c50 => ?_)
      · replace hF := sd_pos hF c50
        refine sd_iload_n C 3 dX11_needed_64 rfl rfl rfl (n' := 65) ?_
        refine sd_sub [1, 2, 4, 0] rfl ?_
        exact tb_X11_needed_65 C ih x1 x3 (((x3 &&& (1 : Int32)) + ((x3 >>> ((1 : Int32) &&& 31)) &&& (1 : Int32))) + ((x3 >>> ((2 : Int32) &&& 31)) &&& (1 : Int32))) x2 hF
      · replace hF := sd_neg hF c50
        refine sd_iload C 0 dX11_needed_53 rfl rfl (n' := 55) ?_
        refine sd_iload_n C 3 dX11_needed_55 rfl rfl rfl (n' := 56) ?_
        refine sd_icmp_ge C (n' := 59) (tgt := 64) dX11_needed_56 rfl rfl (fun c56 => ?_) (fun c56 => ?_)
        · replace hF := sd_pos hF c56
          refine sd_iload_n C 3 dX11_needed_64 rfl rfl rfl (n' := 65) ?_
          refine sd_sub [1, 2, 4, 0] rfl ?_
          exact tb_X11_needed_65 C ih x1 x3 (((x3 &&& (1 : Int32)) + ((x3 >>> ((1 : Int32) &&& 31)) &&& (1 : Int32))) + ((x3 >>> ((2 : Int32) &&& 31)) &&& (1 : Int32))) x2 hF
        · replace hF := sd_neg hF c56
          refine sd_iload C 0 dX11_needed_59 rfl rfl (n' := 61) ?_
          refine sd_goto C (tgt := 65) dX11_needed_61 rfl ?_
          refine sd_sub [1, 2, 4, 0] rfl ?_
          exact tb_X11_needed_65 C ih x1 x3 (((x3 &&& (1 : Int32)) + ((x3 >>> ((1 : Int32) &&& 31)) &&& (1 : Int32))) + ((x3 >>> ((2 : Int32) &&& 31)) &&& (1 : Int32))) (((x3 &&& (1 : Int32)) + ((x3 >>> ((1 : Int32) &&& 31)) &&& (1 : Int32))) + ((x3 >>> ((2 : Int32) &&& 31)) &&& (1 : Int32))) hF
set_option maxRecDepth 100000 in
set_option maxHeartbeats 4000000 in
theorem tb_X11_needed_0 {K : sd_K} {E : sd_Env} {M : sd_Mem}  {r : Int32} (C : sd_C K E sd_LM RX11 cX11_needed 5 (some .int))  : fn_X11_needed_0 M = some r → sd_Z K rm_X11_needed E sd_LM 5 (sd_QI K E sd_LM r M) M 0 [(0, .ref (E.2.2 100))] [] := by
  intro hF
  unfold fn_X11_needed_0 at hF
  refine sd_iconst C (v := 0) dX11_needed_0 rfl rfl (n' := 1) ?_
  refine sd_istore_n [(1, .int (0 : Int32)), (0, .ref (E.2.2 100))] C dX11_needed_1 rfl (by decide) rfl rfl (n' := 2) ?_
  refine sd_iconst C (v := 3) dX11_needed_2 rfl rfl (n' := 3) ?_
  refine sd_istore_n [(2, .int (3 : Int32)), (1, .int (0 : Int32)), (0, .ref (E.2.2 100))] C dX11_needed_3 rfl (by decide) rfl rfl (n' := 4) ?_
  refine sd_iconst C (v := 0) dX11_needed_4 rfl rfl (n' := 5) ?_
  refine sd_istore_n [(3, .int (0 : Int32)), (2, .int (3 : Int32)), (1, .int (0 : Int32)), (0, .ref (E.2.2 100))] C dX11_needed_5 rfl (by decide) rfl rfl (n' := 6) ?_
  refine sd_sub [3, 2, 1, 0] rfl ?_
  exact tb_X11_needed_6 C sd_FU (0 : Int32) (3 : Int32) (0 : Int32) hF
theorem ct_X11_needed {l : Launch} {E : sd_Env} (M : sd_Mem)   {r : Int32} (hF : fn_X11_needed M = some r) : sd_MI l E sd_LM yX11_needed cX11_needed 5 (some .int) rm_X11_needed [.ref (E.2.2 100)] M r M := sd_ent0 (by decide +kernel) (Nat.le_of_ble_eq_true rfl) (fun p e s m below meth c C => tb_X11_needed_0 C hF)
theorem dX11_mark_0 : decode cX11_mark 0 = .ok (.iload_n 2, 1) := by decide +kernel
theorem dX11_mark_1 : decode cX11_mark 1 = .ok (.iconst 1, 1) := by decide +kernel
theorem dX11_mark_2 : decode cX11_mark 2 = .ok (.iconst 4, 1) := by decide +kernel
theorem dX11_mark_3 : decode cX11_mark 3 = .ok (.invokestatic 97, 3) := by decide +kernel
theorem dX11_mark_6 : decode cX11_mark 6 = .ok (.ifCond .ne 5, 3) := by decide +kernel
theorem dX11_mark_9 : decode cX11_mark 9 = .ok (.iconst (-1), 1) := by decide +kernel
theorem dX11_mark_10 : decode cX11_mark 10 = .ok (.ireturn, 1) := by decide +kernel
theorem dX11_mark_11 : decode cX11_mark 11 = .ok (.aload_n 0, 1) := by decide +kernel
theorem dX11_mark_12 : decode cX11_mark 12 = .ok (.iload_n 1, 1) := by decide +kernel
theorem dX11_mark_13 : decode cX11_mark 13 = .ok (.invokevirtual 168, 3) := by decide +kernel
theorem dX11_mark_16 : decode cX11_mark 16 = .ok (.istore_n 3, 1) := by decide +kernel
theorem dX11_mark_17 : decode cX11_mark 17 = .ok (.iload_n 3, 1) := by decide +kernel
theorem dX11_mark_18 : decode cX11_mark 18 = .ok (.ifCond .ge 5, 3) := by decide +kernel
theorem dX11_mark_21 : decode cX11_mark 21 = .ok (.iload_n 3, 1) := by decide +kernel
theorem dX11_mark_22 : decode cX11_mark 22 = .ok (.ireturn, 1) := by decide +kernel
theorem dX11_mark_23 : decode cX11_mark 23 = .ok (.aload_n 0, 1) := by decide +kernel
theorem dX11_mark_24 : decode cX11_mark 24 = .ok (.getfield 63, 3) := by decide +kernel
theorem dX11_mark_27 : decode cX11_mark 27 = .ok (.iload_n 1, 1) := by decide +kernel
theorem dX11_mark_28 : decode cX11_mark 28 = .ok (.iaload, 1) := by decide +kernel
theorem dX11_mark_29 : decode cX11_mark 29 = .ok (.iload_n 2, 1) := by decide +kernel
theorem dX11_mark_30 : decode cX11_mark 30 = .ok (.if_icmp .eq 24, 3) := by decide +kernel
theorem dX11_mark_33 : decode cX11_mark 33 = .ok (.iload_n 2, 1) := by decide +kernel
theorem dX11_mark_34 : decode cX11_mark 34 = .ok (.iconst 2, 1) := by decide +kernel
theorem dX11_mark_35 : decode cX11_mark 35 = .ok (.if_icmp .ne 13, 3) := by decide +kernel
theorem dX11_mark_38 : decode cX11_mark 38 = .ok (.aload_n 0, 1) := by decide +kernel
theorem dX11_mark_39 : decode cX11_mark 39 = .ok (.getfield 63, 3) := by decide +kernel
theorem dX11_mark_42 : decode cX11_mark 42 = .ok (.iload_n 1, 1) := by decide +kernel
theorem dX11_mark_43 : decode cX11_mark 43 = .ok (.iaload, 1) := by decide +kernel
theorem dX11_mark_44 : decode cX11_mark 44 = .ok (.iconst 3, 1) := by decide +kernel
theorem dX11_mark_45 : decode cX11_mark 45 = .ok (.if_icmp .eq 9, 3) := by decide +kernel
theorem dX11_mark_48 : decode cX11_mark 48 = .ok (.aload_n 0, 1) := by decide +kernel
theorem dX11_mark_49 : decode cX11_mark 49 = .ok (.iconst 3, 1) := by decide +kernel
theorem dX11_mark_50 : decode cX11_mark 50 = .ok (.invokevirtual 105, 3) := by decide +kernel
theorem dX11_mark_53 : decode cX11_mark 53 = .ok (.ireturn, 1) := by decide +kernel
theorem dX11_mark_54 : decode cX11_mark 54 = .ok (.iconst 0, 1) := by decide +kernel
theorem dX11_mark_55 : decode cX11_mark 55 = .ok (.istore 4, 2) := by decide +kernel
theorem dX11_mark_57 : decode cX11_mark 57 = .ok (.bipush 99, 2) := by decide +kernel
theorem dX11_mark_59 : decode cX11_mark 59 = .ok (.istore 5, 2) := by decide +kernel
theorem dX11_mark_61 : decode cX11_mark 61 = .ok (.iconst 0, 1) := by decide +kernel
theorem dX11_mark_62 : decode cX11_mark 62 = .ok (.istore 6, 2) := by decide +kernel
theorem dX11_mark_64 : decode cX11_mark 64 = .ok (.bipush 30, 2) := by decide +kernel
theorem dX11_mark_66 : decode cX11_mark 66 = .ok (.iload_n 1, 1) := by decide +kernel
theorem dX11_mark_67 : decode cX11_mark 67 = .ok (.imul, 1) := by decide +kernel
theorem dX11_mark_68 : decode cX11_mark 68 = .ok (.istore 7, 2) := by decide +kernel
theorem dX11_mark_70 : decode cX11_mark 70 = .ok (.iload 7, 2) := by decide +kernel
theorem dX11_mark_72 : decode cX11_mark 72 = .ok (.bipush 30, 2) := by decide +kernel
theorem dX11_mark_74 : decode cX11_mark 74 = .ok (.iload_n 1, 1) := by decide +kernel
theorem dX11_mark_75 : decode cX11_mark 75 = .ok (.imul, 1) := by decide +kernel
theorem dX11_mark_76 : decode cX11_mark 76 = .ok (.bipush 30, 2) := by decide +kernel
theorem dX11_mark_78 : decode cX11_mark 78 = .ok (.iadd, 1) := by decide +kernel
theorem dX11_mark_79 : decode cX11_mark 79 = .ok (.if_icmp .ge 73, 3) := by decide +kernel
theorem dX11_mark_82 : decode cX11_mark 82 = .ok (.iload 4, 2) := by decide +kernel
theorem dX11_mark_84 : decode cX11_mark 84 = .ok (.aload_n 0, 1) := by decide +kernel
theorem dX11_mark_85 : decode cX11_mark 85 = .ok (.getfield 66, 3) := by decide +kernel
theorem dX11_mark_88 : decode cX11_mark 88 = .ok (.iload 7, 2) := by decide +kernel
theorem dX11_mark_90 : decode cX11_mark 90 = .ok (.iaload, 1) := by decide +kernel
theorem dX11_mark_91 : decode cX11_mark 91 = .ok (.iadd, 1) := by decide +kernel
theorem dX11_mark_92 : decode cX11_mark 92 = .ok (.istore 4, 2) := by decide +kernel
theorem dX11_mark_94 : decode cX11_mark 94 = .ok (.aload_n 0, 1) := by decide +kernel
theorem dX11_mark_95 : decode cX11_mark 95 = .ok (.getfield 66, 3) := by decide +kernel
theorem dX11_mark_98 : decode cX11_mark 98 = .ok (.iload 7, 2) := by decide +kernel
theorem dX11_mark_100 : decode cX11_mark 100 = .ok (.iaload, 1) := by decide +kernel
theorem dX11_mark_101 : decode cX11_mark 101 = .ok (.iload 5, 2) := by decide +kernel
theorem dX11_mark_103 : decode cX11_mark 103 = .ok (.if_icmp .ge 13, 3) := by decide +kernel
theorem dX11_mark_106 : decode cX11_mark 106 = .ok (.aload_n 0, 1) := by decide +kernel
theorem dX11_mark_107 : decode cX11_mark 107 = .ok (.getfield 66, 3) := by decide +kernel
theorem dX11_mark_110 : decode cX11_mark 110 = .ok (.iload 7, 2) := by decide +kernel
theorem dX11_mark_112 : decode cX11_mark 112 = .ok (.iaload, 1) := by decide +kernel
theorem dX11_mark_113 : decode cX11_mark 113 = .ok (.goto 5, 3) := by decide +kernel
theorem dX11_mark_116 : decode cX11_mark 116 = .ok (.iload 5, 2) := by decide +kernel
theorem dX11_mark_118 : decode cX11_mark 118 = .ok (.istore 5, 2) := by decide +kernel
theorem dX11_mark_120 : decode cX11_mark 120 = .ok (.aload_n 0, 1) := by decide +kernel
theorem dX11_mark_121 : decode cX11_mark 121 = .ok (.getfield 66, 3) := by decide +kernel
theorem dX11_mark_124 : decode cX11_mark 124 = .ok (.iload 7, 2) := by decide +kernel
theorem dX11_mark_126 : decode cX11_mark 126 = .ok (.iaload, 1) := by decide +kernel
theorem dX11_mark_127 : decode cX11_mark 127 = .ok (.iload 6, 2) := by decide +kernel
theorem dX11_mark_129 : decode cX11_mark 129 = .ok (.if_icmp .le 13, 3) := by decide +kernel
theorem dX11_mark_132 : decode cX11_mark 132 = .ok (.aload_n 0, 1) := by decide +kernel
theorem dX11_mark_133 : decode cX11_mark 133 = .ok (.getfield 66, 3) := by decide +kernel
theorem dX11_mark_136 : decode cX11_mark 136 = .ok (.iload 7, 2) := by decide +kernel
theorem dX11_mark_138 : decode cX11_mark 138 = .ok (.iaload, 1) := by decide +kernel
theorem dX11_mark_139 : decode cX11_mark 139 = .ok (.goto 5, 3) := by decide +kernel
theorem dX11_mark_142 : decode cX11_mark 142 = .ok (.iload 6, 2) := by decide +kernel
theorem dX11_mark_144 : decode cX11_mark 144 = .ok (.istore 6, 2) := by decide +kernel
theorem dX11_mark_146 : decode cX11_mark 146 = .ok (.iinc 7 1, 3) := by decide +kernel
theorem dX11_mark_149 : decode cX11_mark 149 = .ok (.goto (-79), 3) := by decide +kernel
theorem dX11_mark_152 : decode cX11_mark 152 = .ok (.iload_n 2, 1) := by decide +kernel
theorem dX11_mark_153 : decode cX11_mark 153 = .ok (.iconst 1, 1) := by decide +kernel
theorem dX11_mark_154 : decode cX11_mark 154 = .ok (.if_icmp .ne 8, 3) := by decide +kernel
theorem dX11_mark_157 : decode cX11_mark 157 = .ok (.iload 6, 2) := by decide +kernel
theorem dX11_mark_159 : decode cX11_mark 159 = .ok (.goto 27, 3) := by decide +kernel
theorem dX11_mark_162 : decode cX11_mark 162 = .ok (.iload_n 2, 1) := by decide +kernel
theorem dX11_mark_163 : decode cX11_mark 163 = .ok (.iconst 2, 1) := by decide +kernel
theorem dX11_mark_164 : decode cX11_mark 164 = .ok (.if_icmp .ne 8, 3) := by decide +kernel
theorem dX11_mark_167 : decode cX11_mark 167 = .ok (.iload 5, 2) := by decide +kernel
theorem dX11_mark_169 : decode cX11_mark 169 = .ok (.goto 17, 3) := by decide +kernel
theorem dX11_mark_172 : decode cX11_mark 172 = .ok (.iload_n 2, 1) := by decide +kernel
theorem dX11_mark_173 : decode cX11_mark 173 = .ok (.iconst 3, 1) := by decide +kernel
theorem dX11_mark_174 : decode cX11_mark 174 = .ok (.if_icmp .ne 10, 3) := by decide +kernel
theorem dX11_mark_177 : decode cX11_mark 177 = .ok (.aload_n 0, 1) := by decide +kernel
theorem dX11_mark_178 : decode cX11_mark 178 = .ok (.invokevirtual 184, 3) := by decide +kernel
theorem dX11_mark_181 : decode cX11_mark 181 = .ok (.goto 5, 3) := by decide +kernel
theorem dX11_mark_184 : decode cX11_mark 184 = .ok (.iload 4, 2) := by decide +kernel
theorem dX11_mark_186 : decode cX11_mark 186 = .ok (.ireturn, 1) := by decide +kernel
set_option maxRecDepth 100000 in
set_option maxHeartbeats 4000000 in
theorem tb_X11_mark_118 {K : sd_K} {E : sd_Env}   {r : (Int32 × sd_Mem)} (C : sd_C K E sd_LM RX11 cX11_mark 8 (some .int))  {k70 : sd_Mem → Int32 → Int32 → Int32 → Int32 → Int32 → Int32 → Option (Int32 × sd_Mem)} (hk70 : ∀ (M : sd_Mem) (x1 : Int32) (x2 : Int32) (x4 : Int32) (x5 : Int32) (x6 : Int32) (x7 : Int32), k70 M x1 x2 x4 x5 x6 x7 = some r → sd_Z K rm_X11_mark E sd_LM 8 (sd_QI K E sd_LM r.1 r.2) M 70 [(0, .ref (E.2.2 100)), (1, .int x1), (2, .int x2), (4, .int x4), (5, .int x5), (6, .int x6), (7, .int x7)] []) : ∀ (M : sd_Mem) (x1 : Int32) (x2 : Int32) (x4 : Int32) (x6 : Int32) (x7 : Int32) (xs0 : Int32), fn_X11_mark_118 k70 M x1 x2 x4 x6 x7 xs0 = some r → sd_Z K rm_X11_mark E sd_LM 8 (sd_QI K E sd_LM r.1 r.2) M 118 [(0, .ref (E.2.2 100)), (1, .int x1), (2, .int x2), (4, .int x4), (6, .int x6), (7, .int x7)] [.int xs0] := by
  intro M x1 x2 x4 x6 x7 xs0 hF
  unfold fn_X11_mark_118 at hF
  refine sd_istore [(5, .int xs0), (0, .ref (E.2.2 100)), (1, .int x1), (2, .int x2), (4, .int x4), (6, .int x6), (7, .int x7)] C dX11_mark_118 (by decide) rfl rfl (n' := 120) ?_
  refine sd_aload_n C 1 dX11_mark_120 rfl rfl rfl (n' := 121) ?_
  refine sd_g11_24 C sd_i100 sd_k100 sd_w1065 dX11_mark_121 rfl (n' := 124) ?_
  refine sd_iload C 6 dX11_mark_124 rfl rfl (n' := 126) ?_
  obtain ⟨b126, hF⟩ := sd_ok hF
  refine sd_iald C sd_i116 sd_k116 sd_n116 b126 dX11_mark_126 rfl (n' := 127) ?_
  refine sd_iload C 5 dX11_mark_127 rfl rfl (n' := 129) ?_
  refine sd_icmp_le C (n' := 132) (tgt := 142) dX11_mark_129 rfl rfl (fun c129 => ?_) (fun c129 => ?_)
  · replace hF := sd_pos hF c129
    refine sd_iload C 5 dX11_mark_142 rfl rfl (n' := 144) ?_
    refine sd_istore [(6, .int x6), (5, .int xs0), (0, .ref (E.2.2 100)), (1, .int x1), (2, .int x2), (4, .int x4), (7, .int x7)] C dX11_mark_144 (by decide) rfl rfl (n' := 146) ?_
    refine sd_iinc [(7, .int (x7 + (1 : Int32))), (6, .int x6), (5, .int xs0), (0, .ref (E.2.2 100)), (1, .int x1), (2, .int x2), (4, .int x4)] 6 C dX11_mark_146 rfl rfl (by decide) rfl rfl (n' := 149) ?_
    refine sd_goto C (tgt := 70) dX11_mark_149 rfl ?_
    refine sd_sub [3, 4, 5, 6, 2, 1, 0] rfl ?_
    exact hk70 M x1 x2 x4 xs0 x6 (x7 + (1 : Int32)) hF
  · replace hF := sd_neg hF c129
    refine sd_aload_n C 1 dX11_mark_132 rfl rfl rfl (n' := 133) ?_
    refine sd_g11_24 C sd_i100 sd_k100 sd_w1065 dX11_mark_133 rfl (n' := 136) ?_
    refine sd_iload C 6 dX11_mark_136 rfl rfl (n' := 138) ?_
    obtain ⟨b138, hF⟩ := sd_ok hF
    refine sd_iald C sd_i116 sd_k116 sd_n116 b138 dX11_mark_138 rfl (n' := 139) ?_
    refine sd_goto C (tgt := 144) dX11_mark_139 rfl ?_
    refine sd_istore [(6, .int (M.1 116 x7.toNatClampNeg)), (5, .int xs0), (0, .ref (E.2.2 100)), (1, .int x1), (2, .int x2), (4, .int x4), (7, .int x7)] C dX11_mark_144 (by decide) rfl rfl (n' := 146) ?_
    refine sd_iinc [(7, .int (x7 + (1 : Int32))), (6, .int (M.1 116 x7.toNatClampNeg)), (5, .int xs0), (0, .ref (E.2.2 100)), (1, .int x1), (2, .int x2), (4, .int x4)] 6 C dX11_mark_146 rfl rfl (by decide) rfl rfl (n' := 149) ?_
    refine sd_goto C (tgt := 70) dX11_mark_149 rfl ?_
    refine sd_sub [3, 4, 5, 6, 2, 1, 0] rfl ?_
    exact hk70 M x1 x2 x4 xs0 (M.1 116 x7.toNatClampNeg) (x7 + (1 : Int32)) hF
set_option maxRecDepth 100000 in
set_option maxHeartbeats 4000000 in
theorem tb_X11_mark_152 {K : sd_K} {E : sd_Env}   {r : (Int32 × sd_Mem)} (C : sd_C K E sd_LM RX11 cX11_mark 8 (some .int))  : ∀ (M : sd_Mem) (x2 : Int32) (x4 : Int32) (x5 : Int32) (x6 : Int32), fn_X11_mark_152 M x2 x4 x5 x6 = some r → sd_Z K rm_X11_mark E sd_LM 8 (sd_QI K E sd_LM r.1 r.2) M 152 [(0, .ref (E.2.2 100)), (2, .int x2), (4, .int x4), (5, .int x5), (6, .int x6)] [] := by
  intro M x2 x4 x5 x6 hF
  unfold fn_X11_mark_152 at hF
  refine sd_iload_n C 1 dX11_mark_152 rfl rfl rfl (n' := 153) ?_
  refine sd_iconst C (v := 1) dX11_mark_153 rfl rfl (n' := 154) ?_
  refine sd_icmp_ne C (n' := 157) (tgt := 162) dX11_mark_154 rfl rfl (fun c154 => ?_) (fun c154 => ?_)
  · replace hF := sd_neg hF c154
    refine sd_iload_n C 1 dX11_mark_162 rfl rfl rfl (n' := 163) ?_
    refine sd_iconst C (v := 2) dX11_mark_163 rfl rfl (n' := 164) ?_
    refine sd_icmp_ne C (n' := 167) (tgt := 172) dX11_mark_164 rfl rfl (fun c164 => ?_) (fun c164 => ?_)
    · replace hF := sd_neg hF c164
      refine sd_iload_n C 1 dX11_mark_172 rfl rfl rfl (n' := 173) ?_
      refine sd_iconst C (v := 3) dX11_mark_173 rfl rfl (n' := 174) ?_
      refine sd_icmp_ne C (n' := 177) (tgt := 184) dX11_mark_174 rfl rfl (fun c174 => ?_) (fun c174 => ?_)
      · replace hF := sd_neg hF c174
        refine sd_iload C 2 dX11_mark_184 rfl rfl (n' := 186) ?_
        exact sd_iret C dX11_mark_186 (sd_fst hF) (sd_snd hF)
      · replace hF := sd_pos hF c174
        refine sd_aload_n C 0 dX11_mark_177 rfl rfl rfl (n' := 178) ?_
        obtain ⟨q178, e178, hF⟩ := sd_bind hF
        refine sd_callVI [] [] C (ct_X11_needed M   e178) sd_lX11_184 ⟨rfl, rfl, Nat.le_of_ble_eq_true rfl, Nat.le_of_ble_eq_true rfl⟩ sd_i100 (sd_e12 sd_k100) rfl rfl rfl (Nat.le_of_ble_eq_true rfl) dX11_mark_178 rfl (n' := 181) ?_
        refine sd_goto C (tgt := 186) dX11_mark_181 rfl ?_
        exact sd_iret C dX11_mark_186 (sd_fst hF) (sd_snd hF)
    · replace hF := sd_pos hF c164
      refine sd_iload C 3 dX11_mark_167 rfl rfl (n' := 169) ?_
      refine sd_goto C (tgt := 186) dX11_mark_169 rfl ?_
      exact sd_iret C dX11_mark_186 (sd_fst hF) (sd_snd hF)
  · replace hF := sd_pos hF c154
    refine sd_iload C 4 dX11_mark_157 rfl rfl (n' := 159) ?_
    refine sd_goto C (tgt := 186) dX11_mark_159 rfl ?_
    exact sd_iret C dX11_mark_186 (sd_fst hF) (sd_snd hF)
set_option maxRecDepth 100000 in
set_option maxHeartbeats 4000000 in
theorem tb_X11_mark_70 {K : sd_K} {E : sd_Env}   {r : (Int32 × sd_Mem)} (C : sd_C K E sd_LM RX11 cX11_mark 8 (some .int))  : ∀ (n : Nat), ∀ (M : sd_Mem) (x1 : Int32) (x2 : Int32) (x4 : Int32) (x5 : Int32) (x6 : Int32) (x7 : Int32), fn_X11_mark_70 n M x1 x2 x4 x5 x6 x7 = some r → sd_Z K rm_X11_mark E sd_LM 8 (sd_QI K E sd_LM r.1 r.2) M 70 [(0, .ref (E.2.2 100)), (1, .int x1), (2, .int x2), (4, .int x4), (5, .int x5), (6, .int x6), (7, .int x7)] [] := by
  intro n
  induction n with
  | zero => intro M x1 x2 x4 x5 x6 x7 hF; cases hF
  | succ n ih =>
    intro M x1 x2 x4 x5 x6 x7 hF
    unfold fn_X11_mark_70 at hF
    refine sd_iload C 6 dX11_mark_70 rfl rfl (n' := 72) ?_
    refine sd_bipush C (v := 30) dX11_mark_72 rfl rfl (n' := 74) ?_
    refine sd_iload_n C 1 dX11_mark_74 rfl rfl rfl (n' := 75) ?_
    refine sd_imul C dX11_mark_75 rfl (n' := 76) ?_
    refine sd_bipush C (v := 30) dX11_mark_76 rfl rfl (n' := 78) ?_
    refine sd_iadd C dX11_mark_78 rfl (n' := 79) ?_
    refine sd_icmp_ge C (n' := 82) (tgt := 152) dX11_mark_79 rfl rfl (fun c79 => ?_) (fun c79 => ?_)
    · replace hF := sd_pos hF c79
      refine sd_sub [0, 2, 3, 4, 5] rfl ?_
      exact tb_X11_mark_152 C M x2 x4 x5 x6 hF
    · replace hF := sd_neg hF c79
      refine sd_iload C 3 dX11_mark_82 rfl rfl (n' := 84) ?_
      refine sd_aload_n C 0 dX11_mark_84 rfl rfl rfl (n' := 85) ?_
      refine sd_g11_24 C sd_i100 sd_k100 sd_w1065 dX11_mark_85 rfl (n' := 88) ?_
      refine sd_iload C 6 dX11_mark_88 rfl rfl (n' := 90) ?_
      obtain ⟨b90, hF⟩ := sd_ok hF
      refine sd_iald C sd_i116 sd_k116 sd_n116 b90 dX11_mark_90 rfl (n' := 91) ?_
      refine sd_iadd C dX11_mark_91 rfl (n' := 92) ?_
      refine sd_istore [(4, .int (x4 + (M.1 116 x7.toNatClampNeg))), (0, .ref (E.2.2 100)), (1, .int x1), (2, .int x2), (5, .int x5), (6, .int x6), (7, .int x7)] C dX11_mark_92 (by decide) rfl rfl (n' := 94) ?_
      refine sd_aload_n C 1 dX11_mark_94 rfl rfl rfl (n' := 95) ?_
      refine sd_g11_24 C sd_i100 sd_k100 sd_w1065 dX11_mark_95 rfl (n' := 98) ?_
      refine sd_iload C 6 dX11_mark_98 rfl rfl (n' := 100) ?_
      obtain ⟨b100, hF⟩ := sd_ok hF
      refine sd_iald C sd_i116 sd_k116 sd_n116 b100 dX11_mark_100 rfl (n' := 101) ?_
      refine sd_iload C 4 dX11_mark_101 rfl rfl (n' := 103) ?_
      refine sd_icmp_ge C (n' := 106) (tgt := 116) dX11_mark_103 rfl rfl (fun c103 => ?_) (fun c103 => ?_)
      · replace hF := sd_pos hF c103
        refine sd_iload C 4 dX11_mark_116 rfl rfl (n' := 118) ?_
        refine sd_sub [1, 2, 3, 0, 5, 6] rfl ?_
        exact tb_X11_mark_118 C ih M x1 x2 (x4 + (M.1 116 x7.toNatClampNeg)) x6 x7 x5 hF
      · replace hF := sd_neg hF c103
        refine sd_aload_n C 1 dX11_mark_106 rfl rfl rfl (n' := 107) ?_
        refine sd_g11_24 C sd_i100 sd_k100 sd_w1065 dX11_mark_107 rfl (n' := 110) ?_
        refine sd_iload C 6 dX11_mark_110 rfl rfl (n' := 112) ?_
        obtain ⟨b112, hF⟩ := sd_ok hF
        refine sd_iald C sd_i116 sd_k116 sd_n116 b112 dX11_mark_112 rfl (n' := 113) ?_
        refine sd_goto C (tgt := 118) dX11_mark_113 rfl ?_
        refine sd_sub [1, 2, 3, 0, 5, 6] rfl ?_
        exact tb_X11_mark_118 C ih M x1 x2 (x4 + (M.1 116 x7.toNatClampNeg)) x6 x7 (M.1 116 x7.toNatClampNeg) hF
set_option maxRecDepth 100000 in
set_option maxHeartbeats 4000000 in
theorem tb_X11_mark_54 {K : sd_K} {E : sd_Env}   {r : (Int32 × sd_Mem)} (C : sd_C K E sd_LM RX11 cX11_mark 8 (some .int))  : ∀ (M : sd_Mem) (x1 : Int32) (x2 : Int32), fn_X11_mark_54 M x1 x2 = some r → sd_Z K rm_X11_mark E sd_LM 8 (sd_QI K E sd_LM r.1 r.2) M 54 [(0, .ref (E.2.2 100)), (1, .int x1), (2, .int x2)] [] := by
  intro M x1 x2 hF
  unfold fn_X11_mark_54 at hF
  refine sd_iconst C (v := 0) dX11_mark_54 rfl rfl (n' := 55) ?_
  refine sd_istore [(4, .int (0 : Int32)), (0, .ref (E.2.2 100)), (1, .int x1), (2, .int x2)] C dX11_mark_55 (by decide) rfl rfl (n' := 57) ?_
  refine sd_bipush C (v := 99) dX11_mark_57 rfl rfl (n' := 59) ?_
  refine sd_istore [(5, .int (99 : Int32)), (4, .int (0 : Int32)), (0, .ref (E.2.2 100)), (1, .int x1), (2, .int x2)] C dX11_mark_59 (by decide) rfl rfl (n' := 61) ?_
  refine sd_iconst C (v := 0) dX11_mark_61 rfl rfl (n' := 62) ?_
  refine sd_istore [(6, .int (0 : Int32)), (5, .int (99 : Int32)), (4, .int (0 : Int32)), (0, .ref (E.2.2 100)), (1, .int x1), (2, .int x2)] C dX11_mark_62 (by decide) rfl rfl (n' := 64) ?_
  refine sd_bipush C (v := 30) dX11_mark_64 rfl rfl (n' := 66) ?_
  refine sd_iload_n C 4 dX11_mark_66 rfl rfl rfl (n' := 67) ?_
  refine sd_imul C dX11_mark_67 rfl (n' := 68) ?_
  refine sd_istore [(7, .int ((30 : Int32) * x1)), (6, .int (0 : Int32)), (5, .int (99 : Int32)), (4, .int (0 : Int32)), (0, .ref (E.2.2 100)), (1, .int x1), (2, .int x2)] C dX11_mark_68 (by decide) rfl rfl (n' := 70) ?_
  refine sd_sub [4, 5, 6, 3, 2, 1, 0] rfl ?_
  exact tb_X11_mark_70 C sd_FU M x1 x2 (0 : Int32) (99 : Int32) (0 : Int32) ((30 : Int32) * x1) hF
set_option maxRecDepth 100000 in
set_option maxHeartbeats 4000000 in
theorem tb_X11_mark_0 {K : sd_K} {E : sd_Env}   {r : (Int32 × sd_Mem)} (C : sd_C K E sd_LM RX11 cX11_mark 8 (some .int))  : ∀ (M : sd_Mem) (x1 : Int32) (x2 : Int32), fn_X11_mark_0 M x1 x2 = some r → sd_Z K rm_X11_mark E sd_LM 8 (sd_QI K E sd_LM r.1 r.2) M 0 [(0, .ref (E.2.2 100)), (1, .int x1), (2, .int x2)] [] := by
  intro M x1 x2 hF
  unfold fn_X11_mark_0 at hF
  refine sd_iload_n C 2 dX11_mark_0 rfl rfl rfl (n' := 1) ?_
  refine sd_iconst C (v := 1) dX11_mark_1 rfl rfl (n' := 2) ?_
  refine sd_iconst C (v := 4) dX11_mark_2 rfl rfl (n' := 3) ?_
  obtain ⟨q3, e3, hF⟩ := sd_bind hF
  refine sd_callSI [.int x2, .int (1 : Int32), .int (4 : Int32)] [] C (ct_X11_in M x2 (1 : Int32) (4 : Int32)  e3) sd_lX11_97 ⟨rfl, rfl, Nat.le_of_ble_eq_true rfl, Nat.le_of_ble_eq_true rfl⟩ rfl (Nat.le_of_ble_eq_true rfl) dX11_mark_3 rfl (n' := 6) ?_
  refine sd_if_ne C (n' := 9) (tgt := 11) dX11_mark_6 rfl rfl (fun c6 => ?_) (fun c6 => ?_)
  · replace hF := sd_neg hF c6
    refine sd_aload_n C 0 dX11_mark_11 rfl rfl rfl (n' := 12) ?_
    refine sd_iload_n C 1 dX11_mark_12 rfl rfl rfl (n' := 13) ?_
    obtain ⟨q13, e13, hF⟩ := sd_bind hF
    refine sd_callVI [.int x1] [] C (ct_X11_askedWay M x1  e13) sd_lX11_168 ⟨rfl, rfl, Nat.le_of_ble_eq_true rfl, Nat.le_of_ble_eq_true rfl⟩ sd_i100 (sd_e12 sd_k100) rfl rfl rfl (Nat.le_of_ble_eq_true rfl) dX11_mark_13 rfl (n' := 16) ?_
    refine sd_istore_n [(3, .int q13.1), (0, .ref (E.2.2 100)), (1, .int x1), (2, .int x2)] C dX11_mark_16 rfl (by decide) rfl rfl (n' := 17) ?_
    refine sd_iload_n C 0 dX11_mark_17 rfl rfl rfl (n' := 18) ?_
    refine sd_if_ge C (n' := 21) (tgt := 23) dX11_mark_18 rfl rfl (fun c18 => ?_) (fun c18 => ?_)
    · replace hF := sd_pos hF c18
      refine sd_aload_n C 1 dX11_mark_23 rfl rfl rfl (n' := 24) ?_
      refine sd_g11_23 C sd_i100 sd_k100 sd_w1064 dX11_mark_24 rfl (n' := 27) ?_
      refine sd_iload_n C 2 dX11_mark_27 rfl rfl rfl (n' := 28) ?_
      obtain ⟨b28, hF⟩ := sd_ok hF
      refine sd_iald C sd_i115 sd_k115 sd_n115 b28 dX11_mark_28 rfl (n' := 29) ?_
      refine sd_iload_n C 3 dX11_mark_29 rfl rfl rfl (n' := 30) ?_
      refine sd_icmp_eq C (n' := 33) (tgt := 54) dX11_mark_30 rfl rfl (fun c30 => ?_) (fun c30 => ?_)
      · replace hF := sd_pos hF c30
        refine sd_sub [1, 2, 3] rfl ?_
        exact tb_X11_mark_54 C q13.2 x1 x2 hF
      · replace hF := sd_neg hF c30
        refine sd_iload_n C 3 dX11_mark_33 rfl rfl rfl (n' := 34) ?_
        refine sd_iconst C (v := 2) dX11_mark_34 rfl rfl (n' := 35) ?_
        refine sd_icmp_ne C (n' := 38) (tgt := 48) dX11_mark_35 rfl rfl (fun c35 => ?_) (fun c35 => ?_)
        · replace hF := sd_neg hF c35
          refine sd_aload_n C 1 dX11_mark_48 rfl rfl rfl (n' := 49) ?_
          refine sd_iconst C (v := 3) dX11_mark_49 rfl rfl (n' := 50) ?_
          obtain ⟨q50, e50, hF⟩ := sd_bind hF
          refine sd_callVI [.int (3 : Int32)] [] C (ct_X11_meets q13.2 (3 : Int32)  e50) sd_lX11_105 ⟨rfl, rfl, Nat.le_of_ble_eq_true rfl, Nat.le_of_ble_eq_true rfl⟩ sd_i100 (sd_e12 sd_k100) rfl rfl rfl (Nat.le_of_ble_eq_true rfl) dX11_mark_50 rfl (n' := 53) ?_
          exact sd_iret C dX11_mark_53 (sd_fst hF) (sd_snd hF)
        · replace hF := sd_pos hF c35
          refine sd_aload_n C 1 dX11_mark_38 rfl rfl rfl (n' := 39) ?_
          refine sd_g11_23 C sd_i100 sd_k100 sd_w1064 dX11_mark_39 rfl (n' := 42) ?_
          refine sd_iload_n C 2 dX11_mark_42 rfl rfl rfl (n' := 43) ?_
          obtain ⟨b43, hF⟩ := sd_ok hF
          refine sd_iald C sd_i115 sd_k115 sd_n115 b43 dX11_mark_43 rfl (n' := 44) ?_
          refine sd_iconst C (v := 3) dX11_mark_44 rfl rfl (n' := 45) ?_
          refine sd_icmp_eq C (n' := 48) (tgt := 54) dX11_mark_45 rfl rfl (fun c45 => ?_) (fun c45 => ?_)
          · replace hF := sd_pos hF c45
            refine sd_sub [1, 2, 3] rfl ?_
            exact tb_X11_mark_54 C q13.2 x1 x2 hF
          · replace hF := sd_neg hF c45
            refine sd_aload_n C 1 dX11_mark_48 rfl rfl rfl (n' := 49) ?_
            refine sd_iconst C (v := 3) dX11_mark_49 rfl rfl (n' := 50) ?_
            obtain ⟨q50, e50, hF⟩ := sd_bind hF
            refine sd_callVI [.int (3 : Int32)] [] C (ct_X11_meets q13.2 (3 : Int32)  e50) sd_lX11_105 ⟨rfl, rfl, Nat.le_of_ble_eq_true rfl, Nat.le_of_ble_eq_true rfl⟩ sd_i100 (sd_e12 sd_k100) rfl rfl rfl (Nat.le_of_ble_eq_true rfl) dX11_mark_50 rfl (n' := 53) ?_
            exact sd_iret C dX11_mark_53 (sd_fst hF) (sd_snd hF)
    · replace hF := sd_neg hF c18
      refine sd_iload_n C 0 dX11_mark_21 rfl rfl rfl (n' := 22) ?_
      exact sd_iret C dX11_mark_22 (sd_fst hF) (sd_snd hF)
  · replace hF := sd_pos hF c6
    refine sd_iconst C (v := -1) dX11_mark_9 rfl rfl (n' := 10) ?_
    exact sd_iret C dX11_mark_10 (sd_fst hF) (sd_snd hF)
theorem ct_X11_mark {l : Launch} {E : sd_Env} (M : sd_Mem) (x1 : Int32) (x2 : Int32)  {r : (Int32 × sd_Mem)} (hF : fn_X11_mark M x1 x2 = some r) : sd_MI l E sd_LM yX11_mark cX11_mark 8 (some .int) rm_X11_mark [.ref (E.2.2 100), .int x1, .int x2] M r.1 r.2 := sd_ent0 (by decide +kernel) (Nat.le_of_ble_eq_true rfl) (fun p e s m below meth c C => tb_X11_mark_0 C M x1 x2 hF)
theorem dX11_askedTwo_0 : decode cX11_askedTwo 0 = .ok (.iload_n 1, 1) := by decide +kernel
theorem dX11_askedTwo_1 : decode cX11_askedTwo 1 = .ok (.invokestatic 162, 3) := by decide +kernel
theorem dX11_askedTwo_4 : decode cX11_askedTwo 4 = .ok (.ifCond .eq 10, 3) := by decide +kernel
theorem dX11_askedTwo_7 : decode cX11_askedTwo 7 = .ok (.iload_n 2, 1) := by decide +kernel
theorem dX11_askedTwo_8 : decode cX11_askedTwo 8 = .ok (.invokestatic 162, 3) := by decide +kernel
theorem dX11_askedTwo_11 : decode cX11_askedTwo 11 = .ok (.ifCond .ne 5, 3) := by decide +kernel
theorem dX11_askedTwo_14 : decode cX11_askedTwo 14 = .ok (.iconst (-1), 1) := by decide +kernel
theorem dX11_askedTwo_15 : decode cX11_askedTwo 15 = .ok (.ireturn, 1) := by decide +kernel
theorem dX11_askedTwo_16 : decode cX11_askedTwo 16 = .ok (.aload_n 0, 1) := by decide +kernel
theorem dX11_askedTwo_17 : decode cX11_askedTwo 17 = .ok (.getfield 63, 3) := by decide +kernel
theorem dX11_askedTwo_20 : decode cX11_askedTwo 20 = .ok (.iload_n 1, 1) := by decide +kernel
theorem dX11_askedTwo_21 : decode cX11_askedTwo 21 = .ok (.iaload, 1) := by decide +kernel
theorem dX11_askedTwo_22 : decode cX11_askedTwo 22 = .ok (.ifCond .lt 12, 3) := by decide +kernel
theorem dX11_askedTwo_25 : decode cX11_askedTwo 25 = .ok (.aload_n 0, 1) := by decide +kernel
theorem dX11_askedTwo_26 : decode cX11_askedTwo 26 = .ok (.getfield 63, 3) := by decide +kernel
theorem dX11_askedTwo_29 : decode cX11_askedTwo 29 = .ok (.iload_n 2, 1) := by decide +kernel
theorem dX11_askedTwo_30 : decode cX11_askedTwo 30 = .ok (.iaload, 1) := by decide +kernel
theorem dX11_askedTwo_31 : decode cX11_askedTwo 31 = .ok (.ifCond .ge 9, 3) := by decide +kernel
theorem dX11_askedTwo_34 : decode cX11_askedTwo 34 = .ok (.aload_n 0, 1) := by decide +kernel
theorem dX11_askedTwo_35 : decode cX11_askedTwo 35 = .ok (.iconst 1, 1) := by decide +kernel
theorem dX11_askedTwo_36 : decode cX11_askedTwo 36 = .ok (.invokevirtual 105, 3) := by decide +kernel
theorem dX11_askedTwo_39 : decode cX11_askedTwo 39 = .ok (.ireturn, 1) := by decide +kernel
theorem dX11_askedTwo_40 : decode cX11_askedTwo 40 = .ok (.aload_n 0, 1) := by decide +kernel
theorem dX11_askedTwo_41 : decode cX11_askedTwo 41 = .ok (.getfield 63, 3) := by decide +kernel
theorem dX11_askedTwo_44 : decode cX11_askedTwo 44 = .ok (.iload_n 1, 1) := by decide +kernel
theorem dX11_askedTwo_45 : decode cX11_askedTwo 45 = .ok (.iaload, 1) := by decide +kernel
theorem dX11_askedTwo_46 : decode cX11_askedTwo 46 = .ok (.iconst 1, 1) := by decide +kernel
theorem dX11_askedTwo_47 : decode cX11_askedTwo 47 = .ok (.if_icmp .ne 31, 3) := by decide +kernel
theorem dX11_askedTwo_50 : decode cX11_askedTwo 50 = .ok (.aload_n 0, 1) := by decide +kernel
theorem dX11_askedTwo_51 : decode cX11_askedTwo 51 = .ok (.getfield 63, 3) := by decide +kernel
theorem dX11_askedTwo_54 : decode cX11_askedTwo 54 = .ok (.iload_n 2, 1) := by decide +kernel
theorem dX11_askedTwo_55 : decode cX11_askedTwo 55 = .ok (.iaload, 1) := by decide +kernel
theorem dX11_askedTwo_56 : decode cX11_askedTwo 56 = .ok (.iconst 2, 1) := by decide +kernel
theorem dX11_askedTwo_57 : decode cX11_askedTwo 57 = .ok (.if_icmp .eq 17, 3) := by decide +kernel
theorem dX11_askedTwo_60 : decode cX11_askedTwo 60 = .ok (.aload_n 0, 1) := by decide +kernel
theorem dX11_askedTwo_61 : decode cX11_askedTwo 61 = .ok (.getfield 63, 3) := by decide +kernel
theorem dX11_askedTwo_64 : decode cX11_askedTwo 64 = .ok (.iload_n 2, 1) := by decide +kernel
theorem dX11_askedTwo_65 : decode cX11_askedTwo 65 = .ok (.iaload, 1) := by decide +kernel
theorem dX11_askedTwo_66 : decode cX11_askedTwo 66 = .ok (.iconst 3, 1) := by decide +kernel
theorem dX11_askedTwo_67 : decode cX11_askedTwo 67 = .ok (.if_icmp .ne 11, 3) := by decide +kernel
theorem dX11_askedTwo_70 : decode cX11_askedTwo 70 = .ok (.iload_n 3, 1) := by decide +kernel
theorem dX11_askedTwo_71 : decode cX11_askedTwo 71 = .ok (.ifCond .eq 7, 3) := by decide +kernel
theorem dX11_askedTwo_74 : decode cX11_askedTwo 74 = .ok (.iconst 0, 1) := by decide +kernel
theorem dX11_askedTwo_75 : decode cX11_askedTwo 75 = .ok (.goto 8, 3) := by decide +kernel
theorem dX11_askedTwo_78 : decode cX11_askedTwo 78 = .ok (.aload_n 0, 1) := by decide +kernel
theorem dX11_askedTwo_79 : decode cX11_askedTwo 79 = .ok (.iconst 3, 1) := by decide +kernel
theorem dX11_askedTwo_80 : decode cX11_askedTwo 80 = .ok (.invokevirtual 105, 3) := by decide +kernel
theorem dX11_askedTwo_83 : decode cX11_askedTwo 83 = .ok (.ireturn, 1) := by decide +kernel
set_option maxRecDepth 100000 in
set_option maxHeartbeats 4000000 in
theorem tb_X11_askedTwo_0 {K : sd_K} {E : sd_Env}   {r : (Int32 × sd_Mem)} (C : sd_C K E sd_LM RX11 cX11_askedTwo 4 (some .int))  : ∀ (M : sd_Mem) (x1 : Int32) (x2 : Int32) (x3 : Int32), fn_X11_askedTwo_0 M x1 x2 x3 = some r → sd_Z K rm_X11_askedTwo E sd_LM 4 (sd_QI K E sd_LM r.1 r.2) M 0 [(0, .ref (E.2.2 100)), (1, .int x1), (2, .int x2), (3, .int x3)] [] := by
  intro M x1 x2 x3 hF
  unfold fn_X11_askedTwo_0 at hF
  refine sd_iload_n C 1 dX11_askedTwo_0 rfl rfl rfl (n' := 1) ?_
  obtain ⟨q1, e1, hF⟩ := sd_bind hF
  refine sd_callSI [.int x1] [] C (ct_X11_isWay M x1  e1) sd_lX11_162 ⟨rfl, rfl, Nat.le_of_ble_eq_true rfl, Nat.le_of_ble_eq_true rfl⟩ rfl (Nat.le_of_ble_eq_true rfl) dX11_askedTwo_1 rfl (n' := 4) ?_
  refine sd_if_eq C (n' := 7) (tgt := 14) dX11_askedTwo_4 rfl rfl (fun c4 => ?_) (fun c4 => ?_)
  · replace hF := sd_pos hF c4
    refine sd_iconst C (v := -1) dX11_askedTwo_14 rfl rfl (n' := 15) ?_
    exact sd_iret C dX11_askedTwo_15 (sd_fst hF) (sd_snd hF)
  · replace hF := sd_neg hF c4
    refine sd_iload_n C 2 dX11_askedTwo_7 rfl rfl rfl (n' := 8) ?_
    obtain ⟨q8, e8, hF⟩ := sd_bind hF
    refine sd_callSI [.int x2] [] C (ct_X11_isWay M x2  e8) sd_lX11_162 ⟨rfl, rfl, Nat.le_of_ble_eq_true rfl, Nat.le_of_ble_eq_true rfl⟩ rfl (Nat.le_of_ble_eq_true rfl) dX11_askedTwo_8 rfl (n' := 11) ?_
    refine sd_if_ne C (n' := 14) (tgt := 16) dX11_askedTwo_11 rfl rfl (fun c11 => ?_) (fun c11 => ?_)
    · replace hF := sd_neg hF c11
      refine sd_aload_n C 0 dX11_askedTwo_16 rfl rfl rfl (n' := 17) ?_
      refine sd_g11_23 C sd_i100 sd_k100 sd_w1064 dX11_askedTwo_17 rfl (n' := 20) ?_
      refine sd_iload_n C 1 dX11_askedTwo_20 rfl rfl rfl (n' := 21) ?_
      obtain ⟨b21, hF⟩ := sd_ok hF
      refine sd_iald C sd_i115 sd_k115 sd_n115 b21 dX11_askedTwo_21 rfl (n' := 22) ?_
      refine sd_if_lt C (n' := 25) (tgt := 34) dX11_askedTwo_22 rfl rfl (fun c22 => ?_) (fun c22 => ?_)
      · replace hF := sd_pos hF c22
        refine sd_aload_n C 0 dX11_askedTwo_34 rfl rfl rfl (n' := 35) ?_
        refine sd_iconst C (v := 1) dX11_askedTwo_35 rfl rfl (n' := 36) ?_
        obtain ⟨q36, e36, hF⟩ := sd_bind hF
        refine sd_callVI [.int (1 : Int32)] [] C (ct_X11_meets M (1 : Int32)  e36) sd_lX11_105 ⟨rfl, rfl, Nat.le_of_ble_eq_true rfl, Nat.le_of_ble_eq_true rfl⟩ sd_i100 (sd_e12 sd_k100) rfl rfl rfl (Nat.le_of_ble_eq_true rfl) dX11_askedTwo_36 rfl (n' := 39) ?_
        exact sd_iret C dX11_askedTwo_39 (sd_fst hF) (sd_snd hF)
      · replace hF := sd_neg hF c22
        refine sd_aload_n C 0 dX11_askedTwo_25 rfl rfl rfl (n' := 26) ?_
        refine sd_g11_23 C sd_i100 sd_k100 sd_w1064 dX11_askedTwo_26 rfl (n' := 29) ?_
        refine sd_iload_n C 2 dX11_askedTwo_29 rfl rfl rfl (n' := 30) ?_
        obtain ⟨b30, hF⟩ := sd_ok hF
        refine sd_iald C sd_i115 sd_k115 sd_n115 b30 dX11_askedTwo_30 rfl (n' := 31) ?_
        refine sd_if_ge C (n' := 34) (tgt := 40) dX11_askedTwo_31 rfl rfl (fun c31 => ?_) (fun c31 => ?_)
        · replace hF := sd_pos hF c31
          refine sd_aload_n C 0 dX11_askedTwo_40 rfl rfl rfl (n' := 41) ?_
          refine sd_g11_23 C sd_i100 sd_k100 sd_w1064 dX11_askedTwo_41 rfl (n' := 44) ?_
          refine sd_iload_n C 1 dX11_askedTwo_44 rfl rfl rfl (n' := 45) ?_
          obtain ⟨b45, hF⟩ := sd_ok hF
          refine sd_iald C sd_i115 sd_k115 sd_n115 b45 dX11_askedTwo_45 rfl (n' := 46) ?_
          refine sd_iconst C (v := 1) dX11_askedTwo_46 rfl rfl (n' := 47) ?_
          refine sd_icmp_ne C (n' := 50) (tgt := 78) dX11_askedTwo_47 rfl rfl (fun c47 => ?_) (fun c47 => ?_)
          · replace hF := sd_neg hF c47
            refine sd_aload_n C 0 dX11_askedTwo_78 rfl rfl rfl (n' := 79) ?_
            refine sd_iconst C (v := 3) dX11_askedTwo_79 rfl rfl (n' := 80) ?_
            obtain ⟨q80, e80, hF⟩ := sd_bind hF
            refine sd_callVI [.int (3 : Int32)] [] C (ct_X11_meets M (3 : Int32)  e80) sd_lX11_105 ⟨rfl, rfl, Nat.le_of_ble_eq_true rfl, Nat.le_of_ble_eq_true rfl⟩ sd_i100 (sd_e12 sd_k100) rfl rfl rfl (Nat.le_of_ble_eq_true rfl) dX11_askedTwo_80 rfl (n' := 83) ?_
            exact sd_iret C dX11_askedTwo_83 (sd_fst hF) (sd_snd hF)
          · replace hF := sd_pos hF c47
            refine sd_aload_n C 0 dX11_askedTwo_50 rfl rfl rfl (n' := 51) ?_
            refine sd_g11_23 C sd_i100 sd_k100 sd_w1064 dX11_askedTwo_51 rfl (n' := 54) ?_
            refine sd_iload_n C 2 dX11_askedTwo_54 rfl rfl rfl (n' := 55) ?_
            obtain ⟨b55, hF⟩ := sd_ok hF
            refine sd_iald C sd_i115 sd_k115 sd_n115 b55 dX11_askedTwo_55 rfl (n' := 56) ?_
            refine sd_iconst C (v := 2) dX11_askedTwo_56 rfl rfl (n' := 57) ?_
            refine sd_icmp_eq C (n' := 60) (tgt := 74) dX11_askedTwo_57 rfl rfl (fun c57 => ?_) (fun c57 => ?_)
            · replace hF := sd_pos hF c57
              refine sd_iconst C (v := 0) dX11_askedTwo_74 rfl rfl (n' := 75) ?_
              refine sd_goto C (tgt := 83) dX11_askedTwo_75 rfl ?_
              exact sd_iret C dX11_askedTwo_83 (sd_fst hF) (sd_snd hF)
            · replace hF := sd_neg hF c57
              refine sd_aload_n C 0 dX11_askedTwo_60 rfl rfl rfl (n' := 61) ?_
              refine sd_g11_23 C sd_i100 sd_k100 sd_w1064 dX11_askedTwo_61 rfl (n' := 64) ?_
              refine sd_iload_n C 2 dX11_askedTwo_64 rfl rfl rfl (n' := 65) ?_
              obtain ⟨b65, hF⟩ := sd_ok hF
              refine sd_iald C sd_i115 sd_k115 sd_n115 b65 dX11_askedTwo_65 rfl (n' := 66) ?_
              refine sd_iconst C (v := 3) dX11_askedTwo_66 rfl rfl (n' := 67) ?_
              refine sd_icmp_ne C (n' := 70) (tgt := 78) dX11_askedTwo_67 rfl rfl (fun c67 => ?_) (fun c67 => ?_)
              · replace hF := sd_neg hF c67
                refine sd_aload_n C 0 dX11_askedTwo_78 rfl rfl rfl (n' := 79) ?_
                refine sd_iconst C (v := 3) dX11_askedTwo_79 rfl rfl (n' := 80) ?_
                obtain ⟨q80, e80, hF⟩ := sd_bind hF
                refine sd_callVI [.int (3 : Int32)] [] C (ct_X11_meets M (3 : Int32)  e80) sd_lX11_105 ⟨rfl, rfl, Nat.le_of_ble_eq_true rfl, Nat.le_of_ble_eq_true rfl⟩ sd_i100 (sd_e12 sd_k100) rfl rfl rfl (Nat.le_of_ble_eq_true rfl) dX11_askedTwo_80 rfl (n' := 83) ?_
                exact sd_iret C dX11_askedTwo_83 (sd_fst hF) (sd_snd hF)
              · replace hF := sd_pos hF c67
                refine sd_iload_n C 3 dX11_askedTwo_70 rfl rfl rfl (n' := 71) ?_
                refine sd_if_eq C (n' := 74) (tgt := 78) dX11_askedTwo_71 rfl rfl (fun c71 => ?_) (fun c71 => ?_)
                · replace hF := sd_pos hF c71
                  refine sd_aload_n C 0 dX11_askedTwo_78 rfl rfl rfl (n' := 79) ?_
                  refine sd_iconst C (v := 3) dX11_askedTwo_79 rfl rfl (n' := 80) ?_
                  obtain ⟨q80, e80, hF⟩ := sd_bind hF
                  refine sd_callVI [.int (3 : Int32)] [] C (ct_X11_meets M (3 : Int32)  e80) sd_lX11_105 ⟨rfl, rfl, Nat.le_of_ble_eq_true rfl, Nat.le_of_ble_eq_true rfl⟩ sd_i100 (sd_e12 sd_k100) rfl rfl rfl (Nat.le_of_ble_eq_true rfl) dX11_askedTwo_80 rfl (n' := 83) ?_
                  exact sd_iret C dX11_askedTwo_83 (sd_fst hF) (sd_snd hF)
                · replace hF := sd_neg hF c71
                  refine sd_iconst C (v := 0) dX11_askedTwo_74 rfl rfl (n' := 75) ?_
                  refine sd_goto C (tgt := 83) dX11_askedTwo_75 rfl ?_
                  exact sd_iret C dX11_askedTwo_83 (sd_fst hF) (sd_snd hF)
        · replace hF := sd_neg hF c31
          refine sd_aload_n C 0 dX11_askedTwo_34 rfl rfl rfl (n' := 35) ?_
          refine sd_iconst C (v := 1) dX11_askedTwo_35 rfl rfl (n' := 36) ?_
          obtain ⟨q36, e36, hF⟩ := sd_bind hF
          refine sd_callVI [.int (1 : Int32)] [] C (ct_X11_meets M (1 : Int32)  e36) sd_lX11_105 ⟨rfl, rfl, Nat.le_of_ble_eq_true rfl, Nat.le_of_ble_eq_true rfl⟩ sd_i100 (sd_e12 sd_k100) rfl rfl rfl (Nat.le_of_ble_eq_true rfl) dX11_askedTwo_36 rfl (n' := 39) ?_
          exact sd_iret C dX11_askedTwo_39 (sd_fst hF) (sd_snd hF)
    · replace hF := sd_pos hF c11
      refine sd_iconst C (v := -1) dX11_askedTwo_14 rfl rfl (n' := 15) ?_
      exact sd_iret C dX11_askedTwo_15 (sd_fst hF) (sd_snd hF)
theorem ct_X11_askedTwo {l : Launch} {E : sd_Env} (M : sd_Mem) (x1 : Int32) (x2 : Int32) (x3 : Int32)  {r : (Int32 × sd_Mem)} (hF : fn_X11_askedTwo M x1 x2 x3 = some r) : sd_MI l E sd_LM yX11_askedTwo cX11_askedTwo 4 (some .int) rm_X11_askedTwo [.ref (E.2.2 100), .int x1, .int x2, .int x3] M r.1 r.2 := sd_ent0 (by decide +kernel) (Nat.le_of_ble_eq_true rfl) (fun p e s m below meth c C => tb_X11_askedTwo_0 C M x1 x2 x3 hF)
theorem dX11_last_0 : decode cX11_last 0 = .ok (.aload_n 0, 1) := by decide +kernel
theorem dX11_last_1 : decode cX11_last 1 = .ok (.getfield 41, 3) := by decide +kernel
theorem dX11_last_4 : decode cX11_last 4 = .ok (.iconst 2, 1) := by decide +kernel
theorem dX11_last_5 : decode cX11_last 5 = .ok (.iaload, 1) := by decide +kernel
theorem dX11_last_6 : decode cX11_last 6 = .ok (.ireturn, 1) := by decide +kernel
set_option maxRecDepth 100000 in
set_option maxHeartbeats 4000000 in
theorem tb_X11_last_0 {K : sd_K} {E : sd_Env} {M : sd_Mem}  {r : Int32} (C : sd_C K E sd_LM RX11 cX11_last 1 (some .int))  : fn_X11_last_0 M = some r → sd_Z K rm_X11_last E sd_LM 1 (sd_QI K E sd_LM r M) M 0 [(0, .ref (E.2.2 100))] [] := by
  intro hF
  unfold fn_X11_last_0 at hF
  refine sd_aload_n C 0 dX11_last_0 rfl rfl rfl (n' := 1) ?_
  refine sd_g11_13 C sd_i100 sd_k100 sd_w1054 dX11_last_1 rfl (n' := 4) ?_
  refine sd_iconst C (v := 2) dX11_last_4 rfl rfl (n' := 5) ?_
  obtain ⟨b5, hF⟩ := sd_ok hF
  refine sd_iald C sd_i110 sd_k110 sd_n110 b5 dX11_last_5 rfl (n' := 6) ?_
  exact sd_iret C dX11_last_6 (Option.some.inj hF) rfl
theorem ct_X11_last {l : Launch} {E : sd_Env} (M : sd_Mem)   {r : Int32} (hF : fn_X11_last M = some r) : sd_MI l E sd_LM yX11_last cX11_last 1 (some .int) rm_X11_last [.ref (E.2.2 100)] M r M := sd_ent0 (by decide +kernel) (Nat.le_of_ble_eq_true rfl) (fun p e s m below meth c C => tb_X11_last_0 C hF)
