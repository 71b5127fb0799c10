theorem dX11_takes_0 : decode cX11_takes 0 = .ok (.aload_n 0, 1) := by decide +kernel
theorem dX11_takes_1 : decode cX11_takes 1 = .ok (.getfield 63, 3) := by decide +kernel
theorem dX11_takes_4 : decode cX11_takes 4 = .ok (.iload_n 1, 1) := by decide +kernel
theorem dX11_takes_5 : decode cX11_takes 5 = .ok (.iaload, 1) := by decide +kernel
theorem dX11_takes_6 : decode cX11_takes 6 = .ok (.iconst 2, 1) := by decide +kernel
theorem dX11_takes_7 : decode cX11_takes 7 = .ok (.if_icmp .ne 21, 3) := by decide +kernel
theorem dX11_takes_10 : decode cX11_takes 10 = .ok (.iload 4, 2) := by decide +kernel
theorem dX11_takes_12 : decode cX11_takes 12 = .ok (.aload_n 0, 1) := by decide +kernel
theorem dX11_takes_13 : decode cX11_takes 13 = .ok (.iload_n 1, 1) := by decide +kernel
theorem dX11_takes_14 : decode cX11_takes 14 = .ok (.iload_n 2, 1) := by decide +kernel
theorem dX11_takes_15 : decode cX11_takes 15 = .ok (.iload_n 3, 1) := by decide +kernel
theorem dX11_takes_16 : decode cX11_takes 16 = .ok (.invokevirtual 174, 3) := by decide +kernel
theorem dX11_takes_19 : decode cX11_takes 19 = .ok (.if_icmp .lt 7, 3) := by decide +kernel
theorem dX11_takes_22 : decode cX11_takes 22 = .ok (.iconst 1, 1) := by decide +kernel
theorem dX11_takes_23 : decode cX11_takes 23 = .ok (.goto 4, 3) := by decide +kernel
theorem dX11_takes_26 : decode cX11_takes 26 = .ok (.iconst 0, 1) := by decide +kernel
theorem dX11_takes_27 : decode cX11_takes 27 = .ok (.ireturn, 1) := by decide +kernel
theorem dX11_takes_28 : decode cX11_takes 28 = .ok (.iconst 0, 1) := by decide +kernel
theorem dX11_takes_29 : decode cX11_takes 29 = .ok (.istore 5, 2) := by decide +kernel
theorem dX11_takes_31 : decode cX11_takes 31 = .ok (.iconst 0, 1) := by decide +kernel
theorem dX11_takes_32 : decode cX11_takes 32 = .ok (.istore 6, 2) := by decide +kernel
theorem dX11_takes_34 : decode cX11_takes 34 = .ok (.iload 6, 2) := by decide +kernel
theorem dX11_takes_36 : decode cX11_takes 36 = .ok (.aload_n 0, 1) := by decide +kernel
theorem dX11_takes_37 : decode cX11_takes 37 = .ok (.getfield 32, 3) := by decide +kernel
theorem dX11_takes_40 : decode cX11_takes 40 = .ok (.iconst 0, 1) := by decide +kernel
theorem dX11_takes_41 : decode cX11_takes 41 = .ok (.iaload, 1) := by decide +kernel
theorem dX11_takes_42 : decode cX11_takes 42 = .ok (.if_icmp .ge 38, 3) := by decide +kernel
theorem dX11_takes_45 : decode cX11_takes 45 = .ok (.iload 5, 2) := by decide +kernel
theorem dX11_takes_47 : decode cX11_takes 47 = .ok (.iload 4, 2) := by decide +kernel
theorem dX11_takes_49 : decode cX11_takes 49 = .ok (.aload_n 0, 1) := by decide +kernel
theorem dX11_takes_50 : decode cX11_takes 50 = .ok (.iload_n 1, 1) := by decide +kernel
theorem dX11_takes_51 : decode cX11_takes 51 = .ok (.iload 6, 2) := by decide +kernel
theorem dX11_takes_53 : decode cX11_takes 53 = .ok (.iload_n 3, 1) := by decide +kernel
theorem dX11_takes_54 : decode cX11_takes 54 = .ok (.invokevirtual 174, 3) := by decide +kernel
theorem dX11_takes_57 : decode cX11_takes 57 = .ok (.if_icmp .lt 13, 3) := by decide +kernel
theorem dX11_takes_60 : decode cX11_takes 60 = .ok (.aload_n 0, 1) := by decide +kernel
theorem dX11_takes_61 : decode cX11_takes 61 = .ok (.getfield 35, 3) := by decide +kernel
theorem dX11_takes_64 : decode cX11_takes 64 = .ok (.iload 6, 2) := by decide +kernel
theorem dX11_takes_66 : decode cX11_takes 66 = .ok (.iaload, 1) := by decide +kernel
theorem dX11_takes_67 : decode cX11_takes 67 = .ok (.goto 4, 3) := by decide +kernel
theorem dX11_takes_70 : decode cX11_takes 70 = .ok (.iconst 0, 1) := by decide +kernel
theorem dX11_takes_71 : decode cX11_takes 71 = .ok (.iadd, 1) := by decide +kernel
theorem dX11_takes_72 : decode cX11_takes 72 = .ok (.istore 5, 2) := by decide +kernel
theorem dX11_takes_74 : decode cX11_takes 74 = .ok (.iinc 6 1, 3) := by decide +kernel
theorem dX11_takes_77 : decode cX11_takes 77 = .ok (.goto (-43), 3) := by decide +kernel
theorem dX11_takes_80 : decode cX11_takes 80 = .ok (.iconst 2, 1) := by decide +kernel
theorem dX11_takes_81 : decode cX11_takes 81 = .ok (.iload 5, 2) := by decide +kernel
theorem dX11_takes_83 : decode cX11_takes 83 = .ok (.imul, 1) := by decide +kernel
theorem dX11_takes_84 : decode cX11_takes 84 = .ok (.aload_n 0, 1) := by decide +kernel
theorem dX11_takes_85 : decode cX11_takes 85 = .ok (.iconst 0, 1) := by decide +kernel
theorem dX11_takes_86 : decode cX11_takes 86 = .ok (.aload_n 0, 1) := by decide +kernel
theorem dX11_takes_87 : decode cX11_takes 87 = .ok (.iconst 0, 1) := by decide +kernel
theorem dX11_takes_88 : decode cX11_takes 88 = .ok (.invokevirtual 178, 3) := by decide +kernel
theorem dX11_takes_91 : decode cX11_takes 91 = .ok (.invokevirtual 181, 3) := by decide +kernel
theorem dX11_takes_94 : decode cX11_takes 94 = .ok (.if_icmp .le 7, 3) := by decide +kernel
theorem dX11_takes_97 : decode cX11_takes 97 = .ok (.iconst 1, 1) := by decide +kernel
theorem dX11_takes_98 : decode cX11_takes 98 = .ok (.goto 4, 3) := by decide +kernel
theorem dX11_takes_101 : decode cX11_takes 101 = .ok (.iconst 0, 1) := by decide +kernel
theorem dX11_takes_102 : decode cX11_takes 102 = .ok (.ireturn, 1) := by decide +kernel
set_option maxRecDepth 100000 in
set_option maxHeartbeats 4000000 in
theorem tb_X11_takes_80 {K : sd_K} {E : sd_Env} {M : sd_Mem}  {r : Int32} (C : sd_C K E sd_LM RX11 cX11_takes 7 (some .boolean))  : ∀ (x5 : Int32), fn_X11_takes_80 M x5 = some r → sd_Z K rm_X11_takes E sd_LM 7 (sd_QI K E sd_LM r M) M 80 [(0, .ref (E.2.2 100)), (5, .int x5)] [] := by
  intro x5 hF
  unfold fn_X11_takes_80 at hF
  refine sd_iconst C (v := 2) dX11_takes_80 rfl rfl (n' := 81) ?_
  refine sd_iload C 1 dX11_takes_81 rfl rfl (n' := 83) ?_
  refine sd_imul C dX11_takes_83 rfl (n' := 84) ?_
  refine sd_aload_n C 0 dX11_takes_84 rfl rfl rfl (n' := 85) ?_
  refine sd_iconst C (v := 0) dX11_takes_85 rfl rfl (n' := 86) ?_
  refine sd_aload_n C 0 dX11_takes_86 rfl rfl rfl (n' := 87) ?_
  refine sd_iconst C (v := 0) dX11_takes_87 rfl rfl (n' := 88) ?_
  obtain ⟨q88, e88, hF⟩ := sd_bind hF
  refine sd_callVI [.int (0 : Int32)] [.int (0 : Int32), .ref (E.2.2 100), .int ((2 : Int32) * x5)] C (ct_X11_whoAll M (0 : Int32)  e88) sd_lX11_178 ⟨rfl, rfl, Nat.le_of_ble_eq_true rfl, Nat.le_of_ble_eq_true rfl⟩ sd_i100 (sd_e12 sd_k100) rfl rfl rfl (Nat.le_of_ble_eq_true rfl) dX11_takes_88 rfl (n' := 91) ?_
  obtain ⟨q91, e91, hF⟩ := sd_bind hF
  refine sd_callVI [.int (0 : Int32), .int q88] [.int ((2 : Int32) * x5)] C (ct_X11_chances M (0 : Int32) q88  e91) sd_lX11_181 ⟨rfl, rfl, Nat.le_of_ble_eq_true rfl, Nat.le_of_ble_eq_true rfl⟩ sd_i100 (sd_e12 sd_k100) rfl rfl rfl (Nat.le_of_ble_eq_true rfl) dX11_takes_91 rfl (n' := 94) ?_
  refine sd_icmp_le C (n' := 97) (tgt := 101) dX11_takes_94 rfl rfl (fun c94 => ?_) (fun c94 => ?_)
  · replace hF := sd_pos hF c94
    refine sd_iconst C (v := 0) dX11_takes_101 rfl rfl (n' := 102) ?_
    exact sd_zret C dX11_takes_102 rfl (Option.some.inj hF) rfl
  · replace hF := sd_neg hF c94
    refine sd_iconst C (v := 1) dX11_takes_97 rfl rfl (n' := 98) ?_
    refine sd_goto C (tgt := 102) dX11_takes_98 rfl ?_
    exact sd_zret C dX11_takes_102 rfl (Option.some.inj hF) rfl
set_option maxRecDepth 100000 in
set_option maxHeartbeats 4000000 in
theorem tb_X11_takes_34 {K : sd_K} {E : sd_Env} {M : sd_Mem}  {r : Int32} (C : sd_C K E sd_LM RX11 cX11_takes 7 (some .boolean))  : ∀ (n : Nat), ∀ (x1 : Int32) (x3 : Int32) (x4 : Int32) (x5 : Int32) (x6 : Int32), fn_X11_takes_34 M n x1 x3 x4 x5 x6 = some r → sd_Z K rm_X11_takes E sd_LM 7 (sd_QI K E sd_LM r M) M 34 [(0, .ref (E.2.2 100)), (1, .int x1), (3, .int x3), (4, .int x4), (5, .int x5), (6, .int x6)] [] := by
  intro n
  induction n with
  | zero => intro x1 x3 x4 x5 x6 hF; cases hF
  | succ n ih =>
    intro x1 x3 x4 x5 x6 hF
    unfold fn_X11_takes_34 at hF
    refine sd_iload C 5 dX11_takes_34 rfl rfl (n' := 36) ?_
    refine sd_aload_n C 0 dX11_takes_36 rfl rfl rfl (n' := 37) ?_
    refine sd_g11_10 C sd_i100 sd_k100 sd_w1051 dX11_takes_37 rfl (n' := 40) ?_
    refine sd_iconst C (v := 0) dX11_takes_40 rfl rfl (n' := 41) ?_
    obtain ⟨b41, hF⟩ := sd_ok hF
    refine sd_iald C sd_i107 sd_k107 sd_n107 b41 dX11_takes_41 rfl (n' := 42) ?_
    refine sd_icmp_ge C (n' := 45) (tgt := 80) dX11_takes_42 rfl rfl (fun c42 => ?_) (fun c42 => ?_)
    · replace hF := sd_pos hF c42
      refine sd_sub [0, 4] rfl ?_
      exact tb_X11_takes_80 C x5 hF
    · replace hF := sd_neg hF c42
      refine sd_iload C 4 dX11_takes_45 rfl rfl (n' := 47) ?_
      refine sd_iload C 3 dX11_takes_47 rfl rfl (n' := 49) ?_
      refine sd_aload_n C 0 dX11_takes_49 rfl rfl rfl (n' := 50) ?_
      refine sd_iload_n C 1 dX11_takes_50 rfl rfl rfl (n' := 51) ?_
      refine sd_iload C 5 dX11_takes_51 rfl rfl (n' := 53) ?_
      refine sd_iload_n C 2 dX11_takes_53 rfl rfl rfl (n' := 54) ?_
      obtain ⟨q54, e54, hF⟩ := sd_bind hF
      refine sd_callVI [.int x1, .int x6, .int x3] [.int x4, .int x5] C (ct_X11_number M x1 x6 x3  e54) sd_lX11_174 ⟨rfl, rfl, Nat.le_of_ble_eq_true rfl, Nat.le_of_ble_eq_true rfl⟩ sd_i100 (sd_e12 sd_k100) rfl rfl rfl (Nat.le_of_ble_eq_true rfl) dX11_takes_54 rfl (n' := 57) ?_
      refine sd_icmp_lt C (n' := 60) (tgt := 70) dX11_takes_57 rfl rfl (fun c57 => ?_) (fun c57 => ?_)
      · replace hF := sd_pos hF c57
        refine sd_iconst C (v := 0) dX11_takes_70 rfl rfl (n' := 71) ?_
        refine sd_iadd C dX11_takes_71 rfl (n' := 72) ?_
        refine sd_istore [(5, .int (x5 + (0 : Int32))), (0, .ref (E.2.2 100)), (1, .int x1), (3, .int x3), (4, .int x4), (6, .int x6)] C dX11_takes_72 (by decide) rfl rfl (n' := 74) ?_
        refine sd_iinc [(6, .int (x6 + (1 : Int32))), (5, .int (x5 + (0 : Int32))), (0, .ref (E.2.2 100)), (1, .int x1), (3, .int x3), (4, .int x4)] 5 C dX11_takes_74 rfl rfl (by decide) rfl rfl (n' := 77) ?_
        refine sd_goto C (tgt := 34) dX11_takes_77 rfl ?_
        refine sd_sub [2, 3, 4, 5, 1, 0] rfl ?_
        exact ih x1 x3 x4 (x5 + (0 : Int32)) (x6 + (1 : Int32)) hF
      · replace hF := sd_neg hF c57
        refine sd_aload_n C 0 dX11_takes_60 rfl rfl rfl (n' := 61) ?_
        refine sd_g11_11 C sd_i100 sd_k100 sd_w1052 dX11_takes_61 rfl (n' := 64) ?_
        refine sd_iload C 5 dX11_takes_64 rfl rfl (n' := 66) ?_
        obtain ⟨b66, hF⟩ := sd_ok hF
        refine sd_iald C sd_i108 sd_k108 sd_n108 b66 dX11_takes_66 rfl (n' := 67) ?_
        refine sd_goto C (tgt := 71) dX11_takes_67 rfl ?_
        refine sd_iadd C dX11_takes_71 rfl (n' := 72) ?_
        refine sd_istore [(5, .int (x5 + (M.1 108 x6.toNatClampNeg))), (0, .ref (E.2.2 100)), (1, .int x1), (3, .int x3), (4, .int x4), (6, .int x6)] C dX11_takes_72 (by decide) rfl rfl (n' := 74) ?_
        refine sd_iinc [(6, .int (x6 + (1 : Int32))), (5, .int (x5 + (M.1 108 x6.toNatClampNeg))), (0, .ref (E.2.2 100)), (1, .int x1), (3, .int x3), (4, .int x4)] 5 C dX11_takes_74 rfl rfl (by decide) rfl rfl (n' := 77) ?_
        refine sd_goto C (tgt := 34) dX11_takes_77 rfl ?_
        refine sd_sub [2, 3, 4, 5, 1, 0] rfl ?_
        exact ih x1 x3 x4 (x5 + (M.1 108 x6.toNatClampNeg)) (x6 + (1 : Int32)) hF
set_option maxRecDepth 100000 in
set_option maxHeartbeats 4000000 in
theorem tb_X11_takes_0 {K : sd_K} {E : sd_Env} {M : sd_Mem}  {r : Int32} (C : sd_C K E sd_LM RX11 cX11_takes 7 (some .boolean))  : ∀ (x1 : Int32) (x2 : Int32) (x3 : Int32) (x4 : Int32), fn_X11_takes_0 M x1 x2 x3 x4 = some r → sd_Z K rm_X11_takes E sd_LM 7 (sd_QI K E sd_LM r M) M 0 [(0, .ref (E.2.2 100)), (1, .int x1), (2, .int x2), (3, .int x3), (4, .int x4)] [] := by
  intro x1 x2 x3 x4 hF
  unfold fn_X11_takes_0 at hF
  refine sd_aload_n C 0 dX11_takes_0 rfl rfl rfl (n' := 1) ?_
  refine sd_g11_23 C sd_i100 sd_k100 sd_w1064 dX11_takes_1 rfl (n' := 4) ?_
  refine sd_iload_n C 1 dX11_takes_4 rfl rfl rfl (n' := 5) ?_
  obtain ⟨b5, hF⟩ := sd_ok hF
  refine sd_iald C sd_i115 sd_k115 sd_n115 b5 dX11_takes_5 rfl (n' := 6) ?_
  refine sd_iconst C (v := 2) dX11_takes_6 rfl rfl (n' := 7) ?_
  refine sd_icmp_ne C (n' := 10) (tgt := 28) dX11_takes_7 rfl rfl (fun c7 => ?_) (fun c7 => ?_)
  · replace hF := sd_neg hF c7
    refine sd_iconst C (v := 0) dX11_takes_28 rfl rfl (n' := 29) ?_
    refine sd_istore [(5, .int (0 : Int32)), (0, .ref (E.2.2 100)), (1, .int x1), (2, .int x2), (3, .int x3), (4, .int x4)] C dX11_takes_29 (by decide) rfl rfl (n' := 31) ?_
    refine sd_iconst C (v := 0) dX11_takes_31 rfl rfl (n' := 32) ?_
    refine sd_istore [(6, .int (0 : Int32)), (5, .int (0 : Int32)), (0, .ref (E.2.2 100)), (1, .int x1), (2, .int x2), (3, .int x3), (4, .int x4)] C dX11_takes_32 (by decide) rfl rfl (n' := 34) ?_
    refine sd_sub [2, 3, 5, 6, 1, 0] rfl ?_
    exact tb_X11_takes_34 C sd_FU x1 x3 x4 (0 : Int32) (0 : Int32) hF
  · replace hF := sd_pos hF c7
    refine sd_iload C 4 dX11_takes_10 rfl rfl (n' := 12) ?_
    refine sd_aload_n C 0 dX11_takes_12 rfl rfl rfl (n' := 13) ?_
    refine sd_iload_n C 1 dX11_takes_13 rfl rfl rfl (n' := 14) ?_
    refine sd_iload_n C 2 dX11_takes_14 rfl rfl rfl (n' := 15) ?_
    refine sd_iload_n C 3 dX11_takes_15 rfl rfl rfl (n' := 16) ?_
    obtain ⟨q16, e16, hF⟩ := sd_bind hF
    refine sd_callVI [.int x1, .int x2, .int x3] [.int x4] C (ct_X11_number M x1 x2 x3  e16) sd_lX11_174 ⟨rfl, rfl, Nat.le_of_ble_eq_true rfl, Nat.le_of_ble_eq_true rfl⟩ sd_i100 (sd_e12 sd_k100) rfl rfl rfl (Nat.le_of_ble_eq_true rfl) dX11_takes_16 rfl (n' := 19) ?_
    refine sd_icmp_lt C (n' := 22) (tgt := 26) dX11_takes_19 rfl rfl (fun c19 => ?_) (fun c19 => ?_)
    · replace hF := sd_pos hF c19
      refine sd_iconst C (v := 0) dX11_takes_26 rfl rfl (n' := 27) ?_
      exact sd_zret C dX11_takes_27 rfl (Option.some.inj hF) rfl
    · replace hF := sd_neg hF c19
      refine sd_iconst C (v := 1) dX11_takes_22 rfl rfl (n' := 23) ?_
      refine sd_goto C (tgt := 27) dX11_takes_23 rfl ?_
      exact sd_zret C dX11_takes_27 rfl (Option.some.inj hF) rfl
theorem ct_X11_takes {l : Launch} {E : sd_Env} (M : sd_Mem) (x1 : Int32) (x2 : Int32) (x3 : Int32) (x4 : Int32)  {r : Int32} (hF : fn_X11_takes M x1 x2 x3 x4 = some r) : sd_MI l E sd_LM yX11_takes cX11_takes 7 (some .boolean) rm_X11_takes [.ref (E.2.2 100), .int x1, .int x2, .int x3, .int x4] M r M := sd_ent0 (by decide +kernel) (Nat.le_of_ble_eq_true rfl) (fun p e s m below meth c C => tb_X11_takes_0 C x1 x2 x3 x4 hF)
theorem dX11_dayOf_0 : decode cX11_dayOf 0 = .ok (.aload_n 0, 1) := by decide +kernel
theorem dX11_dayOf_1 : decode cX11_dayOf 1 = .ok (.getfield 44, 3) := by decide +kernel
theorem dX11_dayOf_4 : decode cX11_dayOf 4 = .ok (.istore 5, 2) := by decide +kernel
theorem dX11_dayOf_6 : decode cX11_dayOf 6 = .ok (.iload 5, 2) := by decide +kernel
theorem dX11_dayOf_8 : decode cX11_dayOf 8 = .ok (.aload_n 0, 1) := by decide +kernel
theorem dX11_dayOf_9 : decode cX11_dayOf 9 = .ok (.invokevirtual 188, 3) := by decide +kernel
theorem dX11_dayOf_12 : decode cX11_dayOf 12 = .ok (.if_icmp .gt 32, 3) := by decide +kernel
theorem dX11_dayOf_15 : decode cX11_dayOf 15 = .ok (.aload_n 0, 1) := by decide +kernel
theorem dX11_dayOf_16 : decode cX11_dayOf 16 = .ok (.iload_n 2, 1) := by decide +kernel
theorem dX11_dayOf_17 : decode cX11_dayOf 17 = .ok (.iload 4, 2) := by decide +kernel
theorem dX11_dayOf_19 : decode cX11_dayOf 19 = .ok (.iload 5, 2) := by decide +kernel
theorem dX11_dayOf_21 : decode cX11_dayOf 21 = .ok (.aload_n 0, 1) := by decide +kernel
theorem dX11_dayOf_22 : decode cX11_dayOf 22 = .ok (.iload_n 1, 1) := by decide +kernel
theorem dX11_dayOf_23 : decode cX11_dayOf 23 = .ok (.iload_n 3, 1) := by decide +kernel
theorem dX11_dayOf_24 : decode cX11_dayOf 24 = .ok (.iload 5, 2) := by decide +kernel
theorem dX11_dayOf_26 : decode cX11_dayOf 26 = .ok (.invokevirtual 174, 3) := by decide +kernel
theorem dX11_dayOf_29 : decode cX11_dayOf 29 = .ok (.invokevirtual 191, 3) := by decide +kernel
theorem dX11_dayOf_32 : decode cX11_dayOf 32 = .ok (.ifCond .eq 6, 3) := by decide +kernel
theorem dX11_dayOf_35 : decode cX11_dayOf 35 = .ok (.iload 5, 2) := by decide +kernel
theorem dX11_dayOf_37 : decode cX11_dayOf 37 = .ok (.ireturn, 1) := by decide +kernel
theorem dX11_dayOf_38 : decode cX11_dayOf 38 = .ok (.iinc 5 1, 3) := by decide +kernel
theorem dX11_dayOf_41 : decode cX11_dayOf 41 = .ok (.goto (-35), 3) := by decide +kernel
theorem dX11_dayOf_44 : decode cX11_dayOf 44 = .ok (.aload_n 0, 1) := by decide +kernel
theorem dX11_dayOf_45 : decode cX11_dayOf 45 = .ok (.invokevirtual 188, 3) := by decide +kernel
theorem dX11_dayOf_48 : decode cX11_dayOf 48 = .ok (.iconst 1, 1) := by decide +kernel
theorem dX11_dayOf_49 : decode cX11_dayOf 49 = .ok (.iadd, 1) := by decide +kernel
theorem dX11_dayOf_50 : decode cX11_dayOf 50 = .ok (.ireturn, 1) := by decide +kernel
set_option maxRecDepth 100000 in
set_option maxHeartbeats 4000000 in
theorem tb_X11_dayOf_44 {K : sd_K} {E : sd_Env} {M : sd_Mem}  {r : Int32} (C : sd_C K E sd_LM RX11 cX11_dayOf 6 (some .int))  : fn_X11_dayOf_44 M = some r → sd_Z K rm_X11_dayOf E sd_LM 6 (sd_QI K E sd_LM r M) M 44 [(0, .ref (E.2.2 100))] [] := by
  intro hF
  unfold fn_X11_dayOf_44 at hF
  refine sd_aload_n C 0 dX11_dayOf_44 rfl rfl rfl (n' := 45) ?_
  obtain ⟨q45, e45, hF⟩ := sd_bind hF
  refine sd_callVI [] [] C (ct_X11_last M   e45) sd_lX11_188 ⟨rfl, rfl, Nat.le_of_ble_eq_true rfl, Nat.le_of_ble_eq_true rfl⟩ sd_i100 (sd_e12 sd_k100) rfl rfl rfl (Nat.le_of_ble_eq_true rfl) dX11_dayOf_45 rfl (n' := 48) ?_
  refine sd_iconst C (v := 1) dX11_dayOf_48 rfl rfl (n' := 49) ?_
  refine sd_iadd C dX11_dayOf_49 rfl (n' := 50) ?_
  exact sd_iret C dX11_dayOf_50 (Option.some.inj hF) rfl
set_option maxRecDepth 100000 in
set_option maxHeartbeats 4000000 in
theorem tb_X11_dayOf_6 {K : sd_K} {E : sd_Env} {M : sd_Mem}  {r : Int32} (C : sd_C K E sd_LM RX11 cX11_dayOf 6 (some .int))  : ∀ (n : Nat), ∀ (x1 : Int32) (x2 : Int32) (x3 : Int32) (x4 : Int32) (x5 : Int32), fn_X11_dayOf_6 M n x1 x2 x3 x4 x5 = some r → sd_Z K rm_X11_dayOf E sd_LM 6 (sd_QI K E sd_LM r M) M 6 [(0, .ref (E.2.2 100)), (1, .int x1), (2, .int x2), (3, .int x3), (4, .int x4), (5, .int x5)] [] := by
  intro n
  induction n with
  | zero => intro x1 x2 x3 x4 x5 hF; cases hF
  | succ n ih =>
    intro x1 x2 x3 x4 x5 hF
    unfold fn_X11_dayOf_6 at hF
    refine sd_iload C 5 dX11_dayOf_6 rfl rfl (n' := 8) ?_
    refine sd_aload_n C 0 dX11_dayOf_8 rfl rfl rfl (n' := 9) ?_
    obtain ⟨q9, e9, hF⟩ := sd_bind hF
    refine sd_callVI [] [.int x5] C (ct_X11_last M   e9) sd_lX11_188 ⟨rfl, rfl, Nat.le_of_ble_eq_true rfl, Nat.le_of_ble_eq_true rfl⟩ sd_i100 (sd_e12 sd_k100) rfl rfl rfl (Nat.le_of_ble_eq_true rfl) dX11_dayOf_9 rfl (n' := 12) ?_
    refine sd_icmp_gt C (n' := 15) (tgt := 44) dX11_dayOf_12 rfl rfl (fun c12 => ?_) (fun c12 => ?_)
    · replace hF := sd_pos hF c12
      refine sd_sub [0] rfl ?_
      exact tb_X11_dayOf_44 C hF
    · replace hF := sd_neg hF c12
      refine sd_aload_n C 0 dX11_dayOf_15 rfl rfl rfl (n' := 16) ?_
      refine sd_iload_n C 2 dX11_dayOf_16 rfl rfl rfl (n' := 17) ?_
      refine sd_iload C 4 dX11_dayOf_17 rfl rfl (n' := 19) ?_
      refine sd_iload C 5 dX11_dayOf_19 rfl rfl (n' := 21) ?_
      refine sd_aload_n C 0 dX11_dayOf_21 rfl rfl rfl (n' := 22) ?_
      refine sd_iload_n C 1 dX11_dayOf_22 rfl rfl rfl (n' := 23) ?_
      refine sd_iload_n C 3 dX11_dayOf_23 rfl rfl rfl (n' := 24) ?_
      refine sd_iload C 5 dX11_dayOf_24 rfl rfl (n' := 26) ?_
      obtain ⟨q26, e26, hF⟩ := sd_bind hF
      refine sd_callVI [.int x1, .int x3, .int x5] [.int x5, .int x4, .int x2, .ref (E.2.2 100)] C (ct_X11_number M x1 x3 x5  e26) sd_lX11_174 ⟨rfl, rfl, Nat.le_of_ble_eq_true rfl, Nat.le_of_ble_eq_true rfl⟩ sd_i100 (sd_e12 sd_k100) rfl rfl rfl (Nat.le_of_ble_eq_true rfl) dX11_dayOf_26 rfl (n' := 29) ?_
      obtain ⟨q29, e29, hF⟩ := sd_bind hF
      refine sd_callVI [.int x2, .int x4, .int x5, .int q26] [] C (ct_X11_takes M x2 x4 x5 q26  e29) sd_lX11_191 ⟨rfl, rfl, Nat.le_of_ble_eq_true rfl, Nat.le_of_ble_eq_true rfl⟩ sd_i100 (sd_e12 sd_k100) rfl rfl rfl (Nat.le_of_ble_eq_true rfl) dX11_dayOf_29 rfl (n' := 32) ?_
      refine sd_if_eq C (n' := 35) (tgt := 38) dX11_dayOf_32 rfl rfl (fun c32 => ?_) (fun c32 => ?_)
      · replace hF := sd_pos hF c32
        refine sd_iinc [(5, .int (x5 + (1 : Int32))), (0, .ref (E.2.2 100)), (1, .int x1), (2, .int x2), (3, .int x3), (4, .int x4)] 5 C dX11_dayOf_38 rfl rfl (by decide) rfl rfl (n' := 41) ?_
        refine sd_goto C (tgt := 6) dX11_dayOf_41 rfl ?_
        refine sd_sub [1, 2, 3, 4, 5, 0] rfl ?_
        exact ih x1 x2 x3 x4 (x5 + (1 : Int32)) hF
      · replace hF := sd_neg hF c32
        refine sd_iload C 5 dX11_dayOf_35 rfl rfl (n' := 37) ?_
        exact sd_iret C dX11_dayOf_37 (Option.some.inj hF) rfl
set_option maxRecDepth 100000 in
set_option maxHeartbeats 4000000 in
theorem tb_X11_dayOf_0 {K : sd_K} {E : sd_Env} {M : sd_Mem}  {r : Int32} (C : sd_C K E sd_LM RX11 cX11_dayOf 6 (some .int))  : ∀ (x1 : Int32) (x2 : Int32) (x3 : Int32) (x4 : Int32), fn_X11_dayOf_0 M x1 x2 x3 x4 = some r → sd_Z K rm_X11_dayOf E sd_LM 6 (sd_QI K E sd_LM r M) M 0 [(0, .ref (E.2.2 100)), (1, .int x1), (2, .int x2), (3, .int x3), (4, .int x4)] [] := by
  intro x1 x2 x3 x4 hF
  unfold fn_X11_dayOf_0 at hF
  refine sd_aload_n C 0 dX11_dayOf_0 rfl rfl rfl (n' := 1) ?_
  refine sd_g11_14 C sd_i100 sd_k100 sd_w1055 dX11_dayOf_1 rfl (n' := 4) ?_
  refine sd_istore [(5, .int (M.1 100 14)), (0, .ref (E.2.2 100)), (1, .int x1), (2, .int x2), (3, .int x3), (4, .int x4)] C dX11_dayOf_4 (by decide) rfl rfl (n' := 6) ?_
  refine sd_sub [1, 2, 3, 4, 5, 0] rfl ?_
  exact tb_X11_dayOf_6 C sd_FU x1 x2 x3 x4 (M.1 100 14) hF
theorem ct_X11_dayOf {l : Launch} {E : sd_Env} (M : sd_Mem) (x1 : Int32) (x2 : Int32) (x3 : Int32) (x4 : Int32)  {r : Int32} (hF : fn_X11_dayOf M x1 x2 x3 x4 = some r) : sd_MI l E sd_LM yX11_dayOf cX11_dayOf 6 (some .int) rm_X11_dayOf [.ref (E.2.2 100), .int x1, .int x2, .int x3, .int x4] M r M := sd_ent0 (by decide +kernel) (Nat.le_of_ble_eq_true rfl) (fun p e s m below meth c C => tb_X11_dayOf_0 C x1 x2 x3 x4 hF)
theorem dX11_wageOn_0 : decode cX11_wageOn 0 = .ok (.iload_n 3, 1) := by decide +kernel
theorem dX11_wageOn_1 : decode cX11_wageOn 1 = .ok (.aload_n 0, 1) := by decide +kernel
theorem dX11_wageOn_2 : decode cX11_wageOn 2 = .ok (.invokevirtual 188, 3) := by decide +kernel
theorem dX11_wageOn_5 : decode cX11_wageOn 5 = .ok (.if_icmp .le 12, 3) := by decide +kernel
theorem dX11_wageOn_8 : decode cX11_wageOn 8 = .ok (.aload_n 0, 1) := by decide +kernel
theorem dX11_wageOn_9 : decode cX11_wageOn 9 = .ok (.getfield 41, 3) := by decide +kernel
theorem dX11_wageOn_12 : decode cX11_wageOn 12 = .ok (.iconst 3, 1) := by decide +kernel
theorem dX11_wageOn_13 : decode cX11_wageOn 13 = .ok (.iaload, 1) := by decide +kernel
theorem dX11_wageOn_14 : decode cX11_wageOn 14 = .ok (.goto 10, 3) := by decide +kernel
theorem dX11_wageOn_17 : decode cX11_wageOn 17 = .ok (.aload_n 0, 1) := by decide +kernel
theorem dX11_wageOn_18 : decode cX11_wageOn 18 = .ok (.iload_n 1, 1) := by decide +kernel
theorem dX11_wageOn_19 : decode cX11_wageOn 19 = .ok (.iload_n 2, 1) := by decide +kernel
theorem dX11_wageOn_20 : decode cX11_wageOn 20 = .ok (.iload_n 3, 1) := by decide +kernel
theorem dX11_wageOn_21 : decode cX11_wageOn 21 = .ok (.invokevirtual 174, 3) := by decide +kernel
theorem dX11_wageOn_24 : decode cX11_wageOn 24 = .ok (.ireturn, 1) := by decide +kernel
set_option maxRecDepth 100000 in
set_option maxHeartbeats 4000000 in
theorem tb_X11_wageOn_0 {K : sd_K} {E : sd_Env} {M : sd_Mem}  {r : Int32} (C : sd_C K E sd_LM RX11 cX11_wageOn 4 (some .int))  : ∀ (x1 : Int32) (x2 : Int32) (x3 : Int32), fn_X11_wageOn_0 M x1 x2 x3 = some r → sd_Z K rm_X11_wageOn E sd_LM 4 (sd_QI K E sd_LM r M) M 0 [(0, .ref (E.2.2 100)), (1, .int x1), (2, .int x2), (3, .int x3)] [] := by
  intro x1 x2 x3 hF
  unfold fn_X11_wageOn_0 at hF
  refine sd_iload_n C 3 dX11_wageOn_0 rfl rfl rfl (n' := 1) ?_
  refine sd_aload_n C 0 dX11_wageOn_1 rfl rfl rfl (n' := 2) ?_
  obtain ⟨q2, e2, hF⟩ := sd_bind hF
  refine sd_callVI [] [.int x3] C (ct_X11_last M   e2) sd_lX11_188 ⟨rfl, rfl, Nat.le_of_ble_eq_true rfl, Nat.le_of_ble_eq_true rfl⟩ sd_i100 (sd_e12 sd_k100) rfl rfl rfl (Nat.le_of_ble_eq_true rfl) dX11_wageOn_2 rfl (n' := 5) ?_
  refine sd_icmp_le C (n' := 8) (tgt := 17) dX11_wageOn_5 rfl rfl (fun c5 => ?_) (fun c5 => ?_)
  · replace hF := sd_pos hF c5
    refine sd_aload_n C 0 dX11_wageOn_17 rfl rfl rfl (n' := 18) ?_
    refine sd_iload_n C 1 dX11_wageOn_18 rfl rfl rfl (n' := 19) ?_
    refine sd_iload_n C 2 dX11_wageOn_19 rfl rfl rfl (n' := 20) ?_
    refine sd_iload_n C 3 dX11_wageOn_20 rfl rfl rfl (n' := 21) ?_
    obtain ⟨q21, e21, hF⟩ := sd_bind hF
    refine sd_callVI [.int x1, .int x2, .int x3] [] C (ct_X11_number M x1 x2 x3  e21) sd_lX11_174 ⟨rfl, rfl, Nat.le_of_ble_eq_true rfl, Nat.le_of_ble_eq_true rfl⟩ sd_i100 (sd_e12 sd_k100) rfl rfl rfl (Nat.le_of_ble_eq_true rfl) dX11_wageOn_21 rfl (n' := 24) ?_
    exact sd_iret C dX11_wageOn_24 (Option.some.inj hF) rfl
  · replace hF := sd_neg hF c5
    refine sd_aload_n C 0 dX11_wageOn_8 rfl rfl rfl (n' := 9) ?_
    refine sd_g11_13 C sd_i100 sd_k100 sd_w1054 dX11_wageOn_9 rfl (n' := 12) ?_
    refine sd_iconst C (v := 3) dX11_wageOn_12 rfl rfl (n' := 13) ?_
    obtain ⟨b13, hF⟩ := sd_ok hF
    refine sd_iald C sd_i110 sd_k110 sd_n110 b13 dX11_wageOn_13 rfl (n' := 14) ?_
    refine sd_goto C (tgt := 24) dX11_wageOn_14 rfl ?_
    exact sd_iret C dX11_wageOn_24 (Option.some.inj hF) rfl
theorem ct_X11_wageOn {l : Launch} {E : sd_Env} (M : sd_Mem) (x1 : Int32) (x2 : Int32) (x3 : Int32)  {r : Int32} (hF : fn_X11_wageOn M x1 x2 x3 = some r) : sd_MI l E sd_LM yX11_wageOn cX11_wageOn 4 (some .int) rm_X11_wageOn [.ref (E.2.2 100), .int x1, .int x2, .int x3] M r M := sd_ent0 (by decide +kernel) (Nat.le_of_ble_eq_true rfl) (fun p e s m below meth c C => tb_X11_wageOn_0 C x1 x2 x3 hF)
theorem dX11_run_0 : decode cX11_run 0 = .ok (.aload_n 0, 1) := by decide +kernel
theorem dX11_run_1 : decode cX11_run 1 = .ok (.iconst 1, 1) := by decide +kernel
theorem dX11_run_2 : decode cX11_run 2 = .ok (.iload_n 3, 1) := by decide +kernel
theorem dX11_run_3 : decode cX11_run 3 = .ok (.invokevirtual 153, 3) := by decide +kernel
theorem dX11_run_6 : decode cX11_run 6 = .ok (.ifCond .eq 13, 3) := by decide +kernel
theorem dX11_run_9 : decode cX11_run 9 = .ok (.aload_n 0, 1) := by decide +kernel
theorem dX11_run_10 : decode cX11_run 10 = .ok (.iconst 0, 1) := by decide +kernel
theorem dX11_run_11 : decode cX11_run 11 = .ok (.iload 4, 2) := by decide +kernel
theorem dX11_run_13 : decode cX11_run 13 = .ok (.invokevirtual 153, 3) := by decide +kernel
theorem dX11_run_16 : decode cX11_run 16 = .ok (.ifCond .ne 5, 3) := by decide +kernel
theorem dX11_run_19 : decode cX11_run 19 = .ok (.iconst (-1), 1) := by decide +kernel
theorem dX11_run_20 : decode cX11_run 20 = .ok (.ireturn, 1) := by decide +kernel
theorem dX11_run_21 : decode cX11_run 21 = .ok (.aload_n 0, 1) := by decide +kernel
theorem dX11_run_22 : decode cX11_run 22 = .ok (.iload_n 1, 1) := by decide +kernel
theorem dX11_run_23 : decode cX11_run 23 = .ok (.iload_n 2, 1) := by decide +kernel
theorem dX11_run_24 : decode cX11_run 24 = .ok (.iconst 1, 1) := by decide +kernel
theorem dX11_run_25 : decode cX11_run 25 = .ok (.invokevirtual 195, 3) := by decide +kernel
theorem dX11_run_28 : decode cX11_run 28 = .ok (.istore 5, 2) := by decide +kernel
theorem dX11_run_30 : decode cX11_run 30 = .ok (.iload 5, 2) := by decide +kernel
theorem dX11_run_32 : decode cX11_run 32 = .ok (.ifCond .ge 6, 3) := by decide +kernel
theorem dX11_run_35 : decode cX11_run 35 = .ok (.iload 5, 2) := by decide +kernel
theorem dX11_run_37 : decode cX11_run 37 = .ok (.ireturn, 1) := by decide +kernel
theorem dX11_run_38 : decode cX11_run 38 = .ok (.aload_n 0, 1) := by decide +kernel
theorem dX11_run_39 : decode cX11_run 39 = .ok (.iload_n 1, 1) := by decide +kernel
theorem dX11_run_40 : decode cX11_run 40 = .ok (.iload_n 2, 1) := by decide +kernel
theorem dX11_run_41 : decode cX11_run 41 = .ok (.iload_n 3, 1) := by decide +kernel
theorem dX11_run_42 : decode cX11_run 42 = .ok (.iload 4, 2) := by decide +kernel
theorem dX11_run_44 : decode cX11_run 44 = .ok (.invokevirtual 199, 3) := by decide +kernel
theorem dX11_run_47 : decode cX11_run 47 = .ok (.istore 6, 2) := by decide +kernel
theorem dX11_run_49 : decode cX11_run 49 = .ok (.aload_n 0, 1) := by decide +kernel
theorem dX11_run_50 : decode cX11_run 50 = .ok (.aload_n 0, 1) := by decide +kernel
theorem dX11_run_51 : decode cX11_run 51 = .ok (.iload_n 1, 1) := by decide +kernel
theorem dX11_run_52 : decode cX11_run 52 = .ok (.iload_n 3, 1) := by decide +kernel
theorem dX11_run_53 : decode cX11_run 53 = .ok (.iload 6, 2) := by decide +kernel
theorem dX11_run_55 : decode cX11_run 55 = .ok (.invokevirtual 203, 3) := by decide +kernel
theorem dX11_run_58 : decode cX11_run 58 = .ok (.iload 6, 2) := by decide +kernel
theorem dX11_run_60 : decode cX11_run 60 = .ok (.invokevirtual 119, 3) := by decide +kernel
theorem dX11_run_63 : decode cX11_run 63 = .ok (.ireturn, 1) := by decide +kernel
set_option maxRecDepth 100000 in
set_option maxHeartbeats 4000000 in
theorem tb_X11_run_0 {K : sd_K} {E : sd_Env}   {r : (Int32 × sd_Mem)} (C : sd_C K E sd_LM RX11 cX11_run 7 (some .int))  : ∀ (M : sd_Mem) (x1 : Int32) (x2 : Int32) (x3 : Int32) (x4 : Int32), fn_X11_run_0 M x1 x2 x3 x4 = some r → sd_Z K rm_X11_run E sd_LM 7 (sd_QI K E sd_LM r.1 r.2) M 0 [(0, .ref (E.2.2 100)), (1, .int x1), (2, .int x2), (3, .int x3), (4, .int x4)] [] := by
  intro M x1 x2 x3 x4 hF
  unfold fn_X11_run_0 at hF
  refine sd_aload_n C 0 dX11_run_0 rfl rfl rfl (n' := 1) ?_
  refine sd_iconst C (v := 1) dX11_run_1 rfl rfl (n' := 2) ?_
  refine sd_iload_n C 3 dX11_run_2 rfl rfl rfl (n' := 3) ?_
  obtain ⟨q3, e3, hF⟩ := sd_bind hF
  refine sd_callVI [.int (1 : Int32), .int x3] [] C (ct_X11_isSort M (1 : Int32) x3  e3) sd_lX11_153 ⟨rfl, rfl, Nat.le_of_ble_eq_true rfl, Nat.le_of_ble_eq_true rfl⟩ sd_i100 (sd_e12 sd_k100) rfl rfl rfl (Nat.le_of_ble_eq_true rfl) dX11_run_3 rfl (n' := 6) ?_
  refine sd_if_eq C (n' := 9) (tgt := 19) dX11_run_6 rfl rfl (fun c6 => ?_) (fun c6 => ?_)
  · replace hF := sd_pos hF c6
    refine sd_iconst C (v := -1) dX11_run_19 rfl rfl (n' := 20) ?_
    exact sd_iret C dX11_run_20 (sd_fst hF) (sd_snd hF)
  · replace hF := sd_neg hF c6
    refine sd_aload_n C 0 dX11_run_9 rfl rfl rfl (n' := 10) ?_
    refine sd_iconst C (v := 0) dX11_run_10 rfl rfl (n' := 11) ?_
    refine sd_iload C 4 dX11_run_11 rfl rfl (n' := 13) ?_
    obtain ⟨q13, e13, hF⟩ := sd_bind hF
    refine sd_callVI [.int (0 : Int32), .int x4] [] C (ct_X11_isSort M (0 : Int32) x4  e13) sd_lX11_153 ⟨rfl, rfl, Nat.le_of_ble_eq_true rfl, Nat.le_of_ble_eq_true rfl⟩ sd_i100 (sd_e12 sd_k100) rfl rfl rfl (Nat.le_of_ble_eq_true rfl) dX11_run_13 rfl (n' := 16) ?_
    refine sd_if_ne C (n' := 19) (tgt := 21) dX11_run_16 rfl rfl (fun c16 => ?_) (fun c16 => ?_)
    · replace hF := sd_neg hF c16
      refine sd_aload_n C 0 dX11_run_21 rfl rfl rfl (n' := 22) ?_
      refine sd_iload_n C 1 dX11_run_22 rfl rfl rfl (n' := 23) ?_
      refine sd_iload_n C 2 dX11_run_23 rfl rfl rfl (n' := 24) ?_
      refine sd_iconst C (v := 1) dX11_run_24 rfl rfl (n' := 25) ?_
      obtain ⟨q25, e25, hF⟩ := sd_bind hF
      refine sd_callVI [.int x1, .int x2, .int (1 : Int32)] [] C (ct_X11_askedTwo M x1 x2 (1 : Int32)  e25) sd_lX11_195 ⟨rfl, rfl, Nat.le_of_ble_eq_true rfl, Nat.le_of_ble_eq_true rfl⟩ sd_i100 (sd_e12 sd_k100) rfl rfl rfl (Nat.le_of_ble_eq_true rfl) dX11_run_25 rfl (n' := 28) ?_
      refine sd_istore [(5, .int q25.1), (0, .ref (E.2.2 100)), (1, .int x1), (2, .int x2), (3, .int x3), (4, .int x4)] C dX11_run_28 (by decide) rfl rfl (n' := 30) ?_
      refine sd_iload C 0 dX11_run_30 rfl rfl (n' := 32) ?_
      refine sd_if_ge C (n' := 35) (tgt := 38) dX11_run_32 rfl rfl (fun c32 => ?_) (fun c32 => ?_)
      · replace hF := sd_pos hF c32
        refine sd_aload_n C 1 dX11_run_38 rfl rfl rfl (n' := 39) ?_
        refine sd_iload_n C 2 dX11_run_39 rfl rfl rfl (n' := 40) ?_
        refine sd_iload_n C 3 dX11_run_40 rfl rfl rfl (n' := 41) ?_
        refine sd_iload_n C 4 dX11_run_41 rfl rfl rfl (n' := 42) ?_
        refine sd_iload C 5 dX11_run_42 rfl rfl (n' := 44) ?_
        obtain ⟨q44, e44, hF⟩ := sd_bind hF
        refine sd_callVI [.int x1, .int x2, .int x3, .int x4] [] C (ct_X11_dayOf q25.2 x1 x2 x3 x4  e44) sd_lX11_199 ⟨rfl, rfl, Nat.le_of_ble_eq_true rfl, Nat.le_of_ble_eq_true rfl⟩ sd_i100 (sd_e12 sd_k100) rfl rfl rfl (Nat.le_of_ble_eq_true rfl) dX11_run_44 rfl (n' := 47) ?_
        refine sd_istore [(6, .int q44), (5, .int q25.1), (0, .ref (E.2.2 100)), (1, .int x1), (2, .int x2), (3, .int x3), (4, .int x4)] C dX11_run_47 (by decide) rfl rfl (n' := 49) ?_
        refine sd_aload_n C 2 dX11_run_49 rfl rfl rfl (n' := 50) ?_
        refine sd_aload_n C 2 dX11_run_50 rfl rfl rfl (n' := 51) ?_
        refine sd_iload_n C 3 dX11_run_51 rfl rfl rfl (n' := 52) ?_
        refine sd_iload_n C 5 dX11_run_52 rfl rfl rfl (n' := 53) ?_
        refine sd_iload C 0 dX11_run_53 rfl rfl (n' := 55) ?_
        obtain ⟨q55, e55, hF⟩ := sd_bind hF
        refine sd_callVI [.int x1, .int x3, .int q44] [.ref (E.2.2 100)] C (ct_X11_wageOn q25.2 x1 x3 q44  e55) sd_lX11_203 ⟨rfl, rfl, Nat.le_of_ble_eq_true rfl, Nat.le_of_ble_eq_true rfl⟩ sd_i100 (sd_e12 sd_k100) rfl rfl rfl (Nat.le_of_ble_eq_true rfl) dX11_run_55 rfl (n' := 58) ?_
        refine sd_iload C 0 dX11_run_58 rfl rfl (n' := 60) ?_
        obtain ⟨q60, e60, hF⟩ := sd_bind hF
        refine sd_callVI [.int q55, .int q44] [] C (ct_X11_ask q25.2 q55 q44  e60) sd_lX11_119 ⟨rfl, rfl, Nat.le_of_ble_eq_true rfl, Nat.le_of_ble_eq_true rfl⟩ sd_i100 (sd_e12 sd_k100) rfl rfl rfl (Nat.le_of_ble_eq_true rfl) dX11_run_60 rfl (n' := 63) ?_
        exact sd_iret C dX11_run_63 (sd_fst hF) (sd_snd hF)
      · replace hF := sd_neg hF c32
        refine sd_iload C 0 dX11_run_35 rfl rfl (n' := 37) ?_
        exact sd_iret C dX11_run_37 (sd_fst hF) (sd_snd hF)
    · replace hF := sd_pos hF c16
      refine sd_iconst C (v := -1) dX11_run_19 rfl rfl (n' := 20) ?_
      exact sd_iret C dX11_run_20 (sd_fst hF) (sd_snd hF)
theorem ct_X11_run {l : Launch} {E : sd_Env} (M : sd_Mem) (x1 : Int32) (x2 : Int32) (x3 : Int32) (x4 : Int32)  {r : (Int32 × sd_Mem)} (hF : fn_X11_run M x1 x2 x3 x4 = some r) : sd_MI l E sd_LM yX11_run cX11_run 7 (some .int) rm_X11_run [.ref (E.2.2 100), .int x1, .int x2, .int x3, .int x4] M r.1 r.2 := sd_ent0 (by decide +kernel) (Nat.le_of_ble_eq_true rfl) (fun p e s m below meth c C => tb_X11_run_0 C M x1 x2 x3 x4 hF)
theorem dX11_worthOf_0 : decode cX11_worthOf 0 = .ok (.aload_n 0, 1) := by decide +kernel
theorem dX11_worthOf_1 : decode cX11_worthOf 1 = .ok (.getfield 41, 3) := by decide +kernel
theorem dX11_worthOf_4 : decode cX11_worthOf 4 = .ok (.iconst 1, 1) := by decide +kernel
theorem dX11_worthOf_5 : decode cX11_worthOf 5 = .ok (.iaload, 1) := by decide +kernel
theorem dX11_worthOf_6 : decode cX11_worthOf 6 = .ok (.iload_n 3, 1) := by decide +kernel
theorem dX11_worthOf_7 : decode cX11_worthOf 7 = .ok (.isub, 1) := by decide +kernel
theorem dX11_worthOf_8 : decode cX11_worthOf 8 = .ok (.iconst 1, 1) := by decide +kernel
theorem dX11_worthOf_9 : decode cX11_worthOf 9 = .ok (.iadd, 1) := by decide +kernel
theorem dX11_worthOf_10 : decode cX11_worthOf 10 = .ok (.istore 5, 2) := by decide +kernel
theorem dX11_worthOf_12 : decode cX11_worthOf 12 = .ok (.iload_n 1, 1) := by decide +kernel
theorem dX11_worthOf_13 : decode cX11_worthOf 13 = .ok (.ifCond .ne 8, 3) := by decide +kernel
theorem dX11_worthOf_16 : decode cX11_worthOf 16 = .ok (.iload 4, 2) := by decide +kernel
theorem dX11_worthOf_18 : decode cX11_worthOf 18 = .ok (.goto 12, 3) := by decide +kernel
theorem dX11_worthOf_21 : decode cX11_worthOf 21 = .ok (.aload_n 0, 1) := by decide +kernel
theorem dX11_worthOf_22 : decode cX11_worthOf 22 = .ok (.getfield 41, 3) := by decide +kernel
theorem dX11_worthOf_25 : decode cX11_worthOf 25 = .ok (.iconst 0, 1) := by decide +kernel
theorem dX11_worthOf_26 : decode cX11_worthOf 26 = .ok (.iaload, 1) := by decide +kernel
theorem dX11_worthOf_27 : decode cX11_worthOf 27 = .ok (.iload 4, 2) := by decide +kernel
theorem dX11_worthOf_29 : decode cX11_worthOf 29 = .ok (.isub, 1) := by decide +kernel
theorem dX11_worthOf_30 : decode cX11_worthOf 30 = .ok (.i2l, 1) := by decide +kernel
theorem dX11_worthOf_31 : decode cX11_worthOf 31 = .ok (.iload 5, 2) := by decide +kernel
theorem dX11_worthOf_33 : decode cX11_worthOf 33 = .ok (.i2l, 1) := by decide +kernel
theorem dX11_worthOf_34 : decode cX11_worthOf 34 = .ok (.lmul, 1) := by decide +kernel
theorem dX11_worthOf_35 : decode cX11_worthOf 35 = .ok (.aload_n 0, 1) := by decide +kernel
theorem dX11_worthOf_36 : decode cX11_worthOf 36 = .ok (.getfield 38, 3) := by decide +kernel
theorem dX11_worthOf_39 : decode cX11_worthOf 39 = .ok (.iconst 3, 1) := by decide +kernel
theorem dX11_worthOf_40 : decode cX11_worthOf 40 = .ok (.iload_n 1, 1) := by decide +kernel
theorem dX11_worthOf_41 : decode cX11_worthOf 41 = .ok (.imul, 1) := by decide +kernel
theorem dX11_worthOf_42 : decode cX11_worthOf 42 = .ok (.iload_n 2, 1) := by decide +kernel
theorem dX11_worthOf_43 : decode cX11_worthOf 43 = .ok (.iadd, 1) := by decide +kernel
theorem dX11_worthOf_44 : decode cX11_worthOf 44 = .ok (.iaload, 1) := by decide +kernel
theorem dX11_worthOf_45 : decode cX11_worthOf 45 = .ok (.i2l, 1) := by decide +kernel
theorem dX11_worthOf_46 : decode cX11_worthOf 46 = .ok (.iload_n 3, 1) := by decide +kernel
theorem dX11_worthOf_47 : decode cX11_worthOf 47 = .ok (.iconst 1, 1) := by decide +kernel
theorem dX11_worthOf_48 : decode cX11_worthOf 48 = .ok (.isub, 1) := by decide +kernel
theorem dX11_worthOf_49 : decode cX11_worthOf 49 = .ok (.i2l, 1) := by decide +kernel
theorem dX11_worthOf_50 : decode cX11_worthOf 50 = .ok (.lmul, 1) := by decide +kernel
theorem dX11_worthOf_51 : decode cX11_worthOf 51 = .ok (.lsub, 1) := by decide +kernel
theorem dX11_worthOf_52 : decode cX11_worthOf 52 = .ok (.lreturn, 1) := by decide +kernel
set_option maxRecDepth 100000 in
set_option maxHeartbeats 4000000 in
theorem tb_X11_worthOf_30 {K : sd_K} {E : sd_Env} {M : sd_Mem}  {r : Int64} (C : sd_C K E sd_LM RX11 cX11_worthOf 6 (some .long))  : ∀ (x1 : Int32) (x2 : Int32) (x3 : Int32) (x5 : Int32) (xs0 : Int32), fn_X11_worthOf_30 M x1 x2 x3 x5 xs0 = some r → sd_Z K rm_X11_worthOf E sd_LM 6 (sd_QL K E sd_LM r M) M 30 [(0, .ref (E.2.2 100)), (1, .int x1), (2, .int x2), (3, .int x3), (5, .int x5)] [.int xs0] := by
  intro x1 x2 x3 x5 xs0 hF
  unfold fn_X11_worthOf_30 at hF
  refine sd_i2l C dX11_worthOf_30 rfl (n' := 31) ?_
  refine sd_iload C 4 dX11_worthOf_31 rfl rfl (n' := 33) ?_
  refine sd_i2l C dX11_worthOf_33 rfl (n' := 34) ?_
  refine sd_lmul C dX11_worthOf_34 rfl (n' := 35) ?_
  refine sd_aload_n C 0 dX11_worthOf_35 rfl rfl rfl (n' := 36) ?_
  refine sd_g11_12 C sd_i100 sd_k100 sd_w1053 dX11_worthOf_36 rfl (n' := 39) ?_
  refine sd_iconst C (v := 3) dX11_worthOf_39 rfl rfl (n' := 40) ?_
  refine sd_iload_n C 1 dX11_worthOf_40 rfl rfl rfl (n' := 41) ?_
  refine sd_imul C dX11_worthOf_41 rfl (n' := 42) ?_
  refine sd_iload_n C 2 dX11_worthOf_42 rfl rfl rfl (n' := 43) ?_
  refine sd_iadd C dX11_worthOf_43 rfl (n' := 44) ?_
  obtain ⟨b44, hF⟩ := sd_ok hF
  refine sd_iald C sd_i109 sd_k109 sd_n109 b44 dX11_worthOf_44 rfl (n' := 45) ?_
  refine sd_i2l C dX11_worthOf_45 rfl (n' := 46) ?_
  refine sd_iload_n C 3 dX11_worthOf_46 rfl rfl rfl (n' := 47) ?_
  refine sd_iconst C (v := 1) dX11_worthOf_47 rfl rfl (n' := 48) ?_
  refine sd_isub C dX11_worthOf_48 rfl (n' := 49) ?_
  refine sd_i2l C dX11_worthOf_49 rfl (n' := 50) ?_
  refine sd_lmul C dX11_worthOf_50 rfl (n' := 51) ?_
  refine sd_lsub C dX11_worthOf_51 rfl (n' := 52) ?_
  exact sd_lret C dX11_worthOf_52 (Option.some.inj hF) rfl
set_option maxRecDepth 100000 in
set_option maxHeartbeats 4000000 in
theorem tb_X11_worthOf_0 {K : sd_K} {E : sd_Env} {M : sd_Mem}  {r : Int64} (C : sd_C K E sd_LM RX11 cX11_worthOf 6 (some .long))  : ∀ (x1 : Int32) (x2 : Int32) (x3 : Int32) (x4 : Int32), fn_X11_worthOf_0 M x1 x2 x3 x4 = some r → sd_Z K rm_X11_worthOf E sd_LM 6 (sd_QL K E sd_LM r M) M 0 [(0, .ref (E.2.2 100)), (1, .int x1), (2, .int x2), (3, .int x3), (4, .int x4)] [] := by
  intro x1 x2 x3 x4 hF
  unfold fn_X11_worthOf_0 at hF
  refine sd_aload_n C 0 dX11_worthOf_0 rfl rfl rfl (n' := 1) ?_
  refine sd_g11_13 C sd_i100 sd_k100 sd_w1054 dX11_worthOf_1 rfl (n' := 4) ?_
  refine sd_iconst C (v := 1) dX11_worthOf_4 rfl rfl (n' := 5) ?_
  obtain ⟨b5, hF⟩ := sd_ok hF
  refine sd_iald C sd_i110 sd_k110 sd_n110 b5 dX11_worthOf_5 rfl (n' := 6) ?_
  refine sd_iload_n C 3 dX11_worthOf_6 rfl rfl rfl (n' := 7) ?_
  refine sd_isub C dX11_worthOf_7 rfl (n' := 8) ?_
  refine sd_iconst C (v := 1) dX11_worthOf_8 rfl rfl (n' := 9) ?_
  refine sd_iadd C dX11_worthOf_9 rfl (n' := 10) ?_
  refine sd_istore [(5, .int (((M.1 110 (1 : Int32).toNatClampNeg) - x3) + (1 : Int32))), (0, .ref (E.2.2 100)), (1, .int x1), (2, .int x2), (3, .int x3), (4, .int x4)] C dX11_worthOf_10 (by decide) rfl rfl (n' := 12) ?_
  refine sd_iload_n C 2 dX11_worthOf_12 rfl rfl rfl (n' := 13) ?_
  refine sd_if_ne C (n' := 16) (tgt := 21) dX11_worthOf_13 rfl rfl (fun c13 => ?_) (fun c13 => ?_)
  · replace hF := sd_neg hF c13
    refine sd_aload_n C 1 dX11_worthOf_21 rfl rfl rfl (n' := 22) ?_
    refine sd_g11_13 C sd_i100 sd_k100 sd_w1054 dX11_worthOf_22 rfl (n' := 25) ?_
    refine sd_iconst C (v := 0) dX11_worthOf_25 rfl rfl (n' := 26) ?_
    obtain ⟨b26, hF⟩ := sd_ok hF
    refine sd_iald C sd_i110 sd_k110 sd_n110 b26 dX11_worthOf_26 rfl (n' := 27) ?_
    refine sd_iload C 5 dX11_worthOf_27 rfl rfl (n' := 29) ?_
    refine sd_isub C dX11_worthOf_29 rfl (n' := 30) ?_
    refine sd_sub [1, 2, 3, 4, 0] rfl ?_
    exact tb_X11_worthOf_30 C x1 x2 x3 (((M.1 110 (1 : Int32).toNatClampNeg) - x3) + (1 : Int32)) ((M.1 110 (0 : Int32).toNatClampNeg) - x4) hF
  · replace hF := sd_pos hF c13
    refine sd_iload C 5 dX11_worthOf_16 rfl rfl (n' := 18) ?_
    refine sd_goto C (tgt := 30) dX11_worthOf_18 rfl ?_
    refine sd_sub [1, 2, 3, 4, 0] rfl ?_
    exact tb_X11_worthOf_30 C x1 x2 x3 (((M.1 110 (1 : Int32).toNatClampNeg) - x3) + (1 : Int32)) x4 hF
theorem ct_X11_worthOf {l : Launch} {E : sd_Env} (M : sd_Mem) (x1 : Int32) (x2 : Int32) (x3 : Int32) (x4 : Int32)  {r : Int64} (hF : fn_X11_worthOf M x1 x2 x3 x4 = some r) : sd_ML l E sd_LM yX11_worthOf cX11_worthOf 6 (some .long) rm_X11_worthOf [.ref (E.2.2 100), .int x1, .int x2, .int x3, .int x4] M r M := sd_ent0 (by decide +kernel) (Nat.le_of_ble_eq_true rfl) (fun p e s m below meth c C => tb_X11_worthOf_0 C x1 x2 x3 x4 hF)
theorem dX11_twelve_0 : decode cX11_twelve 0 = .ok (.lconst 1, 1) := by decide +kernel
theorem dX11_twelve_1 : decode cX11_twelve 1 = .ok (.lstore_n 1, 1) := by decide +kernel
theorem dX11_twelve_2 : decode cX11_twelve 2 = .ok (.iconst 0, 1) := by decide +kernel
theorem dX11_twelve_3 : decode cX11_twelve 3 = .ok (.istore_n 3, 1) := by decide +kernel
theorem dX11_twelve_4 : decode cX11_twelve 4 = .ok (.iload_n 3, 1) := by decide +kernel
theorem dX11_twelve_5 : decode cX11_twelve 5 = .ok (.iload_n 0, 1) := by decide +kernel
theorem dX11_twelve_6 : decode cX11_twelve 6 = .ok (.if_icmp .ge 15, 3) := by decide +kernel
theorem dX11_twelve_9 : decode cX11_twelve 9 = .ok (.lload_n 1, 1) := by decide +kernel
theorem dX11_twelve_10 : decode cX11_twelve 10 = .ok (.ldc2_w 206, 3) := by decide +kernel
theorem dX11_twelve_13 : decode cX11_twelve 13 = .ok (.lmul, 1) := by decide +kernel
theorem dX11_twelve_14 : decode cX11_twelve 14 = .ok (.lstore_n 1, 1) := by decide +kernel
theorem dX11_twelve_15 : decode cX11_twelve 15 = .ok (.iinc 3 1, 3) := by decide +kernel
theorem dX11_twelve_18 : decode cX11_twelve 18 = .ok (.goto (-14), 3) := by decide +kernel
theorem dX11_twelve_21 : decode cX11_twelve 21 = .ok (.lload_n 1, 1) := by decide +kernel
theorem dX11_twelve_22 : decode cX11_twelve 22 = .ok (.lreturn, 1) := by decide +kernel
set_option maxRecDepth 100000 in
set_option maxHeartbeats 4000000 in
theorem tb_X11_twelve_4 {K : sd_K} {E : sd_Env} {M : sd_Mem}  {r : Int64} (C : sd_C K E sd_LM RX11 cX11_twelve 4 (some .long))  : ∀ (n : Nat), ∀ (x0 : Int32) (l1 : Int64) (x3 : Int32), fn_X11_twelve_4 n x0 l1 x3 = some r → sd_Z K rm_X11_twelve E sd_LM 4 (sd_QL K E sd_LM r M) M 4 [(0, .int x0), (1, .long l1), (3, .int x3)] [] := by
  intro n
  induction n with
  | zero => intro x0 l1 x3 hF; cases hF
  | succ n ih =>
    intro x0 l1 x3 hF
    unfold fn_X11_twelve_4 at hF
    refine sd_iload_n C 2 dX11_twelve_4 rfl rfl rfl (n' := 5) ?_
    refine sd_iload_n C 0 dX11_twelve_5 rfl rfl rfl (n' := 6) ?_
    refine sd_icmp_ge C (n' := 9) (tgt := 21) dX11_twelve_6 rfl rfl (fun c6 => ?_) (fun c6 => ?_)
    · replace hF := sd_pos hF c6
      refine sd_lload_n C 1 dX11_twelve_21 rfl rfl rfl (n' := 22) ?_
      exact sd_lret C dX11_twelve_22 (Option.some.inj hF) rfl
    · replace hF := sd_neg hF c6
      refine sd_lload_n C 1 dX11_twelve_9 rfl rfl rfl (n' := 10) ?_
      refine sd_ldc2 C (v := 12) sd_w1361 dX11_twelve_10 rfl (n' := 13) ?_
      refine sd_lmul C dX11_twelve_13 rfl (n' := 14) ?_
      refine sd_lstore_n [(1, .long (l1 * (12 : Int64))), (0, .int x0), (3, .int x3)] C dX11_twelve_14 rfl (by decide) rfl rfl (n' := 15) ?_
      refine sd_iinc [(3, .int (x3 + (1 : Int32))), (1, .long (l1 * (12 : Int64))), (0, .int x0)] 2 C dX11_twelve_15 rfl rfl (by decide) rfl rfl (n' := 18) ?_
      refine sd_goto C (tgt := 4) dX11_twelve_18 rfl ?_
      refine sd_sub [2, 1, 0] rfl ?_
      exact ih x0 (l1 * (12 : Int64)) (x3 + (1 : Int32)) hF
set_option maxRecDepth 100000 in
set_option maxHeartbeats 4000000 in
theorem tb_X11_twelve_0 {K : sd_K} {E : sd_Env} {M : sd_Mem}  {r : Int64} (C : sd_C K E sd_LM RX11 cX11_twelve 4 (some .long))  : ∀ (x0 : Int32), fn_X11_twelve_0 x0 = some r → sd_Z K rm_X11_twelve E sd_LM 4 (sd_QL K E sd_LM r M) M 0 [(0, .int x0)] [] := by
  intro x0 hF
  unfold fn_X11_twelve_0 at hF
  refine sd_lconst C (v := 1) dX11_twelve_0 rfl rfl (n' := 1) ?_
  refine sd_lstore_n [(1, .long (1 : Int64)), (0, .int x0)] C dX11_twelve_1 rfl (by decide) rfl rfl (n' := 2) ?_
  refine sd_iconst C (v := 0) dX11_twelve_2 rfl rfl (n' := 3) ?_
  refine sd_istore_n [(3, .int (0 : Int32)), (1, .long (1 : Int64)), (0, .int x0)] C dX11_twelve_3 rfl (by decide) rfl rfl (n' := 4) ?_
  refine sd_sub [2, 1, 0] rfl ?_
  exact tb_X11_twelve_4 C sd_FU x0 (1 : Int64) (0 : Int32) hF
theorem ct_X11_twelve {l : Launch} {E : sd_Env} (M : sd_Mem) (x0 : Int32)  {r : Int64} (hF : fn_X11_twelve x0 = some r) : sd_ML l E sd_LM yX11_twelve cX11_twelve 4 (some .long) rm_X11_twelve [.int x0] M r M := sd_ent0 (by decide +kernel) (Nat.le_of_ble_eq_true rfl) (fun p e s m below meth c C => tb_X11_twelve_0 C x0 hF)
theorem dX11_judged_0 : decode cX11_judged 0 = .ok (.iload_n 3, 1) := by decide +kernel
theorem dX11_judged_1 : decode cX11_judged 1 = .ok (.aload_n 0, 1) := by decide +kernel
theorem dX11_judged_2 : decode cX11_judged 2 = .ok (.invokevirtual 188, 3) := by decide +kernel
theorem dX11_judged_5 : decode cX11_judged 5 = .ok (.if_icmp .ge 7, 3) := by decide +kernel
theorem dX11_judged_8 : decode cX11_judged 8 = .ok (.iload_n 3, 1) := by decide +kernel
theorem dX11_judged_9 : decode cX11_judged 9 = .ok (.goto 7, 3) := by decide +kernel
theorem dX11_judged_12 : decode cX11_judged 12 = .ok (.aload_n 0, 1) := by decide +kernel
theorem dX11_judged_13 : decode cX11_judged 13 = .ok (.invokevirtual 188, 3) := by decide +kernel
theorem dX11_judged_16 : decode cX11_judged 16 = .ok (.istore 5, 2) := by decide +kernel
theorem dX11_judged_18 : decode cX11_judged 18 = .ok (.lconst 0, 1) := by decide +kernel
theorem dX11_judged_19 : decode cX11_judged 19 = .ok (.lstore 6, 2) := by decide +kernel
theorem dX11_judged_21 : decode cX11_judged 21 = .ok (.lconst 1, 1) := by decide +kernel
theorem dX11_judged_22 : decode cX11_judged 22 = .ok (.lstore 8, 2) := by decide +kernel
theorem dX11_judged_24 : decode cX11_judged 24 = .ok (.iconst 1, 1) := by decide +kernel
theorem dX11_judged_25 : decode cX11_judged 25 = .ok (.istore 10, 2) := by decide +kernel
theorem dX11_judged_27 : decode cX11_judged 27 = .ok (.iload 10, 2) := by decide +kernel
theorem dX11_judged_29 : decode cX11_judged 29 = .ok (.iload 5, 2) := by decide +kernel
theorem dX11_judged_31 : decode cX11_judged 31 = .ok (.if_icmp .gt 59, 3) := by decide +kernel
theorem dX11_judged_34 : decode cX11_judged 34 = .ok (.lload 6, 2) := by decide +kernel
theorem dX11_judged_36 : decode cX11_judged 36 = .ok (.lload 8, 2) := by decide +kernel
theorem dX11_judged_38 : decode cX11_judged 38 = .ok (.aload_n 0, 1) := by decide +kernel
theorem dX11_judged_39 : decode cX11_judged 39 = .ok (.getfield 147, 3) := by decide +kernel
theorem dX11_judged_42 : decode cX11_judged 42 = .ok (.i2l, 1) := by decide +kernel
theorem dX11_judged_43 : decode cX11_judged 43 = .ok (.lmul, 1) := by decide +kernel
theorem dX11_judged_44 : decode cX11_judged 44 = .ok (.aload_n 0, 1) := by decide +kernel
theorem dX11_judged_45 : decode cX11_judged 45 = .ok (.iload_n 1, 1) := by decide +kernel
theorem dX11_judged_46 : decode cX11_judged 46 = .ok (.iload_n 2, 1) := by decide +kernel
theorem dX11_judged_47 : decode cX11_judged 47 = .ok (.iload 10, 2) := by decide +kernel
theorem dX11_judged_49 : decode cX11_judged 49 = .ok (.aload_n 0, 1) := by decide +kernel
theorem dX11_judged_50 : decode cX11_judged 50 = .ok (.getfield 48, 3) := by decide +kernel
theorem dX11_judged_53 : decode cX11_judged 53 = .ok (.invokevirtual 208, 3) := by decide +kernel
theorem dX11_judged_56 : decode cX11_judged 56 = .ok (.lmul, 1) := by decide +kernel
theorem dX11_judged_57 : decode cX11_judged 57 = .ok (.aload_n 0, 1) := by decide +kernel
theorem dX11_judged_58 : decode cX11_judged 58 = .ok (.invokevirtual 188, 3) := by decide +kernel
theorem dX11_judged_61 : decode cX11_judged 61 = .ok (.iload 10, 2) := by decide +kernel
theorem dX11_judged_63 : decode cX11_judged 63 = .ok (.isub, 1) := by decide +kernel
theorem dX11_judged_64 : decode cX11_judged 64 = .ok (.invokestatic 212, 3) := by decide +kernel
theorem dX11_judged_67 : decode cX11_judged 67 = .ok (.lmul, 1) := by decide +kernel
theorem dX11_judged_68 : decode cX11_judged 68 = .ok (.ladd, 1) := by decide +kernel
theorem dX11_judged_69 : decode cX11_judged 69 = .ok (.lstore 6, 2) := by decide +kernel
theorem dX11_judged_71 : decode cX11_judged 71 = .ok (.lload 8, 2) := by decide +kernel
theorem dX11_judged_73 : decode cX11_judged 73 = .ok (.bipush 12, 2) := by decide +kernel
theorem dX11_judged_75 : decode cX11_judged 75 = .ok (.aload_n 0, 1) := by decide +kernel
theorem dX11_judged_76 : decode cX11_judged 76 = .ok (.getfield 147, 3) := by decide +kernel
theorem dX11_judged_79 : decode cX11_judged 79 = .ok (.isub, 1) := by decide +kernel
theorem dX11_judged_80 : decode cX11_judged 80 = .ok (.i2l, 1) := by decide +kernel
theorem dX11_judged_81 : decode cX11_judged 81 = .ok (.lmul, 1) := by decide +kernel
theorem dX11_judged_82 : decode cX11_judged 82 = .ok (.lstore 8, 2) := by decide +kernel
theorem dX11_judged_84 : decode cX11_judged 84 = .ok (.iinc 10 1, 3) := by decide +kernel
theorem dX11_judged_87 : decode cX11_judged 87 = .ok (.goto (-60), 3) := by decide +kernel
theorem dX11_judged_90 : decode cX11_judged 90 = .ok (.lload 6, 2) := by decide +kernel
theorem dX11_judged_92 : decode cX11_judged 92 = .ok (.lload 8, 2) := by decide +kernel
theorem dX11_judged_94 : decode cX11_judged 94 = .ok (.aload_n 0, 1) := by decide +kernel
theorem dX11_judged_95 : decode cX11_judged 95 = .ok (.iload_n 1, 1) := by decide +kernel
theorem dX11_judged_96 : decode cX11_judged 96 = .ok (.iload_n 2, 1) := by decide +kernel
theorem dX11_judged_97 : decode cX11_judged 97 = .ok (.iload_n 3, 1) := by decide +kernel
theorem dX11_judged_98 : decode cX11_judged 98 = .ok (.iload 4, 2) := by decide +kernel
theorem dX11_judged_100 : decode cX11_judged 100 = .ok (.invokevirtual 208, 3) := by decide +kernel
theorem dX11_judged_103 : decode cX11_judged 103 = .ok (.lmul, 1) := by decide +kernel
theorem dX11_judged_104 : decode cX11_judged 104 = .ok (.aload_n 0, 1) := by decide +kernel
theorem dX11_judged_105 : decode cX11_judged 105 = .ok (.invokevirtual 188, 3) := by decide +kernel
theorem dX11_judged_108 : decode cX11_judged 108 = .ok (.iload 5, 2) := by decide +kernel
theorem dX11_judged_110 : decode cX11_judged 110 = .ok (.isub, 1) := by decide +kernel
theorem dX11_judged_111 : decode cX11_judged 111 = .ok (.invokestatic 212, 3) := by decide +kernel
theorem dX11_judged_114 : decode cX11_judged 114 = .ok (.lmul, 1) := by decide +kernel
theorem dX11_judged_115 : decode cX11_judged 115 = .ok (.ladd, 1) := by decide +kernel
theorem dX11_judged_116 : decode cX11_judged 116 = .ok (.lreturn, 1) := by decide +kernel
set_option maxRecDepth 100000 in
set_option maxHeartbeats 4000000 in
theorem tb_X11_judged_90 {K : sd_K} {E : sd_Env} {M : sd_Mem}  {r : Int64} (C : sd_C K E sd_LM RX11 cX11_judged 11 (some .long))  : ∀ (x1 : Int32) (x2 : Int32) (x3 : Int32) (x4 : Int32) (x5 : Int32) (l6 : Int64) (l8 : Int64), fn_X11_judged_90 M x1 x2 x3 x4 x5 l6 l8 = some r → sd_Z K rm_X11_judged E sd_LM 11 (sd_QL K E sd_LM r M) M 90 [(0, .ref (E.2.2 100)), (1, .int x1), (2, .int x2), (3, .int x3), (4, .int x4), (5, .int x5), (6, .long l6), (8, .long l8)] [] := by
  intro x1 x2 x3 x4 x5 l6 l8 hF
  unfold fn_X11_judged_90 at hF
  refine sd_lload C 6 dX11_judged_90 rfl rfl (n' := 92) ?_
  refine sd_lload C 7 dX11_judged_92 rfl rfl (n' := 94) ?_
  refine sd_aload_n C 0 dX11_judged_94 rfl rfl rfl (n' := 95) ?_
  refine sd_iload_n C 1 dX11_judged_95 rfl rfl rfl (n' := 96) ?_
  refine sd_iload_n C 2 dX11_judged_96 rfl rfl rfl (n' := 97) ?_
  refine sd_iload_n C 3 dX11_judged_97 rfl rfl rfl (n' := 98) ?_
  refine sd_iload C 4 dX11_judged_98 rfl rfl (n' := 100) ?_
  obtain ⟨q100, e100, hF⟩ := sd_bind hF
  refine sd_callVL [.int x1, .int x2, .int x3, .int x4] [.long l8, .long l6] C (ct_X11_worthOf M x1 x2 x3 x4  e100) sd_lX11_208 ⟨rfl, rfl, Nat.le_of_ble_eq_true rfl, Nat.le_of_ble_eq_true rfl⟩ sd_i100 (sd_e12 sd_k100) rfl rfl rfl (Nat.le_of_ble_eq_true rfl) dX11_judged_100 rfl (n' := 103) ?_
  refine sd_lmul C dX11_judged_103 rfl (n' := 104) ?_
  refine sd_aload_n C 0 dX11_judged_104 rfl rfl rfl (n' := 105) ?_
  obtain ⟨q105, e105, hF⟩ := sd_bind hF
  refine sd_callVI [] [.long (l8 * q100), .long l6] C (ct_X11_last M   e105) sd_lX11_188 ⟨rfl, rfl, Nat.le_of_ble_eq_true rfl, Nat.le_of_ble_eq_true rfl⟩ sd_i100 (sd_e12 sd_k100) rfl rfl rfl (Nat.le_of_ble_eq_true rfl) dX11_judged_105 rfl (n' := 108) ?_
  refine sd_iload C 5 dX11_judged_108 rfl rfl (n' := 110) ?_
  refine sd_isub C dX11_judged_110 rfl (n' := 111) ?_
  obtain ⟨q111, e111, hF⟩ := sd_bind hF
  refine sd_callSL [.int (q105 - x5)] [.long (l8 * q100), .long l6] C (ct_X11_twelve M (q105 - x5)  e111) sd_lX11_212 ⟨rfl, rfl, Nat.le_of_ble_eq_true rfl, Nat.le_of_ble_eq_true rfl⟩ rfl (Nat.le_of_ble_eq_true rfl) dX11_judged_111 rfl (n' := 114) ?_
  refine sd_lmul C dX11_judged_114 rfl (n' := 115) ?_
  refine sd_ladd C dX11_judged_115 rfl (n' := 116) ?_
  exact sd_lret C dX11_judged_116 (Option.some.inj hF) rfl
set_option maxRecDepth 100000 in
set_option maxHeartbeats 4000000 in
theorem tb_X11_judged_27 {K : sd_K} {E : sd_Env} {M : sd_Mem}  {r : Int64} (C : sd_C K E sd_LM RX11 cX11_judged 11 (some .long))  : ∀ (n : Nat), ∀ (x1 : Int32) (x2 : Int32) (x3 : Int32) (x4 : Int32) (x5 : Int32) (l6 : Int64) (l8 : Int64) (x10 : Int32), fn_X11_judged_27 M n x1 x2 x3 x4 x5 l6 l8 x10 = some r → sd_Z K rm_X11_judged E sd_LM 11 (sd_QL K E sd_LM r M) M 27 [(0, .ref (E.2.2 100)), (1, .int x1), (2, .int x2), (3, .int x3), (4, .int x4), (5, .int x5), (6, .long l6), (8, .long l8), (10, .int x10)] [] := by
  intro n
  induction n with
  | zero => intro x1 x2 x3 x4 x5 l6 l8 x10 hF; cases hF
  | succ n ih =>
    intro x1 x2 x3 x4 x5 l6 l8 x10 hF
    unfold fn_X11_judged_27 at hF
    refine sd_iload C 8 dX11_judged_27 rfl rfl (n' := 29) ?_
    refine sd_iload C 5 dX11_judged_29 rfl rfl (n' := 31) ?_
    refine sd_icmp_gt C (n' := 34) (tgt := 90) dX11_judged_31 rfl rfl (fun c31 => ?_) (fun c31 => ?_)
    · replace hF := sd_pos hF c31
      refine sd_sub [0, 1, 2, 3, 4, 5, 6, 7] rfl ?_
      exact tb_X11_judged_90 C x1 x2 x3 x4 x5 l6 l8 hF
    · replace hF := sd_neg hF c31
      refine sd_lload C 6 dX11_judged_34 rfl rfl (n' := 36) ?_
      refine sd_lload C 7 dX11_judged_36 rfl rfl (n' := 38) ?_
      refine sd_aload_n C 0 dX11_judged_38 rfl rfl rfl (n' := 39) ?_
      refine sd_g11_15 C sd_i100 sd_k100 sd_w1056 dX11_judged_39 rfl (n' := 42) ?_
      refine sd_i2l C dX11_judged_42 rfl (n' := 43) ?_
      refine sd_lmul C dX11_judged_43 rfl (n' := 44) ?_
      refine sd_aload_n C 0 dX11_judged_44 rfl rfl rfl (n' := 45) ?_
      refine sd_iload_n C 1 dX11_judged_45 rfl rfl rfl (n' := 46) ?_
      refine sd_iload_n C 2 dX11_judged_46 rfl rfl rfl (n' := 47) ?_
      refine sd_iload C 8 dX11_judged_47 rfl rfl (n' := 49) ?_
      refine sd_aload_n C 0 dX11_judged_49 rfl rfl rfl (n' := 50) ?_
      refine sd_g11_16 C sd_i100 sd_k100 sd_w1057 dX11_judged_50 rfl (n' := 53) ?_
      obtain ⟨q53, e53, hF⟩ := sd_bind hF
      refine sd_callVL [.int x1, .int x2, .int x10, .int (M.1 100 16)] [.long (l8 * ((M.1 100 15).toInt64)), .long l6] C (ct_X11_worthOf M x1 x2 x10 (M.1 100 16)  e53) sd_lX11_208 ⟨rfl, rfl, Nat.le_of_ble_eq_true rfl, Nat.le_of_ble_eq_true rfl⟩ sd_i100 (sd_e12 sd_k100) rfl rfl rfl (Nat.le_of_ble_eq_true rfl) dX11_judged_53 rfl (n' := 56) ?_
      refine sd_lmul C dX11_judged_56 rfl (n' := 57) ?_
      refine sd_aload_n C 0 dX11_judged_57 rfl rfl rfl (n' := 58) ?_
      obtain ⟨q58, e58, hF⟩ := sd_bind hF
      refine sd_callVI [] [.long ((l8 * ((M.1 100 15).toInt64)) * q53), .long l6] C (ct_X11_last M   e58) sd_lX11_188 ⟨rfl, rfl, Nat.le_of_ble_eq_true rfl, Nat.le_of_ble_eq_true rfl⟩ sd_i100 (sd_e12 sd_k100) rfl rfl rfl (Nat.le_of_ble_eq_true rfl) dX11_judged_58 rfl (n' := 61) ?_
      refine sd_iload C 8 dX11_judged_61 rfl rfl (n' := 63) ?_
      refine sd_isub C dX11_judged_63 rfl (n' := 64) ?_
      obtain ⟨q64, e64, hF⟩ := sd_bind hF
      refine sd_callSL [.int (q58 - x10)] [.long ((l8 * ((M.1 100 15).toInt64)) * q53), .long l6] C (ct_X11_twelve M (q58 - x10)  e64) sd_lX11_212 ⟨rfl, rfl, Nat.le_of_ble_eq_true rfl, Nat.le_of_ble_eq_true rfl⟩ rfl (Nat.le_of_ble_eq_true rfl) dX11_judged_64 rfl (n' := 67) ?_
      refine sd_lmul C dX11_judged_67 rfl (n' := 68) ?_
      refine sd_ladd C dX11_judged_68 rfl (n' := 69) ?_
      refine sd_lstore [(6, .long (l6 + (((l8 * ((M.1 100 15).toInt64)) * q53) * q64))), (0, .ref (E.2.2 100)), (1, .int x1), (2, .int x2), (3, .int x3), (4, .int x4), (5, .int x5), (8, .long l8), (10, .int x10)] C dX11_judged_69 (by decide) rfl rfl (n' := 71) ?_
      refine sd_lload C 7 dX11_judged_71 rfl rfl (n' := 73) ?_
      refine sd_bipush C (v := 12) dX11_judged_73 rfl rfl (n' := 75) ?_
      refine sd_aload_n C 1 dX11_judged_75 rfl rfl rfl (n' := 76) ?_
      refine sd_g11_15 C sd_i100 sd_k100 sd_w1056 dX11_judged_76 rfl (n' := 79) ?_
      refine sd_isub C dX11_judged_79 rfl (n' := 80) ?_
      refine sd_i2l C dX11_judged_80 rfl (n' := 81) ?_
      refine sd_lmul C dX11_judged_81 rfl (n' := 82) ?_
      refine sd_lstore [(8, .long (l8 * (((12 : Int32) - (M.1 100 15)).toInt64))), (6, .long (l6 + (((l8 * ((M.1 100 15).toInt64)) * q53) * q64))), (0, .ref (E.2.2 100)), (1, .int x1), (2, .int x2), (3, .int x3), (4, .int x4), (5, .int x5), (10, .int x10)] C dX11_judged_82 (by decide) rfl rfl (n' := 84) ?_
      refine sd_iinc [(10, .int (x10 + (1 : Int32))), (8, .long (l8 * (((12 : Int32) - (M.1 100 15)).toInt64))), (6, .long (l6 + (((l8 * ((M.1 100 15).toInt64)) * q53) * q64))), (0, .ref (E.2.2 100)), (1, .int x1), (2, .int x2), (3, .int x3), (4, .int x4), (5, .int x5)] 8 C dX11_judged_84 rfl rfl (by decide) rfl rfl (n' := 87) ?_
      refine sd_goto C (tgt := 27) dX11_judged_87 rfl ?_
      refine sd_sub [3, 4, 5, 6, 7, 8, 2, 1, 0] rfl ?_
      exact ih x1 x2 x3 x4 x5 (l6 + (((l8 * ((M.1 100 15).toInt64)) * q53) * q64)) (l8 * (((12 : Int32) - (M.1 100 15)).toInt64)) (x10 + (1 : Int32)) hF
set_option maxRecDepth 100000 in
set_option maxHeartbeats 4000000 in
theorem tb_X11_judged_16 {K : sd_K} {E : sd_Env} {M : sd_Mem}  {r : Int64} (C : sd_C K E sd_LM RX11 cX11_judged 11 (some .long))  : ∀ (x1 : Int32) (x2 : Int32) (x3 : Int32) (x4 : Int32) (xs0 : Int32), fn_X11_judged_16 M x1 x2 x3 x4 xs0 = some r → sd_Z K rm_X11_judged E sd_LM 11 (sd_QL K E sd_LM r M) M 16 [(0, .ref (E.2.2 100)), (1, .int x1), (2, .int x2), (3, .int x3), (4, .int x4)] [.int xs0] := by
  intro x1 x2 x3 x4 xs0 hF
  unfold fn_X11_judged_16 at hF
  refine sd_istore [(5, .int xs0), (0, .ref (E.2.2 100)), (1, .int x1), (2, .int x2), (3, .int x3), (4, .int x4)] C dX11_judged_16 (by decide) rfl rfl (n' := 18) ?_
  refine sd_lconst C (v := 0) dX11_judged_18 rfl rfl (n' := 19) ?_
  refine sd_lstore [(6, .long (0 : Int64)), (5, .int xs0), (0, .ref (E.2.2 100)), (1, .int x1), (2, .int x2), (3, .int x3), (4, .int x4)] C dX11_judged_19 (by decide) rfl rfl (n' := 21) ?_
  refine sd_lconst C (v := 1) dX11_judged_21 rfl rfl (n' := 22) ?_
  refine sd_lstore [(8, .long (1 : Int64)), (6, .long (0 : Int64)), (5, .int xs0), (0, .ref (E.2.2 100)), (1, .int x1), (2, .int x2), (3, .int x3), (4, .int x4)] C dX11_judged_22 (by decide) rfl rfl (n' := 24) ?_
  refine sd_iconst C (v := 1) dX11_judged_24 rfl rfl (n' := 25) ?_
  refine sd_istore [(10, .int (1 : Int32)), (8, .long (1 : Int64)), (6, .long (0 : Int64)), (5, .int xs0), (0, .ref (E.2.2 100)), (1, .int x1), (2, .int x2), (3, .int x3), (4, .int x4)] C dX11_judged_25 (by decide) rfl rfl (n' := 27) ?_
  refine sd_sub [4, 5, 6, 7, 8, 3, 2, 1, 0] rfl ?_
  exact tb_X11_judged_27 C sd_FU x1 x2 x3 x4 xs0 (0 : Int64) (1 : Int64) (1 : Int32) hF
set_option maxRecDepth 100000 in
set_option maxHeartbeats 4000000 in
theorem tb_X11_judged_0 {K : sd_K} {E : sd_Env} {M : sd_Mem}  {r : Int64} (C : sd_C K E sd_LM RX11 cX11_judged 11 (some .long))  : ∀ (x1 : Int32) (x2 : Int32) (x3 : Int32) (x4 : Int32), fn_X11_judged_0 M x1 x2 x3 x4 = some r → sd_Z K rm_X11_judged E sd_LM 11 (sd_QL K E sd_LM r M) M 0 [(0, .ref (E.2.2 100)), (1, .int x1), (2, .int x2), (3, .int x3), (4, .int x4)] [] := by
  intro x1 x2 x3 x4 hF
  unfold fn_X11_judged_0 at hF
  refine sd_iload_n C 3 dX11_judged_0 rfl rfl rfl (n' := 1) ?_
  refine sd_aload_n C 0 dX11_judged_1 rfl rfl rfl (n' := 2) ?_
  obtain ⟨q2, e2, hF⟩ := sd_bind hF
  refine sd_callVI [] [.int x3] C (ct_X11_last M   e2) sd_lX11_188 ⟨rfl, rfl, Nat.le_of_ble_eq_true rfl, Nat.le_of_ble_eq_true rfl⟩ sd_i100 (sd_e12 sd_k100) rfl rfl rfl (Nat.le_of_ble_eq_true rfl) dX11_judged_2 rfl (n' := 5) ?_
  refine sd_icmp_ge C (n' := 8) (tgt := 12) dX11_judged_5 rfl rfl (fun c5 => ?_) (fun c5 => ?_)
  · replace hF := sd_pos hF c5
    refine sd_aload_n C 0 dX11_judged_12 rfl rfl rfl (n' := 13) ?_
    obtain ⟨q13, e13, hF⟩ := sd_bind hF
    refine sd_callVI [] [] C (ct_X11_last M   e13) sd_lX11_188 ⟨rfl, rfl, Nat.le_of_ble_eq_true rfl, Nat.le_of_ble_eq_true rfl⟩ sd_i100 (sd_e12 sd_k100) rfl rfl rfl (Nat.le_of_ble_eq_true rfl) dX11_judged_13 rfl (n' := 16) ?_
    exact tb_X11_judged_16 C x1 x2 x3 x4 q13 hF
  · replace hF := sd_neg hF c5
    refine sd_iload_n C 3 dX11_judged_8 rfl rfl rfl (n' := 9) ?_
    refine sd_goto C (tgt := 16) dX11_judged_9 rfl ?_
    exact tb_X11_judged_16 C x1 x2 x3 x4 x3 hF
theorem ct_X11_judged {l : Launch} {E : sd_Env} (M : sd_Mem) (x1 : Int32) (x2 : Int32) (x3 : Int32) (x4 : Int32)  {r : Int64} (hF : fn_X11_judged M x1 x2 x3 x4 = some r) : sd_ML l E sd_LM yX11_judged cX11_judged 11 (some .long) rm_X11_judged [.ref (E.2.2 100), .int x1, .int x2, .int x3, .int x4] M r M := sd_ent0 (by decide +kernel) (Nat.le_of_ble_eq_true rfl) (fun p e s m below meth c C => tb_X11_judged_0 C x1 x2 x3 x4 hF)
theorem dX11_worthIn_0 : decode cX11_worthIn 0 = .ok (.lconst 0, 1) := by decide +kernel
theorem dX11_worthIn_1 : decode cX11_worthIn 1 = .ok (.lstore 5, 2) := by decide +kernel
theorem dX11_worthIn_3 : decode cX11_worthIn 3 = .ok (.iconst 0, 1) := by decide +kernel
theorem dX11_worthIn_4 : decode cX11_worthIn 4 = .ok (.istore 7, 2) := by decide +kernel
theorem dX11_worthIn_6 : decode cX11_worthIn 6 = .ok (.iload 7, 2) := by decide +kernel
theorem dX11_worthIn_8 : decode cX11_worthIn 8 = .ok (.aload_n 0, 1) := by decide +kernel
theorem dX11_worthIn_9 : decode cX11_worthIn 9 = .ok (.getfield 32, 3) := by decide +kernel
theorem dX11_worthIn_12 : decode cX11_worthIn 12 = .ok (.iconst 1, 1) := by decide +kernel
theorem dX11_worthIn_13 : decode cX11_worthIn 13 = .ok (.iload_n 3, 1) := by decide +kernel
theorem dX11_worthIn_14 : decode cX11_worthIn 14 = .ok (.isub, 1) := by decide +kernel
theorem dX11_worthIn_15 : decode cX11_worthIn 15 = .ok (.iaload, 1) := by decide +kernel
theorem dX11_worthIn_16 : decode cX11_worthIn 16 = .ok (.if_icmp .ge 81, 3) := by decide +kernel
theorem dX11_worthIn_19 : decode cX11_worthIn 19 = .ok (.iload_n 3, 1) := by decide +kernel
theorem dX11_worthIn_20 : decode cX11_worthIn 20 = .ok (.ifCond .ne 8, 3) := by decide +kernel
theorem dX11_worthIn_23 : decode cX11_worthIn 23 = .ok (.iload 7, 2) := by decide +kernel
theorem dX11_worthIn_25 : decode cX11_worthIn 25 = .ok (.goto 5, 3) := by decide +kernel
theorem dX11_worthIn_28 : decode cX11_worthIn 28 = .ok (.iload 4, 2) := by decide +kernel
theorem dX11_worthIn_30 : decode cX11_worthIn 30 = .ok (.istore 8, 2) := by decide +kernel
theorem dX11_worthIn_32 : decode cX11_worthIn 32 = .ok (.aload_n 0, 1) := by decide +kernel
theorem dX11_worthIn_33 : decode cX11_worthIn 33 = .ok (.iload_n 1, 1) := by decide +kernel
theorem dX11_worthIn_34 : decode cX11_worthIn 34 = .ok (.iload_n 2, 1) := by decide +kernel
theorem dX11_worthIn_35 : decode cX11_worthIn 35 = .ok (.iload 8, 2) := by decide +kernel
theorem dX11_worthIn_37 : decode cX11_worthIn 37 = .ok (.iload_n 3, 1) := by decide +kernel
theorem dX11_worthIn_38 : decode cX11_worthIn 38 = .ok (.ifCond .ne 8, 3) := by decide +kernel
theorem dX11_worthIn_41 : decode cX11_worthIn 41 = .ok (.iload 4, 2) := by decide +kernel
theorem dX11_worthIn_43 : decode cX11_worthIn 43 = .ok (.goto 5, 3) := by decide +kernel
theorem dX11_worthIn_46 : decode cX11_worthIn 46 = .ok (.iload 7, 2) := by decide +kernel
theorem dX11_worthIn_48 : decode cX11_worthIn 48 = .ok (.invokevirtual 199, 3) := by decide +kernel
theorem dX11_worthIn_51 : decode cX11_worthIn 51 = .ok (.istore 9, 2) := by decide +kernel
theorem dX11_worthIn_53 : decode cX11_worthIn 53 = .ok (.lload 5, 2) := by decide +kernel
theorem dX11_worthIn_55 : decode cX11_worthIn 55 = .ok (.aload_n 0, 1) := by decide +kernel
theorem dX11_worthIn_56 : decode cX11_worthIn 56 = .ok (.getfield 35, 3) := by decide +kernel
theorem dX11_worthIn_59 : decode cX11_worthIn 59 = .ok (.iconst 3, 1) := by decide +kernel
theorem dX11_worthIn_60 : decode cX11_worthIn 60 = .ok (.iconst 1, 1) := by decide +kernel
theorem dX11_worthIn_61 : decode cX11_worthIn 61 = .ok (.iload_n 3, 1) := by decide +kernel
theorem dX11_worthIn_62 : decode cX11_worthIn 62 = .ok (.isub, 1) := by decide +kernel
theorem dX11_worthIn_63 : decode cX11_worthIn 63 = .ok (.imul, 1) := by decide +kernel
theorem dX11_worthIn_64 : decode cX11_worthIn 64 = .ok (.iload 7, 2) := by decide +kernel
theorem dX11_worthIn_66 : decode cX11_worthIn 66 = .ok (.iadd, 1) := by decide +kernel
theorem dX11_worthIn_67 : decode cX11_worthIn 67 = .ok (.iaload, 1) := by decide +kernel
theorem dX11_worthIn_68 : decode cX11_worthIn 68 = .ok (.i2l, 1) := by decide +kernel
theorem dX11_worthIn_69 : decode cX11_worthIn 69 = .ok (.aload_n 0, 1) := by decide +kernel
theorem dX11_worthIn_70 : decode cX11_worthIn 70 = .ok (.iload_n 3, 1) := by decide +kernel
theorem dX11_worthIn_71 : decode cX11_worthIn 71 = .ok (.iload 4, 2) := by decide +kernel
theorem dX11_worthIn_73 : decode cX11_worthIn 73 = .ok (.iload 9, 2) := by decide +kernel
theorem dX11_worthIn_75 : decode cX11_worthIn 75 = .ok (.aload_n 0, 1) := by decide +kernel
theorem dX11_worthIn_76 : decode cX11_worthIn 76 = .ok (.iload_n 1, 1) := by decide +kernel
theorem dX11_worthIn_77 : decode cX11_worthIn 77 = .ok (.iload 8, 2) := by decide +kernel
theorem dX11_worthIn_79 : decode cX11_worthIn 79 = .ok (.iload 9, 2) := by decide +kernel
theorem dX11_worthIn_81 : decode cX11_worthIn 81 = .ok (.invokevirtual 203, 3) := by decide +kernel
theorem dX11_worthIn_84 : decode cX11_worthIn 84 = .ok (.invokevirtual 216, 3) := by decide +kernel
theorem dX11_worthIn_87 : decode cX11_worthIn 87 = .ok (.lmul, 1) := by decide +kernel
theorem dX11_worthIn_88 : decode cX11_worthIn 88 = .ok (.ladd, 1) := by decide +kernel
theorem dX11_worthIn_89 : decode cX11_worthIn 89 = .ok (.lstore 5, 2) := by decide +kernel
theorem dX11_worthIn_91 : decode cX11_worthIn 91 = .ok (.iinc 7 1, 3) := by decide +kernel
theorem dX11_worthIn_94 : decode cX11_worthIn 94 = .ok (.goto (-88), 3) := by decide +kernel
theorem dX11_worthIn_97 : decode cX11_worthIn 97 = .ok (.lload 5, 2) := by decide +kernel
theorem dX11_worthIn_99 : decode cX11_worthIn 99 = .ok (.lreturn, 1) := by decide +kernel
set_option maxRecDepth 100000 in
set_option maxHeartbeats 4000000 in
theorem tb_X11_worthIn_48 {K : sd_K} {E : sd_Env} {M : sd_Mem}  {r : Int64} (C : sd_C K E sd_LM RX11 cX11_worthIn 10 (some .long))  {k6 : Int32 → Int32 → Int32 → Int32 → Int64 → Int32 → Option Int64} (hk6 : ∀ (x1 : Int32) (x2 : Int32) (x3 : Int32) (x4 : Int32) (l5 : Int64) (x7 : Int32), k6 x1 x2 x3 x4 l5 x7 = some r → sd_Z K rm_X11_worthIn E sd_LM 10 (sd_QL K E sd_LM r M) M 6 [(0, .ref (E.2.2 100)), (1, .int x1), (2, .int x2), (3, .int x3), (4, .int x4), (5, .long l5), (7, .int x7)] []) : ∀ (x1 : Int32) (x2 : Int32) (x3 : Int32) (x4 : Int32) (l5 : Int64) (x7 : Int32) (x8 : Int32) (xs0 : Int32) (xs1 : Int32) (xs2 : Int32) (xs3 : Int32), fn_X11_worthIn_48 M k6 x1 x2 x3 x4 l5 x7 x8 xs0 xs1 xs2 xs3 = some r → sd_Z K rm_X11_worthIn E sd_LM 10 (sd_QL K E sd_LM r M) M 48 [(0, .ref (E.2.2 100)), (1, .int x1), (2, .int x2), (3, .int x3), (4, .int x4), (5, .long l5), (7, .int x7), (8, .int x8)] [.int xs0, .int xs1, .int xs2, .int xs3, .ref (E.2.2 100)] := by
  intro x1 x2 x3 x4 l5 x7 x8 xs0 xs1 xs2 xs3 hF
  unfold fn_X11_worthIn_48 at hF
  obtain ⟨q48, e48, hF⟩ := sd_bind hF
  refine sd_callVI [.int xs3, .int xs2, .int xs1, .int xs0] [] C (ct_X11_dayOf M xs3 xs2 xs1 xs0  e48) sd_lX11_199 ⟨rfl, rfl, Nat.le_of_ble_eq_true rfl, Nat.le_of_ble_eq_true rfl⟩ sd_i100 (sd_e12 sd_k100) rfl rfl rfl (Nat.le_of_ble_eq_true rfl) dX11_worthIn_48 rfl (n' := 51) ?_
  refine sd_istore [(9, .int q48), (0, .ref (E.2.2 100)), (1, .int x1), (2, .int x2), (3, .int x3), (4, .int x4), (5, .long l5), (7, .int x7), (8, .int x8)] C dX11_worthIn_51 (by decide) rfl rfl (n' := 53) ?_
  refine sd_lload C 6 dX11_worthIn_53 rfl rfl (n' := 55) ?_
  refine sd_aload_n C 1 dX11_worthIn_55 rfl rfl rfl (n' := 56) ?_
  refine sd_g11_11 C sd_i100 sd_k100 sd_w1052 dX11_worthIn_56 rfl (n' := 59) ?_
  refine sd_iconst C (v := 3) dX11_worthIn_59 rfl rfl (n' := 60) ?_
  refine sd_iconst C (v := 1) dX11_worthIn_60 rfl rfl (n' := 61) ?_
  refine sd_iload_n C 4 dX11_worthIn_61 rfl rfl rfl (n' := 62) ?_
  refine sd_isub C dX11_worthIn_62 rfl (n' := 63) ?_
  refine sd_imul C dX11_worthIn_63 rfl (n' := 64) ?_
  refine sd_iload C 7 dX11_worthIn_64 rfl rfl (n' := 66) ?_
  refine sd_iadd C dX11_worthIn_66 rfl (n' := 67) ?_
  obtain ⟨b67, hF⟩ := sd_ok hF
  refine sd_iald C sd_i108 sd_k108 sd_n108 b67 dX11_worthIn_67 rfl (n' := 68) ?_
  refine sd_i2l C dX11_worthIn_68 rfl (n' := 69) ?_
  refine sd_aload_n C 1 dX11_worthIn_69 rfl rfl rfl (n' := 70) ?_
  refine sd_iload_n C 4 dX11_worthIn_70 rfl rfl rfl (n' := 71) ?_
  refine sd_iload C 5 dX11_worthIn_71 rfl rfl (n' := 73) ?_
  refine sd_iload C 0 dX11_worthIn_73 rfl rfl (n' := 75) ?_
  refine sd_aload_n C 1 dX11_worthIn_75 rfl rfl rfl (n' := 76) ?_
  refine sd_iload_n C 2 dX11_worthIn_76 rfl rfl rfl (n' := 77) ?_
  refine sd_iload C 8 dX11_worthIn_77 rfl rfl (n' := 79) ?_
  refine sd_iload C 0 dX11_worthIn_79 rfl rfl (n' := 81) ?_
  obtain ⟨q81, e81, hF⟩ := sd_bind hF
  refine sd_callVI [.int x1, .int x8, .int q48] [.int q48, .int x4, .int x3, .ref (E.2.2 100), .long ((M.1 108 (((3 : Int32) * ((1 : Int32) - x3)) + x7).toNatClampNeg).toInt64), .long l5] C (ct_X11_wageOn M x1 x8 q48  e81) sd_lX11_203 ⟨rfl, rfl, Nat.le_of_ble_eq_true rfl, Nat.le_of_ble_eq_true rfl⟩ sd_i100 (sd_e12 sd_k100) rfl rfl rfl (Nat.le_of_ble_eq_true rfl) dX11_worthIn_81 rfl (n' := 84) ?_
  obtain ⟨q84, e84, hF⟩ := sd_bind hF
  refine sd_callVL [.int x3, .int x4, .int q48, .int q81] [.long ((M.1 108 (((3 : Int32) * ((1 : Int32) - x3)) + x7).toNatClampNeg).toInt64), .long l5] C (ct_X11_judged M x3 x4 q48 q81  e84) sd_lX11_216 ⟨rfl, rfl, Nat.le_of_ble_eq_true rfl, Nat.le_of_ble_eq_true rfl⟩ sd_i100 (sd_e12 sd_k100) rfl rfl rfl (Nat.le_of_ble_eq_true rfl) dX11_worthIn_84 rfl (n' := 87) ?_
  refine sd_lmul C dX11_worthIn_87 rfl (n' := 88) ?_
  refine sd_ladd C dX11_worthIn_88 rfl (n' := 89) ?_
  refine sd_lstore [(5, .long (l5 + (((M.1 108 (((3 : Int32) * ((1 : Int32) - x3)) + x7).toNatClampNeg).toInt64) * q84))), (9, .int q48), (0, .ref (E.2.2 100)), (1, .int x1), (2, .int x2), (3, .int x3), (4, .int x4), (7, .int x7), (8, .int x8)] C dX11_worthIn_89 (by decide) rfl rfl (n' := 91) ?_
  refine sd_iinc [(7, .int (x7 + (1 : Int32))), (5, .long (l5 + (((M.1 108 (((3 : Int32) * ((1 : Int32) - x3)) + x7).toNatClampNeg).toInt64) * q84))), (9, .int q48), (0, .ref (E.2.2 100)), (1, .int x1), (2, .int x2), (3, .int x3), (4, .int x4), (8, .int x8)] 7 C dX11_worthIn_91 rfl rfl (by decide) rfl rfl (n' := 94) ?_
  refine sd_goto C (tgt := 6) dX11_worthIn_94 rfl ?_
  refine sd_sub [3, 4, 5, 6, 7, 1, 0] rfl ?_
  exact hk6 x1 x2 x3 x4 (l5 + (((M.1 108 (((3 : Int32) * ((1 : Int32) - x3)) + x7).toNatClampNeg).toInt64) * q84)) (x7 + (1 : Int32)) hF
set_option maxRecDepth 100000 in
set_option maxHeartbeats 4000000 in
theorem tb_X11_worthIn_30 {K : sd_K} {E : sd_Env} {M : sd_Mem}  {r : Int64} (C : sd_C K E sd_LM RX11 cX11_worthIn 10 (some .long))  {k6 : Int32 → Int32 → Int32 → Int32 → Int64 → Int32 → Option Int64} (hk6 : ∀ (x1 : Int32) (x2 : Int32) (x3 : Int32) (x4 : Int32) (l5 : Int64) (x7 : Int32), k6 x1 x2 x3 x4 l5 x7 = some r → sd_Z K rm_X11_worthIn E sd_LM 10 (sd_QL K E sd_LM r M) M 6 [(0, .ref (E.2.2 100)), (1, .int x1), (2, .int x2), (3, .int x3), (4, .int x4), (5, .long l5), (7, .int x7)] []) : ∀ (x1 : Int32) (x2 : Int32) (x3 : Int32) (x4 : Int32) (l5 : Int64) (x7 : Int32) (xs0 : Int32), fn_X11_worthIn_30 M k6 x1 x2 x3 x4 l5 x7 xs0 = some r → sd_Z K rm_X11_worthIn E sd_LM 10 (sd_QL K E sd_LM r M) M 30 [(0, .ref (E.2.2 100)), (1, .int x1), (2, .int x2), (3, .int x3), (4, .int x4), (5, .long l5), (7, .int x7)] [.int xs0] := by
  intro x1 x2 x3 x4 l5 x7 xs0 hF
  unfold fn_X11_worthIn_30 at hF
  refine sd_istore [(8, .int xs0), (0, .ref (E.2.2 100)), (1, .int x1), (2, .int x2), (3, .int x3), (4, .int x4), (5, .long l5), (7, .int x7)] C dX11_worthIn_30 (by decide) rfl rfl (n' := 32) ?_
  refine sd_aload_n C 1 dX11_worthIn_32 rfl rfl rfl (n' := 33) ?_
  refine sd_iload_n C 2 dX11_worthIn_33 rfl rfl rfl (n' := 34) ?_
  refine sd_iload_n C 3 dX11_worthIn_34 rfl rfl rfl (n' := 35) ?_
  refine sd_iload C 0 dX11_worthIn_35 rfl rfl (n' := 37) ?_
  refine sd_iload_n C 4 dX11_worthIn_37 rfl rfl rfl (n' := 38) ?_
  refine sd_if_ne C (n' := 41) (tgt := 46) dX11_worthIn_38 rfl rfl (fun c38 => ?_) (fun c38 => ?_)
  · replace hF := sd_neg hF c38
    refine sd_iload C 7 dX11_worthIn_46 rfl rfl (n' := 48) ?_
    refine sd_sub [1, 2, 3, 4, 5, 6, 7, 0] rfl ?_
    exact tb_X11_worthIn_48 C hk6 x1 x2 x3 x4 l5 x7 xs0 x7 xs0 x2 x1 hF
  · replace hF := sd_pos hF c38
    refine sd_iload C 5 dX11_worthIn_41 rfl rfl (n' := 43) ?_
    refine sd_goto C (tgt := 48) dX11_worthIn_43 rfl ?_
    refine sd_sub [1, 2, 3, 4, 5, 6, 7, 0] rfl ?_
    exact tb_X11_worthIn_48 C hk6 x1 x2 x3 x4 l5 x7 xs0 x4 xs0 x2 x1 hF
set_option maxRecDepth 100000 in
set_option maxHeartbeats 4000000 in
theorem tb_X11_worthIn_6 {K : sd_K} {E : sd_Env} {M : sd_Mem}  {r : Int64} (C : sd_C K E sd_LM RX11 cX11_worthIn 10 (some .long))  : ∀ (n : Nat), ∀ (x1 : Int32) (x2 : Int32) (x3 : Int32) (x4 : Int32) (l5 : Int64) (x7 : Int32), fn_X11_worthIn_6 M n x1 x2 x3 x4 l5 x7 = some r → sd_Z K rm_X11_worthIn E sd_LM 10 (sd_QL K E sd_LM r M) M 6 [(0, .ref (E.2.2 100)), (1, .int x1), (2, .int x2), (3, .int x3), (4, .int x4), (5, .long l5), (7, .int x7)] [] := by
  intro n
  induction n with
  | zero => intro x1 x2 x3 x4 l5 x7 hF; cases hF
  | succ n ih =>
    intro x1 x2 x3 x4 l5 x7 hF
    unfold fn_X11_worthIn_6 at hF
    refine sd_iload C 6 dX11_worthIn_6 rfl rfl (n' := 8) ?_
    refine sd_aload_n C 0 dX11_worthIn_8 rfl rfl rfl (n' := 9) ?_
    refine sd_g11_10 C sd_i100 sd_k100 sd_w1051 dX11_worthIn_9 rfl (n' := 12) ?_
    refine sd_iconst C (v := 1) dX11_worthIn_12 rfl rfl (n' := 13) ?_
    refine sd_iload_n C 3 dX11_worthIn_13 rfl rfl rfl (n' := 14) ?_
    refine sd_isub C dX11_worthIn_14 rfl (n' := 15) ?_
    obtain ⟨b15, hF⟩ := sd_ok hF
    refine sd_iald C sd_i107 sd_k107 sd_n107 b15 dX11_worthIn_15 rfl (n' := 16) ?_
    refine sd_icmp_ge C (n' := 19) (tgt := 97) dX11_worthIn_16 rfl rfl (fun c16 => ?_) (fun c16 => ?_)
    · replace hF := sd_pos hF c16
      refine sd_lload C 5 dX11_worthIn_97 rfl rfl (n' := 99) ?_
      exact sd_lret C dX11_worthIn_99 (Option.some.inj hF) rfl
    · replace hF := sd_neg hF c16
      refine sd_iload_n C 3 dX11_worthIn_19 rfl rfl rfl (n' := 20) ?_
      refine sd_if_ne C (n' := 23) (tgt := 28) dX11_worthIn_20 rfl rfl (fun c20 => ?_) (fun c20 => ?_)
      · replace hF := sd_neg hF c20
        refine sd_iload C 4 dX11_worthIn_28 rfl rfl (n' := 30) ?_
        exact tb_X11_worthIn_30 C ih x1 x2 x3 x4 l5 x7 x4 hF
      · replace hF := sd_pos hF c20
        refine sd_iload C 6 dX11_worthIn_23 rfl rfl (n' := 25) ?_
        refine sd_goto C (tgt := 30) dX11_worthIn_25 rfl ?_
        exact tb_X11_worthIn_30 C ih x1 x2 x3 x4 l5 x7 x7 hF
set_option maxRecDepth 100000 in
set_option maxHeartbeats 4000000 in
theorem tb_X11_worthIn_0 {K : sd_K} {E : sd_Env} {M : sd_Mem}  {r : Int64} (C : sd_C K E sd_LM RX11 cX11_worthIn 10 (some .long))  : ∀ (x1 : Int32) (x2 : Int32) (x3 : Int32) (x4 : Int32), fn_X11_worthIn_0 M x1 x2 x3 x4 = some r → sd_Z K rm_X11_worthIn E sd_LM 10 (sd_QL K E sd_LM r M) M 0 [(0, .ref (E.2.2 100)), (1, .int x1), (2, .int x2), (3, .int x3), (4, .int x4)] [] := by
  intro x1 x2 x3 x4 hF
  unfold fn_X11_worthIn_0 at hF
  refine sd_lconst C (v := 0) dX11_worthIn_0 rfl rfl (n' := 1) ?_
  refine sd_lstore [(5, .long (0 : Int64)), (0, .ref (E.2.2 100)), (1, .int x1), (2, .int x2), (3, .int x3), (4, .int x4)] C dX11_worthIn_1 (by decide) rfl rfl (n' := 3) ?_
  refine sd_iconst C (v := 0) dX11_worthIn_3 rfl rfl (n' := 4) ?_
  refine sd_istore [(7, .int (0 : Int32)), (5, .long (0 : Int64)), (0, .ref (E.2.2 100)), (1, .int x1), (2, .int x2), (3, .int x3), (4, .int x4)] C dX11_worthIn_4 (by decide) rfl rfl (n' := 6) ?_
  refine sd_sub [2, 3, 4, 5, 6, 1, 0] rfl ?_
  exact tb_X11_worthIn_6 C sd_FU x1 x2 x3 x4 (0 : Int64) (0 : Int32) hF
theorem ct_X11_worthIn {l : Launch} {E : sd_Env} (M : sd_Mem) (x1 : Int32) (x2 : Int32) (x3 : Int32) (x4 : Int32)  {r : Int64} (hF : fn_X11_worthIn M x1 x2 x3 x4 = some r) : sd_ML l E sd_LM yX11_worthIn cX11_worthIn 10 (some .long) rm_X11_worthIn [.ref (E.2.2 100), .int x1, .int x2, .int x3, .int x4] M r M := sd_ent0 (by decide +kernel) (Nat.le_of_ble_eq_true rfl) (fun p e s m below meth c C => tb_X11_worthIn_0 C x1 x2 x3 x4 hF)
theorem dX11_whole_0 : decode cX11_whole 0 = .ok (.aload_n 0, 1) := by decide +kernel
theorem dX11_whole_1 : decode cX11_whole 1 = .ok (.invokevirtual 188, 3) := by decide +kernel
theorem dX11_whole_4 : decode cX11_whole 4 = .ok (.invokestatic 212, 3) := by decide +kernel
theorem dX11_whole_7 : decode cX11_whole 7 = .ok (.aload_n 0, 1) := by decide +kernel
theorem dX11_whole_8 : decode cX11_whole 8 = .ok (.iconst 1, 1) := by decide +kernel
theorem dX11_whole_9 : decode cX11_whole 9 = .ok (.iload_n 1, 1) := by decide +kernel
theorem dX11_whole_10 : decode cX11_whole 10 = .ok (.isub, 1) := by decide +kernel
theorem dX11_whole_11 : decode cX11_whole 11 = .ok (.aload_n 0, 1) := by decide +kernel
theorem dX11_whole_12 : decode cX11_whole 12 = .ok (.iconst 1, 1) := by decide +kernel
theorem dX11_whole_13 : decode cX11_whole 13 = .ok (.iload_n 1, 1) := by decide +kernel
theorem dX11_whole_14 : decode cX11_whole 14 = .ok (.isub, 1) := by decide +kernel
theorem dX11_whole_15 : decode cX11_whole 15 = .ok (.invokevirtual 178, 3) := by decide +kernel
theorem dX11_whole_18 : decode cX11_whole 18 = .ok (.invokevirtual 181, 3) := by decide +kernel
theorem dX11_whole_21 : decode cX11_whole 21 = .ok (.i2l, 1) := by decide +kernel
theorem dX11_whole_22 : decode cX11_whole 22 = .ok (.lmul, 1) := by decide +kernel
theorem dX11_whole_23 : decode cX11_whole 23 = .ok (.lreturn, 1) := by decide +kernel
set_option maxRecDepth 100000 in
set_option maxHeartbeats 4000000 in
theorem tb_X11_whole_0 {K : sd_K} {E : sd_Env} {M : sd_Mem}  {r : Int64} (C : sd_C K E sd_LM RX11 cX11_whole 2 (some .long))  : ∀ (x1 : Int32), fn_X11_whole_0 M x1 = some r → sd_Z K rm_X11_whole E sd_LM 2 (sd_QL K E sd_LM r M) M 0 [(0, .ref (E.2.2 100)), (1, .int x1)] [] := by
  intro x1 hF
  unfold fn_X11_whole_0 at hF
  refine sd_aload_n C 0 dX11_whole_0 rfl rfl rfl (n' := 1) ?_
  obtain ⟨q1, e1, hF⟩ := sd_bind hF
  refine sd_callVI [] [] C (ct_X11_last M   e1) sd_lX11_188 ⟨rfl, rfl, Nat.le_of_ble_eq_true rfl, Nat.le_of_ble_eq_true rfl⟩ sd_i100 (sd_e12 sd_k100) rfl rfl rfl (Nat.le_of_ble_eq_true rfl) dX11_whole_1 rfl (n' := 4) ?_
  obtain ⟨q4, e4, hF⟩ := sd_bind hF
  refine sd_callSL [.int q1] [] C (ct_X11_twelve M q1  e4) sd_lX11_212 ⟨rfl, rfl, Nat.le_of_ble_eq_true rfl, Nat.le_of_ble_eq_true rfl⟩ rfl (Nat.le_of_ble_eq_true rfl) dX11_whole_4 rfl (n' := 7) ?_
  refine sd_aload_n C 0 dX11_whole_7 rfl rfl rfl (n' := 8) ?_
  refine sd_iconst C (v := 1) dX11_whole_8 rfl rfl (n' := 9) ?_
  refine sd_iload_n C 1 dX11_whole_9 rfl rfl rfl (n' := 10) ?_
  refine sd_isub C dX11_whole_10 rfl (n' := 11) ?_
  refine sd_aload_n C 0 dX11_whole_11 rfl rfl rfl (n' := 12) ?_
  refine sd_iconst C (v := 1) dX11_whole_12 rfl rfl (n' := 13) ?_
  refine sd_iload_n C 1 dX11_whole_13 rfl rfl rfl (n' := 14) ?_
  refine sd_isub C dX11_whole_14 rfl (n' := 15) ?_
  obtain ⟨q15, e15, hF⟩ := sd_bind hF
  refine sd_callVI [.int ((1 : Int32) - x1)] [.int ((1 : Int32) - x1), .ref (E.2.2 100), .long q4] C (ct_X11_whoAll M ((1 : Int32) - x1)  e15) sd_lX11_178 ⟨rfl, rfl, Nat.le_of_ble_eq_true rfl, Nat.le_of_ble_eq_true rfl⟩ sd_i100 (sd_e12 sd_k100) rfl rfl rfl (Nat.le_of_ble_eq_true rfl) dX11_whole_15 rfl (n' := 18) ?_
  obtain ⟨q18, e18, hF⟩ := sd_bind hF
  refine sd_callVI [.int ((1 : Int32) - x1), .int q15] [.long q4] C (ct_X11_chances M ((1 : Int32) - x1) q15  e18) sd_lX11_181 ⟨rfl, rfl, Nat.le_of_ble_eq_true rfl, Nat.le_of_ble_eq_true rfl⟩ sd_i100 (sd_e12 sd_k100) rfl rfl rfl (Nat.le_of_ble_eq_true rfl) dX11_whole_18 rfl (n' := 21) ?_
  refine sd_i2l C dX11_whole_21 rfl (n' := 22) ?_
  refine sd_lmul C dX11_whole_22 rfl (n' := 23) ?_
  exact sd_lret C dX11_whole_23 (Option.some.inj hF) rfl
theorem ct_X11_whole {l : Launch} {E : sd_Env} (M : sd_Mem) (x1 : Int32)  {r : Int64} (hF : fn_X11_whole M x1 = some r) : sd_ML l E sd_LM yX11_whole cX11_whole 2 (some .long) rm_X11_whole [.ref (E.2.2 100), .int x1] M r M := sd_ent0 (by decide +kernel) (Nat.le_of_ble_eq_true rfl) (fun p e s m below meth c C => tb_X11_whole_0 C x1 hF)
theorem dX11_share_0 : decode cX11_share 0 = .ok (.lload_n 1, 1) := by decide +kernel
theorem dX11_share_1 : decode cX11_share 1 = .ok (.lconst 0, 1) := by decide +kernel
theorem dX11_share_2 : decode cX11_share 2 = .ok (.lcmp, 1) := by decide +kernel
theorem dX11_share_3 : decode cX11_share 3 = .ok (.ifCond .ge 8, 3) := by decide +kernel
theorem dX11_share_6 : decode cX11_share 6 = .ok (.lload_n 1, 1) := by decide +kernel
theorem dX11_share_7 : decode cX11_share 7 = .ok (.lneg, 1) := by decide +kernel
theorem dX11_share_8 : decode cX11_share 8 = .ok (.goto 4, 3) := by decide +kernel
theorem dX11_share_11 : decode cX11_share 11 = .ok (.lload_n 1, 1) := by decide +kernel
theorem dX11_share_12 : decode cX11_share 12 = .ok (.lstore 6, 2) := by decide +kernel
theorem dX11_share_14 : decode cX11_share 14 = .ok (.lload_n 3, 1) := by decide +kernel
theorem dX11_share_15 : decode cX11_share 15 = .ok (.lstore 8, 2) := by decide +kernel
theorem dX11_share_17 : decode cX11_share 17 = .ok (.lload 8, 2) := by decide +kernel
theorem dX11_share_19 : decode cX11_share 19 = .ok (.lconst 0, 1) := by decide +kernel
theorem dX11_share_20 : decode cX11_share 20 = .ok (.lcmp, 1) := by decide +kernel
theorem dX11_share_21 : decode cX11_share 21 = .ok (.ifCond .eq 21, 3) := by decide +kernel
theorem dX11_share_24 : decode cX11_share 24 = .ok (.lload 6, 2) := by decide +kernel
theorem dX11_share_26 : decode cX11_share 26 = .ok (.lload 8, 2) := by decide +kernel
theorem dX11_share_28 : decode cX11_share 28 = .ok (.lrem, 1) := by decide +kernel
theorem dX11_share_29 : decode cX11_share 29 = .ok (.lstore 10, 2) := by decide +kernel
theorem dX11_share_31 : decode cX11_share 31 = .ok (.lload 8, 2) := by decide +kernel
theorem dX11_share_33 : decode cX11_share 33 = .ok (.lstore 6, 2) := by decide +kernel
theorem dX11_share_35 : decode cX11_share 35 = .ok (.lload 10, 2) := by decide +kernel
theorem dX11_share_37 : decode cX11_share 37 = .ok (.lstore 8, 2) := by decide +kernel
theorem dX11_share_39 : decode cX11_share 39 = .ok (.goto (-22), 3) := by decide +kernel
theorem dX11_share_42 : decode cX11_share 42 = .ok (.aload_n 0, 1) := by decide +kernel
theorem dX11_share_43 : decode cX11_share 43 = .ok (.lload_n 1, 1) := by decide +kernel
theorem dX11_share_44 : decode cX11_share 44 = .ok (.lload 6, 2) := by decide +kernel
theorem dX11_share_46 : decode cX11_share 46 = .ok (.ldiv, 1) := by decide +kernel
theorem dX11_share_47 : decode cX11_share 47 = .ok (.putfield 94, 3) := by decide +kernel
theorem dX11_share_50 : decode cX11_share 50 = .ok (.aload_n 0, 1) := by decide +kernel
theorem dX11_share_51 : decode cX11_share 51 = .ok (.lload_n 3, 1) := by decide +kernel
theorem dX11_share_52 : decode cX11_share 52 = .ok (.lload 6, 2) := by decide +kernel
theorem dX11_share_54 : decode cX11_share 54 = .ok (.ldiv, 1) := by decide +kernel
theorem dX11_share_55 : decode cX11_share 55 = .ok (.putfield 13, 3) := by decide +kernel
theorem dX11_share_58 : decode cX11_share 58 = .ok (.iload 5, 2) := by decide +kernel
theorem dX11_share_60 : decode cX11_share 60 = .ok (.ireturn, 1) := by decide +kernel
set_option maxRecDepth 100000 in
set_option maxHeartbeats 4000000 in
theorem tb_X11_share_42 {K : sd_K} {E : sd_Env}   {r : (Int32 × sd_Mem)} (C : sd_C K E sd_LM RX11 cX11_share 12 (some .int))  : ∀ (M : sd_Mem) (l1 : Int64) (l3 : Int64) (x5 : Int32) (l6 : Int64), fn_X11_share_42 M l1 l3 x5 l6 = some r → sd_Z K rm_X11_share E sd_LM 12 (sd_QI K E sd_LM r.1 r.2) M 42 [(0, .ref (E.2.2 100)), (1, .long l1), (3, .long l3), (5, .int x5), (6, .long l6)] [] := by
  intro M l1 l3 x5 l6 hF
  unfold fn_X11_share_42 at hF
  refine sd_aload_n C 0 dX11_share_42 rfl rfl rfl (n' := 43) ?_
  refine sd_lload_n C 1 dX11_share_43 rfl rfl rfl (n' := 44) ?_
  refine sd_lload C 4 dX11_share_44 rfl rfl (n' := 46) ?_
  obtain ⟨b46, hF⟩ := sd_ok hF
  refine sd_ldiv C dX11_share_46 b46 rfl (n' := 47) ?_
  refine sd_p11_3 C sd_i100 sd_k100 sd_w1044 dX11_share_47 rfl (n' := 50) ?_
  refine sd_aload_n C 0 dX11_share_50 rfl rfl rfl (n' := 51) ?_
  refine sd_lload_n C 2 dX11_share_51 rfl rfl rfl (n' := 52) ?_
  refine sd_lload C 4 dX11_share_52 rfl rfl (n' := 54) ?_
  obtain ⟨b54, hF⟩ := sd_ok hF
  refine sd_ldiv C dX11_share_54 b54 rfl (n' := 55) ?_
  refine sd_p11_4 C sd_i100 sd_k100 sd_w1045 dX11_share_55 rfl (n' := 58) ?_
  refine sd_iload C 3 dX11_share_58 rfl rfl (n' := 60) ?_
  exact sd_iret C dX11_share_60 (sd_fst hF) (sd_snd hF)
set_option maxRecDepth 100000 in
set_option maxHeartbeats 4000000 in
theorem tb_X11_share_17 {K : sd_K} {E : sd_Env}   {r : (Int32 × sd_Mem)} (C : sd_C K E sd_LM RX11 cX11_share 12 (some .int))  : ∀ (n : Nat), ∀ (M : sd_Mem) (l1 : Int64) (l3 : Int64) (x5 : Int32) (l6 : Int64) (l8 : Int64), fn_X11_share_17 n M l1 l3 x5 l6 l8 = some r → sd_Z K rm_X11_share E sd_LM 12 (sd_QI K E sd_LM r.1 r.2) M 17 [(0, .ref (E.2.2 100)), (1, .long l1), (3, .long l3), (5, .int x5), (6, .long l6), (8, .long l8)] [] := by
  intro n
  induction n with
  | zero => intro M l1 l3 x5 l6 l8 hF; cases hF
  | succ n ih =>
    intro M l1 l3 x5 l6 l8 hF
    unfold fn_X11_share_17 at hF
    refine sd_lload C 5 dX11_share_17 rfl rfl (n' := 19) ?_
    refine sd_lconst C (v := 0) dX11_share_19 rfl rfl (n' := 20) ?_
    refine sd_lcmp C dX11_share_20 rfl (n' := 21) ?_
    refine sd_if_eq C (n' := 24) (tgt := 42) dX11_share_21 rfl rfl (fun c21 => ?_) (fun c21 => ?_)
    · replace hF := sd_pos hF c21
      refine sd_sub [0, 1, 2, 3, 4] rfl ?_
      exact tb_X11_share_42 C M l1 l3 x5 l6 hF
    · replace hF := sd_neg hF c21
      refine sd_lload C 4 dX11_share_24 rfl rfl (n' := 26) ?_
      refine sd_lload C 5 dX11_share_26 rfl rfl (n' := 28) ?_
      obtain ⟨b28, hF⟩ := sd_ok hF
      refine sd_lrem C dX11_share_28 b28 rfl (n' := 29) ?_
      refine sd_lstore [(10, .long (l6 - l6 / l8 * l8)), (0, .ref (E.2.2 100)), (1, .long l1), (3, .long l3), (5, .int x5), (6, .long l6), (8, .long l8)] C dX11_share_29 (by decide) rfl rfl (n' := 31) ?_
      refine sd_lload C 6 dX11_share_31 rfl rfl (n' := 33) ?_
      refine sd_lstore [(6, .long l8), (10, .long (l6 - l6 / l8 * l8)), (0, .ref (E.2.2 100)), (1, .long l1), (3, .long l3), (5, .int x5), (8, .long l8)] C dX11_share_33 (by decide) rfl rfl (n' := 35) ?_
      refine sd_lload C 1 dX11_share_35 rfl rfl (n' := 37) ?_
      refine sd_lstore [(8, .long (l6 - l6 / l8 * l8)), (6, .long l8), (10, .long (l6 - l6 / l8 * l8)), (0, .ref (E.2.2 100)), (1, .long l1), (3, .long l3), (5, .int x5)] C dX11_share_37 (by decide) rfl rfl (n' := 39) ?_
      refine sd_goto C (tgt := 17) dX11_share_39 rfl ?_
      refine sd_sub [3, 4, 5, 6, 1, 0] rfl ?_
      exact ih M l1 l3 x5 l8 (l6 - l6 / l8 * l8) hF
set_option maxRecDepth 100000 in
set_option maxHeartbeats 4000000 in
theorem tb_X11_share_0 {K : sd_K} {E : sd_Env}   {r : (Int32 × sd_Mem)} (C : sd_C K E sd_LM RX11 cX11_share 12 (some .int))  : ∀ (M : sd_Mem) (l1 : Int64) (l3 : Int64) (x5 : Int32), fn_X11_share_0 M l1 l3 x5 = some r → sd_Z K rm_X11_share E sd_LM 12 (sd_QI K E sd_LM r.1 r.2) M 0 [(0, .ref (E.2.2 100)), (1, .long l1), (3, .long l3), (5, .int x5)] [] := by
  intro M l1 l3 x5 hF
  unfold fn_X11_share_0 at hF
  refine sd_lload_n C 1 dX11_share_0 rfl rfl rfl (n' := 1) ?_
  refine sd_lconst C (v := 0) dX11_share_1 rfl rfl (n' := 2) ?_
  refine sd_lcmp C dX11_share_2 rfl (n' := 3) ?_
  refine sd_if_ge C (n' := 6) (tgt := 11) dX11_share_3 rfl rfl (fun c3 => ?_) (fun c3 => ?_)
  · replace hF := sd_pos hF c3
    refine sd_lload_n C 1 dX11_share_11 rfl rfl rfl (n' := 12) ?_
    refine sd_lstore [(6, .long l1), (0, .ref (E.2.2 100)), (1, .long l1), (3, .long l3), (5, .int x5)] C dX11_share_12 (by decide) rfl rfl (n' := 14) ?_
    refine sd_lload_n C 3 dX11_share_14 rfl rfl rfl (n' := 15) ?_
    refine sd_lstore [(8, .long l3), (6, .long l1), (0, .ref (E.2.2 100)), (1, .long l1), (3, .long l3), (5, .int x5)] C dX11_share_15 (by decide) rfl rfl (n' := 17) ?_
    refine sd_sub [2, 3, 4, 5, 1, 0] rfl ?_
    exact tb_X11_share_17 C sd_FU M l1 l3 x5 l1 l3 hF
  · replace hF := sd_neg hF c3
    refine sd_lload_n C 1 dX11_share_6 rfl rfl rfl (n' := 7) ?_
    refine sd_lneg C dX11_share_7 rfl (n' := 8) ?_
    refine sd_goto C (tgt := 12) dX11_share_8 rfl ?_
    refine sd_lstore [(6, .long (-l1)), (0, .ref (E.2.2 100)), (1, .long l1), (3, .long l3), (5, .int x5)] C dX11_share_12 (by decide) rfl rfl (n' := 14) ?_
    refine sd_lload_n C 3 dX11_share_14 rfl rfl rfl (n' := 15) ?_
    refine sd_lstore [(8, .long l3), (6, .long (-l1)), (0, .ref (E.2.2 100)), (1, .long l1), (3, .long l3), (5, .int x5)] C dX11_share_15 (by decide) rfl rfl (n' := 17) ?_
    refine sd_sub [2, 3, 4, 5, 1, 0] rfl ?_
    exact tb_X11_share_17 C sd_FU M l1 l3 x5 (-l1) l3 hF
theorem ct_X11_share {l : Launch} {E : sd_Env} (M : sd_Mem) (l1 : Int64) (l3 : Int64) (x5 : Int32)  {r : (Int32 × sd_Mem)} (hF : fn_X11_share M l1 l3 x5 = some r) : sd_MI l E sd_LM yX11_share cX11_share 12 (some .int) rm_X11_share [.ref (E.2.2 100), .long l1, .long l3, .int x5] M r.1 r.2 := sd_ent0 (by decide +kernel) (Nat.le_of_ble_eq_true rfl) (fun p e s m below meth c C => tb_X11_share_0 C M l1 l3 x5 hF)
theorem dX11_worth_0 : decode cX11_worth 0 = .ok (.aload_n 0, 1) := by decide +kernel
theorem dX11_worth_1 : decode cX11_worth 1 = .ok (.iload_n 3, 1) := by decide +kernel
theorem dX11_worth_2 : decode cX11_worth 2 = .ok (.iload 4, 2) := by decide +kernel
theorem dX11_worth_4 : decode cX11_worth 4 = .ok (.invokevirtual 153, 3) := by decide +kernel
theorem dX11_worth_7 : decode cX11_worth 7 = .ok (.ifCond .ne 5, 3) := by decide +kernel
theorem dX11_worth_10 : decode cX11_worth 10 = .ok (.iconst (-1), 1) := by decide +kernel
theorem dX11_worth_11 : decode cX11_worth 11 = .ok (.ireturn, 1) := by decide +kernel
theorem dX11_worth_12 : decode cX11_worth 12 = .ok (.aload_n 0, 1) := by decide +kernel
theorem dX11_worth_13 : decode cX11_worth 13 = .ok (.iload_n 1, 1) := by decide +kernel
theorem dX11_worth_14 : decode cX11_worth 14 = .ok (.iload_n 2, 1) := by decide +kernel
theorem dX11_worth_15 : decode cX11_worth 15 = .ok (.iconst 1, 1) := by decide +kernel
theorem dX11_worth_16 : decode cX11_worth 16 = .ok (.invokevirtual 195, 3) := by decide +kernel
theorem dX11_worth_19 : decode cX11_worth 19 = .ok (.istore 5, 2) := by decide +kernel
theorem dX11_worth_21 : decode cX11_worth 21 = .ok (.iload 5, 2) := by decide +kernel
theorem dX11_worth_23 : decode cX11_worth 23 = .ok (.ifCond .ge 8, 3) := by decide +kernel
theorem dX11_worth_26 : decode cX11_worth 26 = .ok (.iload 5, 2) := by decide +kernel
theorem dX11_worth_28 : decode cX11_worth 28 = .ok (.goto 22, 3) := by decide +kernel
theorem dX11_worth_31 : decode cX11_worth 31 = .ok (.aload_n 0, 1) := by decide +kernel
theorem dX11_worth_32 : decode cX11_worth 32 = .ok (.aload_n 0, 1) := by decide +kernel
theorem dX11_worth_33 : decode cX11_worth 33 = .ok (.iload_n 1, 1) := by decide +kernel
theorem dX11_worth_34 : decode cX11_worth 34 = .ok (.iload_n 2, 1) := by decide +kernel
theorem dX11_worth_35 : decode cX11_worth 35 = .ok (.iload_n 3, 1) := by decide +kernel
theorem dX11_worth_36 : decode cX11_worth 36 = .ok (.iload 4, 2) := by decide +kernel
theorem dX11_worth_38 : decode cX11_worth 38 = .ok (.invokevirtual 219, 3) := by decide +kernel
theorem dX11_worth_41 : decode cX11_worth 41 = .ok (.aload_n 0, 1) := by decide +kernel
theorem dX11_worth_42 : decode cX11_worth 42 = .ok (.iload_n 3, 1) := by decide +kernel
theorem dX11_worth_43 : decode cX11_worth 43 = .ok (.invokevirtual 222, 3) := by decide +kernel
theorem dX11_worth_46 : decode cX11_worth 46 = .ok (.iconst 1, 1) := by decide +kernel
theorem dX11_worth_47 : decode cX11_worth 47 = .ok (.invokevirtual 225, 3) := by decide +kernel
theorem dX11_worth_50 : decode cX11_worth 50 = .ok (.ireturn, 1) := by decide +kernel
set_option maxRecDepth 100000 in
set_option maxHeartbeats 4000000 in
theorem tb_X11_worth_0 {K : sd_K} {E : sd_Env}   {r : (Int32 × sd_Mem)} (C : sd_C K E sd_LM RX11 cX11_worth 6 (some .int))  : ∀ (M : sd_Mem) (x1 : Int32) (x2 : Int32) (x3 : Int32) (x4 : Int32), fn_X11_worth_0 M x1 x2 x3 x4 = some r → sd_Z K rm_X11_worth E sd_LM 6 (sd_QI K E sd_LM r.1 r.2) M 0 [(0, .ref (E.2.2 100)), (1, .int x1), (2, .int x2), (3, .int x3), (4, .int x4)] [] := by
  intro M x1 x2 x3 x4 hF
  unfold fn_X11_worth_0 at hF
  refine sd_aload_n C 0 dX11_worth_0 rfl rfl rfl (n' := 1) ?_
  refine sd_iload_n C 3 dX11_worth_1 rfl rfl rfl (n' := 2) ?_
  refine sd_iload C 4 dX11_worth_2 rfl rfl (n' := 4) ?_
  obtain ⟨q4, e4, hF⟩ := sd_bind hF
  refine sd_callVI [.int x3, .int x4] [] C (ct_X11_isSort M x3 x4  e4) sd_lX11_153 ⟨rfl, rfl, Nat.le_of_ble_eq_true rfl, Nat.le_of_ble_eq_true rfl⟩ sd_i100 (sd_e12 sd_k100) rfl rfl rfl (Nat.le_of_ble_eq_true rfl) dX11_worth_4 rfl (n' := 7) ?_
  refine sd_if_ne C (n' := 10) (tgt := 12) dX11_worth_7 rfl rfl (fun c7 => ?_) (fun c7 => ?_)
  · replace hF := sd_neg hF c7
    refine sd_aload_n C 0 dX11_worth_12 rfl rfl rfl (n' := 13) ?_
    refine sd_iload_n C 1 dX11_worth_13 rfl rfl rfl (n' := 14) ?_
    refine sd_iload_n C 2 dX11_worth_14 rfl rfl rfl (n' := 15) ?_
    refine sd_iconst C (v := 1) dX11_worth_15 rfl rfl (n' := 16) ?_
    obtain ⟨q16, e16, hF⟩ := sd_bind hF
    refine sd_callVI [.int x1, .int x2, .int (1 : Int32)] [] C (ct_X11_askedTwo M x1 x2 (1 : Int32)  e16) sd_lX11_195 ⟨rfl, rfl, Nat.le_of_ble_eq_true rfl, Nat.le_of_ble_eq_true rfl⟩ sd_i100 (sd_e12 sd_k100) rfl rfl rfl (Nat.le_of_ble_eq_true rfl) dX11_worth_16 rfl (n' := 19) ?_
    refine sd_istore [(5, .int q16.1), (0, .ref (E.2.2 100)), (1, .int x1), (2, .int x2), (3, .int x3), (4, .int x4)] C dX11_worth_19 (by decide) rfl rfl (n' := 21) ?_
    refine sd_iload C 0 dX11_worth_21 rfl rfl (n' := 23) ?_
    refine sd_if_ge C (n' := 26) (tgt := 31) dX11_worth_23 rfl rfl (fun c23 => ?_) (fun c23 => ?_)
    · replace hF := sd_pos hF c23
      refine sd_aload_n C 1 dX11_worth_31 rfl rfl rfl (n' := 32) ?_
      refine sd_aload_n C 1 dX11_worth_32 rfl rfl rfl (n' := 33) ?_
      refine sd_iload_n C 2 dX11_worth_33 rfl rfl rfl (n' := 34) ?_
      refine sd_iload_n C 3 dX11_worth_34 rfl rfl rfl (n' := 35) ?_
      refine sd_iload_n C 4 dX11_worth_35 rfl rfl rfl (n' := 36) ?_
      refine sd_iload C 5 dX11_worth_36 rfl rfl (n' := 38) ?_
      obtain ⟨q38, e38, hF⟩ := sd_bind hF
      refine sd_callVL [.int x1, .int x2, .int x3, .int x4] [.ref (E.2.2 100)] C (ct_X11_worthIn q16.2 x1 x2 x3 x4  e38) sd_lX11_219 ⟨rfl, rfl, Nat.le_of_ble_eq_true rfl, Nat.le_of_ble_eq_true rfl⟩ sd_i100 (sd_e12 sd_k100) rfl rfl rfl (Nat.le_of_ble_eq_true rfl) dX11_worth_38 rfl (n' := 41) ?_
      refine sd_aload_n C 1 dX11_worth_41 rfl rfl rfl (n' := 42) ?_
      refine sd_iload_n C 4 dX11_worth_42 rfl rfl rfl (n' := 43) ?_
      obtain ⟨q43, e43, hF⟩ := sd_bind hF
      refine sd_callVL [.int x3] [.long q38, .ref (E.2.2 100)] C (ct_X11_whole q16.2 x3  e43) sd_lX11_222 ⟨rfl, rfl, Nat.le_of_ble_eq_true rfl, Nat.le_of_ble_eq_true rfl⟩ sd_i100 (sd_e12 sd_k100) rfl rfl rfl (Nat.le_of_ble_eq_true rfl) dX11_worth_43 rfl (n' := 46) ?_
      refine sd_iconst C (v := 1) dX11_worth_46 rfl rfl (n' := 47) ?_
      obtain ⟨q47, e47, hF⟩ := sd_bind hF
      refine sd_callVI [.long q38, .long q43, .int (1 : Int32)] [] C (ct_X11_share q16.2 q38 q43 (1 : Int32)  e47) sd_lX11_225 ⟨rfl, rfl, Nat.le_of_ble_eq_true rfl, Nat.le_of_ble_eq_true rfl⟩ sd_i100 (sd_e12 sd_k100) rfl rfl rfl (Nat.le_of_ble_eq_true rfl) dX11_worth_47 rfl (n' := 50) ?_
      exact sd_iret C dX11_worth_50 (sd_fst hF) (sd_snd hF)
    · replace hF := sd_neg hF c23
      refine sd_iload C 0 dX11_worth_26 rfl rfl (n' := 28) ?_
      refine sd_goto C (tgt := 50) dX11_worth_28 rfl ?_
      exact sd_iret C dX11_worth_50 (sd_fst hF) (sd_snd hF)
  · replace hF := sd_pos hF c7
    refine sd_iconst C (v := -1) dX11_worth_10 rfl rfl (n' := 11) ?_
    exact sd_iret C dX11_worth_11 (sd_fst hF) (sd_snd hF)
theorem ct_X11_worth {l : Launch} {E : sd_Env} (M : sd_Mem) (x1 : Int32) (x2 : Int32) (x3 : Int32) (x4 : Int32)  {r : (Int32 × sd_Mem)} (hF : fn_X11_worth M x1 x2 x3 x4 = some r) : sd_MI l E sd_LM yX11_worth cX11_worth 6 (some .int) rm_X11_worth [.ref (E.2.2 100), .int x1, .int x2, .int x3, .int x4] M r.1 r.2 := sd_ent0 (by decide +kernel) (Nat.le_of_ble_eq_true rfl) (fun p e s m below meth c C => tb_X11_worth_0 C M x1 x2 x3 x4 hF)
theorem dX11_notTaken_0 : decode cX11_notTaken 0 = .ok (.iconst 0, 1) := by decide +kernel
theorem dX11_notTaken_1 : decode cX11_notTaken 1 = .ok (.istore 5, 2) := by decide +kernel
theorem dX11_notTaken_3 : decode cX11_notTaken 3 = .ok (.iconst 0, 1) := by decide +kernel
theorem dX11_notTaken_4 : decode cX11_notTaken 4 = .ok (.istore 6, 2) := by decide +kernel
theorem dX11_notTaken_6 : decode cX11_notTaken 6 = .ok (.iload 6, 2) := by decide +kernel
theorem dX11_notTaken_8 : decode cX11_notTaken 8 = .ok (.aload_n 0, 1) := by decide +kernel
theorem dX11_notTaken_9 : decode cX11_notTaken 9 = .ok (.getfield 32, 3) := by decide +kernel
theorem dX11_notTaken_12 : decode cX11_notTaken 12 = .ok (.iconst 0, 1) := by decide +kernel
theorem dX11_notTaken_13 : decode cX11_notTaken 13 = .ok (.iaload, 1) := by decide +kernel
theorem dX11_notTaken_14 : decode cX11_notTaken 14 = .ok (.if_icmp .ge 36, 3) := by decide +kernel
theorem dX11_notTaken_17 : decode cX11_notTaken 17 = .ok (.iload 5, 2) := by decide +kernel
theorem dX11_notTaken_19 : decode cX11_notTaken 19 = .ok (.aload_n 0, 1) := by decide +kernel
theorem dX11_notTaken_20 : decode cX11_notTaken 20 = .ok (.iload_n 1, 1) := by decide +kernel
theorem dX11_notTaken_21 : decode cX11_notTaken 21 = .ok (.iload_n 2, 1) := by decide +kernel
theorem dX11_notTaken_22 : decode cX11_notTaken 22 = .ok (.iload_n 3, 1) := by decide +kernel
theorem dX11_notTaken_23 : decode cX11_notTaken 23 = .ok (.iload 6, 2) := by decide +kernel
theorem dX11_notTaken_25 : decode cX11_notTaken 25 = .ok (.invokevirtual 199, 3) := by decide +kernel
theorem dX11_notTaken_28 : decode cX11_notTaken 28 = .ok (.iload 4, 2) := by decide +kernel
theorem dX11_notTaken_30 : decode cX11_notTaken 30 = .ok (.if_icmp .le 10, 3) := by decide +kernel
theorem dX11_notTaken_33 : decode cX11_notTaken 33 = .ok (.iconst 1, 1) := by decide +kernel
theorem dX11_notTaken_34 : decode cX11_notTaken 34 = .ok (.iload 6, 2) := by decide +kernel
theorem dX11_notTaken_36 : decode cX11_notTaken 36 = .ok (.ishl, 1) := by decide +kernel
theorem dX11_notTaken_37 : decode cX11_notTaken 37 = .ok (.goto 4, 3) := by decide +kernel
theorem dX11_notTaken_40 : decode cX11_notTaken 40 = .ok (.iconst 0, 1) := by decide +kernel
theorem dX11_notTaken_41 : decode cX11_notTaken 41 = .ok (.ior, 1) := by decide +kernel
theorem dX11_notTaken_42 : decode cX11_notTaken 42 = .ok (.istore 5, 2) := by decide +kernel
theorem dX11_notTaken_44 : decode cX11_notTaken 44 = .ok (.iinc 6 1, 3) := by decide +kernel
theorem dX11_notTaken_47 : decode cX11_notTaken 47 = .ok (.goto (-41), 3) := by decide +kernel
theorem dX11_notTaken_50 : decode cX11_notTaken 50 = .ok (.iload 5, 2) := by decide +kernel
theorem dX11_notTaken_52 : decode cX11_notTaken 52 = .ok (.ireturn, 1) := by decide +kernel
set_option maxRecDepth 100000 in
set_option maxHeartbeats 4000000 in
theorem tb_X11_notTaken_6 {K : sd_K} {E : sd_Env} {M : sd_Mem}  {r : Int32} (C : sd_C K E sd_LM RX11 cX11_notTaken 7 (some .int))  : ∀ (n : Nat), ∀ (x1 : Int32) (x2 : Int32) (x3 : Int32) (x4 : Int32) (x5 : Int32) (x6 : Int32), fn_X11_notTaken_6 M n x1 x2 x3 x4 x5 x6 = some r → sd_Z K rm_X11_notTaken E sd_LM 7 (sd_QI K E sd_LM r M) M 6 [(0, .ref (E.2.2 100)), (1, .int x1), (2, .int x2), (3, .int x3), (4, .int x4), (5, .int x5), (6, .int x6)] [] := by
  intro n
  induction n with
  | zero => intro x1 x2 x3 x4 x5 x6 hF; cases hF
  | succ n ih =>
    intro x1 x2 x3 x4 x5 x6 hF
    unfold fn_X11_notTaken_6 at hF
    refine sd_iload C 6 dX11_notTaken_6 rfl rfl (n' := 8) ?_
    refine sd_aload_n C 0 dX11_notTaken_8 rfl rfl rfl (n' := 9) ?_
    refine sd_g11_10 C sd_i100 sd_k100 sd_w1051 dX11_notTaken_9 rfl (n' := 12) ?_
    refine sd_iconst C (v := 0) dX11_notTaken_12 rfl rfl (n' := 13) ?_
    obtain ⟨b13, hF⟩ := sd_ok hF
    refine sd_iald C sd_i107 sd_k107 sd_n107 b13 dX11_notTaken_13 rfl (n' := 14) ?_
    refine sd_icmp_ge C (n' := 17) (tgt := 50) dX11_notTaken_14 rfl rfl (fun c14 => ?_) (fun c14 => ?_)
    · replace hF := sd_pos hF c14
      refine sd_iload C 5 dX11_notTaken_50 rfl rfl (n' := 52) ?_
      exact sd_iret C dX11_notTaken_52 (Option.some.inj hF) rfl
    · replace hF := sd_neg hF c14
      refine sd_iload C 5 dX11_notTaken_17 rfl rfl (n' := 19) ?_
      refine sd_aload_n C 0 dX11_notTaken_19 rfl rfl rfl (n' := 20) ?_
      refine sd_iload_n C 1 dX11_notTaken_20 rfl rfl rfl (n' := 21) ?_
      refine sd_iload_n C 2 dX11_notTaken_21 rfl rfl rfl (n' := 22) ?_
      refine sd_iload_n C 3 dX11_notTaken_22 rfl rfl rfl (n' := 23) ?_
      refine sd_iload C 6 dX11_notTaken_23 rfl rfl (n' := 25) ?_
      obtain ⟨q25, e25, hF⟩ := sd_bind hF
      refine sd_callVI [.int x1, .int x2, .int x3, .int x6] [.int x5] C (ct_X11_dayOf M x1 x2 x3 x6  e25) sd_lX11_199 ⟨rfl, rfl, Nat.le_of_ble_eq_true rfl, Nat.le_of_ble_eq_true rfl⟩ sd_i100 (sd_e12 sd_k100) rfl rfl rfl (Nat.le_of_ble_eq_true rfl) dX11_notTaken_25 rfl (n' := 28) ?_
      refine sd_iload C 4 dX11_notTaken_28 rfl rfl (n' := 30) ?_
      refine sd_icmp_le C (n' := 33) (tgt := 40) dX11_notTaken_30 rfl rfl (fun c30 => ?_) (fun c30 => ?_)
      · replace hF := sd_pos hF c30
        refine sd_iconst C (v := 0) dX11_notTaken_40 rfl rfl (n' := 41) ?_
        refine sd_ior C dX11_notTaken_41 rfl (n' := 42) ?_
        refine sd_istore [(5, .int (x5 ||| (0 : Int32))), (0, .ref (E.2.2 100)), (1, .int x1), (2, .int x2), (3, .int x3), (4, .int x4), (6, .int x6)] C dX11_notTaken_42 (by decide) rfl rfl (n' := 44) ?_
        refine sd_iinc [(6, .int (x6 + (1 : Int32))), (5, .int (x5 ||| (0 : Int32))), (0, .ref (E.2.2 100)), (1, .int x1), (2, .int x2), (3, .int x3), (4, .int x4)] 6 C dX11_notTaken_44 rfl rfl (by decide) rfl rfl (n' := 47) ?_
        refine sd_goto C (tgt := 6) dX11_notTaken_47 rfl ?_
        refine sd_sub [2, 3, 4, 5, 6, 1, 0] rfl ?_
        exact ih x1 x2 x3 x4 (x5 ||| (0 : Int32)) (x6 + (1 : Int32)) hF
      · replace hF := sd_neg hF c30
        refine sd_iconst C (v := 1) dX11_notTaken_33 rfl rfl (n' := 34) ?_
        refine sd_iload C 6 dX11_notTaken_34 rfl rfl (n' := 36) ?_
        refine sd_ishl C dX11_notTaken_36 rfl (n' := 37) ?_
        refine sd_goto C (tgt := 41) dX11_notTaken_37 rfl ?_
        refine sd_ior C dX11_notTaken_41 rfl (n' := 42) ?_
        refine sd_istore [(5, .int (x5 ||| ((1 : Int32) <<< (x6 &&& 31)))), (0, .ref (E.2.2 100)), (1, .int x1), (2, .int x2), (3, .int x3), (4, .int x4), (6, .int x6)] C dX11_notTaken_42 (by decide) rfl rfl (n' := 44) ?_
        refine sd_iinc [(6, .int (x6 + (1 : Int32))), (5, .int (x5 ||| ((1 : Int32) <<< (x6 &&& 31)))), (0, .ref (E.2.2 100)), (1, .int x1), (2, .int x2), (3, .int x3), (4, .int x4)] 6 C dX11_notTaken_44 rfl rfl (by decide) rfl rfl (n' := 47) ?_
        refine sd_goto C (tgt := 6) dX11_notTaken_47 rfl ?_
        refine sd_sub [2, 3, 4, 5, 6, 1, 0] rfl ?_
        exact ih x1 x2 x3 x4 (x5 ||| ((1 : Int32) <<< (x6 &&& 31))) (x6 + (1 : Int32)) hF
set_option maxRecDepth 100000 in
set_option maxHeartbeats 4000000 in
theorem tb_X11_notTaken_0 {K : sd_K} {E : sd_Env} {M : sd_Mem}  {r : Int32} (C : sd_C K E sd_LM RX11 cX11_notTaken 7 (some .int))  : ∀ (x1 : Int32) (x2 : Int32) (x3 : Int32) (x4 : Int32), fn_X11_notTaken_0 M x1 x2 x3 x4 = some r → sd_Z K rm_X11_notTaken E sd_LM 7 (sd_QI K E sd_LM r M) M 0 [(0, .ref (E.2.2 100)), (1, .int x1), (2, .int x2), (3, .int x3), (4, .int x4)] [] := by
  intro x1 x2 x3 x4 hF
  unfold fn_X11_notTaken_0 at hF
  refine sd_iconst C (v := 0) dX11_notTaken_0 rfl rfl (n' := 1) ?_
  refine sd_istore [(5, .int (0 : Int32)), (0, .ref (E.2.2 100)), (1, .int x1), (2, .int x2), (3, .int x3), (4, .int x4)] C dX11_notTaken_1 (by decide) rfl rfl (n' := 3) ?_
  refine sd_iconst C (v := 0) dX11_notTaken_3 rfl rfl (n' := 4) ?_
  refine sd_istore [(6, .int (0 : Int32)), (5, .int (0 : Int32)), (0, .ref (E.2.2 100)), (1, .int x1), (2, .int x2), (3, .int x3), (4, .int x4)] C dX11_notTaken_4 (by decide) rfl rfl (n' := 6) ?_
  refine sd_sub [2, 3, 4, 5, 6, 1, 0] rfl ?_
  exact tb_X11_notTaken_6 C sd_FU x1 x2 x3 x4 (0 : Int32) (0 : Int32) hF
theorem ct_X11_notTaken {l : Launch} {E : sd_Env} (M : sd_Mem) (x1 : Int32) (x2 : Int32) (x3 : Int32) (x4 : Int32)  {r : Int32} (hF : fn_X11_notTaken M x1 x2 x3 x4 = some r) : sd_MI l E sd_LM yX11_notTaken cX11_notTaken 7 (some .int) rm_X11_notTaken [.ref (E.2.2 100), .int x1, .int x2, .int x3, .int x4] M r M := sd_ent0 (by decide +kernel) (Nat.le_of_ble_eq_true rfl) (fun p e s m below meth c C => tb_X11_notTaken_0 C x1 x2 x3 x4 hF)
theorem dX11_alikeTo_0 : decode cX11_alikeTo 0 = .ok (.iconst 0, 1) := by decide +kernel
theorem dX11_alikeTo_1 : decode cX11_alikeTo 1 = .ok (.istore 4, 2) := by decide +kernel
theorem dX11_alikeTo_3 : decode cX11_alikeTo 3 = .ok (.iconst 0, 1) := by decide +kernel
theorem dX11_alikeTo_4 : decode cX11_alikeTo 4 = .ok (.istore 5, 2) := by decide +kernel
theorem dX11_alikeTo_6 : decode cX11_alikeTo 6 = .ok (.iload 5, 2) := by decide +kernel
theorem dX11_alikeTo_8 : decode cX11_alikeTo 8 = .ok (.aload_n 0, 1) := by decide +kernel
theorem dX11_alikeTo_9 : decode cX11_alikeTo 9 = .ok (.getfield 32, 3) := by decide +kernel
theorem dX11_alikeTo_12 : decode cX11_alikeTo 12 = .ok (.iconst 1, 1) := by decide +kernel
theorem dX11_alikeTo_13 : decode cX11_alikeTo 13 = .ok (.iaload, 1) := by decide +kernel
theorem dX11_alikeTo_14 : decode cX11_alikeTo 14 = .ok (.if_icmp .ge 89, 3) := by decide +kernel
theorem dX11_alikeTo_17 : decode cX11_alikeTo 17 = .ok (.iconst 1, 1) := by decide +kernel
theorem dX11_alikeTo_18 : decode cX11_alikeTo 18 = .ok (.istore 6, 2) := by decide +kernel
theorem dX11_alikeTo_20 : decode cX11_alikeTo 20 = .ok (.aload_n 0, 1) := by decide +kernel
theorem dX11_alikeTo_21 : decode cX11_alikeTo 21 = .ok (.getfield 44, 3) := by decide +kernel
theorem dX11_alikeTo_24 : decode cX11_alikeTo 24 = .ok (.istore 7, 2) := by decide +kernel
theorem dX11_alikeTo_26 : decode cX11_alikeTo 26 = .ok (.iload 7, 2) := by decide +kernel
theorem dX11_alikeTo_28 : decode cX11_alikeTo 28 = .ok (.iload_n 3, 1) := by decide +kernel
theorem dX11_alikeTo_29 : decode cX11_alikeTo 29 = .ok (.if_icmp .gt 50, 3) := by decide +kernel
theorem dX11_alikeTo_32 : decode cX11_alikeTo 32 = .ok (.iload 7, 2) := by decide +kernel
theorem dX11_alikeTo_34 : decode cX11_alikeTo 34 = .ok (.aload_n 0, 1) := by decide +kernel
theorem dX11_alikeTo_35 : decode cX11_alikeTo 35 = .ok (.invokevirtual 188, 3) := by decide +kernel
theorem dX11_alikeTo_38 : decode cX11_alikeTo 38 = .ok (.if_icmp .gt 41, 3) := by decide +kernel
theorem dX11_alikeTo_41 : decode cX11_alikeTo 41 = .ok (.iload 6, 2) := by decide +kernel
theorem dX11_alikeTo_43 : decode cX11_alikeTo 43 = .ok (.ifCond .eq 27, 3) := by decide +kernel
theorem dX11_alikeTo_46 : decode cX11_alikeTo 46 = .ok (.aload_n 0, 1) := by decide +kernel
theorem dX11_alikeTo_47 : decode cX11_alikeTo 47 = .ok (.iload_n 1, 1) := by decide +kernel
theorem dX11_alikeTo_48 : decode cX11_alikeTo 48 = .ok (.iload 5, 2) := by decide +kernel
theorem dX11_alikeTo_50 : decode cX11_alikeTo 50 = .ok (.iload 7, 2) := by decide +kernel
theorem dX11_alikeTo_52 : decode cX11_alikeTo 52 = .ok (.invokevirtual 174, 3) := by decide +kernel
theorem dX11_alikeTo_55 : decode cX11_alikeTo 55 = .ok (.aload_n 0, 1) := by decide +kernel
theorem dX11_alikeTo_56 : decode cX11_alikeTo 56 = .ok (.iload_n 1, 1) := by decide +kernel
theorem dX11_alikeTo_57 : decode cX11_alikeTo 57 = .ok (.iload_n 2, 1) := by decide +kernel
theorem dX11_alikeTo_58 : decode cX11_alikeTo 58 = .ok (.iload 7, 2) := by decide +kernel
theorem dX11_alikeTo_60 : decode cX11_alikeTo 60 = .ok (.invokevirtual 174, 3) := by decide +kernel
theorem dX11_alikeTo_63 : decode cX11_alikeTo 63 = .ok (.if_icmp .ne 7, 3) := by decide +kernel
theorem dX11_alikeTo_66 : decode cX11_alikeTo 66 = .ok (.iconst 1, 1) := by decide +kernel
theorem dX11_alikeTo_67 : decode cX11_alikeTo 67 = .ok (.goto 4, 3) := by decide +kernel
theorem dX11_alikeTo_70 : decode cX11_alikeTo 70 = .ok (.iconst 0, 1) := by decide +kernel
theorem dX11_alikeTo_71 : decode cX11_alikeTo 71 = .ok (.istore 6, 2) := by decide +kernel
theorem dX11_alikeTo_73 : decode cX11_alikeTo 73 = .ok (.iinc 7 1, 3) := by decide +kernel
theorem dX11_alikeTo_76 : decode cX11_alikeTo 76 = .ok (.goto (-50), 3) := by decide +kernel
theorem dX11_alikeTo_79 : decode cX11_alikeTo 79 = .ok (.iload 4, 2) := by decide +kernel
theorem dX11_alikeTo_81 : decode cX11_alikeTo 81 = .ok (.iload 6, 2) := by decide +kernel
theorem dX11_alikeTo_83 : decode cX11_alikeTo 83 = .ok (.ifCond .eq 10, 3) := by decide +kernel
theorem dX11_alikeTo_86 : decode cX11_alikeTo 86 = .ok (.iconst 1, 1) := by decide +kernel
theorem dX11_alikeTo_87 : decode cX11_alikeTo 87 = .ok (.iload 5, 2) := by decide +kernel
theorem dX11_alikeTo_89 : decode cX11_alikeTo 89 = .ok (.ishl, 1) := by decide +kernel
theorem dX11_alikeTo_90 : decode cX11_alikeTo 90 = .ok (.goto 4, 3) := by decide +kernel
theorem dX11_alikeTo_93 : decode cX11_alikeTo 93 = .ok (.iconst 0, 1) := by decide +kernel
theorem dX11_alikeTo_94 : decode cX11_alikeTo 94 = .ok (.ior, 1) := by decide +kernel
theorem dX11_alikeTo_95 : decode cX11_alikeTo 95 = .ok (.istore 4, 2) := by decide +kernel
theorem dX11_alikeTo_97 : decode cX11_alikeTo 97 = .ok (.iinc 5 1, 3) := by decide +kernel
theorem dX11_alikeTo_100 : decode cX11_alikeTo 100 = .ok (.goto (-94), 3) := by decide +kernel
theorem dX11_alikeTo_103 : decode cX11_alikeTo 103 = .ok (.iload 4, 2) := by decide +kernel
theorem dX11_alikeTo_105 : decode cX11_alikeTo 105 = .ok (.ireturn, 1) := by decide +kernel
set_option maxRecDepth 100000 in
set_option maxHeartbeats 4000000 in
theorem tb_X11_alikeTo_79 {K : sd_K} {E : sd_Env} {M : sd_Mem}  {r : Int32} (C : sd_C K E sd_LM RX11 cX11_alikeTo 8 (some .int))  {k6 : Int32 → Int32 → Int32 → Int32 → Int32 → Option Int32} (hk6 : ∀ (x1 : Int32) (x2 : Int32) (x3 : Int32) (x4 : Int32) (x5 : Int32), k6 x1 x2 x3 x4 x5 = some r → sd_Z K rm_X11_alikeTo E sd_LM 8 (sd_QI K E sd_LM r M) M 6 [(0, .ref (E.2.2 100)), (1, .int x1), (2, .int x2), (3, .int x3), (4, .int x4), (5, .int x5)] []) : ∀ (x1 : Int32) (x2 : Int32) (x3 : Int32) (x4 : Int32) (x5 : Int32) (x6 : Int32), fn_X11_alikeTo_79 M k6 x1 x2 x3 x4 x5 x6 = some r → sd_Z K rm_X11_alikeTo E sd_LM 8 (sd_QI K E sd_LM r M) M 79 [(0, .ref (E.2.2 100)), (1, .int x1), (2, .int x2), (3, .int x3), (4, .int x4), (5, .int x5), (6, .int x6)] [] := by
  intro x1 x2 x3 x4 x5 x6 hF
  unfold fn_X11_alikeTo_79 at hF
  refine sd_iload C 4 dX11_alikeTo_79 rfl rfl (n' := 81) ?_
  refine sd_iload C 6 dX11_alikeTo_81 rfl rfl (n' := 83) ?_
  refine sd_if_eq C (n' := 86) (tgt := 93) dX11_alikeTo_83 rfl rfl (fun c83 => ?_) (fun c83 => ?_)
  · replace hF := sd_pos hF c83
    refine sd_iconst C (v := 0) dX11_alikeTo_93 rfl rfl (n' := 94) ?_
    refine sd_ior C dX11_alikeTo_94 rfl (n' := 95) ?_
    refine sd_istore [(4, .int (x4 ||| (0 : Int32))), (0, .ref (E.2.2 100)), (1, .int x1), (2, .int x2), (3, .int x3), (5, .int x5), (6, .int x6)] C dX11_alikeTo_95 (by decide) rfl rfl (n' := 97) ?_
    refine sd_iinc [(5, .int (x5 + (1 : Int32))), (4, .int (x4 ||| (0 : Int32))), (0, .ref (E.2.2 100)), (1, .int x1), (2, .int x2), (3, .int x3), (6, .int x6)] 5 C dX11_alikeTo_97 rfl rfl (by decide) rfl rfl (n' := 100) ?_
    refine sd_goto C (tgt := 6) dX11_alikeTo_100 rfl ?_
    refine sd_sub [2, 3, 4, 5, 1, 0] rfl ?_
    exact hk6 x1 x2 x3 (x4 ||| (0 : Int32)) (x5 + (1 : Int32)) hF
  · replace hF := sd_neg hF c83
    refine sd_iconst C (v := 1) dX11_alikeTo_86 rfl rfl (n' := 87) ?_
    refine sd_iload C 5 dX11_alikeTo_87 rfl rfl (n' := 89) ?_
    refine sd_ishl C dX11_alikeTo_89 rfl (n' := 90) ?_
    refine sd_goto C (tgt := 94) dX11_alikeTo_90 rfl ?_
    refine sd_ior C dX11_alikeTo_94 rfl (n' := 95) ?_
    refine sd_istore [(4, .int (x4 ||| ((1 : Int32) <<< (x5 &&& 31)))), (0, .ref (E.2.2 100)), (1, .int x1), (2, .int x2), (3, .int x3), (5, .int x5), (6, .int x6)] C dX11_alikeTo_95 (by decide) rfl rfl (n' := 97) ?_
    refine sd_iinc [(5, .int (x5 + (1 : Int32))), (4, .int (x4 ||| ((1 : Int32) <<< (x5 &&& 31)))), (0, .ref (E.2.2 100)), (1, .int x1), (2, .int x2), (3, .int x3), (6, .int x6)] 5 C dX11_alikeTo_97 rfl rfl (by decide) rfl rfl (n' := 100) ?_
    refine sd_goto C (tgt := 6) dX11_alikeTo_100 rfl ?_
    refine sd_sub [2, 3, 4, 5, 1, 0] rfl ?_
    exact hk6 x1 x2 x3 (x4 ||| ((1 : Int32) <<< (x5 &&& 31))) (x5 + (1 : Int32)) hF
set_option maxRecDepth 100000 in
set_option maxHeartbeats 4000000 in
theorem tb_X11_alikeTo_26 {K : sd_K} {E : sd_Env} {M : sd_Mem}  {r : Int32} (C : sd_C K E sd_LM RX11 cX11_alikeTo 8 (some .int))  {k6 : Int32 → Int32 → Int32 → Int32 → Int32 → Option Int32} (hk6 : ∀ (x1 : Int32) (x2 : Int32) (x3 : Int32) (x4 : Int32) (x5 : Int32), k6 x1 x2 x3 x4 x5 = some r → sd_Z K rm_X11_alikeTo E sd_LM 8 (sd_QI K E sd_LM r M) M 6 [(0, .ref (E.2.2 100)), (1, .int x1), (2, .int x2), (3, .int x3), (4, .int x4), (5, .int x5)] []) : ∀ (n : Nat), ∀ (x1 : Int32) (x2 : Int32) (x3 : Int32) (x4 : Int32) (x5 : Int32) (x6 : Int32) (x7 : Int32), fn_X11_alikeTo_26 M k6 n x1 x2 x3 x4 x5 x6 x7 = some r → sd_Z K rm_X11_alikeTo E sd_LM 8 (sd_QI K E sd_LM r M) M 26 [(0, .ref (E.2.2 100)), (1, .int x1), (2, .int x2), (3, .int x3), (4, .int x4), (5, .int x5), (6, .int x6), (7, .int x7)] [] := by
  intro n
  induction n with
  | zero => intro x1 x2 x3 x4 x5 x6 x7 hF; cases hF
  | succ n ih =>
    intro x1 x2 x3 x4 x5 x6 x7 hF
    unfold fn_X11_alikeTo_26 at hF
    refine sd_iload C 7 dX11_alikeTo_26 rfl rfl (n' := 28) ?_
    refine sd_iload_n C 3 dX11_alikeTo_28 rfl rfl rfl (n' := 29) ?_
    refine sd_icmp_gt C (n' := 32) (tgt := 79) dX11_alikeTo_29 rfl rfl (fun c29 => ?_) (fun c29 => ?_)
    · replace hF := sd_pos hF c29
      refine sd_sub [0, 1, 2, 3, 4, 5, 6] rfl ?_
      exact tb_X11_alikeTo_79 C hk6 x1 x2 x3 x4 x5 x6 hF
    · replace hF := sd_neg hF c29
      refine sd_iload C 7 dX11_alikeTo_32 rfl rfl (n' := 34) ?_
      refine sd_aload_n C 0 dX11_alikeTo_34 rfl rfl rfl (n' := 35) ?_
      obtain ⟨q35, e35, hF⟩ := sd_bind hF
      refine sd_callVI [] [.int x7] C (ct_X11_last M   e35) sd_lX11_188 ⟨rfl, rfl, Nat.le_of_ble_eq_true rfl, Nat.le_of_ble_eq_true rfl⟩ sd_i100 (sd_e12 sd_k100) rfl rfl rfl (Nat.le_of_ble_eq_true rfl) dX11_alikeTo_35 rfl (n' := 38) ?_
      refine sd_icmp_gt C (n' := 41) (tgt := 79) dX11_alikeTo_38 rfl rfl (fun c38 => ?_) (fun c38 => ?_)
      · replace hF := sd_pos hF c38
        refine sd_sub [0, 1, 2, 3, 4, 5, 6] rfl ?_
        exact tb_X11_alikeTo_79 C hk6 x1 x2 x3 x4 x5 x6 hF
      · replace hF := sd_neg hF c38
        refine sd_iload C 6 dX11_alikeTo_41 rfl rfl (n' := 43) ?_
        refine sd_if_eq C (n' := 46) (tgt := 70) dX11_alikeTo_43 rfl rfl (fun c43 => ?_) (fun c43 => ?_)
        · replace hF := sd_pos hF c43
          refine sd_iconst C (v := 0) dX11_alikeTo_70 rfl rfl (n' := 71) ?_
          refine sd_istore [(6, .int (0 : Int32)), (0, .ref (E.2.2 100)), (1, .int x1), (2, .int x2), (3, .int x3), (4, .int x4), (5, .int x5), (7, .int x7)] C dX11_alikeTo_71 (by decide) rfl rfl (n' := 73) ?_
          refine sd_iinc [(7, .int (x7 + (1 : Int32))), (6, .int (0 : Int32)), (0, .ref (E.2.2 100)), (1, .int x1), (2, .int x2), (3, .int x3), (4, .int x4), (5, .int x5)] 7 C dX11_alikeTo_73 rfl rfl (by decide) rfl rfl (n' := 76) ?_
          refine sd_goto C (tgt := 26) dX11_alikeTo_76 rfl ?_
          refine sd_sub [2, 3, 4, 5, 6, 7, 1, 0] rfl ?_
          exact ih x1 x2 x3 x4 x5 (0 : Int32) (x7 + (1 : Int32)) hF
        · replace hF := sd_neg hF c43
          refine sd_aload_n C 0 dX11_alikeTo_46 rfl rfl rfl (n' := 47) ?_
          refine sd_iload_n C 1 dX11_alikeTo_47 rfl rfl rfl (n' := 48) ?_
          refine sd_iload C 5 dX11_alikeTo_48 rfl rfl (n' := 50) ?_
          refine sd_iload C 7 dX11_alikeTo_50 rfl rfl (n' := 52) ?_
          obtain ⟨q52, e52, hF⟩ := sd_bind hF
          refine sd_callVI [.int x1, .int x5, .int x7] [] C (ct_X11_number M x1 x5 x7  e52) sd_lX11_174 ⟨rfl, rfl, Nat.le_of_ble_eq_true rfl, Nat.le_of_ble_eq_true rfl⟩ sd_i100 (sd_e12 sd_k100) rfl rfl rfl (Nat.le_of_ble_eq_true rfl) dX11_alikeTo_52 rfl (n' := 55) ?_
          refine sd_aload_n C 0 dX11_alikeTo_55 rfl rfl rfl (n' := 56) ?_
          refine sd_iload_n C 1 dX11_alikeTo_56 rfl rfl rfl (n' := 57) ?_
          refine sd_iload_n C 2 dX11_alikeTo_57 rfl rfl rfl (n' := 58) ?_
          refine sd_iload C 7 dX11_alikeTo_58 rfl rfl (n' := 60) ?_
          obtain ⟨q60, e60, hF⟩ := sd_bind hF
          refine sd_callVI [.int x1, .int x2, .int x7] [.int q52] C (ct_X11_number M x1 x2 x7  e60) sd_lX11_174 ⟨rfl, rfl, Nat.le_of_ble_eq_true rfl, Nat.le_of_ble_eq_true rfl⟩ sd_i100 (sd_e12 sd_k100) rfl rfl rfl (Nat.le_of_ble_eq_true rfl) dX11_alikeTo_60 rfl (n' := 63) ?_
          refine sd_icmp_ne C (n' := 66) (tgt := 70) dX11_alikeTo_63 rfl rfl (fun c63 => ?_) (fun c63 => ?_)
          · replace hF := sd_neg hF c63
            refine sd_iconst C (v := 0) dX11_alikeTo_70 rfl rfl (n' := 71) ?_
            refine sd_istore [(6, .int (0 : Int32)), (0, .ref (E.2.2 100)), (1, .int x1), (2, .int x2), (3, .int x3), (4, .int x4), (5, .int x5), (7, .int x7)] C dX11_alikeTo_71 (by decide) rfl rfl (n' := 73) ?_
            refine sd_iinc [(7, .int (x7 + (1 : Int32))), (6, .int (0 : Int32)), (0, .ref (E.2.2 100)), (1, .int x1), (2, .int x2), (3, .int x3), (4, .int x4), (5, .int x5)] 7 C dX11_alikeTo_73 rfl rfl (by decide) rfl rfl (n' := 76) ?_
            refine sd_goto C (tgt := 26) dX11_alikeTo_76 rfl ?_
            refine sd_sub [2, 3, 4, 5, 6, 7, 1, 0] rfl ?_
            exact ih x1 x2 x3 x4 x5 (0 : Int32) (x7 + (1 : Int32)) hF
          · replace hF := sd_pos hF c63
            refine sd_iconst C (v := 1) dX11_alikeTo_66 rfl rfl (n' := 67) ?_
            refine sd_goto C (tgt := 71) dX11_alikeTo_67 rfl ?_
            refine sd_istore [(6, .int (1 : Int32)), (0, .ref (E.2.2 100)), (1, .int x1), (2, .int x2), (3, .int x3), (4, .int x4), (5, .int x5), (7, .int x7)] C dX11_alikeTo_71 (by decide) rfl rfl (n' := 73) ?_
            refine sd_iinc [(7, .int (x7 + (1 : Int32))), (6, .int (1 : Int32)), (0, .ref (E.2.2 100)), (1, .int x1), (2, .int x2), (3, .int x3), (4, .int x4), (5, .int x5)] 7 C dX11_alikeTo_73 rfl rfl (by decide) rfl rfl (n' := 76) ?_
            refine sd_goto C (tgt := 26) dX11_alikeTo_76 rfl ?_
            refine sd_sub [2, 3, 4, 5, 6, 7, 1, 0] rfl ?_
            exact ih x1 x2 x3 x4 x5 (1 : Int32) (x7 + (1 : Int32)) hF
set_option maxRecDepth 100000 in
set_option maxHeartbeats 4000000 in
theorem tb_X11_alikeTo_6 {K : sd_K} {E : sd_Env} {M : sd_Mem}  {r : Int32} (C : sd_C K E sd_LM RX11 cX11_alikeTo 8 (some .int))  : ∀ (n : Nat), ∀ (x1 : Int32) (x2 : Int32) (x3 : Int32) (x4 : Int32) (x5 : Int32), fn_X11_alikeTo_6 M n x1 x2 x3 x4 x5 = some r → sd_Z K rm_X11_alikeTo E sd_LM 8 (sd_QI K E sd_LM r M) M 6 [(0, .ref (E.2.2 100)), (1, .int x1), (2, .int x2), (3, .int x3), (4, .int x4), (5, .int x5)] [] := by
  intro n
  induction n with
  | zero => intro x1 x2 x3 x4 x5 hF; cases hF
  | succ n ih =>
    intro x1 x2 x3 x4 x5 hF
    unfold fn_X11_alikeTo_6 at hF
    refine sd_iload C 5 dX11_alikeTo_6 rfl rfl (n' := 8) ?_
    refine sd_aload_n C 0 dX11_alikeTo_8 rfl rfl rfl (n' := 9) ?_
    refine sd_g11_10 C sd_i100 sd_k100 sd_w1051 dX11_alikeTo_9 rfl (n' := 12) ?_
    refine sd_iconst C (v := 1) dX11_alikeTo_12 rfl rfl (n' := 13) ?_
    obtain ⟨b13, hF⟩ := sd_ok hF
    refine sd_iald C sd_i107 sd_k107 sd_n107 b13 dX11_alikeTo_13 rfl (n' := 14) ?_
    refine sd_icmp_ge C (n' := 17) (tgt := 103) dX11_alikeTo_14 rfl rfl (fun c14 => ?_) (fun c14 => ?_)
    · replace hF := sd_pos hF c14
      refine sd_iload C 4 dX11_alikeTo_103 rfl rfl (n' := 105) ?_
      exact sd_iret C dX11_alikeTo_105 (Option.some.inj hF) rfl
    · replace hF := sd_neg hF c14
      refine sd_iconst C (v := 1) dX11_alikeTo_17 rfl rfl (n' := 18) ?_
      refine sd_istore [(6, .int (1 : Int32)), (0, .ref (E.2.2 100)), (1, .int x1), (2, .int x2), (3, .int x3), (4, .int x4), (5, .int x5)] C dX11_alikeTo_18 (by decide) rfl rfl (n' := 20) ?_
      refine sd_aload_n C 1 dX11_alikeTo_20 rfl rfl rfl (n' := 21) ?_
      refine sd_g11_14 C sd_i100 sd_k100 sd_w1055 dX11_alikeTo_21 rfl (n' := 24) ?_
      refine sd_istore [(7, .int (M.1 100 14)), (6, .int (1 : Int32)), (0, .ref (E.2.2 100)), (1, .int x1), (2, .int x2), (3, .int x3), (4, .int x4), (5, .int x5)] C dX11_alikeTo_24 (by decide) rfl rfl (n' := 26) ?_
      refine sd_sub [2, 3, 4, 5, 6, 7, 1, 0] rfl ?_
      exact tb_X11_alikeTo_26 C ih sd_FU x1 x2 x3 x4 x5 (1 : Int32) (M.1 100 14) hF
set_option maxRecDepth 100000 in
set_option maxHeartbeats 4000000 in
theorem tb_X11_alikeTo_0 {K : sd_K} {E : sd_Env} {M : sd_Mem}  {r : Int32} (C : sd_C K E sd_LM RX11 cX11_alikeTo 8 (some .int))  : ∀ (x1 : Int32) (x2 : Int32) (x3 : Int32), fn_X11_alikeTo_0 M x1 x2 x3 = some r → sd_Z K rm_X11_alikeTo E sd_LM 8 (sd_QI K E sd_LM r M) M 0 [(0, .ref (E.2.2 100)), (1, .int x1), (2, .int x2), (3, .int x3)] [] := by
  intro x1 x2 x3 hF
  unfold fn_X11_alikeTo_0 at hF
  refine sd_iconst C (v := 0) dX11_alikeTo_0 rfl rfl (n' := 1) ?_
  refine sd_istore [(4, .int (0 : Int32)), (0, .ref (E.2.2 100)), (1, .int x1), (2, .int x2), (3, .int x3)] C dX11_alikeTo_1 (by decide) rfl rfl (n' := 3) ?_
  refine sd_iconst C (v := 0) dX11_alikeTo_3 rfl rfl (n' := 4) ?_
  refine sd_istore [(5, .int (0 : Int32)), (4, .int (0 : Int32)), (0, .ref (E.2.2 100)), (1, .int x1), (2, .int x2), (3, .int x3)] C dX11_alikeTo_4 (by decide) rfl rfl (n' := 6) ?_
  refine sd_sub [2, 3, 4, 5, 1, 0] rfl ?_
  exact tb_X11_alikeTo_6 C sd_FU x1 x2 x3 (0 : Int32) (0 : Int32) hF
theorem ct_X11_alikeTo {l : Launch} {E : sd_Env} (M : sd_Mem) (x1 : Int32) (x2 : Int32) (x3 : Int32)  {r : Int32} (hF : fn_X11_alikeTo M x1 x2 x3 = some r) : sd_MI l E sd_LM yX11_alikeTo cX11_alikeTo 8 (some .int) rm_X11_alikeTo [.ref (E.2.2 100), .int x1, .int x2, .int x3] M r M := sd_ent0 (by decide +kernel) (Nat.le_of_ble_eq_true rfl) (fun p e s m below meth c C => tb_X11_alikeTo_0 C x1 x2 x3 hF)
theorem dX11_think_0 : decode cX11_think 0 = .ok (.aload_n 0, 1) := by decide +kernel
theorem dX11_think_1 : decode cX11_think 1 = .ok (.iconst 1, 1) := by decide +kernel
theorem dX11_think_2 : decode cX11_think 2 = .ok (.iload_n 3, 1) := by decide +kernel
theorem dX11_think_3 : decode cX11_think 3 = .ok (.invokevirtual 153, 3) := by decide +kernel
theorem dX11_think_6 : decode cX11_think 6 = .ok (.ifCond .eq 39, 3) := by decide +kernel
theorem dX11_think_9 : decode cX11_think 9 = .ok (.iload 4, 2) := by decide +kernel
theorem dX11_think_11 : decode cX11_think 11 = .ok (.iconst 0, 1) := by decide +kernel
theorem dX11_think_12 : decode cX11_think 12 = .ok (.aload_n 0, 1) := by decide +kernel
theorem dX11_think_13 : decode cX11_think 13 = .ok (.invokevirtual 188, 3) := by decide +kernel
theorem dX11_think_16 : decode cX11_think 16 = .ok (.invokestatic 97, 3) := by decide +kernel
theorem dX11_think_19 : decode cX11_think 19 = .ok (.ifCond .eq 26, 3) := by decide +kernel
theorem dX11_think_22 : decode cX11_think 22 = .ok (.iload 5, 2) := by decide +kernel
theorem dX11_think_24 : decode cX11_think 24 = .ok (.iconst 0, 1) := by decide +kernel
theorem dX11_think_25 : decode cX11_think 25 = .ok (.iconst 1, 1) := by decide +kernel
theorem dX11_think_26 : decode cX11_think 26 = .ok (.invokestatic 97, 3) := by decide +kernel
theorem dX11_think_29 : decode cX11_think 29 = .ok (.ifCond .eq 16, 3) := by decide +kernel
theorem dX11_think_32 : decode cX11_think 32 = .ok (.aload_n 0, 1) := by decide +kernel
theorem dX11_think_33 : decode cX11_think 33 = .ok (.iconst 1, 1) := by decide +kernel
theorem dX11_think_34 : decode cX11_think 34 = .ok (.iload 5, 2) := by decide +kernel
theorem dX11_think_36 : decode cX11_think 36 = .ok (.isub, 1) := by decide +kernel
theorem dX11_think_37 : decode cX11_think 37 = .ok (.iload 6, 2) := by decide +kernel
theorem dX11_think_39 : decode cX11_think 39 = .ok (.invokevirtual 153, 3) := by decide +kernel
theorem dX11_think_42 : decode cX11_think 42 = .ok (.ifCond .ne 5, 3) := by decide +kernel
theorem dX11_think_45 : decode cX11_think 45 = .ok (.iconst (-1), 1) := by decide +kernel
theorem dX11_think_46 : decode cX11_think 46 = .ok (.ireturn, 1) := by decide +kernel
theorem dX11_think_47 : decode cX11_think 47 = .ok (.aload_n 0, 1) := by decide +kernel
theorem dX11_think_48 : decode cX11_think 48 = .ok (.iload_n 1, 1) := by decide +kernel
theorem dX11_think_49 : decode cX11_think 49 = .ok (.iload_n 2, 1) := by decide +kernel
theorem dX11_think_50 : decode cX11_think 50 = .ok (.iconst 1, 1) := by decide +kernel
theorem dX11_think_51 : decode cX11_think 51 = .ok (.invokevirtual 195, 3) := by decide +kernel
theorem dX11_think_54 : decode cX11_think 54 = .ok (.istore 7, 2) := by decide +kernel
theorem dX11_think_56 : decode cX11_think 56 = .ok (.iload 7, 2) := by decide +kernel
theorem dX11_think_58 : decode cX11_think 58 = .ok (.ifCond .ge 6, 3) := by decide +kernel
theorem dX11_think_61 : decode cX11_think 61 = .ok (.iload 7, 2) := by decide +kernel
theorem dX11_think_63 : decode cX11_think 63 = .ok (.ireturn, 1) := by decide +kernel
theorem dX11_think_64 : decode cX11_think 64 = .ok (.aload_n 0, 1) := by decide +kernel
theorem dX11_think_65 : decode cX11_think 65 = .ok (.iload_n 1, 1) := by decide +kernel
theorem dX11_think_66 : decode cX11_think 66 = .ok (.iload_n 2, 1) := by decide +kernel
theorem dX11_think_67 : decode cX11_think 67 = .ok (.iload_n 3, 1) := by decide +kernel
theorem dX11_think_68 : decode cX11_think 68 = .ok (.iload 4, 2) := by decide +kernel
theorem dX11_think_70 : decode cX11_think 70 = .ok (.invokevirtual 229, 3) := by decide +kernel
theorem dX11_think_73 : decode cX11_think 73 = .ok (.istore 8, 2) := by decide +kernel
theorem dX11_think_75 : decode cX11_think 75 = .ok (.iload 8, 2) := by decide +kernel
theorem dX11_think_77 : decode cX11_think 77 = .ok (.ifCond .ne 9, 3) := by decide +kernel
theorem dX11_think_80 : decode cX11_think 80 = .ok (.aload_n 0, 1) := by decide +kernel
theorem dX11_think_81 : decode cX11_think 81 = .ok (.iconst 4, 1) := by decide +kernel
theorem dX11_think_82 : decode cX11_think 82 = .ok (.invokevirtual 105, 3) := by decide +kernel
theorem dX11_think_85 : decode cX11_think 85 = .ok (.ireturn, 1) := by decide +kernel
theorem dX11_think_86 : decode cX11_think 86 = .ok (.iload 5, 2) := by decide +kernel
theorem dX11_think_88 : decode cX11_think 88 = .ok (.ifCond .ne 14, 3) := by decide +kernel
theorem dX11_think_91 : decode cX11_think 91 = .ok (.aload_n 0, 1) := by decide +kernel
theorem dX11_think_92 : decode cX11_think 92 = .ok (.iload_n 1, 1) := by decide +kernel
theorem dX11_think_93 : decode cX11_think 93 = .ok (.iload_n 3, 1) := by decide +kernel
theorem dX11_think_94 : decode cX11_think 94 = .ok (.iload 4, 2) := by decide +kernel
theorem dX11_think_96 : decode cX11_think 96 = .ok (.invokevirtual 232, 3) := by decide +kernel
theorem dX11_think_99 : decode cX11_think 99 = .ok (.goto 5, 3) := by decide +kernel
theorem dX11_think_102 : decode cX11_think 102 = .ok (.iload 8, 2) := by decide +kernel
theorem dX11_think_104 : decode cX11_think 104 = .ok (.istore 9, 2) := by decide +kernel
theorem dX11_think_106 : decode cX11_think 106 = .ok (.aload_n 0, 1) := by decide +kernel
theorem dX11_think_107 : decode cX11_think 107 = .ok (.iload 9, 2) := by decide +kernel
theorem dX11_think_109 : decode cX11_think 109 = .ok (.iload 6, 2) := by decide +kernel
theorem dX11_think_111 : decode cX11_think 111 = .ok (.invokestatic 159, 3) := by decide +kernel
theorem dX11_think_114 : decode cX11_think 114 = .ok (.ifCond .eq 21, 3) := by decide +kernel
theorem dX11_think_117 : decode cX11_think 117 = .ok (.aload_n 0, 1) := by decide +kernel
theorem dX11_think_118 : decode cX11_think 118 = .ok (.getfield 35, 3) := by decide +kernel
theorem dX11_think_121 : decode cX11_think 121 = .ok (.iconst 3, 1) := by decide +kernel
theorem dX11_think_122 : decode cX11_think 122 = .ok (.iconst 1, 1) := by decide +kernel
theorem dX11_think_123 : decode cX11_think 123 = .ok (.iload 5, 2) := by decide +kernel
theorem dX11_think_125 : decode cX11_think 125 = .ok (.isub, 1) := by decide +kernel
theorem dX11_think_126 : decode cX11_think 126 = .ok (.imul, 1) := by decide +kernel
theorem dX11_think_127 : decode cX11_think 127 = .ok (.iload 6, 2) := by decide +kernel
theorem dX11_think_129 : decode cX11_think 129 = .ok (.iadd, 1) := by decide +kernel
theorem dX11_think_130 : decode cX11_think 130 = .ok (.iaload, 1) := by decide +kernel
theorem dX11_think_131 : decode cX11_think 131 = .ok (.i2l, 1) := by decide +kernel
theorem dX11_think_132 : decode cX11_think 132 = .ok (.goto 4, 3) := by decide +kernel
theorem dX11_think_135 : decode cX11_think 135 = .ok (.lconst 0, 1) := by decide +kernel
theorem dX11_think_136 : decode cX11_think 136 = .ok (.aload_n 0, 1) := by decide +kernel
theorem dX11_think_137 : decode cX11_think 137 = .ok (.iconst 1, 1) := by decide +kernel
theorem dX11_think_138 : decode cX11_think 138 = .ok (.iload 5, 2) := by decide +kernel
theorem dX11_think_140 : decode cX11_think 140 = .ok (.isub, 1) := by decide +kernel
theorem dX11_think_141 : decode cX11_think 141 = .ok (.iload 9, 2) := by decide +kernel
theorem dX11_think_143 : decode cX11_think 143 = .ok (.invokevirtual 181, 3) := by decide +kernel
theorem dX11_think_146 : decode cX11_think 146 = .ok (.i2l, 1) := by decide +kernel
theorem dX11_think_147 : decode cX11_think 147 = .ok (.iconst 1, 1) := by decide +kernel
theorem dX11_think_148 : decode cX11_think 148 = .ok (.invokevirtual 225, 3) := by decide +kernel
theorem dX11_think_151 : decode cX11_think 151 = .ok (.ireturn, 1) := by decide +kernel
set_option maxRecDepth 100000 in
set_option maxHeartbeats 4000000 in
theorem tb_X11_think_136 {K : sd_K} {E : sd_Env}   {r : (Int32 × sd_Mem)} (C : sd_C K E sd_LM RX11 cX11_think 10 (some .int))  : ∀ (M : sd_Mem) (x5 : Int32) (x9 : Int32) (ls0 : Int64), fn_X11_think_136 M x5 x9 ls0 = some r → sd_Z K rm_X11_think E sd_LM 10 (sd_QI K E sd_LM r.1 r.2) M 136 [(0, .ref (E.2.2 100)), (5, .int x5), (9, .int x9)] [.long ls0, .ref (E.2.2 100)] := by
  intro M x5 x9 ls0 hF
  unfold fn_X11_think_136 at hF
  refine sd_aload_n C 0 dX11_think_136 rfl rfl rfl (n' := 137) ?_
  refine sd_iconst C (v := 1) dX11_think_137 rfl rfl (n' := 138) ?_
  refine sd_iload C 1 dX11_think_138 rfl rfl (n' := 140) ?_
  refine sd_isub C dX11_think_140 rfl (n' := 141) ?_
  refine sd_iload C 2 dX11_think_141 rfl rfl (n' := 143) ?_
  obtain ⟨q143, e143, hF⟩ := sd_bind hF
  refine sd_callVI [.int ((1 : Int32) - x5), .int x9] [.long ls0, .ref (E.2.2 100)] C (ct_X11_chances M ((1 : Int32) - x5) x9  e143) sd_lX11_181 ⟨rfl, rfl, Nat.le_of_ble_eq_true rfl, Nat.le_of_ble_eq_true rfl⟩ sd_i100 (sd_e12 sd_k100) rfl rfl rfl (Nat.le_of_ble_eq_true rfl) dX11_think_143 rfl (n' := 146) ?_
  refine sd_i2l C dX11_think_146 rfl (n' := 147) ?_
  refine sd_iconst C (v := 1) dX11_think_147 rfl rfl (n' := 148) ?_
  obtain ⟨q148, e148, hF⟩ := sd_bind hF
  refine sd_callVI [.long ls0, .long q143.toInt64, .int (1 : Int32)] [] C (ct_X11_share M ls0 q143.toInt64 (1 : Int32)  e148) sd_lX11_225 ⟨rfl, rfl, Nat.le_of_ble_eq_true rfl, Nat.le_of_ble_eq_true rfl⟩ sd_i100 (sd_e12 sd_k100) rfl rfl rfl (Nat.le_of_ble_eq_true rfl) dX11_think_148 rfl (n' := 151) ?_
  exact sd_iret C dX11_think_151 (sd_fst hF) (sd_snd hF)
set_option maxRecDepth 100000 in
set_option maxHeartbeats 4000000 in
theorem tb_X11_think_104 {K : sd_K} {E : sd_Env}   {r : (Int32 × sd_Mem)} (C : sd_C K E sd_LM RX11 cX11_think 10 (some .int))  : ∀ (M : sd_Mem) (x5 : Int32) (x6 : Int32) (xs0 : Int32), fn_X11_think_104 M x5 x6 xs0 = some r → sd_Z K rm_X11_think E sd_LM 10 (sd_QI K E sd_LM r.1 r.2) M 104 [(0, .ref (E.2.2 100)), (5, .int x5), (6, .int x6)] [.int xs0] := by
  intro M x5 x6 xs0 hF
  unfold fn_X11_think_104 at hF
  refine sd_istore [(9, .int xs0), (0, .ref (E.2.2 100)), (5, .int x5), (6, .int x6)] C dX11_think_104 (by decide) rfl rfl (n' := 106) ?_
  refine sd_aload_n C 1 dX11_think_106 rfl rfl rfl (n' := 107) ?_
  refine sd_iload C 0 dX11_think_107 rfl rfl (n' := 109) ?_
  refine sd_iload C 3 dX11_think_109 rfl rfl (n' := 111) ?_
  obtain ⟨q111, e111, hF⟩ := sd_bind hF
  refine sd_callSI [.int xs0, .int x6] [.ref (E.2.2 100)] C (ct_X11_isIn M xs0 x6  e111) sd_lX11_159 ⟨rfl, rfl, Nat.le_of_ble_eq_true rfl, Nat.le_of_ble_eq_true rfl⟩ rfl (Nat.le_of_ble_eq_true rfl) dX11_think_111 rfl (n' := 114) ?_
  refine sd_if_eq C (n' := 117) (tgt := 135) dX11_think_114 rfl rfl (fun c114 => ?_) (fun c114 => ?_)
  · replace hF := sd_pos hF c114
    refine sd_lconst C (v := 0) dX11_think_135 rfl rfl (n' := 136) ?_
    refine sd_sub [1, 2, 0] rfl ?_
    exact tb_X11_think_136 C M x5 xs0 (0 : Int64) hF
  · replace hF := sd_neg hF c114
    refine sd_aload_n C 1 dX11_think_117 rfl rfl rfl (n' := 118) ?_
    refine sd_g11_11 C sd_i100 sd_k100 sd_w1052 dX11_think_118 rfl (n' := 121) ?_
    refine sd_iconst C (v := 3) dX11_think_121 rfl rfl (n' := 122) ?_
    refine sd_iconst C (v := 1) dX11_think_122 rfl rfl (n' := 123) ?_
    refine sd_iload C 2 dX11_think_123 rfl rfl (n' := 125) ?_
    refine sd_isub C dX11_think_125 rfl (n' := 126) ?_
    refine sd_imul C dX11_think_126 rfl (n' := 127) ?_
    refine sd_iload C 3 dX11_think_127 rfl rfl (n' := 129) ?_
    refine sd_iadd C dX11_think_129 rfl (n' := 130) ?_
    obtain ⟨b130, hF⟩ := sd_ok hF
    refine sd_iald C sd_i108 sd_k108 sd_n108 b130 dX11_think_130 rfl (n' := 131) ?_
    refine sd_i2l C dX11_think_131 rfl (n' := 132) ?_
    refine sd_goto C (tgt := 136) dX11_think_132 rfl ?_
    refine sd_sub [1, 2, 0] rfl ?_
    exact tb_X11_think_136 C M x5 xs0 ((M.1 108 (((3 : Int32) * ((1 : Int32) - x5)) + x6).toNatClampNeg).toInt64) hF
set_option maxRecDepth 100000 in
set_option maxHeartbeats 4000000 in
theorem tb_X11_think_0 {K : sd_K} {E : sd_Env}   {r : (Int32 × sd_Mem)} (C : sd_C K E sd_LM RX11 cX11_think 10 (some .int))  : ∀ (M : sd_Mem) (x1 : Int32) (x2 : Int32) (x3 : Int32) (x4 : Int32) (x5 : Int32) (x6 : Int32), fn_X11_think_0 M x1 x2 x3 x4 x5 x6 = some r → sd_Z K rm_X11_think E sd_LM 10 (sd_QI K E sd_LM r.1 r.2) M 0 [(0, .ref (E.2.2 100)), (1, .int x1), (2, .int x2), (3, .int x3), (4, .int x4), (5, .int x5), (6, .int x6)] [] := by
  intro M x1 x2 x3 x4 x5 x6 hF
  unfold fn_X11_think_0 at hF
  refine sd_aload_n C 0 dX11_think_0 rfl rfl rfl (n' := 1) ?_
  refine sd_iconst C (v := 1) dX11_think_1 rfl rfl (n' := 2) ?_
  refine sd_iload_n C 3 dX11_think_2 rfl rfl rfl (n' := 3) ?_
  obtain ⟨q3, e3, hF⟩ := sd_bind hF
  refine sd_callVI [.int (1 : Int32), .int x3] [] C (ct_X11_isSort M (1 : Int32) x3  e3) sd_lX11_153 ⟨rfl, rfl, Nat.le_of_ble_eq_true rfl, Nat.le_of_ble_eq_true rfl⟩ sd_i100 (sd_e12 sd_k100) rfl rfl rfl (Nat.le_of_ble_eq_true rfl) dX11_think_3 rfl (n' := 6) ?_
  refine sd_if_eq C (n' := 9) (tgt := 45) dX11_think_6 rfl rfl (fun c6 => ?_) (fun c6 => ?_)
  · replace hF := sd_pos hF c6
    refine sd_iconst C (v := -1) dX11_think_45 rfl rfl (n' := 46) ?_
    exact sd_iret C dX11_think_46 (sd_fst hF) (sd_snd hF)
  · replace hF := sd_neg hF c6
    refine sd_iload C 4 dX11_think_9 rfl rfl (n' := 11) ?_
    refine sd_iconst C (v := 0) dX11_think_11 rfl rfl (n' := 12) ?_
    refine sd_aload_n C 0 dX11_think_12 rfl rfl rfl (n' := 13) ?_
    obtain ⟨q13, e13, hF⟩ := sd_bind hF
    refine sd_callVI [] [.int (0 : Int32), .int x4] C (ct_X11_last M   e13) sd_lX11_188 ⟨rfl, rfl, Nat.le_of_ble_eq_true rfl, Nat.le_of_ble_eq_true rfl⟩ sd_i100 (sd_e12 sd_k100) rfl rfl rfl (Nat.le_of_ble_eq_true rfl) dX11_think_13 rfl (n' := 16) ?_
    obtain ⟨q16, e16, hF⟩ := sd_bind hF
    refine sd_callSI [.int x4, .int (0 : Int32), .int q13] [] C (ct_X11_in M x4 (0 : Int32) q13  e16) sd_lX11_97 ⟨rfl, rfl, Nat.le_of_ble_eq_true rfl, Nat.le_of_ble_eq_true rfl⟩ rfl (Nat.le_of_ble_eq_true rfl) dX11_think_16 rfl (n' := 19) ?_
    refine sd_if_eq C (n' := 22) (tgt := 45) dX11_think_19 rfl rfl (fun c19 => ?_) (fun c19 => ?_)
    · replace hF := sd_pos hF c19
      refine sd_iconst C (v := -1) dX11_think_45 rfl rfl (n' := 46) ?_
      exact sd_iret C dX11_think_46 (sd_fst hF) (sd_snd hF)
    · replace hF := sd_neg hF c19
      refine sd_iload C 5 dX11_think_22 rfl rfl (n' := 24) ?_
      refine sd_iconst C (v := 0) dX11_think_24 rfl rfl (n' := 25) ?_
      refine sd_iconst C (v := 1) dX11_think_25 rfl rfl (n' := 26) ?_
      obtain ⟨q26, e26, hF⟩ := sd_bind hF
      refine sd_callSI [.int x5, .int (0 : Int32), .int (1 : Int32)] [] C (ct_X11_in M x5 (0 : Int32) (1 : Int32)  e26) sd_lX11_97 ⟨rfl, rfl, Nat.le_of_ble_eq_true rfl, Nat.le_of_ble_eq_true rfl⟩ rfl (Nat.le_of_ble_eq_true rfl) dX11_think_26 rfl (n' := 29) ?_
      refine sd_if_eq C (n' := 32) (tgt := 45) dX11_think_29 rfl rfl (fun c29 => ?_) (fun c29 => ?_)
      · replace hF := sd_pos hF c29
        refine sd_iconst C (v := -1) dX11_think_45 rfl rfl (n' := 46) ?_
        exact sd_iret C dX11_think_46 (sd_fst hF) (sd_snd hF)
      · replace hF := sd_neg hF c29
        refine sd_aload_n C 0 dX11_think_32 rfl rfl rfl (n' := 33) ?_
        refine sd_iconst C (v := 1) dX11_think_33 rfl rfl (n' := 34) ?_
        refine sd_iload C 5 dX11_think_34 rfl rfl (n' := 36) ?_
        refine sd_isub C dX11_think_36 rfl (n' := 37) ?_
        refine sd_iload C 6 dX11_think_37 rfl rfl (n' := 39) ?_
        obtain ⟨q39, e39, hF⟩ := sd_bind hF
        refine sd_callVI [.int ((1 : Int32) - x5), .int x6] [] C (ct_X11_isSort M ((1 : Int32) - x5) x6  e39) sd_lX11_153 ⟨rfl, rfl, Nat.le_of_ble_eq_true rfl, Nat.le_of_ble_eq_true rfl⟩ sd_i100 (sd_e12 sd_k100) rfl rfl rfl (Nat.le_of_ble_eq_true rfl) dX11_think_39 rfl (n' := 42) ?_
        refine sd_if_ne C (n' := 45) (tgt := 47) dX11_think_42 rfl rfl (fun c42 => ?_) (fun c42 => ?_)
        · replace hF := sd_neg hF c42
          refine sd_aload_n C 0 dX11_think_47 rfl rfl rfl (n' := 48) ?_
          refine sd_iload_n C 1 dX11_think_48 rfl rfl rfl (n' := 49) ?_
          refine sd_iload_n C 2 dX11_think_49 rfl rfl rfl (n' := 50) ?_
          refine sd_iconst C (v := 1) dX11_think_50 rfl rfl (n' := 51) ?_
          obtain ⟨q51, e51, hF⟩ := sd_bind hF
          refine sd_callVI [.int x1, .int x2, .int (1 : Int32)] [] C (ct_X11_askedTwo M x1 x2 (1 : Int32)  e51) sd_lX11_195 ⟨rfl, rfl, Nat.le_of_ble_eq_true rfl, Nat.le_of_ble_eq_true rfl⟩ sd_i100 (sd_e12 sd_k100) rfl rfl rfl (Nat.le_of_ble_eq_true rfl) dX11_think_51 rfl (n' := 54) ?_
          refine sd_istore [(7, .int q51.1), (0, .ref (E.2.2 100)), (1, .int x1), (2, .int x2), (3, .int x3), (4, .int x4), (5, .int x5), (6, .int x6)] C dX11_think_54 (by decide) rfl rfl (n' := 56) ?_
          refine sd_iload C 0 dX11_think_56 rfl rfl (n' := 58) ?_
          refine sd_if_ge C (n' := 61) (tgt := 64) dX11_think_58 rfl rfl (fun c58 => ?_) (fun c58 => ?_)
          · replace hF := sd_pos hF c58
            refine sd_aload_n C 1 dX11_think_64 rfl rfl rfl (n' := 65) ?_
            refine sd_iload_n C 2 dX11_think_65 rfl rfl rfl (n' := 66) ?_
            refine sd_iload_n C 3 dX11_think_66 rfl rfl rfl (n' := 67) ?_
            refine sd_iload_n C 4 dX11_think_67 rfl rfl rfl (n' := 68) ?_
            refine sd_iload C 5 dX11_think_68 rfl rfl (n' := 70) ?_
            obtain ⟨q70, e70, hF⟩ := sd_bind hF
            refine sd_callVI [.int x1, .int x2, .int x3, .int x4] [] C (ct_X11_notTaken q51.2 x1 x2 x3 x4  e70) sd_lX11_229 ⟨rfl, rfl, Nat.le_of_ble_eq_true rfl, Nat.le_of_ble_eq_true rfl⟩ sd_i100 (sd_e12 sd_k100) rfl rfl rfl (Nat.le_of_ble_eq_true rfl) dX11_think_70 rfl (n' := 73) ?_
            refine sd_istore [(8, .int q70), (7, .int q51.1), (0, .ref (E.2.2 100)), (1, .int x1), (2, .int x2), (3, .int x3), (4, .int x4), (5, .int x5), (6, .int x6)] C dX11_think_73 (by decide) rfl rfl (n' := 75) ?_
            refine sd_iload C 0 dX11_think_75 rfl rfl (n' := 77) ?_
            refine sd_if_ne C (n' := 80) (tgt := 86) dX11_think_77 rfl rfl (fun c77 => ?_) (fun c77 => ?_)
            · replace hF := sd_neg hF c77
              refine sd_iload C 7 dX11_think_86 rfl rfl (n' := 88) ?_
              refine sd_if_ne C (n' := 91) (tgt := 102) dX11_think_88 rfl rfl (fun c88 => ?_) (fun c88 => ?_)
              · replace hF := sd_neg hF c88
                refine sd_iload C 0 dX11_think_102 rfl rfl (n' := 104) ?_
                refine sd_sub [2, 7, 8] rfl ?_
                exact tb_X11_think_104 C q51.2 x5 x6 q70 hF
              · replace hF := sd_pos hF c88
                refine sd_aload_n C 2 dX11_think_91 rfl rfl rfl (n' := 92) ?_
                refine sd_iload_n C 3 dX11_think_92 rfl rfl rfl (n' := 93) ?_
                refine sd_iload_n C 5 dX11_think_93 rfl rfl rfl (n' := 94) ?_
                refine sd_iload C 6 dX11_think_94 rfl rfl (n' := 96) ?_
                obtain ⟨q96, e96, hF⟩ := sd_bind hF
                refine sd_callVI [.int x1, .int x3, .int x4] [] C (ct_X11_alikeTo q51.2 x1 x3 x4  e96) sd_lX11_232 ⟨rfl, rfl, Nat.le_of_ble_eq_true rfl, Nat.le_of_ble_eq_true rfl⟩ sd_i100 (sd_e12 sd_k100) rfl rfl rfl (Nat.le_of_ble_eq_true rfl) dX11_think_96 rfl (n' := 99) ?_
                refine sd_goto C (tgt := 104) dX11_think_99 rfl ?_
                refine sd_sub [2, 7, 8] rfl ?_
                exact tb_X11_think_104 C q51.2 x5 x6 q96 hF
            · replace hF := sd_pos hF c77
              refine sd_aload_n C 2 dX11_think_80 rfl rfl rfl (n' := 81) ?_
              refine sd_iconst C (v := 4) dX11_think_81 rfl rfl (n' := 82) ?_
              obtain ⟨q82, e82, hF⟩ := sd_bind hF
              refine sd_callVI [.int (4 : Int32)] [] C (ct_X11_meets q51.2 (4 : Int32)  e82) sd_lX11_105 ⟨rfl, rfl, Nat.le_of_ble_eq_true rfl, Nat.le_of_ble_eq_true rfl⟩ sd_i100 (sd_e12 sd_k100) rfl rfl rfl (Nat.le_of_ble_eq_true rfl) dX11_think_82 rfl (n' := 85) ?_
              exact sd_iret C dX11_think_85 (sd_fst hF) (sd_snd hF)
          · replace hF := sd_neg hF c58
            refine sd_iload C 0 dX11_think_61 rfl rfl (n' := 63) ?_
            exact sd_iret C dX11_think_63 (sd_fst hF) (sd_snd hF)
        · replace hF := sd_pos hF c42
          refine sd_iconst C (v := -1) dX11_think_45 rfl rfl (n' := 46) ?_
          exact sd_iret C dX11_think_46 (sd_fst hF) (sd_snd hF)
theorem ct_X11_think {l : Launch} {E : sd_Env} (M : sd_Mem) (x1 : Int32) (x2 : Int32) (x3 : Int32) (x4 : Int32) (x5 : Int32) (x6 : Int32)  {r : (Int32 × sd_Mem)} (hF : fn_X11_think M x1 x2 x3 x4 x5 x6 = some r) : sd_MI l E sd_LM yX11_think cX11_think 10 (some .int) rm_X11_think [.ref (E.2.2 100), .int x1, .int x2, .int x3, .int x4, .int x5, .int x6] M r.1 r.2 := sd_ent0 (by decide +kernel) (Nat.le_of_ble_eq_true rfl) (fun p e s m below meth c C => tb_X11_think_0 C M x1 x2 x3 x4 x5 x6 hF)
theorem dX11_pairs_0 : decode cX11_pairs 0 = .ok (.aload_n 0, 1) := by decide +kernel
theorem dX11_pairs_1 : decode cX11_pairs 1 = .ok (.iconst 1, 1) := by decide +kernel
theorem dX11_pairs_2 : decode cX11_pairs 2 = .ok (.aload_n 0, 1) := by decide +kernel
theorem dX11_pairs_3 : decode cX11_pairs 3 = .ok (.iconst 1, 1) := by decide +kernel
theorem dX11_pairs_4 : decode cX11_pairs 4 = .ok (.invokevirtual 178, 3) := by decide +kernel
theorem dX11_pairs_7 : decode cX11_pairs 7 = .ok (.invokevirtual 181, 3) := by decide +kernel
theorem dX11_pairs_10 : decode cX11_pairs 10 = .ok (.i2l, 1) := by decide +kernel
theorem dX11_pairs_11 : decode cX11_pairs 11 = .ok (.aload_n 0, 1) := by decide +kernel
theorem dX11_pairs_12 : decode cX11_pairs 12 = .ok (.iconst 0, 1) := by decide +kernel
theorem dX11_pairs_13 : decode cX11_pairs 13 = .ok (.aload_n 0, 1) := by decide +kernel
theorem dX11_pairs_14 : decode cX11_pairs 14 = .ok (.iconst 0, 1) := by decide +kernel
theorem dX11_pairs_15 : decode cX11_pairs 15 = .ok (.invokevirtual 178, 3) := by decide +kernel
theorem dX11_pairs_18 : decode cX11_pairs 18 = .ok (.invokevirtual 181, 3) := by decide +kernel
theorem dX11_pairs_21 : decode cX11_pairs 21 = .ok (.i2l, 1) := by decide +kernel
theorem dX11_pairs_22 : decode cX11_pairs 22 = .ok (.lmul, 1) := by decide +kernel
theorem dX11_pairs_23 : decode cX11_pairs 23 = .ok (.lreturn, 1) := by decide +kernel
set_option maxRecDepth 100000 in
set_option maxHeartbeats 4000000 in
theorem tb_X11_pairs_0 {K : sd_K} {E : sd_Env} {M : sd_Mem}  {r : Int64} (C : sd_C K E sd_LM RX11 cX11_pairs 1 (some .long))  : fn_X11_pairs_0 M = some r → sd_Z K rm_X11_pairs E sd_LM 1 (sd_QL K E sd_LM r M) M 0 [(0, .ref (E.2.2 100))] [] := by
  intro hF
  unfold fn_X11_pairs_0 at hF
  refine sd_aload_n C 0 dX11_pairs_0 rfl rfl rfl (n' := 1) ?_
  refine sd_iconst C (v := 1) dX11_pairs_1 rfl rfl (n' := 2) ?_
  refine sd_aload_n C 0 dX11_pairs_2 rfl rfl rfl (n' := 3) ?_
  refine sd_iconst C (v := 1) dX11_pairs_3 rfl rfl (n' := 4) ?_
  obtain ⟨q4, e4, hF⟩ := sd_bind hF
  refine sd_callVI [.int (1 : Int32)] [.int (1 : Int32), .ref (E.2.2 100)] C (ct_X11_whoAll M (1 : Int32)  e4) sd_lX11_178 ⟨rfl, rfl, Nat.le_of_ble_eq_true rfl, Nat.le_of_ble_eq_true rfl⟩ sd_i100 (sd_e12 sd_k100) rfl rfl rfl (Nat.le_of_ble_eq_true rfl) dX11_pairs_4 rfl (n' := 7) ?_
  obtain ⟨q7, e7, hF⟩ := sd_bind hF
  refine sd_callVI [.int (1 : Int32), .int q4] [] C (ct_X11_chances M (1 : Int32) q4  e7) sd_lX11_181 ⟨rfl, rfl, Nat.le_of_ble_eq_true rfl, Nat.le_of_ble_eq_true rfl⟩ sd_i100 (sd_e12 sd_k100) rfl rfl rfl (Nat.le_of_ble_eq_true rfl) dX11_pairs_7 rfl (n' := 10) ?_
  refine sd_i2l C dX11_pairs_10 rfl (n' := 11) ?_
  refine sd_aload_n C 0 dX11_pairs_11 rfl rfl rfl (n' := 12) ?_
  refine sd_iconst C (v := 0) dX11_pairs_12 rfl rfl (n' := 13) ?_
  refine sd_aload_n C 0 dX11_pairs_13 rfl rfl rfl (n' := 14) ?_
  refine sd_iconst C (v := 0) dX11_pairs_14 rfl rfl (n' := 15) ?_
  obtain ⟨q15, e15, hF⟩ := sd_bind hF
  refine sd_callVI [.int (0 : Int32)] [.int (0 : Int32), .ref (E.2.2 100), .long q7.toInt64] C (ct_X11_whoAll M (0 : Int32)  e15) sd_lX11_178 ⟨rfl, rfl, Nat.le_of_ble_eq_true rfl, Nat.le_of_ble_eq_true rfl⟩ sd_i100 (sd_e12 sd_k100) rfl rfl rfl (Nat.le_of_ble_eq_true rfl) dX11_pairs_15 rfl (n' := 18) ?_
  obtain ⟨q18, e18, hF⟩ := sd_bind hF
  refine sd_callVI [.int (0 : Int32), .int q15] [.long q7.toInt64] C (ct_X11_chances M (0 : Int32) q15  e18) sd_lX11_181 ⟨rfl, rfl, Nat.le_of_ble_eq_true rfl, Nat.le_of_ble_eq_true rfl⟩ sd_i100 (sd_e12 sd_k100) rfl rfl rfl (Nat.le_of_ble_eq_true rfl) dX11_pairs_18 rfl (n' := 21) ?_
  refine sd_i2l C dX11_pairs_21 rfl (n' := 22) ?_
  refine sd_lmul C dX11_pairs_22 rfl (n' := 23) ?_
  exact sd_lret C dX11_pairs_23 (Option.some.inj hF) rfl
theorem ct_X11_pairs {l : Launch} {E : sd_Env} (M : sd_Mem)   {r : Int64} (hF : fn_X11_pairs M = some r) : sd_ML l E sd_LM yX11_pairs cX11_pairs 1 (some .long) rm_X11_pairs [.ref (E.2.2 100)] M r M := sd_ent0 (by decide +kernel) (Nat.le_of_ble_eq_true rfl) (fun p e s m below meth c C => tb_X11_pairs_0 C hF)
theorem dX11_end_0 : decode cX11_end 0 = .ok (.iload_n 3, 1) := by decide +kernel
theorem dX11_end_1 : decode cX11_end 1 = .ok (.iconst 1, 1) := by decide +kernel
theorem dX11_end_2 : decode cX11_end 2 = .ok (.aload_n 0, 1) := by decide +kernel
theorem dX11_end_3 : decode cX11_end 3 = .ok (.invokevirtual 188, 3) := by decide +kernel
theorem dX11_end_6 : decode cX11_end 6 = .ok (.iconst 1, 1) := by decide +kernel
theorem dX11_end_7 : decode cX11_end 7 = .ok (.iadd, 1) := by decide +kernel
theorem dX11_end_8 : decode cX11_end 8 = .ok (.invokestatic 97, 3) := by decide +kernel
theorem dX11_end_11 : decode cX11_end 11 = .ok (.ifCond .ne 5, 3) := by decide +kernel
theorem dX11_end_14 : decode cX11_end 14 = .ok (.iconst (-1), 1) := by decide +kernel
theorem dX11_end_15 : decode cX11_end 15 = .ok (.ireturn, 1) := by decide +kernel
theorem dX11_end_16 : decode cX11_end 16 = .ok (.aload_n 0, 1) := by decide +kernel
theorem dX11_end_17 : decode cX11_end 17 = .ok (.iload_n 1, 1) := by decide +kernel
theorem dX11_end_18 : decode cX11_end 18 = .ok (.iload_n 2, 1) := by decide +kernel
theorem dX11_end_19 : decode cX11_end 19 = .ok (.iconst 1, 1) := by decide +kernel
theorem dX11_end_20 : decode cX11_end 20 = .ok (.invokevirtual 195, 3) := by decide +kernel
theorem dX11_end_23 : decode cX11_end 23 = .ok (.istore 4, 2) := by decide +kernel
theorem dX11_end_25 : decode cX11_end 25 = .ok (.iload 4, 2) := by decide +kernel
theorem dX11_end_27 : decode cX11_end 27 = .ok (.ifCond .ge 6, 3) := by decide +kernel
theorem dX11_end_30 : decode cX11_end 30 = .ok (.iload 4, 2) := by decide +kernel
theorem dX11_end_32 : decode cX11_end 32 = .ok (.ireturn, 1) := by decide +kernel
theorem dX11_end_33 : decode cX11_end 33 = .ok (.lconst 0, 1) := by decide +kernel
theorem dX11_end_34 : decode cX11_end 34 = .ok (.lstore 5, 2) := by decide +kernel
theorem dX11_end_36 : decode cX11_end 36 = .ok (.iconst 0, 1) := by decide +kernel
theorem dX11_end_37 : decode cX11_end 37 = .ok (.istore 7, 2) := by decide +kernel
theorem dX11_end_39 : decode cX11_end 39 = .ok (.iload 7, 2) := by decide +kernel
theorem dX11_end_41 : decode cX11_end 41 = .ok (.aload_n 0, 1) := by decide +kernel
theorem dX11_end_42 : decode cX11_end 42 = .ok (.getfield 32, 3) := by decide +kernel
theorem dX11_end_45 : decode cX11_end 45 = .ok (.iconst 1, 1) := by decide +kernel
theorem dX11_end_46 : decode cX11_end 46 = .ok (.iaload, 1) := by decide +kernel
theorem dX11_end_47 : decode cX11_end 47 = .ok (.if_icmp .ge 71, 3) := by decide +kernel
theorem dX11_end_50 : decode cX11_end 50 = .ok (.iconst 0, 1) := by decide +kernel
theorem dX11_end_51 : decode cX11_end 51 = .ok (.istore 8, 2) := by decide +kernel
theorem dX11_end_53 : decode cX11_end 53 = .ok (.iload 8, 2) := by decide +kernel
theorem dX11_end_55 : decode cX11_end 55 = .ok (.aload_n 0, 1) := by decide +kernel
theorem dX11_end_56 : decode cX11_end 56 = .ok (.getfield 32, 3) := by decide +kernel
theorem dX11_end_59 : decode cX11_end 59 = .ok (.iconst 0, 1) := by decide +kernel
theorem dX11_end_60 : decode cX11_end 60 = .ok (.iaload, 1) := by decide +kernel
theorem dX11_end_61 : decode cX11_end 61 = .ok (.if_icmp .ge 51, 3) := by decide +kernel
theorem dX11_end_64 : decode cX11_end 64 = .ok (.lload 5, 2) := by decide +kernel
theorem dX11_end_66 : decode cX11_end 66 = .ok (.aload_n 0, 1) := by decide +kernel
theorem dX11_end_67 : decode cX11_end 67 = .ok (.iload_n 1, 1) := by decide +kernel
theorem dX11_end_68 : decode cX11_end 68 = .ok (.iload_n 2, 1) := by decide +kernel
theorem dX11_end_69 : decode cX11_end 69 = .ok (.iload 7, 2) := by decide +kernel
theorem dX11_end_71 : decode cX11_end 71 = .ok (.iload 8, 2) := by decide +kernel
theorem dX11_end_73 : decode cX11_end 73 = .ok (.invokevirtual 199, 3) := by decide +kernel
theorem dX11_end_76 : decode cX11_end 76 = .ok (.iload_n 3, 1) := by decide +kernel
theorem dX11_end_77 : decode cX11_end 77 = .ok (.if_icmp .ne 25, 3) := by decide +kernel
theorem dX11_end_80 : decode cX11_end 80 = .ok (.aload_n 0, 1) := by decide +kernel
theorem dX11_end_81 : decode cX11_end 81 = .ok (.getfield 35, 3) := by decide +kernel
theorem dX11_end_84 : decode cX11_end 84 = .ok (.iconst 3, 1) := by decide +kernel
theorem dX11_end_85 : decode cX11_end 85 = .ok (.iload 7, 2) := by decide +kernel
theorem dX11_end_87 : decode cX11_end 87 = .ok (.iadd, 1) := by decide +kernel
theorem dX11_end_88 : decode cX11_end 88 = .ok (.iaload, 1) := by decide +kernel
theorem dX11_end_89 : decode cX11_end 89 = .ok (.i2l, 1) := by decide +kernel
theorem dX11_end_90 : decode cX11_end 90 = .ok (.aload_n 0, 1) := by decide +kernel
theorem dX11_end_91 : decode cX11_end 91 = .ok (.getfield 35, 3) := by decide +kernel
theorem dX11_end_94 : decode cX11_end 94 = .ok (.iload 8, 2) := by decide +kernel
theorem dX11_end_96 : decode cX11_end 96 = .ok (.iaload, 1) := by decide +kernel
theorem dX11_end_97 : decode cX11_end 97 = .ok (.i2l, 1) := by decide +kernel
theorem dX11_end_98 : decode cX11_end 98 = .ok (.lmul, 1) := by decide +kernel
theorem dX11_end_99 : decode cX11_end 99 = .ok (.goto 4, 3) := by decide +kernel
theorem dX11_end_102 : decode cX11_end 102 = .ok (.lconst 0, 1) := by decide +kernel
theorem dX11_end_103 : decode cX11_end 103 = .ok (.ladd, 1) := by decide +kernel
theorem dX11_end_104 : decode cX11_end 104 = .ok (.lstore 5, 2) := by decide +kernel
theorem dX11_end_106 : decode cX11_end 106 = .ok (.iinc 8 1, 3) := by decide +kernel
theorem dX11_end_109 : decode cX11_end 109 = .ok (.goto (-56), 3) := by decide +kernel
theorem dX11_end_112 : decode cX11_end 112 = .ok (.iinc 7 1, 3) := by decide +kernel
theorem dX11_end_115 : decode cX11_end 115 = .ok (.goto (-76), 3) := by decide +kernel
theorem dX11_end_118 : decode cX11_end 118 = .ok (.aload_n 0, 1) := by decide +kernel
theorem dX11_end_119 : decode cX11_end 119 = .ok (.lload 5, 2) := by decide +kernel
theorem dX11_end_121 : decode cX11_end 121 = .ok (.aload_n 0, 1) := by decide +kernel
theorem dX11_end_122 : decode cX11_end 122 = .ok (.invokevirtual 235, 3) := by decide +kernel
theorem dX11_end_125 : decode cX11_end 125 = .ok (.iconst 1, 1) := by decide +kernel
theorem dX11_end_126 : decode cX11_end 126 = .ok (.invokevirtual 225, 3) := by decide +kernel
theorem dX11_end_129 : decode cX11_end 129 = .ok (.ireturn, 1) := by decide +kernel
set_option maxRecDepth 100000 in
set_option maxHeartbeats 4000000 in
theorem tb_X11_end_53 {K : sd_K} {E : sd_Env}   {r : (Int32 × sd_Mem)} (C : sd_C K E sd_LM RX11 cX11_end 9 (some .int))  {k39 : sd_Mem → Int32 → Int32 → Int32 → Int64 → Int32 → Option (Int32 × sd_Mem)} (hk39 : ∀ (M : sd_Mem) (x1 : Int32) (x2 : Int32) (x3 : Int32) (l5 : Int64) (x7 : Int32), k39 M x1 x2 x3 l5 x7 = some r → sd_Z K rm_X11_end E sd_LM 9 (sd_QI K E sd_LM r.1 r.2) M 39 [(0, .ref (E.2.2 100)), (1, .int x1), (2, .int x2), (3, .int x3), (5, .long l5), (7, .int x7)] []) : ∀ (n : Nat), ∀ (M : sd_Mem) (x1 : Int32) (x2 : Int32) (x3 : Int32) (l5 : Int64) (x7 : Int32) (x8 : Int32), fn_X11_end_53 k39 n M x1 x2 x3 l5 x7 x8 = some r → sd_Z K rm_X11_end E sd_LM 9 (sd_QI K E sd_LM r.1 r.2) M 53 [(0, .ref (E.2.2 100)), (1, .int x1), (2, .int x2), (3, .int x3), (5, .long l5), (7, .int x7), (8, .int x8)] [] := by
  intro n
  induction n with
  | zero => intro M x1 x2 x3 l5 x7 x8 hF; cases hF
  | succ n ih =>
    intro M x1 x2 x3 l5 x7 x8 hF
    unfold fn_X11_end_53 at hF
    refine sd_iload C 6 dX11_end_53 rfl rfl (n' := 55) ?_
    refine sd_aload_n C 0 dX11_end_55 rfl rfl rfl (n' := 56) ?_
    refine sd_g11_10 C sd_i100 sd_k100 sd_w1051 dX11_end_56 rfl (n' := 59) ?_
    refine sd_iconst C (v := 0) dX11_end_59 rfl rfl (n' := 60) ?_
    obtain ⟨b60, hF⟩ := sd_ok hF
    refine sd_iald C sd_i107 sd_k107 sd_n107 b60 dX11_end_60 rfl (n' := 61) ?_
    refine sd_icmp_ge C (n' := 64) (tgt := 112) dX11_end_61 rfl rfl (fun c61 => ?_) (fun c61 => ?_)
    · replace hF := sd_pos hF c61
      refine sd_iinc [(7, .int (x7 + (1 : Int32))), (0, .ref (E.2.2 100)), (1, .int x1), (2, .int x2), (3, .int x3), (5, .long l5), (8, .int x8)] 5 C dX11_end_112 rfl rfl (by decide) rfl rfl (n' := 115) ?_
      refine sd_goto C (tgt := 39) dX11_end_115 rfl ?_
      refine sd_sub [1, 2, 3, 4, 5, 0] rfl ?_
      exact hk39 M x1 x2 x3 l5 (x7 + (1 : Int32)) hF
    · replace hF := sd_neg hF c61
      refine sd_lload C 4 dX11_end_64 rfl rfl (n' := 66) ?_
      refine sd_aload_n C 0 dX11_end_66 rfl rfl rfl (n' := 67) ?_
      refine sd_iload_n C 1 dX11_end_67 rfl rfl rfl (n' := 68) ?_
      refine sd_iload_n C 2 dX11_end_68 rfl rfl rfl (n' := 69) ?_
      refine sd_iload C 5 dX11_end_69 rfl rfl (n' := 71) ?_
      refine sd_iload C 6 dX11_end_71 rfl rfl (n' := 73) ?_
      obtain ⟨q73, e73, hF⟩ := sd_bind hF
      refine sd_callVI [.int x1, .int x2, .int x7, .int x8] [.long l5] C (ct_X11_dayOf M x1 x2 x7 x8  e73) sd_lX11_199 ⟨rfl, rfl, Nat.le_of_ble_eq_true rfl, Nat.le_of_ble_eq_true rfl⟩ sd_i100 (sd_e12 sd_k100) rfl rfl rfl (Nat.le_of_ble_eq_true rfl) dX11_end_73 rfl (n' := 76) ?_
      refine sd_iload_n C 3 dX11_end_76 rfl rfl rfl (n' := 77) ?_
      refine sd_icmp_ne C (n' := 80) (tgt := 102) dX11_end_77 rfl rfl (fun c77 => ?_) (fun c77 => ?_)
      · replace hF := sd_neg hF c77
        refine sd_lconst C (v := 0) dX11_end_102 rfl rfl (n' := 103) ?_
        refine sd_ladd C dX11_end_103 rfl (n' := 104) ?_
        refine sd_lstore [(5, .long (l5 + (0 : Int64))), (0, .ref (E.2.2 100)), (1, .int x1), (2, .int x2), (3, .int x3), (7, .int x7), (8, .int x8)] C dX11_end_104 (by decide) rfl rfl (n' := 106) ?_
        refine sd_iinc [(8, .int (x8 + (1 : Int32))), (5, .long (l5 + (0 : Int64))), (0, .ref (E.2.2 100)), (1, .int x1), (2, .int x2), (3, .int x3), (7, .int x7)] 6 C dX11_end_106 rfl rfl (by decide) rfl rfl (n' := 109) ?_
        refine sd_goto C (tgt := 53) dX11_end_109 rfl ?_
        refine sd_sub [2, 3, 4, 5, 1, 6, 0] rfl ?_
        exact ih M x1 x2 x3 (l5 + (0 : Int64)) x7 (x8 + (1 : Int32)) hF
      · replace hF := sd_pos hF c77
        refine sd_aload_n C 0 dX11_end_80 rfl rfl rfl (n' := 81) ?_
        refine sd_g11_11 C sd_i100 sd_k100 sd_w1052 dX11_end_81 rfl (n' := 84) ?_
        refine sd_iconst C (v := 3) dX11_end_84 rfl rfl (n' := 85) ?_
        refine sd_iload C 5 dX11_end_85 rfl rfl (n' := 87) ?_
        refine sd_iadd C dX11_end_87 rfl (n' := 88) ?_
        obtain ⟨b88, hF⟩ := sd_ok hF
        refine sd_iald C sd_i108 sd_k108 sd_n108 b88 dX11_end_88 rfl (n' := 89) ?_
        refine sd_i2l C dX11_end_89 rfl (n' := 90) ?_
        refine sd_aload_n C 0 dX11_end_90 rfl rfl rfl (n' := 91) ?_
        refine sd_g11_11 C sd_i100 sd_k100 sd_w1052 dX11_end_91 rfl (n' := 94) ?_
        refine sd_iload C 6 dX11_end_94 rfl rfl (n' := 96) ?_
        obtain ⟨b96, hF⟩ := sd_ok hF
        refine sd_iald C sd_i108 sd_k108 sd_n108 b96 dX11_end_96 rfl (n' := 97) ?_
        refine sd_i2l C dX11_end_97 rfl (n' := 98) ?_
        refine sd_lmul C dX11_end_98 rfl (n' := 99) ?_
        refine sd_goto C (tgt := 103) dX11_end_99 rfl ?_
        refine sd_ladd C dX11_end_103 rfl (n' := 104) ?_
        refine sd_lstore [(5, .long (l5 + (((M.1 108 ((3 : Int32) + x7).toNatClampNeg).toInt64) * ((M.1 108 x8.toNatClampNeg).toInt64)))), (0, .ref (E.2.2 100)), (1, .int x1), (2, .int x2), (3, .int x3), (7, .int x7), (8, .int x8)] C dX11_end_104 (by decide) rfl rfl (n' := 106) ?_
        refine sd_iinc [(8, .int (x8 + (1 : Int32))), (5, .long (l5 + (((M.1 108 ((3 : Int32) + x7).toNatClampNeg).toInt64) * ((M.1 108 x8.toNatClampNeg).toInt64)))), (0, .ref (E.2.2 100)), (1, .int x1), (2, .int x2), (3, .int x3), (7, .int x7)] 6 C dX11_end_106 rfl rfl (by decide) rfl rfl (n' := 109) ?_
        refine sd_goto C (tgt := 53) dX11_end_109 rfl ?_
        refine sd_sub [2, 3, 4, 5, 1, 6, 0] rfl ?_
        exact ih M x1 x2 x3 (l5 + (((M.1 108 ((3 : Int32) + x7).toNatClampNeg).toInt64) * ((M.1 108 x8.toNatClampNeg).toInt64))) x7 (x8 + (1 : Int32)) hF
set_option maxRecDepth 100000 in
set_option maxHeartbeats 4000000 in
theorem tb_X11_end_118 {K : sd_K} {E : sd_Env}   {r : (Int32 × sd_Mem)} (C : sd_C K E sd_LM RX11 cX11_end 9 (some .int))  : ∀ (M : sd_Mem) (l5 : Int64), fn_X11_end_118 M l5 = some r → sd_Z K rm_X11_end E sd_LM 9 (sd_QI K E sd_LM r.1 r.2) M 118 [(0, .ref (E.2.2 100)), (5, .long l5)] [] := by
  intro M l5 hF
  unfold fn_X11_end_118 at hF
  refine sd_aload_n C 0 dX11_end_118 rfl rfl rfl (n' := 119) ?_
  refine sd_lload C 1 dX11_end_119 rfl rfl (n' := 121) ?_
  refine sd_aload_n C 0 dX11_end_121 rfl rfl rfl (n' := 122) ?_
  obtain ⟨q122, e122, hF⟩ := sd_bind hF
  refine sd_callVL [] [.long l5, .ref (E.2.2 100)] C (ct_X11_pairs M   e122) sd_lX11_235 ⟨rfl, rfl, Nat.le_of_ble_eq_true rfl, Nat.le_of_ble_eq_true rfl⟩ sd_i100 (sd_e12 sd_k100) rfl rfl rfl (Nat.le_of_ble_eq_true rfl) dX11_end_122 rfl (n' := 125) ?_
  refine sd_iconst C (v := 1) dX11_end_125 rfl rfl (n' := 126) ?_
  obtain ⟨q126, e126, hF⟩ := sd_bind hF
  refine sd_callVI [.long l5, .long q122, .int (1 : Int32)] [] C (ct_X11_share M l5 q122 (1 : Int32)  e126) sd_lX11_225 ⟨rfl, rfl, Nat.le_of_ble_eq_true rfl, Nat.le_of_ble_eq_true rfl⟩ sd_i100 (sd_e12 sd_k100) rfl rfl rfl (Nat.le_of_ble_eq_true rfl) dX11_end_126 rfl (n' := 129) ?_
  exact sd_iret C dX11_end_129 (sd_fst hF) (sd_snd hF)
set_option maxRecDepth 100000 in
set_option maxHeartbeats 4000000 in
theorem tb_X11_end_39 {K : sd_K} {E : sd_Env}   {r : (Int32 × sd_Mem)} (C : sd_C K E sd_LM RX11 cX11_end 9 (some .int))  : ∀ (n : Nat), ∀ (M : sd_Mem) (x1 : Int32) (x2 : Int32) (x3 : Int32) (l5 : Int64) (x7 : Int32), fn_X11_end_39 n M x1 x2 x3 l5 x7 = some r → sd_Z K rm_X11_end E sd_LM 9 (sd_QI K E sd_LM r.1 r.2) M 39 [(0, .ref (E.2.2 100)), (1, .int x1), (2, .int x2), (3, .int x3), (5, .long l5), (7, .int x7)] [] := by
  intro n
  induction n with
  | zero => intro M x1 x2 x3 l5 x7 hF; cases hF
  | succ n ih =>
    intro M x1 x2 x3 l5 x7 hF
    unfold fn_X11_end_39 at hF
    refine sd_iload C 5 dX11_end_39 rfl rfl (n' := 41) ?_
    refine sd_aload_n C 0 dX11_end_41 rfl rfl rfl (n' := 42) ?_
    refine sd_g11_10 C sd_i100 sd_k100 sd_w1051 dX11_end_42 rfl (n' := 45) ?_
    refine sd_iconst C (v := 1) dX11_end_45 rfl rfl (n' := 46) ?_
    obtain ⟨b46, hF⟩ := sd_ok hF
    refine sd_iald C sd_i107 sd_k107 sd_n107 b46 dX11_end_46 rfl (n' := 47) ?_
    refine sd_icmp_ge C (n' := 50) (tgt := 118) dX11_end_47 rfl rfl (fun c47 => ?_) (fun c47 => ?_)
    · replace hF := sd_pos hF c47
      refine sd_sub [0, 4] rfl ?_
      exact tb_X11_end_118 C M l5 hF
    · replace hF := sd_neg hF c47
      refine sd_iconst C (v := 0) dX11_end_50 rfl rfl (n' := 51) ?_
      refine sd_istore [(8, .int (0 : Int32)), (0, .ref (E.2.2 100)), (1, .int x1), (2, .int x2), (3, .int x3), (5, .long l5), (7, .int x7)] C dX11_end_51 (by decide) rfl rfl (n' := 53) ?_
      refine sd_sub [1, 2, 3, 4, 5, 6, 0] rfl ?_
      exact tb_X11_end_53 C ih sd_FU M x1 x2 x3 l5 x7 (0 : Int32) hF
set_option maxRecDepth 100000 in
set_option maxHeartbeats 4000000 in
theorem tb_X11_end_0 {K : sd_K} {E : sd_Env}   {r : (Int32 × sd_Mem)} (C : sd_C K E sd_LM RX11 cX11_end 9 (some .int))  : ∀ (M : sd_Mem) (x1 : Int32) (x2 : Int32) (x3 : Int32), fn_X11_end_0 M x1 x2 x3 = some r → sd_Z K rm_X11_end E sd_LM 9 (sd_QI K E sd_LM r.1 r.2) M 0 [(0, .ref (E.2.2 100)), (1, .int x1), (2, .int x2), (3, .int x3)] [] := by
  intro M x1 x2 x3 hF
  unfold fn_X11_end_0 at hF
  refine sd_iload_n C 3 dX11_end_0 rfl rfl rfl (n' := 1) ?_
  refine sd_iconst C (v := 1) dX11_end_1 rfl rfl (n' := 2) ?_
  refine sd_aload_n C 0 dX11_end_2 rfl rfl rfl (n' := 3) ?_
  obtain ⟨q3, e3, hF⟩ := sd_bind hF
  refine sd_callVI [] [.int (1 : Int32), .int x3] C (ct_X11_last M   e3) sd_lX11_188 ⟨rfl, rfl, Nat.le_of_ble_eq_true rfl, Nat.le_of_ble_eq_true rfl⟩ sd_i100 (sd_e12 sd_k100) rfl rfl rfl (Nat.le_of_ble_eq_true rfl) dX11_end_3 rfl (n' := 6) ?_
  refine sd_iconst C (v := 1) dX11_end_6 rfl rfl (n' := 7) ?_
  refine sd_iadd C dX11_end_7 rfl (n' := 8) ?_
  obtain ⟨q8, e8, hF⟩ := sd_bind hF
  refine sd_callSI [.int x3, .int (1 : Int32), .int (q3 + (1 : Int32))] [] C (ct_X11_in M x3 (1 : Int32) (q3 + (1 : Int32))  e8) sd_lX11_97 ⟨rfl, rfl, Nat.le_of_ble_eq_true rfl, Nat.le_of_ble_eq_true rfl⟩ rfl (Nat.le_of_ble_eq_true rfl) dX11_end_8 rfl (n' := 11) ?_
  refine sd_if_ne C (n' := 14) (tgt := 16) dX11_end_11 rfl rfl (fun c11 => ?_) (fun c11 => ?_)
  · replace hF := sd_neg hF c11
    refine sd_aload_n C 0 dX11_end_16 rfl rfl rfl (n' := 17) ?_
    refine sd_iload_n C 1 dX11_end_17 rfl rfl rfl (n' := 18) ?_
    refine sd_iload_n C 2 dX11_end_18 rfl rfl rfl (n' := 19) ?_
    refine sd_iconst C (v := 1) dX11_end_19 rfl rfl (n' := 20) ?_
    obtain ⟨q20, e20, hF⟩ := sd_bind hF
    refine sd_callVI [.int x1, .int x2, .int (1 : Int32)] [] C (ct_X11_askedTwo M x1 x2 (1 : Int32)  e20) sd_lX11_195 ⟨rfl, rfl, Nat.le_of_ble_eq_true rfl, Nat.le_of_ble_eq_true rfl⟩ sd_i100 (sd_e12 sd_k100) rfl rfl rfl (Nat.le_of_ble_eq_true rfl) dX11_end_20 rfl (n' := 23) ?_
    refine sd_istore [(4, .int q20.1), (0, .ref (E.2.2 100)), (1, .int x1), (2, .int x2), (3, .int x3)] C dX11_end_23 (by decide) rfl rfl (n' := 25) ?_
    refine sd_iload C 0 dX11_end_25 rfl rfl (n' := 27) ?_
    refine sd_if_ge C (n' := 30) (tgt := 33) dX11_end_27 rfl rfl (fun c27 => ?_) (fun c27 => ?_)
    · replace hF := sd_pos hF c27
      refine sd_lconst C (v := 0) dX11_end_33 rfl rfl (n' := 34) ?_
      refine sd_lstore [(5, .long (0 : Int64)), (4, .int q20.1), (0, .ref (E.2.2 100)), (1, .int x1), (2, .int x2), (3, .int x3)] C dX11_end_34 (by decide) rfl rfl (n' := 36) ?_
      refine sd_iconst C (v := 0) dX11_end_36 rfl rfl (n' := 37) ?_
      refine sd_istore [(7, .int (0 : Int32)), (5, .long (0 : Int64)), (4, .int q20.1), (0, .ref (E.2.2 100)), (1, .int x1), (2, .int x2), (3, .int x3)] C dX11_end_37 (by decide) rfl rfl (n' := 39) ?_
      refine sd_sub [3, 4, 5, 6, 1, 0] rfl ?_
      exact tb_X11_end_39 C sd_FU q20.2 x1 x2 x3 (0 : Int64) (0 : Int32) hF
    · replace hF := sd_neg hF c27
      refine sd_iload C 0 dX11_end_30 rfl rfl (n' := 32) ?_
      exact sd_iret C dX11_end_32 (sd_fst hF) (sd_snd hF)
  · replace hF := sd_pos hF c11
    refine sd_iconst C (v := -1) dX11_end_14 rfl rfl (n' := 15) ?_
    exact sd_iret C dX11_end_15 (sd_fst hF) (sd_snd hF)
theorem ct_X11_end {l : Launch} {E : sd_Env} (M : sd_Mem) (x1 : Int32) (x2 : Int32) (x3 : Int32)  {r : (Int32 × sd_Mem)} (hF : fn_X11_end M x1 x2 x3 = some r) : sd_MI l E sd_LM yX11_end cX11_end 9 (some .int) rm_X11_end [.ref (E.2.2 100), .int x1, .int x2, .int x3] M r.1 r.2 := sd_ent0 (by decide +kernel) (Nat.le_of_ble_eq_true rfl) (fun p e s m below meth c C => tb_X11_end_0 C M x1 x2 x3 hF)
theorem dX11_offering_0 : decode cX11_offering 0 = .ok (.iconst 0, 1) := by decide +kernel
theorem dX11_offering_1 : decode cX11_offering 1 = .ok (.istore 5, 2) := by decide +kernel
theorem dX11_offering_3 : decode cX11_offering 3 = .ok (.iconst 0, 1) := by decide +kernel
theorem dX11_offering_4 : decode cX11_offering 4 = .ok (.istore 6, 2) := by decide +kernel
theorem dX11_offering_6 : decode cX11_offering 6 = .ok (.iload 6, 2) := by decide +kernel
theorem dX11_offering_8 : decode cX11_offering 8 = .ok (.aload_n 0, 1) := by decide +kernel
theorem dX11_offering_9 : decode cX11_offering 9 = .ok (.getfield 32, 3) := by decide +kernel
theorem dX11_offering_12 : decode cX11_offering 12 = .ok (.iconst 1, 1) := by decide +kernel
theorem dX11_offering_13 : decode cX11_offering 13 = .ok (.iaload, 1) := by decide +kernel
theorem dX11_offering_14 : decode cX11_offering 14 = .ok (.if_icmp .ge 44, 3) := by decide +kernel
theorem dX11_offering_17 : decode cX11_offering 17 = .ok (.iload 5, 2) := by decide +kernel
theorem dX11_offering_19 : decode cX11_offering 19 = .ok (.iload_n 2, 1) := by decide +kernel
theorem dX11_offering_20 : decode cX11_offering 20 = .ok (.iload 6, 2) := by decide +kernel
theorem dX11_offering_22 : decode cX11_offering 22 = .ok (.invokestatic 159, 3) := by decide +kernel
theorem dX11_offering_25 : decode cX11_offering 25 = .ok (.ifCond .eq 23, 3) := by decide +kernel
theorem dX11_offering_28 : decode cX11_offering 28 = .ok (.aload_n 0, 1) := by decide +kernel
theorem dX11_offering_29 : decode cX11_offering 29 = .ok (.iload_n 1, 1) := by decide +kernel
theorem dX11_offering_30 : decode cX11_offering 30 = .ok (.iload 6, 2) := by decide +kernel
theorem dX11_offering_32 : decode cX11_offering 32 = .ok (.iload_n 3, 1) := by decide +kernel
theorem dX11_offering_33 : decode cX11_offering 33 = .ok (.invokevirtual 174, 3) := by decide +kernel
theorem dX11_offering_36 : decode cX11_offering 36 = .ok (.iload 4, 2) := by decide +kernel
theorem dX11_offering_38 : decode cX11_offering 38 = .ok (.if_icmp .ne 10, 3) := by decide +kernel
theorem dX11_offering_41 : decode cX11_offering 41 = .ok (.iconst 1, 1) := by decide +kernel
theorem dX11_offering_42 : decode cX11_offering 42 = .ok (.iload 6, 2) := by decide +kernel
theorem dX11_offering_44 : decode cX11_offering 44 = .ok (.ishl, 1) := by decide +kernel
theorem dX11_offering_45 : decode cX11_offering 45 = .ok (.goto 4, 3) := by decide +kernel
theorem dX11_offering_48 : decode cX11_offering 48 = .ok (.iconst 0, 1) := by decide +kernel
theorem dX11_offering_49 : decode cX11_offering 49 = .ok (.ior, 1) := by decide +kernel
theorem dX11_offering_50 : decode cX11_offering 50 = .ok (.istore 5, 2) := by decide +kernel
theorem dX11_offering_52 : decode cX11_offering 52 = .ok (.iinc 6 1, 3) := by decide +kernel
theorem dX11_offering_55 : decode cX11_offering 55 = .ok (.goto (-49), 3) := by decide +kernel
theorem dX11_offering_58 : decode cX11_offering 58 = .ok (.iload 5, 2) := by decide +kernel
theorem dX11_offering_60 : decode cX11_offering 60 = .ok (.ireturn, 1) := by decide +kernel
set_option maxRecDepth 100000 in
set_option maxHeartbeats 4000000 in
theorem tb_X11_offering_6 {K : sd_K} {E : sd_Env} {M : sd_Mem}  {r : Int32} (C : sd_C K E sd_LM RX11 cX11_offering 7 (some .int))  : ∀ (n : Nat), ∀ (x1 : Int32) (x2 : Int32) (x3 : Int32) (x4 : Int32) (x5 : Int32) (x6 : Int32), fn_X11_offering_6 M n x1 x2 x3 x4 x5 x6 = some r → sd_Z K rm_X11_offering E sd_LM 7 (sd_QI K E sd_LM r M) M 6 [(0, .ref (E.2.2 100)), (1, .int x1), (2, .int x2), (3, .int x3), (4, .int x4), (5, .int x5), (6, .int x6)] [] := by
  intro n
  induction n with
  | zero => intro x1 x2 x3 x4 x5 x6 hF; cases hF
  | succ n ih =>
    intro x1 x2 x3 x4 x5 x6 hF
    unfold fn_X11_offering_6 at hF
    refine sd_iload C 6 dX11_offering_6 rfl rfl (n' := 8) ?_
    refine sd_aload_n C 0 dX11_offering_8 rfl rfl rfl (n' := 9) ?_
    refine sd_g11_10 C sd_i100 sd_k100 sd_w1051 dX11_offering_9 rfl (n' := 12) ?_
    refine sd_iconst C (v := 1) dX11_offering_12 rfl rfl (n' := 13) ?_
    obtain ⟨b13, hF⟩ := sd_ok hF
    refine sd_iald C sd_i107 sd_k107 sd_n107 b13 dX11_offering_13 rfl (n' := 14) ?_
    refine sd_icmp_ge C (n' := 17) (tgt := 58) dX11_offering_14 rfl rfl (fun c14 => ?_) (fun c14 => ?_)
    · replace hF := sd_pos hF c14
      refine sd_iload C 5 dX11_offering_58 rfl rfl (n' := 60) ?_
      exact sd_iret C dX11_offering_60 (Option.some.inj hF) rfl
    · replace hF := sd_neg hF c14
      refine sd_iload C 5 dX11_offering_17 rfl rfl (n' := 19) ?_
      refine sd_iload_n C 2 dX11_offering_19 rfl rfl rfl (n' := 20) ?_
      refine sd_iload C 6 dX11_offering_20 rfl rfl (n' := 22) ?_
      obtain ⟨q22, e22, hF⟩ := sd_bind hF
      refine sd_callSI [.int x2, .int x6] [.int x5] C (ct_X11_isIn M x2 x6  e22) sd_lX11_159 ⟨rfl, rfl, Nat.le_of_ble_eq_true rfl, Nat.le_of_ble_eq_true rfl⟩ rfl (Nat.le_of_ble_eq_true rfl) dX11_offering_22 rfl (n' := 25) ?_
      refine sd_if_eq C (n' := 28) (tgt := 48) dX11_offering_25 rfl rfl (fun c25 => ?_) (fun c25 => ?_)
      · replace hF := sd_pos hF c25
        refine sd_iconst C (v := 0) dX11_offering_48 rfl rfl (n' := 49) ?_
        refine sd_ior C dX11_offering_49 rfl (n' := 50) ?_
        refine sd_istore [(5, .int (x5 ||| (0 : Int32))), (0, .ref (E.2.2 100)), (1, .int x1), (2, .int x2), (3, .int x3), (4, .int x4), (6, .int x6)] C dX11_offering_50 (by decide) rfl rfl (n' := 52) ?_
        refine sd_iinc [(6, .int (x6 + (1 : Int32))), (5, .int (x5 ||| (0 : Int32))), (0, .ref (E.2.2 100)), (1, .int x1), (2, .int x2), (3, .int x3), (4, .int x4)] 6 C dX11_offering_52 rfl rfl (by decide) rfl rfl (n' := 55) ?_
        refine sd_goto C (tgt := 6) dX11_offering_55 rfl ?_
        refine sd_sub [2, 3, 4, 5, 6, 1, 0] rfl ?_
        exact ih x1 x2 x3 x4 (x5 ||| (0 : Int32)) (x6 + (1 : Int32)) hF
      · replace hF := sd_neg hF c25
        refine sd_aload_n C 0 dX11_offering_28 rfl rfl rfl (n' := 29) ?_
        refine sd_iload_n C 1 dX11_offering_29 rfl rfl rfl (n' := 30) ?_
        refine sd_iload C 6 dX11_offering_30 rfl rfl (n' := 32) ?_
        refine sd_iload_n C 3 dX11_offering_32 rfl rfl rfl (n' := 33) ?_
        obtain ⟨q33, e33, hF⟩ := sd_bind hF
        refine sd_callVI [.int x1, .int x6, .int x3] [.int x5] C (ct_X11_number M x1 x6 x3  e33) sd_lX11_174 ⟨rfl, rfl, Nat.le_of_ble_eq_true rfl, Nat.le_of_ble_eq_true rfl⟩ sd_i100 (sd_e12 sd_k100) rfl rfl rfl (Nat.le_of_ble_eq_true rfl) dX11_offering_33 rfl (n' := 36) ?_
        refine sd_iload C 4 dX11_offering_36 rfl rfl (n' := 38) ?_
        refine sd_icmp_ne C (n' := 41) (tgt := 48) dX11_offering_38 rfl rfl (fun c38 => ?_) (fun c38 => ?_)
        · replace hF := sd_neg hF c38
          refine sd_iconst C (v := 0) dX11_offering_48 rfl rfl (n' := 49) ?_
          refine sd_ior C dX11_offering_49 rfl (n' := 50) ?_
          refine sd_istore [(5, .int (x5 ||| (0 : Int32))), (0, .ref (E.2.2 100)), (1, .int x1), (2, .int x2), (3, .int x3), (4, .int x4), (6, .int x6)] C dX11_offering_50 (by decide) rfl rfl (n' := 52) ?_
          refine sd_iinc [(6, .int (x6 + (1 : Int32))), (5, .int (x5 ||| (0 : Int32))), (0, .ref (E.2.2 100)), (1, .int x1), (2, .int x2), (3, .int x3), (4, .int x4)] 6 C dX11_offering_52 rfl rfl (by decide) rfl rfl (n' := 55) ?_
          refine sd_goto C (tgt := 6) dX11_offering_55 rfl ?_
          refine sd_sub [2, 3, 4, 5, 6, 1, 0] rfl ?_
          exact ih x1 x2 x3 x4 (x5 ||| (0 : Int32)) (x6 + (1 : Int32)) hF
        · replace hF := sd_pos hF c38
          refine sd_iconst C (v := 1) dX11_offering_41 rfl rfl (n' := 42) ?_
          refine sd_iload C 6 dX11_offering_42 rfl rfl (n' := 44) ?_
          refine sd_ishl C dX11_offering_44 rfl (n' := 45) ?_
          refine sd_goto C (tgt := 49) dX11_offering_45 rfl ?_
          refine sd_ior C dX11_offering_49 rfl (n' := 50) ?_
          refine sd_istore [(5, .int (x5 ||| ((1 : Int32) <<< (x6 &&& 31)))), (0, .ref (E.2.2 100)), (1, .int x1), (2, .int x2), (3, .int x3), (4, .int x4), (6, .int x6)] C dX11_offering_50 (by decide) rfl rfl (n' := 52) ?_
          refine sd_iinc [(6, .int (x6 + (1 : Int32))), (5, .int (x5 ||| ((1 : Int32) <<< (x6 &&& 31)))), (0, .ref (E.2.2 100)), (1, .int x1), (2, .int x2), (3, .int x3), (4, .int x4)] 6 C dX11_offering_52 rfl rfl (by decide) rfl rfl (n' := 55) ?_
          refine sd_goto C (tgt := 6) dX11_offering_55 rfl ?_
          refine sd_sub [2, 3, 4, 5, 6, 1, 0] rfl ?_
          exact ih x1 x2 x3 x4 (x5 ||| ((1 : Int32) <<< (x6 &&& 31))) (x6 + (1 : Int32)) hF
set_option maxRecDepth 100000 in
set_option maxHeartbeats 4000000 in
theorem tb_X11_offering_0 {K : sd_K} {E : sd_Env} {M : sd_Mem}  {r : Int32} (C : sd_C K E sd_LM RX11 cX11_offering 7 (some .int))  : ∀ (x1 : Int32) (x2 : Int32) (x3 : Int32) (x4 : Int32), fn_X11_offering_0 M x1 x2 x3 x4 = some r → sd_Z K rm_X11_offering E sd_LM 7 (sd_QI K E sd_LM r M) M 0 [(0, .ref (E.2.2 100)), (1, .int x1), (2, .int x2), (3, .int x3), (4, .int x4)] [] := by
  intro x1 x2 x3 x4 hF
  unfold fn_X11_offering_0 at hF
  refine sd_iconst C (v := 0) dX11_offering_0 rfl rfl (n' := 1) ?_
  refine sd_istore [(5, .int (0 : Int32)), (0, .ref (E.2.2 100)), (1, .int x1), (2, .int x2), (3, .int x3), (4, .int x4)] C dX11_offering_1 (by decide) rfl rfl (n' := 3) ?_
  refine sd_iconst C (v := 0) dX11_offering_3 rfl rfl (n' := 4) ?_
  refine sd_istore [(6, .int (0 : Int32)), (5, .int (0 : Int32)), (0, .ref (E.2.2 100)), (1, .int x1), (2, .int x2), (3, .int x3), (4, .int x4)] C dX11_offering_4 (by decide) rfl rfl (n' := 6) ?_
  refine sd_sub [2, 3, 4, 5, 6, 1, 0] rfl ?_
  exact tb_X11_offering_6 C sd_FU x1 x2 x3 x4 (0 : Int32) (0 : Int32) hF
theorem ct_X11_offering {l : Launch} {E : sd_Env} (M : sd_Mem) (x1 : Int32) (x2 : Int32) (x3 : Int32) (x4 : Int32)  {r : Int32} (hF : fn_X11_offering M x1 x2 x3 x4 = some r) : sd_MI l E sd_LM yX11_offering cX11_offering 7 (some .int) rm_X11_offering [.ref (E.2.2 100), .int x1, .int x2, .int x3, .int x4] M r M := sd_ent0 (by decide +kernel) (Nat.le_of_ble_eq_true rfl) (fun p e s m below meth c C => tb_X11_offering_0 C x1 x2 x3 x4 hF)
