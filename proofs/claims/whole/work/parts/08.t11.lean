theorem dX11_wanted_0 : decode cX11_wanted 0 = .ok (.bipush 13, 2) := by decide +kernel
theorem dX11_wanted_2 : decode cX11_wanted 2 = .ok (.istore 4, 2) := by decide +kernel
theorem dX11_wanted_4 : decode cX11_wanted 4 = .ok (.iconst 0, 1) := by decide +kernel
theorem dX11_wanted_5 : decode cX11_wanted 5 = .ok (.istore 5, 2) := by decide +kernel
theorem dX11_wanted_7 : decode cX11_wanted 7 = .ok (.iload 5, 2) := by decide +kernel
theorem dX11_wanted_9 : decode cX11_wanted 9 = .ok (.aload_n 0, 1) := by decide +kernel
theorem dX11_wanted_10 : decode cX11_wanted 10 = .ok (.getfield 32, 3) := by decide +kernel
theorem dX11_wanted_13 : decode cX11_wanted 13 = .ok (.iconst 1, 1) := by decide +kernel
theorem dX11_wanted_14 : decode cX11_wanted 14 = .ok (.iaload, 1) := by decide +kernel
theorem dX11_wanted_15 : decode cX11_wanted 15 = .ok (.if_icmp .ge 111, 3) := by decide +kernel
theorem dX11_wanted_18 : decode cX11_wanted 18 = .ok (.iload_n 3, 1) := by decide +kernel
theorem dX11_wanted_19 : decode cX11_wanted 19 = .ok (.aload_n 0, 1) := by decide +kernel
theorem dX11_wanted_20 : decode cX11_wanted 20 = .ok (.getfield 44, 3) := by decide +kernel
theorem dX11_wanted_23 : decode cX11_wanted 23 = .ok (.if_icmp .lt 103, 3) := by decide +kernel
theorem dX11_wanted_26 : decode cX11_wanted 26 = .ok (.iload_n 3, 1) := by decide +kernel
theorem dX11_wanted_27 : decode cX11_wanted 27 = .ok (.aload_n 0, 1) := by decide +kernel
theorem dX11_wanted_28 : decode cX11_wanted 28 = .ok (.invokevirtual 188, 3) := by decide +kernel
theorem dX11_wanted_31 : decode cX11_wanted 31 = .ok (.if_icmp .gt 95, 3) := by decide +kernel
theorem dX11_wanted_34 : decode cX11_wanted 34 = .ok (.aload_n 0, 1) := by decide +kernel
theorem dX11_wanted_35 : decode cX11_wanted 35 = .ok (.iload_n 1, 1) := by decide +kernel
theorem dX11_wanted_36 : decode cX11_wanted 36 = .ok (.iload 5, 2) := by decide +kernel
theorem dX11_wanted_38 : decode cX11_wanted 38 = .ok (.iload_n 3, 1) := by decide +kernel
theorem dX11_wanted_39 : decode cX11_wanted 39 = .ok (.invokevirtual 232, 3) := by decide +kernel
theorem dX11_wanted_42 : decode cX11_wanted 42 = .ok (.istore 6, 2) := by decide +kernel
theorem dX11_wanted_44 : decode cX11_wanted 44 = .ok (.aload_n 0, 1) := by decide +kernel
theorem dX11_wanted_45 : decode cX11_wanted 45 = .ok (.iload_n 1, 1) := by decide +kernel
theorem dX11_wanted_46 : decode cX11_wanted 46 = .ok (.iload 5, 2) := by decide +kernel
theorem dX11_wanted_48 : decode cX11_wanted 48 = .ok (.iload_n 3, 1) := by decide +kernel
theorem dX11_wanted_49 : decode cX11_wanted 49 = .ok (.invokevirtual 174, 3) := by decide +kernel
theorem dX11_wanted_52 : decode cX11_wanted 52 = .ok (.istore 7, 2) := by decide +kernel
theorem dX11_wanted_54 : decode cX11_wanted 54 = .ok (.aload_n 0, 1) := by decide +kernel
theorem dX11_wanted_55 : decode cX11_wanted 55 = .ok (.iconst 0, 1) := by decide +kernel
theorem dX11_wanted_56 : decode cX11_wanted 56 = .ok (.iload_n 2, 1) := by decide +kernel
theorem dX11_wanted_57 : decode cX11_wanted 57 = .ok (.iload_n 3, 1) := by decide +kernel
theorem dX11_wanted_58 : decode cX11_wanted 58 = .ok (.iload 7, 2) := by decide +kernel
theorem dX11_wanted_60 : decode cX11_wanted 60 = .ok (.invokevirtual 208, 3) := by decide +kernel
theorem dX11_wanted_63 : decode cX11_wanted 63 = .ok (.aload_n 0, 1) := by decide +kernel
theorem dX11_wanted_64 : decode cX11_wanted 64 = .ok (.iconst 1, 1) := by decide +kernel
theorem dX11_wanted_65 : decode cX11_wanted 65 = .ok (.iload 6, 2) := by decide +kernel
theorem dX11_wanted_67 : decode cX11_wanted 67 = .ok (.invokevirtual 181, 3) := by decide +kernel
theorem dX11_wanted_70 : decode cX11_wanted 70 = .ok (.i2l, 1) := by decide +kernel
theorem dX11_wanted_71 : decode cX11_wanted 71 = .ok (.lmul, 1) := by decide +kernel
theorem dX11_wanted_72 : decode cX11_wanted 72 = .ok (.aload_n 0, 1) := by decide +kernel
theorem dX11_wanted_73 : decode cX11_wanted 73 = .ok (.invokevirtual 188, 3) := by decide +kernel
theorem dX11_wanted_76 : decode cX11_wanted 76 = .ok (.iload_n 3, 1) := by decide +kernel
theorem dX11_wanted_77 : decode cX11_wanted 77 = .ok (.isub, 1) := by decide +kernel
theorem dX11_wanted_78 : decode cX11_wanted 78 = .ok (.invokestatic 212, 3) := by decide +kernel
theorem dX11_wanted_81 : decode cX11_wanted 81 = .ok (.lmul, 1) := by decide +kernel
theorem dX11_wanted_82 : decode cX11_wanted 82 = .ok (.lstore 8, 2) := by decide +kernel
theorem dX11_wanted_84 : decode cX11_wanted 84 = .ok (.lload 8, 2) := by decide +kernel
theorem dX11_wanted_86 : decode cX11_wanted 86 = .ok (.aload_n 0, 1) := by decide +kernel
theorem dX11_wanted_87 : decode cX11_wanted 87 = .ok (.getfield 69, 3) := by decide +kernel
theorem dX11_wanted_90 : decode cX11_wanted 90 = .ok (.bipush 8, 2) := by decide +kernel
theorem dX11_wanted_92 : decode cX11_wanted 92 = .ok (.iload_n 3, 1) := by decide +kernel
theorem dX11_wanted_93 : decode cX11_wanted 93 = .ok (.iconst 1, 1) := by decide +kernel
theorem dX11_wanted_94 : decode cX11_wanted 94 = .ok (.iadd, 1) := by decide +kernel
theorem dX11_wanted_95 : decode cX11_wanted 95 = .ok (.imul, 1) := by decide +kernel
theorem dX11_wanted_96 : decode cX11_wanted 96 = .ok (.iload 6, 2) := by decide +kernel
theorem dX11_wanted_98 : decode cX11_wanted 98 = .ok (.iadd, 1) := by decide +kernel
theorem dX11_wanted_99 : decode cX11_wanted 99 = .ok (.laload, 1) := by decide +kernel
theorem dX11_wanted_100 : decode cX11_wanted 100 = .ok (.lcmp, 1) := by decide +kernel
theorem dX11_wanted_101 : decode cX11_wanted 101 = .ok (.ifCond .lt 15, 3) := by decide +kernel
theorem dX11_wanted_104 : decode cX11_wanted 104 = .ok (.iload 7, 2) := by decide +kernel
theorem dX11_wanted_106 : decode cX11_wanted 106 = .ok (.iload 4, 2) := by decide +kernel
theorem dX11_wanted_108 : decode cX11_wanted 108 = .ok (.if_icmp .ge 8, 3) := by decide +kernel
theorem dX11_wanted_111 : decode cX11_wanted 111 = .ok (.iload 7, 2) := by decide +kernel
theorem dX11_wanted_113 : decode cX11_wanted 113 = .ok (.goto 5, 3) := by decide +kernel
theorem dX11_wanted_116 : decode cX11_wanted 116 = .ok (.iload 4, 2) := by decide +kernel
theorem dX11_wanted_118 : decode cX11_wanted 118 = .ok (.istore 4, 2) := by decide +kernel
theorem dX11_wanted_120 : decode cX11_wanted 120 = .ok (.iinc 5 1, 3) := by decide +kernel
theorem dX11_wanted_123 : decode cX11_wanted 123 = .ok (.goto (-116), 3) := by decide +kernel
theorem dX11_wanted_126 : decode cX11_wanted 126 = .ok (.iload 4, 2) := by decide +kernel
theorem dX11_wanted_128 : decode cX11_wanted 128 = .ok (.ireturn, 1) := by decide +kernel
set_option maxRecDepth 100000 in
set_option maxHeartbeats 4000000 in
theorem tb_X11_wanted_7 {K : sd_K} {E : sd_Env} {M : sd_Mem}  {r : Int32} (C : sd_C K E sd_LM RX11 cX11_wanted 10 (some .int))  : ∀ (n : Nat), ∀ (x1 : Int32) (x2 : Int32) (x3 : Int32) (x4 : Int32) (x5 : Int32), fn_X11_wanted_7 M n x1 x2 x3 x4 x5 = some r → sd_Z K rm_X11_wanted E sd_LM 10 (sd_QI K E sd_LM r M) M 7 [(0, .ref (E.2.2 100)), (1, .int x1), (2, .int x2), (3, .int x3), (4, .int x4), (5, .int x5)] [] := by
  intro n
  induction n with
  | zero => intro x1 x2 x3 x4 x5 hF; cases hF
  | succ n ih =>
    intro x1 x2 x3 x4 x5 hF
    unfold fn_X11_wanted_7 at hF
    refine sd_iload C 5 dX11_wanted_7 rfl rfl (n' := 9) ?_
    refine sd_aload_n C 0 dX11_wanted_9 rfl rfl rfl (n' := 10) ?_
    refine sd_g11_10 C sd_i100 sd_k100 sd_w1051 dX11_wanted_10 rfl (n' := 13) ?_
    refine sd_iconst C (v := 1) dX11_wanted_13 rfl rfl (n' := 14) ?_
    obtain ⟨b14, hF⟩ := sd_ok hF
    refine sd_iald C sd_i107 sd_k107 sd_n107 b14 dX11_wanted_14 rfl (n' := 15) ?_
    refine sd_icmp_ge C (n' := 18) (tgt := 126) dX11_wanted_15 rfl rfl (fun c15 => ?_) (fun c15 => ?_)
    · replace hF := sd_pos hF c15
      refine sd_iload C 4 dX11_wanted_126 rfl rfl (n' := 128) ?_
      exact sd_iret C dX11_wanted_128 (Option.some.inj hF) rfl
    · replace hF := sd_neg hF c15
      refine sd_iload_n C 3 dX11_wanted_18 rfl rfl rfl (n' := 19) ?_
      refine sd_aload_n C 0 dX11_wanted_19 rfl rfl rfl (n' := 20) ?_
      refine sd_g11_14 C sd_i100 sd_k100 sd_w1055 dX11_wanted_20 rfl (n' := 23) ?_
      refine sd_icmp_lt C (n' := 26) (tgt := 126) dX11_wanted_23 rfl rfl (fun c23 => ?_) (fun c23 => ?_)
      · replace hF := sd_pos hF c23
        refine sd_iload C 4 dX11_wanted_126 rfl rfl (n' := 128) ?_
        exact sd_iret C dX11_wanted_128 (Option.some.inj hF) rfl
      · replace hF := sd_neg hF c23
        refine sd_iload_n C 3 dX11_wanted_26 rfl rfl rfl (n' := 27) ?_
        refine sd_aload_n C 0 dX11_wanted_27 rfl rfl rfl (n' := 28) ?_
        obtain ⟨q28, e28, hF⟩ := sd_bind hF
        refine sd_callVI [] [.int x3] C (ct_X11_last M   e28) sd_lX11_188 ⟨rfl, rfl, Nat.le_of_ble_eq_true rfl, Nat.le_of_ble_eq_true rfl⟩ sd_i100 (sd_e12 sd_k100) rfl rfl rfl (Nat.le_of_ble_eq_true rfl) dX11_wanted_28 rfl (n' := 31) ?_
        refine sd_icmp_gt C (n' := 34) (tgt := 126) dX11_wanted_31 rfl rfl (fun c31 => ?_) (fun c31 => ?_)
        · replace hF := sd_pos hF c31
          refine sd_iload C 4 dX11_wanted_126 rfl rfl (n' := 128) ?_
          exact sd_iret C dX11_wanted_128 (Option.some.inj hF) rfl
        · replace hF := sd_neg hF c31
          refine sd_aload_n C 0 dX11_wanted_34 rfl rfl rfl (n' := 35) ?_
          refine sd_iload_n C 1 dX11_wanted_35 rfl rfl rfl (n' := 36) ?_
          refine sd_iload C 5 dX11_wanted_36 rfl rfl (n' := 38) ?_
          refine sd_iload_n C 3 dX11_wanted_38 rfl rfl rfl (n' := 39) ?_
          obtain ⟨q39, e39, hF⟩ := sd_bind hF
          refine sd_callVI [.int x1, .int x5, .int x3] [] C (ct_X11_alikeTo M x1 x5 x3  e39) sd_lX11_232 ⟨rfl, rfl, Nat.le_of_ble_eq_true rfl, Nat.le_of_ble_eq_true rfl⟩ sd_i100 (sd_e12 sd_k100) rfl rfl rfl (Nat.le_of_ble_eq_true rfl) dX11_wanted_39 rfl (n' := 42) ?_
          refine sd_istore [(6, .int q39), (0, .ref (E.2.2 100)), (1, .int x1), (2, .int x2), (3, .int x3), (4, .int x4), (5, .int x5)] C dX11_wanted_42 (by decide) rfl rfl (n' := 44) ?_
          refine sd_aload_n C 1 dX11_wanted_44 rfl rfl rfl (n' := 45) ?_
          refine sd_iload_n C 2 dX11_wanted_45 rfl rfl rfl (n' := 46) ?_
          refine sd_iload C 6 dX11_wanted_46 rfl rfl (n' := 48) ?_
          refine sd_iload_n C 4 dX11_wanted_48 rfl rfl rfl (n' := 49) ?_
          obtain ⟨q49, e49, hF⟩ := sd_bind hF
          refine sd_callVI [.int x1, .int x5, .int x3] [] C (ct_X11_number M x1 x5 x3  e49) sd_lX11_174 ⟨rfl, rfl, Nat.le_of_ble_eq_true rfl, Nat.le_of_ble_eq_true rfl⟩ sd_i100 (sd_e12 sd_k100) rfl rfl rfl (Nat.le_of_ble_eq_true rfl) dX11_wanted_49 rfl (n' := 52) ?_
          refine sd_istore [(7, .int q49), (6, .int q39), (0, .ref (E.2.2 100)), (1, .int x1), (2, .int x2), (3, .int x3), (4, .int x4), (5, .int x5)] C dX11_wanted_52 (by decide) rfl rfl (n' := 54) ?_
          refine sd_aload_n C 2 dX11_wanted_54 rfl rfl rfl (n' := 55) ?_
          refine sd_iconst C (v := 0) dX11_wanted_55 rfl rfl (n' := 56) ?_
          refine sd_iload_n C 4 dX11_wanted_56 rfl rfl rfl (n' := 57) ?_
          refine sd_iload_n C 5 dX11_wanted_57 rfl rfl rfl (n' := 58) ?_
          refine sd_iload C 0 dX11_wanted_58 rfl rfl (n' := 60) ?_
          obtain ⟨q60, e60, hF⟩ := sd_bind hF
          refine sd_callVL [.int (0 : Int32), .int x2, .int x3, .int q49] [] C (ct_X11_worthOf M (0 : Int32) x2 x3 q49  e60) sd_lX11_208 ⟨rfl, rfl, Nat.le_of_ble_eq_true rfl, Nat.le_of_ble_eq_true rfl⟩ sd_i100 (sd_e12 sd_k100) rfl rfl rfl (Nat.le_of_ble_eq_true rfl) dX11_wanted_60 rfl (n' := 63) ?_
          refine sd_aload_n C 2 dX11_wanted_63 rfl rfl rfl (n' := 64) ?_
          refine sd_iconst C (v := 1) dX11_wanted_64 rfl rfl (n' := 65) ?_
          refine sd_iload C 1 dX11_wanted_65 rfl rfl (n' := 67) ?_
          obtain ⟨q67, e67, hF⟩ := sd_bind hF
          refine sd_callVI [.int (1 : Int32), .int q39] [.long q60] C (ct_X11_chances M (1 : Int32) q39  e67) sd_lX11_181 ⟨rfl, rfl, Nat.le_of_ble_eq_true rfl, Nat.le_of_ble_eq_true rfl⟩ sd_i100 (sd_e12 sd_k100) rfl rfl rfl (Nat.le_of_ble_eq_true rfl) dX11_wanted_67 rfl (n' := 70) ?_
          refine sd_i2l C dX11_wanted_70 rfl (n' := 71) ?_
          refine sd_lmul C dX11_wanted_71 rfl (n' := 72) ?_
          refine sd_aload_n C 2 dX11_wanted_72 rfl rfl rfl (n' := 73) ?_
          obtain ⟨q73, e73, hF⟩ := sd_bind hF
          refine sd_callVI [] [.long (q60 * q67.toInt64)] C (ct_X11_last M   e73) sd_lX11_188 ⟨rfl, rfl, Nat.le_of_ble_eq_true rfl, Nat.le_of_ble_eq_true rfl⟩ sd_i100 (sd_e12 sd_k100) rfl rfl rfl (Nat.le_of_ble_eq_true rfl) dX11_wanted_73 rfl (n' := 76) ?_
          refine sd_iload_n C 5 dX11_wanted_76 rfl rfl rfl (n' := 77) ?_
          refine sd_isub C dX11_wanted_77 rfl (n' := 78) ?_
          obtain ⟨q78, e78, hF⟩ := sd_bind hF
          refine sd_callSL [.int (q73 - x3)] [.long (q60 * q67.toInt64)] C (ct_X11_twelve M (q73 - x3)  e78) sd_lX11_212 ⟨rfl, rfl, Nat.le_of_ble_eq_true rfl, Nat.le_of_ble_eq_true rfl⟩ rfl (Nat.le_of_ble_eq_true rfl) dX11_wanted_78 rfl (n' := 81) ?_
          refine sd_lmul C dX11_wanted_81 rfl (n' := 82) ?_
          refine sd_lstore [(8, .long ((q60 * q67.toInt64) * q78)), (7, .int q49), (6, .int q39), (0, .ref (E.2.2 100)), (1, .int x1), (2, .int x2), (3, .int x3), (4, .int x4), (5, .int x5)] C dX11_wanted_82 (by decide) rfl rfl (n' := 84) ?_
          refine sd_lload C 0 dX11_wanted_84 rfl rfl (n' := 86) ?_
          refine sd_aload_n C 3 dX11_wanted_86 rfl rfl rfl (n' := 87) ?_
          refine sd_g11_25 C sd_i100 sd_k100 sd_w1066 dX11_wanted_87 rfl (n' := 90) ?_
          refine sd_bipush C (v := 8) dX11_wanted_90 rfl rfl (n' := 92) ?_
          refine sd_iload_n C 6 dX11_wanted_92 rfl rfl rfl (n' := 93) ?_
          refine sd_iconst C (v := 1) dX11_wanted_93 rfl rfl (n' := 94) ?_
          refine sd_iadd C dX11_wanted_94 rfl (n' := 95) ?_
          refine sd_imul C dX11_wanted_95 rfl (n' := 96) ?_
          refine sd_iload C 2 dX11_wanted_96 rfl rfl (n' := 98) ?_
          refine sd_iadd C dX11_wanted_98 rfl (n' := 99) ?_
          obtain ⟨b99, hF⟩ := sd_ok hF
          refine sd_lald C sd_i117 sd_k117 sd_n117 b99 dX11_wanted_99 rfl (n' := 100) ?_
          refine sd_lcmp C dX11_wanted_100 rfl (n' := 101) ?_
          refine sd_if_lt C (n' := 104) (tgt := 116) dX11_wanted_101 rfl rfl (fun c101 => ?_) (fun c101 => ?_)
          · replace hF := sd_pos hF c101
            refine sd_iload C 7 dX11_wanted_116 rfl rfl (n' := 118) ?_
            refine sd_istore [(4, .int x4), (8, .long ((q60 * q67.toInt64) * q78)), (7, .int q49), (6, .int q39), (0, .ref (E.2.2 100)), (1, .int x1), (2, .int x2), (3, .int x3), (5, .int x5)] C dX11_wanted_118 (by decide) rfl rfl (n' := 120) ?_
            refine sd_iinc [(5, .int (x5 + (1 : Int32))), (4, .int x4), (8, .long ((q60 * q67.toInt64) * q78)), (7, .int q49), (6, .int q39), (0, .ref (E.2.2 100)), (1, .int x1), (2, .int x2), (3, .int x3)] 8 C dX11_wanted_120 rfl rfl (by decide) rfl rfl (n' := 123) ?_
            refine sd_goto C (tgt := 7) dX11_wanted_123 rfl ?_
            refine sd_sub [5, 6, 7, 8, 1, 0] rfl ?_
            exact ih x1 x2 x3 x4 (x5 + (1 : Int32)) hF
          · replace hF := sd_neg hF c101
            refine sd_iload C 1 dX11_wanted_104 rfl rfl (n' := 106) ?_
            refine sd_iload C 7 dX11_wanted_106 rfl rfl (n' := 108) ?_
            refine sd_icmp_ge C (n' := 111) (tgt := 116) dX11_wanted_108 rfl rfl (fun c108 => ?_) (fun c108 => ?_)
            · replace hF := sd_pos hF c108
              refine sd_iload C 7 dX11_wanted_116 rfl rfl (n' := 118) ?_
              refine sd_istore [(4, .int x4), (8, .long ((q60 * q67.toInt64) * q78)), (7, .int q49), (6, .int q39), (0, .ref (E.2.2 100)), (1, .int x1), (2, .int x2), (3, .int x3), (5, .int x5)] C dX11_wanted_118 (by decide) rfl rfl (n' := 120) ?_
              refine sd_iinc [(5, .int (x5 + (1 : Int32))), (4, .int x4), (8, .long ((q60 * q67.toInt64) * q78)), (7, .int q49), (6, .int q39), (0, .ref (E.2.2 100)), (1, .int x1), (2, .int x2), (3, .int x3)] 8 C dX11_wanted_120 rfl rfl (by decide) rfl rfl (n' := 123) ?_
              refine sd_goto C (tgt := 7) dX11_wanted_123 rfl ?_
              refine sd_sub [5, 6, 7, 8, 1, 0] rfl ?_
              exact ih x1 x2 x3 x4 (x5 + (1 : Int32)) hF
            · replace hF := sd_neg hF c108
              refine sd_iload C 1 dX11_wanted_111 rfl rfl (n' := 113) ?_
              refine sd_goto C (tgt := 118) dX11_wanted_113 rfl ?_
              refine sd_istore [(4, .int q49), (8, .long ((q60 * q67.toInt64) * q78)), (7, .int q49), (6, .int q39), (0, .ref (E.2.2 100)), (1, .int x1), (2, .int x2), (3, .int x3), (5, .int x5)] C dX11_wanted_118 (by decide) rfl rfl (n' := 120) ?_
              refine sd_iinc [(5, .int (x5 + (1 : Int32))), (4, .int q49), (8, .long ((q60 * q67.toInt64) * q78)), (7, .int q49), (6, .int q39), (0, .ref (E.2.2 100)), (1, .int x1), (2, .int x2), (3, .int x3)] 8 C dX11_wanted_120 rfl rfl (by decide) rfl rfl (n' := 123) ?_
              refine sd_goto C (tgt := 7) dX11_wanted_123 rfl ?_
              refine sd_sub [5, 6, 7, 8, 1, 0] rfl ?_
              exact ih x1 x2 x3 q49 (x5 + (1 : Int32)) hF
set_option maxRecDepth 100000 in
set_option maxHeartbeats 4000000 in
theorem tb_X11_wanted_0 {K : sd_K} {E : sd_Env} {M : sd_Mem}  {r : Int32} (C : sd_C K E sd_LM RX11 cX11_wanted 10 (some .int))  : ∀ (x1 : Int32) (x2 : Int32) (x3 : Int32), fn_X11_wanted_0 M x1 x2 x3 = some r → sd_Z K rm_X11_wanted E sd_LM 10 (sd_QI K E sd_LM r M) M 0 [(0, .ref (E.2.2 100)), (1, .int x1), (2, .int x2), (3, .int x3)] [] := by
  intro x1 x2 x3 hF
  unfold fn_X11_wanted_0 at hF
  refine sd_bipush C (v := 13) dX11_wanted_0 rfl rfl (n' := 2) ?_
  refine sd_istore [(4, .int (13 : Int32)), (0, .ref (E.2.2 100)), (1, .int x1), (2, .int x2), (3, .int x3)] C dX11_wanted_2 (by decide) rfl rfl (n' := 4) ?_
  refine sd_iconst C (v := 0) dX11_wanted_4 rfl rfl (n' := 5) ?_
  refine sd_istore [(5, .int (0 : Int32)), (4, .int (13 : Int32)), (0, .ref (E.2.2 100)), (1, .int x1), (2, .int x2), (3, .int x3)] C dX11_wanted_5 (by decide) rfl rfl (n' := 7) ?_
  refine sd_sub [2, 3, 4, 5, 1, 0] rfl ?_
  exact tb_X11_wanted_7 C sd_FU x1 x2 x3 (13 : Int32) (0 : Int32) hF
theorem ct_X11_wanted {l : Launch} {E : sd_Env} (M : sd_Mem) (x1 : Int32) (x2 : Int32) (x3 : Int32)  {r : Int32} (hF : fn_X11_wanted M x1 x2 x3 = some r) : sd_MI l E sd_LM yX11_wanted cX11_wanted 10 (some .int) rm_X11_wanted [.ref (E.2.2 100), .int x1, .int x2, .int x3] M r M := sd_ent0 (by decide +kernel) (Nat.le_of_ble_eq_true rfl) (fun p e s m below meth c C => tb_X11_wanted_0 C x1 x2 x3 hF)
theorem dX11_reply_0 : decode cX11_reply 0 = .ok (.aload_n 0, 1) := by decide +kernel
theorem dX11_reply_1 : decode cX11_reply 1 = .ok (.iload_n 2, 1) := by decide +kernel
theorem dX11_reply_2 : decode cX11_reply 2 = .ok (.iload_n 1, 1) := by decide +kernel
theorem dX11_reply_3 : decode cX11_reply 3 = .ok (.iconst 0, 1) := by decide +kernel
theorem dX11_reply_4 : decode cX11_reply 4 = .ok (.invokevirtual 195, 3) := by decide +kernel
theorem dX11_reply_7 : decode cX11_reply 7 = .ok (.istore_n 3, 1) := by decide +kernel
theorem dX11_reply_8 : decode cX11_reply 8 = .ok (.iload_n 3, 1) := by decide +kernel
theorem dX11_reply_9 : decode cX11_reply 9 = .ok (.ifCond .ge 5, 3) := by decide +kernel
theorem dX11_reply_12 : decode cX11_reply 12 = .ok (.iload_n 3, 1) := by decide +kernel
theorem dX11_reply_13 : decode cX11_reply 13 = .ok (.ireturn, 1) := by decide +kernel
theorem dX11_reply_14 : decode cX11_reply 14 = .ok (.iconst 0, 1) := by decide +kernel
theorem dX11_reply_15 : decode cX11_reply 15 = .ok (.istore 4, 2) := by decide +kernel
theorem dX11_reply_17 : decode cX11_reply 17 = .ok (.iconst 0, 1) := by decide +kernel
theorem dX11_reply_18 : decode cX11_reply 18 = .ok (.istore 5, 2) := by decide +kernel
theorem dX11_reply_20 : decode cX11_reply 20 = .ok (.iload 5, 2) := by decide +kernel
theorem dX11_reply_22 : decode cX11_reply 22 = .ok (.aload_n 0, 1) := by decide +kernel
theorem dX11_reply_23 : decode cX11_reply 23 = .ok (.getfield 32, 3) := by decide +kernel
theorem dX11_reply_26 : decode cX11_reply 26 = .ok (.iconst 0, 1) := by decide +kernel
theorem dX11_reply_27 : decode cX11_reply 27 = .ok (.iaload, 1) := by decide +kernel
theorem dX11_reply_28 : decode cX11_reply 28 = .ok (.if_icmp .ge 55, 3) := by decide +kernel
theorem dX11_reply_31 : decode cX11_reply 31 = .ok (.aload_n 0, 1) := by decide +kernel
theorem dX11_reply_32 : decode cX11_reply 32 = .ok (.iload_n 2, 1) := by decide +kernel
theorem dX11_reply_33 : decode cX11_reply 33 = .ok (.iload 5, 2) := by decide +kernel
theorem dX11_reply_35 : decode cX11_reply 35 = .ok (.invokevirtual 248, 3) := by decide +kernel
theorem dX11_reply_38 : decode cX11_reply 38 = .ok (.iconst 1, 1) := by decide +kernel
theorem dX11_reply_39 : decode cX11_reply 39 = .ok (.istore 6, 2) := by decide +kernel
theorem dX11_reply_41 : decode cX11_reply 41 = .ok (.iload 6, 2) := by decide +kernel
theorem dX11_reply_43 : decode cX11_reply 43 = .ok (.bipush 10, 2) := by decide +kernel
theorem dX11_reply_45 : decode cX11_reply 45 = .ok (.if_icmp .gt 32, 3) := by decide +kernel
theorem dX11_reply_48 : decode cX11_reply 48 = .ok (.iload 4, 2) := by decide +kernel
theorem dX11_reply_50 : decode cX11_reply 50 = .ok (.aload_n 0, 1) := by decide +kernel
theorem dX11_reply_51 : decode cX11_reply 51 = .ok (.iload_n 1, 1) := by decide +kernel
theorem dX11_reply_52 : decode cX11_reply 52 = .ok (.iload 5, 2) := by decide +kernel
theorem dX11_reply_54 : decode cX11_reply 54 = .ok (.iload 6, 2) := by decide +kernel
theorem dX11_reply_56 : decode cX11_reply 56 = .ok (.aload_n 0, 1) := by decide +kernel
theorem dX11_reply_57 : decode cX11_reply 57 = .ok (.iload_n 2, 1) := by decide +kernel
theorem dX11_reply_58 : decode cX11_reply 58 = .ok (.iload 5, 2) := by decide +kernel
theorem dX11_reply_60 : decode cX11_reply 60 = .ok (.iload 6, 2) := by decide +kernel
theorem dX11_reply_62 : decode cX11_reply 62 = .ok (.invokevirtual 262, 3) := by decide +kernel
theorem dX11_reply_65 : decode cX11_reply 65 = .ok (.invokevirtual 259, 3) := by decide +kernel
theorem dX11_reply_68 : decode cX11_reply 68 = .ok (.iadd, 1) := by decide +kernel
theorem dX11_reply_69 : decode cX11_reply 69 = .ok (.istore 4, 2) := by decide +kernel
theorem dX11_reply_71 : decode cX11_reply 71 = .ok (.iinc 6 1, 3) := by decide +kernel
theorem dX11_reply_74 : decode cX11_reply 74 = .ok (.goto (-33), 3) := by decide +kernel
theorem dX11_reply_77 : decode cX11_reply 77 = .ok (.iinc 5 1, 3) := by decide +kernel
theorem dX11_reply_80 : decode cX11_reply 80 = .ok (.goto (-60), 3) := by decide +kernel
theorem dX11_reply_83 : decode cX11_reply 83 = .ok (.iload 4, 2) := by decide +kernel
theorem dX11_reply_85 : decode cX11_reply 85 = .ok (.ireturn, 1) := by decide +kernel
set_option maxRecDepth 100000 in
set_option maxHeartbeats 4000000 in
theorem tb_X11_reply_41 {K : sd_K} {E : sd_Env}   {r : (Int32 × sd_Mem)} (C : sd_C K E sd_LM RX11 cX11_reply 7 (some .int))  {k20 : sd_Mem → Int32 → Int32 → Int32 → Int32 → Option (Int32 × sd_Mem)} (hk20 : ∀ (M : sd_Mem) (x1 : Int32) (x2 : Int32) (x4 : Int32) (x5 : Int32), k20 M x1 x2 x4 x5 = some r → sd_Z K rm_X11_reply E sd_LM 7 (sd_QI K E sd_LM r.1 r.2) M 20 [(0, .ref (E.2.2 100)), (1, .int x1), (2, .int x2), (4, .int x4), (5, .int x5)] []) : ∀ (n : Nat), ∀ (M : sd_Mem) (x1 : Int32) (x2 : Int32) (x4 : Int32) (x5 : Int32) (x6 : Int32), fn_X11_reply_41 k20 n M x1 x2 x4 x5 x6 = some r → sd_Z K rm_X11_reply E sd_LM 7 (sd_QI K E sd_LM r.1 r.2) M 41 [(0, .ref (E.2.2 100)), (1, .int x1), (2, .int x2), (4, .int x4), (5, .int x5), (6, .int x6)] [] := by
  intro n
  induction n with
  | zero => intro M x1 x2 x4 x5 x6 hF; cases hF
  | succ n ih =>
    intro M x1 x2 x4 x5 x6 hF
    unfold fn_X11_reply_41 at hF
    refine sd_iload C 5 dX11_reply_41 rfl rfl (n' := 43) ?_
    refine sd_bipush C (v := 10) dX11_reply_43 rfl rfl (n' := 45) ?_
    refine sd_icmp_gt C (n' := 48) (tgt := 77) dX11_reply_45 rfl rfl (fun c45 => ?_) (fun c45 => ?_)
    · replace hF := sd_pos hF c45
      refine sd_iinc [(5, .int (x5 + (1 : Int32))), (0, .ref (E.2.2 100)), (1, .int x1), (2, .int x2), (4, .int x4), (6, .int x6)] 4 C dX11_reply_77 rfl rfl (by decide) rfl rfl (n' := 80) ?_
      refine sd_goto C (tgt := 20) dX11_reply_80 rfl ?_
      refine sd_sub [1, 2, 3, 4, 0] rfl ?_
      exact hk20 M x1 x2 x4 (x5 + (1 : Int32)) hF
    · replace hF := sd_neg hF c45
      refine sd_iload C 3 dX11_reply_48 rfl rfl (n' := 50) ?_
      refine sd_aload_n C 0 dX11_reply_50 rfl rfl rfl (n' := 51) ?_
      refine sd_iload_n C 1 dX11_reply_51 rfl rfl rfl (n' := 52) ?_
      refine sd_iload C 4 dX11_reply_52 rfl rfl (n' := 54) ?_
      refine sd_iload C 5 dX11_reply_54 rfl rfl (n' := 56) ?_
      refine sd_aload_n C 0 dX11_reply_56 rfl rfl rfl (n' := 57) ?_
      refine sd_iload_n C 2 dX11_reply_57 rfl rfl rfl (n' := 58) ?_
      refine sd_iload C 4 dX11_reply_58 rfl rfl (n' := 60) ?_
      refine sd_iload C 5 dX11_reply_60 rfl rfl (n' := 62) ?_
      obtain ⟨q62, e62, hF⟩ := sd_bind hF
      refine sd_callVI [.int x2, .int x5, .int x6] [.int x6, .int x5, .int x1, .ref (E.2.2 100), .int x4] C (ct_X11_wanted M x2 x5 x6  e62) sd_lX11_262 ⟨rfl, rfl, Nat.le_of_ble_eq_true rfl, Nat.le_of_ble_eq_true rfl⟩ sd_i100 (sd_e12 sd_k100) rfl rfl rfl (Nat.le_of_ble_eq_true rfl) dX11_reply_62 rfl (n' := 65) ?_
      obtain ⟨q65, e65, hF⟩ := sd_bind hF
      refine sd_callVI [.int x1, .int x5, .int x6, .int q62] [.int x4] C (ct_X11_changes M x1 x5 x6 q62  e65) sd_lX11_259 ⟨rfl, rfl, Nat.le_of_ble_eq_true rfl, Nat.le_of_ble_eq_true rfl⟩ sd_i100 (sd_e12 sd_k100) rfl rfl rfl (Nat.le_of_ble_eq_true rfl) dX11_reply_65 rfl (n' := 68) ?_
      refine sd_iadd C dX11_reply_68 rfl (n' := 69) ?_
      refine sd_istore [(4, .int (x4 + q65.1)), (0, .ref (E.2.2 100)), (1, .int x1), (2, .int x2), (5, .int x5), (6, .int x6)] C dX11_reply_69 (by decide) rfl rfl (n' := 71) ?_
      refine sd_iinc [(6, .int (x6 + (1 : Int32))), (4, .int (x4 + q65.1)), (0, .ref (E.2.2 100)), (1, .int x1), (2, .int x2), (5, .int x5)] 5 C dX11_reply_71 rfl rfl (by decide) rfl rfl (n' := 74) ?_
      refine sd_goto C (tgt := 41) dX11_reply_74 rfl ?_
      refine sd_sub [2, 3, 4, 1, 5, 0] rfl ?_
      exact ih q65.2 x1 x2 (x4 + q65.1) x5 (x6 + (1 : Int32)) hF
set_option maxRecDepth 100000 in
set_option maxHeartbeats 4000000 in
theorem tb_X11_reply_20 {K : sd_K} {E : sd_Env}   {r : (Int32 × sd_Mem)} (C : sd_C K E sd_LM RX11 cX11_reply 7 (some .int))  : ∀ (n : Nat), ∀ (M : sd_Mem) (x1 : Int32) (x2 : Int32) (x4 : Int32) (x5 : Int32), fn_X11_reply_20 n M x1 x2 x4 x5 = some r → sd_Z K rm_X11_reply E sd_LM 7 (sd_QI K E sd_LM r.1 r.2) M 20 [(0, .ref (E.2.2 100)), (1, .int x1), (2, .int x2), (4, .int x4), (5, .int x5)] [] := by
  intro n
  induction n with
  | zero => intro M x1 x2 x4 x5 hF; cases hF
  | succ n ih =>
    intro M x1 x2 x4 x5 hF
    unfold fn_X11_reply_20 at hF
    refine sd_iload C 4 dX11_reply_20 rfl rfl (n' := 22) ?_
    refine sd_aload_n C 0 dX11_reply_22 rfl rfl rfl (n' := 23) ?_
    refine sd_g11_10 C sd_i100 sd_k100 sd_w1051 dX11_reply_23 rfl (n' := 26) ?_
    refine sd_iconst C (v := 0) dX11_reply_26 rfl rfl (n' := 27) ?_
    obtain ⟨b27, hF⟩ := sd_ok hF
    refine sd_iald C sd_i107 sd_k107 sd_n107 b27 dX11_reply_27 rfl (n' := 28) ?_
    refine sd_icmp_ge C (n' := 31) (tgt := 83) dX11_reply_28 rfl rfl (fun c28 => ?_) (fun c28 => ?_)
    · replace hF := sd_pos hF c28
      refine sd_iload C 3 dX11_reply_83 rfl rfl (n' := 85) ?_
      exact sd_iret C dX11_reply_85 (sd_fst hF) (sd_snd hF)
    · replace hF := sd_neg hF c28
      refine sd_aload_n C 0 dX11_reply_31 rfl rfl rfl (n' := 32) ?_
      refine sd_iload_n C 2 dX11_reply_32 rfl rfl rfl (n' := 33) ?_
      refine sd_iload C 4 dX11_reply_33 rfl rfl (n' := 35) ?_
      obtain ⟨q35, e35, hF⟩ := sd_bind hF
      refine sd_callVV [.int x2, .int x5] [] C (ct_X11_setBestOfMen M x2 x5  e35) sd_lX11_248 ⟨rfl, rfl, Nat.le_of_ble_eq_true rfl, Nat.le_of_ble_eq_true rfl⟩ sd_i100 (sd_e12 sd_k100) rfl rfl rfl (Nat.le_of_ble_eq_true rfl) dX11_reply_35 rfl (n' := 38) ?_
      refine sd_iconst C (v := 1) dX11_reply_38 rfl rfl (n' := 39) ?_
      refine sd_istore [(6, .int (1 : Int32)), (0, .ref (E.2.2 100)), (1, .int x1), (2, .int x2), (4, .int x4), (5, .int x5)] C dX11_reply_39 (by decide) rfl rfl (n' := 41) ?_
      refine sd_sub [1, 2, 3, 4, 5, 0] rfl ?_
      exact tb_X11_reply_41 C ih sd_FU q35 x1 x2 x4 x5 (1 : Int32) hF
set_option maxRecDepth 100000 in
set_option maxHeartbeats 4000000 in
theorem tb_X11_reply_0 {K : sd_K} {E : sd_Env}   {r : (Int32 × sd_Mem)} (C : sd_C K E sd_LM RX11 cX11_reply 7 (some .int))  : ∀ (M : sd_Mem) (x1 : Int32) (x2 : Int32), fn_X11_reply_0 M x1 x2 = some r → sd_Z K rm_X11_reply E sd_LM 7 (sd_QI K E sd_LM r.1 r.2) M 0 [(0, .ref (E.2.2 100)), (1, .int x1), (2, .int x2)] [] := by
  intro M x1 x2 hF
  unfold fn_X11_reply_0 at hF
  refine sd_aload_n C 0 dX11_reply_0 rfl rfl rfl (n' := 1) ?_
  refine sd_iload_n C 2 dX11_reply_1 rfl rfl rfl (n' := 2) ?_
  refine sd_iload_n C 1 dX11_reply_2 rfl rfl rfl (n' := 3) ?_
  refine sd_iconst C (v := 0) dX11_reply_3 rfl rfl (n' := 4) ?_
  obtain ⟨q4, e4, hF⟩ := sd_bind hF
  refine sd_callVI [.int x2, .int x1, .int (0 : Int32)] [] C (ct_X11_askedTwo M x2 x1 (0 : Int32)  e4) sd_lX11_195 ⟨rfl, rfl, Nat.le_of_ble_eq_true rfl, Nat.le_of_ble_eq_true rfl⟩ sd_i100 (sd_e12 sd_k100) rfl rfl rfl (Nat.le_of_ble_eq_true rfl) dX11_reply_4 rfl (n' := 7) ?_
  refine sd_istore_n [(3, .int q4.1), (0, .ref (E.2.2 100)), (1, .int x1), (2, .int x2)] C dX11_reply_7 rfl (by decide) rfl rfl (n' := 8) ?_
  refine sd_iload_n C 0 dX11_reply_8 rfl rfl rfl (n' := 9) ?_
  refine sd_if_ge C (n' := 12) (tgt := 14) dX11_reply_9 rfl rfl (fun c9 => ?_) (fun c9 => ?_)
  · replace hF := sd_pos hF c9
    refine sd_iconst C (v := 0) dX11_reply_14 rfl rfl (n' := 15) ?_
    refine sd_istore [(4, .int (0 : Int32)), (3, .int q4.1), (0, .ref (E.2.2 100)), (1, .int x1), (2, .int x2)] C dX11_reply_15 (by decide) rfl rfl (n' := 17) ?_
    refine sd_iconst C (v := 0) dX11_reply_17 rfl rfl (n' := 18) ?_
    refine sd_istore [(5, .int (0 : Int32)), (4, .int (0 : Int32)), (3, .int q4.1), (0, .ref (E.2.2 100)), (1, .int x1), (2, .int x2)] C dX11_reply_18 (by decide) rfl rfl (n' := 20) ?_
    refine sd_sub [3, 4, 5, 1, 0] rfl ?_
    exact tb_X11_reply_20 C sd_FU q4.2 x1 x2 (0 : Int32) (0 : Int32) hF
  · replace hF := sd_neg hF c9
    refine sd_iload_n C 0 dX11_reply_12 rfl rfl rfl (n' := 13) ?_
    exact sd_iret C dX11_reply_13 (sd_fst hF) (sd_snd hF)
theorem ct_X11_reply {l : Launch} {E : sd_Env} (M : sd_Mem) (x1 : Int32) (x2 : Int32)  {r : (Int32 × sd_Mem)} (hF : fn_X11_reply M x1 x2 = some r) : sd_MI l E sd_LM yX11_reply cX11_reply 7 (some .int) rm_X11_reply [.ref (E.2.2 100), .int x1, .int x2] M r.1 r.2 := sd_ent0 (by decide +kernel) (Nat.le_of_ble_eq_true rfl) (fun p e s m below meth c C => tb_X11_reply_0 C M x1 x2 hF)
theorem dX11_loses_0 : decode cX11_loses 0 = .ok (.aload_n 0, 1) := by decide +kernel
theorem dX11_loses_1 : decode cX11_loses 1 = .ok (.iload_n 1, 1) := by decide +kernel
theorem dX11_loses_2 : decode cX11_loses 2 = .ok (.iload_n 2, 1) := by decide +kernel
theorem dX11_loses_3 : decode cX11_loses 3 = .ok (.iconst 1, 1) := by decide +kernel
theorem dX11_loses_4 : decode cX11_loses 4 = .ok (.invokevirtual 195, 3) := by decide +kernel
theorem dX11_loses_7 : decode cX11_loses 7 = .ok (.istore 4, 2) := by decide +kernel
theorem dX11_loses_9 : decode cX11_loses 9 = .ok (.iload 4, 2) := by decide +kernel
theorem dX11_loses_11 : decode cX11_loses 11 = .ok (.ifCond .ge 6, 3) := by decide +kernel
theorem dX11_loses_14 : decode cX11_loses 14 = .ok (.iload 4, 2) := by decide +kernel
theorem dX11_loses_16 : decode cX11_loses 16 = .ok (.ireturn, 1) := by decide +kernel
theorem dX11_loses_17 : decode cX11_loses 17 = .ok (.lconst 0, 1) := by decide +kernel
theorem dX11_loses_18 : decode cX11_loses 18 = .ok (.lstore 5, 2) := by decide +kernel
theorem dX11_loses_20 : decode cX11_loses 20 = .ok (.iconst 0, 1) := by decide +kernel
theorem dX11_loses_21 : decode cX11_loses 21 = .ok (.istore 7, 2) := by decide +kernel
theorem dX11_loses_23 : decode cX11_loses 23 = .ok (.iload 7, 2) := by decide +kernel
theorem dX11_loses_25 : decode cX11_loses 25 = .ok (.aload_n 0, 1) := by decide +kernel
theorem dX11_loses_26 : decode cX11_loses 26 = .ok (.getfield 32, 3) := by decide +kernel
theorem dX11_loses_29 : decode cX11_loses 29 = .ok (.iconst 1, 1) := by decide +kernel
theorem dX11_loses_30 : decode cX11_loses 30 = .ok (.iaload, 1) := by decide +kernel
theorem dX11_loses_31 : decode cX11_loses 31 = .ok (.if_icmp .ge 105, 3) := by decide +kernel
theorem dX11_loses_34 : decode cX11_loses 34 = .ok (.iconst 0, 1) := by decide +kernel
theorem dX11_loses_35 : decode cX11_loses 35 = .ok (.istore 8, 2) := by decide +kernel
theorem dX11_loses_37 : decode cX11_loses 37 = .ok (.iload 8, 2) := by decide +kernel
theorem dX11_loses_39 : decode cX11_loses 39 = .ok (.aload_n 0, 1) := by decide +kernel
theorem dX11_loses_40 : decode cX11_loses 40 = .ok (.getfield 32, 3) := by decide +kernel
theorem dX11_loses_43 : decode cX11_loses 43 = .ok (.iconst 0, 1) := by decide +kernel
theorem dX11_loses_44 : decode cX11_loses 44 = .ok (.iaload, 1) := by decide +kernel
theorem dX11_loses_45 : decode cX11_loses 45 = .ok (.if_icmp .ge 85, 3) := by decide +kernel
theorem dX11_loses_48 : decode cX11_loses 48 = .ok (.aload_n 0, 1) := by decide +kernel
theorem dX11_loses_49 : decode cX11_loses 49 = .ok (.iload_n 1, 1) := by decide +kernel
theorem dX11_loses_50 : decode cX11_loses 50 = .ok (.iload_n 2, 1) := by decide +kernel
theorem dX11_loses_51 : decode cX11_loses 51 = .ok (.iload 7, 2) := by decide +kernel
theorem dX11_loses_53 : decode cX11_loses 53 = .ok (.iload 8, 2) := by decide +kernel
theorem dX11_loses_55 : decode cX11_loses 55 = .ok (.invokevirtual 199, 3) := by decide +kernel
theorem dX11_loses_58 : decode cX11_loses 58 = .ok (.iconst 1, 1) := by decide +kernel
theorem dX11_loses_59 : decode cX11_loses 59 = .ok (.isub, 1) := by decide +kernel
theorem dX11_loses_60 : decode cX11_loses 60 = .ok (.i2l, 1) := by decide +kernel
theorem dX11_loses_61 : decode cX11_loses 61 = .ok (.lstore 9, 2) := by decide +kernel
theorem dX11_loses_63 : decode cX11_loses 63 = .ok (.lload 5, 2) := by decide +kernel
theorem dX11_loses_65 : decode cX11_loses 65 = .ok (.lload 9, 2) := by decide +kernel
theorem dX11_loses_67 : decode cX11_loses 67 = .ok (.aload_n 0, 1) := by decide +kernel
theorem dX11_loses_68 : decode cX11_loses 68 = .ok (.getfield 35, 3) := by decide +kernel
theorem dX11_loses_71 : decode cX11_loses 71 = .ok (.iconst 3, 1) := by decide +kernel
theorem dX11_loses_72 : decode cX11_loses 72 = .ok (.iload 7, 2) := by decide +kernel
theorem dX11_loses_74 : decode cX11_loses 74 = .ok (.iadd, 1) := by decide +kernel
theorem dX11_loses_75 : decode cX11_loses 75 = .ok (.iaload, 1) := by decide +kernel
theorem dX11_loses_76 : decode cX11_loses 76 = .ok (.i2l, 1) := by decide +kernel
theorem dX11_loses_77 : decode cX11_loses 77 = .ok (.lmul, 1) := by decide +kernel
theorem dX11_loses_78 : decode cX11_loses 78 = .ok (.aload_n 0, 1) := by decide +kernel
theorem dX11_loses_79 : decode cX11_loses 79 = .ok (.getfield 35, 3) := by decide +kernel
theorem dX11_loses_82 : decode cX11_loses 82 = .ok (.iload 8, 2) := by decide +kernel
theorem dX11_loses_84 : decode cX11_loses 84 = .ok (.iaload, 1) := by decide +kernel
theorem dX11_loses_85 : decode cX11_loses 85 = .ok (.i2l, 1) := by decide +kernel
theorem dX11_loses_86 : decode cX11_loses 86 = .ok (.lmul, 1) := by decide +kernel
theorem dX11_loses_87 : decode cX11_loses 87 = .ok (.iload_n 3, 1) := by decide +kernel
theorem dX11_loses_88 : decode cX11_loses 88 = .ok (.ifCond .eq 30, 3) := by decide +kernel
theorem dX11_loses_91 : decode cX11_loses 91 = .ok (.aload_n 0, 1) := by decide +kernel
theorem dX11_loses_92 : decode cX11_loses 92 = .ok (.getfield 41, 3) := by decide +kernel
theorem dX11_loses_95 : decode cX11_loses 95 = .ok (.iconst 0, 1) := by decide +kernel
theorem dX11_loses_96 : decode cX11_loses 96 = .ok (.iaload, 1) := by decide +kernel
theorem dX11_loses_97 : decode cX11_loses 97 = .ok (.aload_n 0, 1) := by decide +kernel
theorem dX11_loses_98 : decode cX11_loses 98 = .ok (.getfield 38, 3) := by decide +kernel
theorem dX11_loses_101 : decode cX11_loses 101 = .ok (.iconst 3, 1) := by decide +kernel
theorem dX11_loses_102 : decode cX11_loses 102 = .ok (.iload 7, 2) := by decide +kernel
theorem dX11_loses_104 : decode cX11_loses 104 = .ok (.iadd, 1) := by decide +kernel
theorem dX11_loses_105 : decode cX11_loses 105 = .ok (.iaload, 1) := by decide +kernel
theorem dX11_loses_106 : decode cX11_loses 106 = .ok (.iadd, 1) := by decide +kernel
theorem dX11_loses_107 : decode cX11_loses 107 = .ok (.aload_n 0, 1) := by decide +kernel
theorem dX11_loses_108 : decode cX11_loses 108 = .ok (.getfield 38, 3) := by decide +kernel
theorem dX11_loses_111 : decode cX11_loses 111 = .ok (.iload 8, 2) := by decide +kernel
theorem dX11_loses_113 : decode cX11_loses 113 = .ok (.iaload, 1) := by decide +kernel
theorem dX11_loses_114 : decode cX11_loses 114 = .ok (.iadd, 1) := by decide +kernel
theorem dX11_loses_115 : decode cX11_loses 115 = .ok (.goto 4, 3) := by decide +kernel
theorem dX11_loses_118 : decode cX11_loses 118 = .ok (.iconst 1, 1) := by decide +kernel
theorem dX11_loses_119 : decode cX11_loses 119 = .ok (.i2l, 1) := by decide +kernel
theorem dX11_loses_120 : decode cX11_loses 120 = .ok (.lmul, 1) := by decide +kernel
theorem dX11_loses_121 : decode cX11_loses 121 = .ok (.ladd, 1) := by decide +kernel
theorem dX11_loses_122 : decode cX11_loses 122 = .ok (.lstore 5, 2) := by decide +kernel
theorem dX11_loses_124 : decode cX11_loses 124 = .ok (.iinc 8 1, 3) := by decide +kernel
theorem dX11_loses_127 : decode cX11_loses 127 = .ok (.goto (-90), 3) := by decide +kernel
theorem dX11_loses_130 : decode cX11_loses 130 = .ok (.iinc 7 1, 3) := by decide +kernel
theorem dX11_loses_133 : decode cX11_loses 133 = .ok (.goto (-110), 3) := by decide +kernel
theorem dX11_loses_136 : decode cX11_loses 136 = .ok (.aload_n 0, 1) := by decide +kernel
theorem dX11_loses_137 : decode cX11_loses 137 = .ok (.lload 5, 2) := by decide +kernel
theorem dX11_loses_139 : decode cX11_loses 139 = .ok (.aload_n 0, 1) := by decide +kernel
theorem dX11_loses_140 : decode cX11_loses 140 = .ok (.invokevirtual 235, 3) := by decide +kernel
theorem dX11_loses_143 : decode cX11_loses 143 = .ok (.iconst 1, 1) := by decide +kernel
theorem dX11_loses_144 : decode cX11_loses 144 = .ok (.invokevirtual 225, 3) := by decide +kernel
theorem dX11_loses_147 : decode cX11_loses 147 = .ok (.ireturn, 1) := by decide +kernel
set_option maxRecDepth 100000 in
set_option maxHeartbeats 4000000 in
theorem tb_X11_loses_37 {K : sd_K} {E : sd_Env}   {r : (Int32 × sd_Mem)} (C : sd_C K E sd_LM RX11 cX11_loses 11 (some .int))  {k23 : sd_Mem → Int32 → Int32 → Int32 → Int64 → Int32 → Option (Int32 × sd_Mem)} (hk23 : ∀ (M : sd_Mem) (x1 : Int32) (x2 : Int32) (x3 : Int32) (l5 : Int64) (x7 : Int32), k23 M x1 x2 x3 l5 x7 = some r → sd_Z K rm_X11_loses E sd_LM 11 (sd_QI K E sd_LM r.1 r.2) M 23 [(0, .ref (E.2.2 100)), (1, .int x1), (2, .int x2), (3, .int x3), (5, .long l5), (7, .int x7)] []) : ∀ (n : Nat), ∀ (M : sd_Mem) (x1 : Int32) (x2 : Int32) (x3 : Int32) (l5 : Int64) (x7 : Int32) (x8 : Int32), fn_X11_loses_37 k23 n M x1 x2 x3 l5 x7 x8 = some r → sd_Z K rm_X11_loses E sd_LM 11 (sd_QI K E sd_LM r.1 r.2) M 37 [(0, .ref (E.2.2 100)), (1, .int x1), (2, .int x2), (3, .int x3), (5, .long l5), (7, .int x7), (8, .int x8)] [] := by
  intro n
  induction n with
  | zero => intro M x1 x2 x3 l5 x7 x8 hF; cases hF
  | succ n ih =>
    intro M x1 x2 x3 l5 x7 x8 hF
    unfold fn_X11_loses_37 at hF
    refine sd_iload C 6 dX11_loses_37 rfl rfl (n' := 39) ?_
    refine sd_aload_n C 0 dX11_loses_39 rfl rfl rfl (n' := 40) ?_
    refine sd_g11_10 C sd_i100 sd_k100 sd_w1051 dX11_loses_40 rfl (n' := 43) ?_
    refine sd_iconst C (v := 0) dX11_loses_43 rfl rfl (n' := 44) ?_
    obtain ⟨b44, hF⟩ := sd_ok hF
    refine sd_iald C sd_i107 sd_k107 sd_n107 b44 dX11_loses_44 rfl (n' := 45) ?_
    refine sd_icmp_ge C (n' := 48) (tgt := 130) dX11_loses_45 rfl rfl (fun c45 => ?_) (fun c45 => ?_)
    · replace hF := sd_pos hF c45
      refine sd_iinc [(7, .int (x7 + (1 : Int32))), (0, .ref (E.2.2 100)), (1, .int x1), (2, .int x2), (3, .int x3), (5, .long l5), (8, .int x8)] 5 C dX11_loses_130 rfl rfl (by decide) rfl rfl (n' := 133) ?_
      refine sd_goto C (tgt := 23) dX11_loses_133 rfl ?_
      refine sd_sub [1, 2, 3, 4, 5, 0] rfl ?_
      exact hk23 M x1 x2 x3 l5 (x7 + (1 : Int32)) hF
    · replace hF := sd_neg hF c45
      refine sd_aload_n C 0 dX11_loses_48 rfl rfl rfl (n' := 49) ?_
      refine sd_iload_n C 1 dX11_loses_49 rfl rfl rfl (n' := 50) ?_
      refine sd_iload_n C 2 dX11_loses_50 rfl rfl rfl (n' := 51) ?_
      refine sd_iload C 5 dX11_loses_51 rfl rfl (n' := 53) ?_
      refine sd_iload C 6 dX11_loses_53 rfl rfl (n' := 55) ?_
      obtain ⟨q55, e55, hF⟩ := sd_bind hF
      refine sd_callVI [.int x1, .int x2, .int x7, .int x8] [] C (ct_X11_dayOf M x1 x2 x7 x8  e55) sd_lX11_199 ⟨rfl, rfl, Nat.le_of_ble_eq_true rfl, Nat.le_of_ble_eq_true rfl⟩ sd_i100 (sd_e12 sd_k100) rfl rfl rfl (Nat.le_of_ble_eq_true rfl) dX11_loses_55 rfl (n' := 58) ?_
      refine sd_iconst C (v := 1) dX11_loses_58 rfl rfl (n' := 59) ?_
      refine sd_isub C dX11_loses_59 rfl (n' := 60) ?_
      refine sd_i2l C dX11_loses_60 rfl (n' := 61) ?_
      refine sd_lstore [(9, .long ((q55 - (1 : Int32)).toInt64)), (0, .ref (E.2.2 100)), (1, .int x1), (2, .int x2), (3, .int x3), (5, .long l5), (7, .int x7), (8, .int x8)] C dX11_loses_61 (by decide) rfl rfl (n' := 63) ?_
      refine sd_lload C 5 dX11_loses_63 rfl rfl (n' := 65) ?_
      refine sd_lload C 0 dX11_loses_65 rfl rfl (n' := 67) ?_
      refine sd_aload_n C 1 dX11_loses_67 rfl rfl rfl (n' := 68) ?_
      refine sd_g11_11 C sd_i100 sd_k100 sd_w1052 dX11_loses_68 rfl (n' := 71) ?_
      refine sd_iconst C (v := 3) dX11_loses_71 rfl rfl (n' := 72) ?_
      refine sd_iload C 6 dX11_loses_72 rfl rfl (n' := 74) ?_
      refine sd_iadd C dX11_loses_74 rfl (n' := 75) ?_
      obtain ⟨b75, hF⟩ := sd_ok hF
      refine sd_iald C sd_i108 sd_k108 sd_n108 b75 dX11_loses_75 rfl (n' := 76) ?_
      refine sd_i2l C dX11_loses_76 rfl (n' := 77) ?_
      refine sd_lmul C dX11_loses_77 rfl (n' := 78) ?_
      refine sd_aload_n C 1 dX11_loses_78 rfl rfl rfl (n' := 79) ?_
      refine sd_g11_11 C sd_i100 sd_k100 sd_w1052 dX11_loses_79 rfl (n' := 82) ?_
      refine sd_iload C 7 dX11_loses_82 rfl rfl (n' := 84) ?_
      obtain ⟨b84, hF⟩ := sd_ok hF
      refine sd_iald C sd_i108 sd_k108 sd_n108 b84 dX11_loses_84 rfl (n' := 85) ?_
      refine sd_i2l C dX11_loses_85 rfl (n' := 86) ?_
      refine sd_lmul C dX11_loses_86 rfl (n' := 87) ?_
      refine sd_iload_n C 4 dX11_loses_87 rfl rfl rfl (n' := 88) ?_
      refine sd_if_eq C (n' := 91) (tgt := 118) dX11_loses_88 rfl rfl (fun c88 => ?_) (fun c88 => ?_)
      · replace hF := sd_pos hF c88
        refine sd_iconst C (v := 1) dX11_loses_118 rfl rfl (n' := 119) ?_
        refine sd_i2l C dX11_loses_119 rfl (n' := 120) ?_
        refine sd_lmul C dX11_loses_120 rfl (n' := 121) ?_
        refine sd_ladd C dX11_loses_121 rfl (n' := 122) ?_
        refine sd_lstore [(5, .long (l5 + (((((q55 - (1 : Int32)).toInt64) * ((M.1 108 ((3 : Int32) + x7).toNatClampNeg).toInt64)) * ((M.1 108 x8.toNatClampNeg).toInt64)) * ((1 : Int32).toInt64)))), (9, .long ((q55 - (1 : Int32)).toInt64)), (0, .ref (E.2.2 100)), (1, .int x1), (2, .int x2), (3, .int x3), (7, .int x7), (8, .int x8)] C dX11_loses_122 (by decide) rfl rfl (n' := 124) ?_
        refine sd_iinc [(8, .int (x8 + (1 : Int32))), (5, .long (l5 + (((((q55 - (1 : Int32)).toInt64) * ((M.1 108 ((3 : Int32) + x7).toNatClampNeg).toInt64)) * ((M.1 108 x8.toNatClampNeg).toInt64)) * ((1 : Int32).toInt64)))), (9, .long ((q55 - (1 : Int32)).toInt64)), (0, .ref (E.2.2 100)), (1, .int x1), (2, .int x2), (3, .int x3), (7, .int x7)] 7 C dX11_loses_124 rfl rfl (by decide) rfl rfl (n' := 127) ?_
        refine sd_goto C (tgt := 37) dX11_loses_127 rfl ?_
        refine sd_sub [3, 4, 5, 6, 1, 7, 0] rfl ?_
        exact ih M x1 x2 x3 (l5 + (((((q55 - (1 : Int32)).toInt64) * ((M.1 108 ((3 : Int32) + x7).toNatClampNeg).toInt64)) * ((M.1 108 x8.toNatClampNeg).toInt64)) * ((1 : Int32).toInt64))) x7 (x8 + (1 : Int32)) hF
      · replace hF := sd_neg hF c88
        refine sd_aload_n C 1 dX11_loses_91 rfl rfl rfl (n' := 92) ?_
        refine sd_g11_13 C sd_i100 sd_k100 sd_w1054 dX11_loses_92 rfl (n' := 95) ?_
        refine sd_iconst C (v := 0) dX11_loses_95 rfl rfl (n' := 96) ?_
        obtain ⟨b96, hF⟩ := sd_ok hF
        refine sd_iald C sd_i110 sd_k110 sd_n110 b96 dX11_loses_96 rfl (n' := 97) ?_
        refine sd_aload_n C 1 dX11_loses_97 rfl rfl rfl (n' := 98) ?_
        refine sd_g11_12 C sd_i100 sd_k100 sd_w1053 dX11_loses_98 rfl (n' := 101) ?_
        refine sd_iconst C (v := 3) dX11_loses_101 rfl rfl (n' := 102) ?_
        refine sd_iload C 6 dX11_loses_102 rfl rfl (n' := 104) ?_
        refine sd_iadd C dX11_loses_104 rfl (n' := 105) ?_
        obtain ⟨b105, hF⟩ := sd_ok hF
        refine sd_iald C sd_i109 sd_k109 sd_n109 b105 dX11_loses_105 rfl (n' := 106) ?_
        refine sd_iadd C dX11_loses_106 rfl (n' := 107) ?_
        refine sd_aload_n C 1 dX11_loses_107 rfl rfl rfl (n' := 108) ?_
        refine sd_g11_12 C sd_i100 sd_k100 sd_w1053 dX11_loses_108 rfl (n' := 111) ?_
        refine sd_iload C 7 dX11_loses_111 rfl rfl (n' := 113) ?_
        obtain ⟨b113, hF⟩ := sd_ok hF
        refine sd_iald C sd_i109 sd_k109 sd_n109 b113 dX11_loses_113 rfl (n' := 114) ?_
        refine sd_iadd C dX11_loses_114 rfl (n' := 115) ?_
        refine sd_goto C (tgt := 119) dX11_loses_115 rfl ?_
        refine sd_i2l C dX11_loses_119 rfl (n' := 120) ?_
        refine sd_lmul C dX11_loses_120 rfl (n' := 121) ?_
        refine sd_ladd C dX11_loses_121 rfl (n' := 122) ?_
        refine sd_lstore [(5, .long (l5 + (((((q55 - (1 : Int32)).toInt64) * ((M.1 108 ((3 : Int32) + x7).toNatClampNeg).toInt64)) * ((M.1 108 x8.toNatClampNeg).toInt64)) * ((((M.1 110 (0 : Int32).toNatClampNeg) + (M.1 109 ((3 : Int32) + x7).toNatClampNeg)) + (M.1 109 x8.toNatClampNeg)).toInt64)))), (9, .long ((q55 - (1 : Int32)).toInt64)), (0, .ref (E.2.2 100)), (1, .int x1), (2, .int x2), (3, .int x3), (7, .int x7), (8, .int x8)] C dX11_loses_122 (by decide) rfl rfl (n' := 124) ?_
        refine sd_iinc [(8, .int (x8 + (1 : Int32))), (5, .long (l5 + (((((q55 - (1 : Int32)).toInt64) * ((M.1 108 ((3 : Int32) + x7).toNatClampNeg).toInt64)) * ((M.1 108 x8.toNatClampNeg).toInt64)) * ((((M.1 110 (0 : Int32).toNatClampNeg) + (M.1 109 ((3 : Int32) + x7).toNatClampNeg)) + (M.1 109 x8.toNatClampNeg)).toInt64)))), (9, .long ((q55 - (1 : Int32)).toInt64)), (0, .ref (E.2.2 100)), (1, .int x1), (2, .int x2), (3, .int x3), (7, .int x7)] 7 C dX11_loses_124 rfl rfl (by decide) rfl rfl (n' := 127) ?_
        refine sd_goto C (tgt := 37) dX11_loses_127 rfl ?_
        refine sd_sub [3, 4, 5, 6, 1, 7, 0] rfl ?_
        exact ih M x1 x2 x3 (l5 + (((((q55 - (1 : Int32)).toInt64) * ((M.1 108 ((3 : Int32) + x7).toNatClampNeg).toInt64)) * ((M.1 108 x8.toNatClampNeg).toInt64)) * ((((M.1 110 (0 : Int32).toNatClampNeg) + (M.1 109 ((3 : Int32) + x7).toNatClampNeg)) + (M.1 109 x8.toNatClampNeg)).toInt64))) x7 (x8 + (1 : Int32)) hF
set_option maxRecDepth 100000 in
set_option maxHeartbeats 4000000 in
theorem tb_X11_loses_136 {K : sd_K} {E : sd_Env}   {r : (Int32 × sd_Mem)} (C : sd_C K E sd_LM RX11 cX11_loses 11 (some .int))  : ∀ (M : sd_Mem) (l5 : Int64), fn_X11_loses_136 M l5 = some r → sd_Z K rm_X11_loses E sd_LM 11 (sd_QI K E sd_LM r.1 r.2) M 136 [(0, .ref (E.2.2 100)), (5, .long l5)] [] := by
  intro M l5 hF
  unfold fn_X11_loses_136 at hF
  refine sd_aload_n C 0 dX11_loses_136 rfl rfl rfl (n' := 137) ?_
  refine sd_lload C 1 dX11_loses_137 rfl rfl (n' := 139) ?_
  refine sd_aload_n C 0 dX11_loses_139 rfl rfl rfl (n' := 140) ?_
  obtain ⟨q140, e140, hF⟩ := sd_bind hF
  refine sd_callVL [] [.long l5, .ref (E.2.2 100)] C (ct_X11_pairs M   e140) sd_lX11_235 ⟨rfl, rfl, Nat.le_of_ble_eq_true rfl, Nat.le_of_ble_eq_true rfl⟩ sd_i100 (sd_e12 sd_k100) rfl rfl rfl (Nat.le_of_ble_eq_true rfl) dX11_loses_140 rfl (n' := 143) ?_
  refine sd_iconst C (v := 1) dX11_loses_143 rfl rfl (n' := 144) ?_
  obtain ⟨q144, e144, hF⟩ := sd_bind hF
  refine sd_callVI [.long l5, .long q140, .int (1 : Int32)] [] C (ct_X11_share M l5 q140 (1 : Int32)  e144) sd_lX11_225 ⟨rfl, rfl, Nat.le_of_ble_eq_true rfl, Nat.le_of_ble_eq_true rfl⟩ sd_i100 (sd_e12 sd_k100) rfl rfl rfl (Nat.le_of_ble_eq_true rfl) dX11_loses_144 rfl (n' := 147) ?_
  exact sd_iret C dX11_loses_147 (sd_fst hF) (sd_snd hF)
set_option maxRecDepth 100000 in
set_option maxHeartbeats 4000000 in
theorem tb_X11_loses_23 {K : sd_K} {E : sd_Env}   {r : (Int32 × sd_Mem)} (C : sd_C K E sd_LM RX11 cX11_loses 11 (some .int))  : ∀ (n : Nat), ∀ (M : sd_Mem) (x1 : Int32) (x2 : Int32) (x3 : Int32) (l5 : Int64) (x7 : Int32), fn_X11_loses_23 n M x1 x2 x3 l5 x7 = some r → sd_Z K rm_X11_loses E sd_LM 11 (sd_QI K E sd_LM r.1 r.2) M 23 [(0, .ref (E.2.2 100)), (1, .int x1), (2, .int x2), (3, .int x3), (5, .long l5), (7, .int x7)] [] := by
  intro n
  induction n with
  | zero => intro M x1 x2 x3 l5 x7 hF; cases hF
  | succ n ih =>
    intro M x1 x2 x3 l5 x7 hF
    unfold fn_X11_loses_23 at hF
    refine sd_iload C 5 dX11_loses_23 rfl rfl (n' := 25) ?_
    refine sd_aload_n C 0 dX11_loses_25 rfl rfl rfl (n' := 26) ?_
    refine sd_g11_10 C sd_i100 sd_k100 sd_w1051 dX11_loses_26 rfl (n' := 29) ?_
    refine sd_iconst C (v := 1) dX11_loses_29 rfl rfl (n' := 30) ?_
    obtain ⟨b30, hF⟩ := sd_ok hF
    refine sd_iald C sd_i107 sd_k107 sd_n107 b30 dX11_loses_30 rfl (n' := 31) ?_
    refine sd_icmp_ge C (n' := 34) (tgt := 136) dX11_loses_31 rfl rfl (fun c31 => ?_) (fun c31 => ?_)
    · replace hF := sd_pos hF c31
      refine sd_sub [0, 4] rfl ?_
      exact tb_X11_loses_136 C M l5 hF
    · replace hF := sd_neg hF c31
      refine sd_iconst C (v := 0) dX11_loses_34 rfl rfl (n' := 35) ?_
      refine sd_istore [(8, .int (0 : Int32)), (0, .ref (E.2.2 100)), (1, .int x1), (2, .int x2), (3, .int x3), (5, .long l5), (7, .int x7)] C dX11_loses_35 (by decide) rfl rfl (n' := 37) ?_
      refine sd_sub [1, 2, 3, 4, 5, 6, 0] rfl ?_
      exact tb_X11_loses_37 C ih sd_FU M x1 x2 x3 l5 x7 (0 : Int32) hF
set_option maxRecDepth 100000 in
set_option maxHeartbeats 4000000 in
theorem tb_X11_loses_0 {K : sd_K} {E : sd_Env}   {r : (Int32 × sd_Mem)} (C : sd_C K E sd_LM RX11 cX11_loses 11 (some .int))  : ∀ (M : sd_Mem) (x1 : Int32) (x2 : Int32) (x3 : Int32), fn_X11_loses_0 M x1 x2 x3 = some r → sd_Z K rm_X11_loses E sd_LM 11 (sd_QI K E sd_LM r.1 r.2) M 0 [(0, .ref (E.2.2 100)), (1, .int x1), (2, .int x2), (3, .int x3)] [] := by
  intro M x1 x2 x3 hF
  unfold fn_X11_loses_0 at hF
  refine sd_aload_n C 0 dX11_loses_0 rfl rfl rfl (n' := 1) ?_
  refine sd_iload_n C 1 dX11_loses_1 rfl rfl rfl (n' := 2) ?_
  refine sd_iload_n C 2 dX11_loses_2 rfl rfl rfl (n' := 3) ?_
  refine sd_iconst C (v := 1) dX11_loses_3 rfl rfl (n' := 4) ?_
  obtain ⟨q4, e4, hF⟩ := sd_bind hF
  refine sd_callVI [.int x1, .int x2, .int (1 : Int32)] [] C (ct_X11_askedTwo M x1 x2 (1 : Int32)  e4) sd_lX11_195 ⟨rfl, rfl, Nat.le_of_ble_eq_true rfl, Nat.le_of_ble_eq_true rfl⟩ sd_i100 (sd_e12 sd_k100) rfl rfl rfl (Nat.le_of_ble_eq_true rfl) dX11_loses_4 rfl (n' := 7) ?_
  refine sd_istore [(4, .int q4.1), (0, .ref (E.2.2 100)), (1, .int x1), (2, .int x2), (3, .int x3)] C dX11_loses_7 (by decide) rfl rfl (n' := 9) ?_
  refine sd_iload C 0 dX11_loses_9 rfl rfl (n' := 11) ?_
  refine sd_if_ge C (n' := 14) (tgt := 17) dX11_loses_11 rfl rfl (fun c11 => ?_) (fun c11 => ?_)
  · replace hF := sd_pos hF c11
    refine sd_lconst C (v := 0) dX11_loses_17 rfl rfl (n' := 18) ?_
    refine sd_lstore [(5, .long (0 : Int64)), (4, .int q4.1), (0, .ref (E.2.2 100)), (1, .int x1), (2, .int x2), (3, .int x3)] C dX11_loses_18 (by decide) rfl rfl (n' := 20) ?_
    refine sd_iconst C (v := 0) dX11_loses_20 rfl rfl (n' := 21) ?_
    refine sd_istore [(7, .int (0 : Int32)), (5, .long (0 : Int64)), (4, .int q4.1), (0, .ref (E.2.2 100)), (1, .int x1), (2, .int x2), (3, .int x3)] C dX11_loses_21 (by decide) rfl rfl (n' := 23) ?_
    refine sd_sub [3, 4, 5, 6, 1, 0] rfl ?_
    exact tb_X11_loses_23 C sd_FU q4.2 x1 x2 x3 (0 : Int64) (0 : Int32) hF
  · replace hF := sd_neg hF c11
    refine sd_iload C 0 dX11_loses_14 rfl rfl (n' := 16) ?_
    exact sd_iret C dX11_loses_16 (sd_fst hF) (sd_snd hF)
theorem ct_X11_loses {l : Launch} {E : sd_Env} (M : sd_Mem) (x1 : Int32) (x2 : Int32) (x3 : Int32)  {r : (Int32 × sd_Mem)} (hF : fn_X11_loses M x1 x2 x3 = some r) : sd_MI l E sd_LM yX11_loses cX11_loses 11 (some .int) rm_X11_loses [.ref (E.2.2 100), .int x1, .int x2, .int x3] M r.1 r.2 := sd_ent0 (by decide +kernel) (Nat.le_of_ble_eq_true rfl) (fun p e s m below meth c C => tb_X11_loses_0 C M x1 x2 x3 hF)
theorem dX11_longer_0 : decode cX11_longer 0 = .ok (.aload_n 0, 1) := by decide +kernel
theorem dX11_longer_1 : decode cX11_longer 1 = .ok (.iload_n 1, 1) := by decide +kernel
theorem dX11_longer_2 : decode cX11_longer 2 = .ok (.iload_n 2, 1) := by decide +kernel
theorem dX11_longer_3 : decode cX11_longer 3 = .ok (.iconst 0, 1) := by decide +kernel
theorem dX11_longer_4 : decode cX11_longer 4 = .ok (.invokevirtual 265, 3) := by decide +kernel
theorem dX11_longer_7 : decode cX11_longer 7 = .ok (.ireturn, 1) := by decide +kernel
set_option maxRecDepth 100000 in
set_option maxHeartbeats 4000000 in
theorem tb_X11_longer_0 {K : sd_K} {E : sd_Env}   {r : (Int32 × sd_Mem)} (C : sd_C K E sd_LM RX11 cX11_longer 3 (some .int))  : ∀ (M : sd_Mem) (x1 : Int32) (x2 : Int32), fn_X11_longer_0 M x1 x2 = some r → sd_Z K rm_X11_longer E sd_LM 3 (sd_QI K E sd_LM r.1 r.2) M 0 [(0, .ref (E.2.2 100)), (1, .int x1), (2, .int x2)] [] := by
  intro M x1 x2 hF
  unfold fn_X11_longer_0 at hF
  refine sd_aload_n C 0 dX11_longer_0 rfl rfl rfl (n' := 1) ?_
  refine sd_iload_n C 1 dX11_longer_1 rfl rfl rfl (n' := 2) ?_
  refine sd_iload_n C 2 dX11_longer_2 rfl rfl rfl (n' := 3) ?_
  refine sd_iconst C (v := 0) dX11_longer_3 rfl rfl (n' := 4) ?_
  obtain ⟨q4, e4, hF⟩ := sd_bind hF
  refine sd_callVI [.int x1, .int x2, .int (0 : Int32)] [] C (ct_X11_loses M x1 x2 (0 : Int32)  e4) sd_lX11_265 ⟨rfl, rfl, Nat.le_of_ble_eq_true rfl, Nat.le_of_ble_eq_true rfl⟩ sd_i100 (sd_e12 sd_k100) rfl rfl rfl (Nat.le_of_ble_eq_true rfl) dX11_longer_4 rfl (n' := 7) ?_
  exact sd_iret C dX11_longer_7 (sd_fst hF) (sd_snd hF)
theorem ct_X11_longer {l : Launch} {E : sd_Env} (M : sd_Mem) (x1 : Int32) (x2 : Int32)  {r : (Int32 × sd_Mem)} (hF : fn_X11_longer M x1 x2 = some r) : sd_MI l E sd_LM yX11_longer cX11_longer 3 (some .int) rm_X11_longer [.ref (E.2.2 100), .int x1, .int x2] M r.1 r.2 := sd_ent0 (by decide +kernel) (Nat.le_of_ble_eq_true rfl) (fun p e s m below meth c C => tb_X11_longer_0 C M x1 x2 hF)
theorem dX11_lost_0 : decode cX11_lost 0 = .ok (.aload_n 0, 1) := by decide +kernel
theorem dX11_lost_1 : decode cX11_lost 1 = .ok (.iload_n 1, 1) := by decide +kernel
theorem dX11_lost_2 : decode cX11_lost 2 = .ok (.iload_n 2, 1) := by decide +kernel
theorem dX11_lost_3 : decode cX11_lost 3 = .ok (.iconst 1, 1) := by decide +kernel
theorem dX11_lost_4 : decode cX11_lost 4 = .ok (.invokevirtual 265, 3) := by decide +kernel
theorem dX11_lost_7 : decode cX11_lost 7 = .ok (.ireturn, 1) := by decide +kernel
set_option maxRecDepth 100000 in
set_option maxHeartbeats 4000000 in
theorem tb_X11_lost_0 {K : sd_K} {E : sd_Env}   {r : (Int32 × sd_Mem)} (C : sd_C K E sd_LM RX11 cX11_lost 3 (some .int))  : ∀ (M : sd_Mem) (x1 : Int32) (x2 : Int32), fn_X11_lost_0 M x1 x2 = some r → sd_Z K rm_X11_lost E sd_LM 3 (sd_QI K E sd_LM r.1 r.2) M 0 [(0, .ref (E.2.2 100)), (1, .int x1), (2, .int x2)] [] := by
  intro M x1 x2 hF
  unfold fn_X11_lost_0 at hF
  refine sd_aload_n C 0 dX11_lost_0 rfl rfl rfl (n' := 1) ?_
  refine sd_iload_n C 1 dX11_lost_1 rfl rfl rfl (n' := 2) ?_
  refine sd_iload_n C 2 dX11_lost_2 rfl rfl rfl (n' := 3) ?_
  refine sd_iconst C (v := 1) dX11_lost_3 rfl rfl (n' := 4) ?_
  obtain ⟨q4, e4, hF⟩ := sd_bind hF
  refine sd_callVI [.int x1, .int x2, .int (1 : Int32)] [] C (ct_X11_loses M x1 x2 (1 : Int32)  e4) sd_lX11_265 ⟨rfl, rfl, Nat.le_of_ble_eq_true rfl, Nat.le_of_ble_eq_true rfl⟩ sd_i100 (sd_e12 sd_k100) rfl rfl rfl (Nat.le_of_ble_eq_true rfl) dX11_lost_4 rfl (n' := 7) ?_
  exact sd_iret C dX11_lost_7 (sd_fst hF) (sd_snd hF)
theorem ct_X11_lost {l : Launch} {E : sd_Env} (M : sd_Mem) (x1 : Int32) (x2 : Int32)  {r : (Int32 × sd_Mem)} (hF : fn_X11_lost M x1 x2 = some r) : sd_MI l E sd_LM yX11_lost cX11_lost 3 (some .int) rm_X11_lost [.ref (E.2.2 100), .int x1, .int x2] M r.1 r.2 := sd_ent0 (by decide +kernel) (Nat.le_of_ble_eq_true rfl) (fun p e s m below meth c C => tb_X11_lost_0 C M x1 x2 hF)
theorem dX11_morning_0 : decode cX11_morning 0 = .ok (.aload_n 0, 1) := by decide +kernel
theorem dX11_morning_1 : decode cX11_morning 1 = .ok (.iconst 1, 1) := by decide +kernel
theorem dX11_morning_2 : decode cX11_morning 2 = .ok (.iload_n 3, 1) := by decide +kernel
theorem dX11_morning_3 : decode cX11_morning 3 = .ok (.invokevirtual 153, 3) := by decide +kernel
theorem dX11_morning_6 : decode cX11_morning 6 = .ok (.ifCond .eq 13, 3) := by decide +kernel
theorem dX11_morning_9 : decode cX11_morning 9 = .ok (.aload_n 0, 1) := by decide +kernel
theorem dX11_morning_10 : decode cX11_morning 10 = .ok (.iconst 0, 1) := by decide +kernel
theorem dX11_morning_11 : decode cX11_morning 11 = .ok (.iload 4, 2) := by decide +kernel
theorem dX11_morning_13 : decode cX11_morning 13 = .ok (.invokevirtual 153, 3) := by decide +kernel
theorem dX11_morning_16 : decode cX11_morning 16 = .ok (.ifCond .ne 5, 3) := by decide +kernel
theorem dX11_morning_19 : decode cX11_morning 19 = .ok (.iconst (-1), 1) := by decide +kernel
theorem dX11_morning_20 : decode cX11_morning 20 = .ok (.ireturn, 1) := by decide +kernel
theorem dX11_morning_21 : decode cX11_morning 21 = .ok (.aload_n 0, 1) := by decide +kernel
theorem dX11_morning_22 : decode cX11_morning 22 = .ok (.iload_n 1, 1) := by decide +kernel
theorem dX11_morning_23 : decode cX11_morning 23 = .ok (.iload_n 2, 1) := by decide +kernel
theorem dX11_morning_24 : decode cX11_morning 24 = .ok (.iconst 1, 1) := by decide +kernel
theorem dX11_morning_25 : decode cX11_morning 25 = .ok (.invokevirtual 195, 3) := by decide +kernel
theorem dX11_morning_28 : decode cX11_morning 28 = .ok (.istore 5, 2) := by decide +kernel
theorem dX11_morning_30 : decode cX11_morning 30 = .ok (.iload 5, 2) := by decide +kernel
theorem dX11_morning_32 : decode cX11_morning 32 = .ok (.ifCond .ge 6, 3) := by decide +kernel
theorem dX11_morning_35 : decode cX11_morning 35 = .ok (.iload 5, 2) := by decide +kernel
theorem dX11_morning_37 : decode cX11_morning 37 = .ok (.ireturn, 1) := by decide +kernel
theorem dX11_morning_38 : decode cX11_morning 38 = .ok (.aload_n 0, 1) := by decide +kernel
theorem dX11_morning_39 : decode cX11_morning 39 = .ok (.iload_n 1, 1) := by decide +kernel
theorem dX11_morning_40 : decode cX11_morning 40 = .ok (.iload_n 2, 1) := by decide +kernel
theorem dX11_morning_41 : decode cX11_morning 41 = .ok (.iload_n 3, 1) := by decide +kernel
theorem dX11_morning_42 : decode cX11_morning 42 = .ok (.iload 4, 2) := by decide +kernel
theorem dX11_morning_44 : decode cX11_morning 44 = .ok (.invokevirtual 199, 3) := by decide +kernel
theorem dX11_morning_47 : decode cX11_morning 47 = .ok (.istore 6, 2) := by decide +kernel
theorem dX11_morning_49 : decode cX11_morning 49 = .ok (.aload_n 0, 1) := by decide +kernel
theorem dX11_morning_50 : decode cX11_morning 50 = .ok (.iload_n 1, 1) := by decide +kernel
theorem dX11_morning_51 : decode cX11_morning 51 = .ok (.iload_n 3, 1) := by decide +kernel
theorem dX11_morning_52 : decode cX11_morning 52 = .ok (.iload 6, 2) := by decide +kernel
theorem dX11_morning_54 : decode cX11_morning 54 = .ok (.invokevirtual 203, 3) := by decide +kernel
theorem dX11_morning_57 : decode cX11_morning 57 = .ok (.istore 7, 2) := by decide +kernel
theorem dX11_morning_59 : decode cX11_morning 59 = .ok (.aload_n 0, 1) := by decide +kernel
theorem dX11_morning_60 : decode cX11_morning 60 = .ok (.iconst 0, 1) := by decide +kernel
theorem dX11_morning_61 : decode cX11_morning 61 = .ok (.iload 4, 2) := by decide +kernel
theorem dX11_morning_63 : decode cX11_morning 63 = .ok (.iload 6, 2) := by decide +kernel
theorem dX11_morning_65 : decode cX11_morning 65 = .ok (.iload 7, 2) := by decide +kernel
theorem dX11_morning_67 : decode cX11_morning 67 = .ok (.invokevirtual 208, 3) := by decide +kernel
theorem dX11_morning_70 : decode cX11_morning 70 = .ok (.lstore 8, 2) := by decide +kernel
theorem dX11_morning_72 : decode cX11_morning 72 = .ok (.aload_n 0, 1) := by decide +kernel
theorem dX11_morning_73 : decode cX11_morning 73 = .ok (.iconst 1, 1) := by decide +kernel
theorem dX11_morning_74 : decode cX11_morning 74 = .ok (.iload_n 3, 1) := by decide +kernel
theorem dX11_morning_75 : decode cX11_morning 75 = .ok (.iload 6, 2) := by decide +kernel
theorem dX11_morning_77 : decode cX11_morning 77 = .ok (.iload 7, 2) := by decide +kernel
theorem dX11_morning_79 : decode cX11_morning 79 = .ok (.invokevirtual 208, 3) := by decide +kernel
theorem dX11_morning_82 : decode cX11_morning 82 = .ok (.lstore 10, 2) := by decide +kernel
theorem dX11_morning_84 : decode cX11_morning 84 = .ok (.iconst 0, 1) := by decide +kernel
theorem dX11_morning_85 : decode cX11_morning 85 = .ok (.istore 12, 2) := by decide +kernel
theorem dX11_morning_87 : decode cX11_morning 87 = .ok (.iconst 0, 1) := by decide +kernel
theorem dX11_morning_88 : decode cX11_morning 88 = .ok (.istore 13, 2) := by decide +kernel
theorem dX11_morning_90 : decode cX11_morning 90 = .ok (.iload 13, 2) := by decide +kernel
theorem dX11_morning_92 : decode cX11_morning 92 = .ok (.bipush 12, 2) := by decide +kernel
theorem dX11_morning_94 : decode cX11_morning 94 = .ok (.if_icmp .gt 77, 3) := by decide +kernel
theorem dX11_morning_97 : decode cX11_morning 97 = .ok (.aload_n 0, 1) := by decide +kernel
theorem dX11_morning_98 : decode cX11_morning 98 = .ok (.iconst 0, 1) := by decide +kernel
theorem dX11_morning_99 : decode cX11_morning 99 = .ok (.iload 4, 2) := by decide +kernel
theorem dX11_morning_101 : decode cX11_morning 101 = .ok (.iconst 1, 1) := by decide +kernel
theorem dX11_morning_102 : decode cX11_morning 102 = .ok (.iload 13, 2) := by decide +kernel
theorem dX11_morning_104 : decode cX11_morning 104 = .ok (.invokevirtual 208, 3) := by decide +kernel
theorem dX11_morning_107 : decode cX11_morning 107 = .ok (.lstore 14, 2) := by decide +kernel
theorem dX11_morning_109 : decode cX11_morning 109 = .ok (.aload_n 0, 1) := by decide +kernel
theorem dX11_morning_110 : decode cX11_morning 110 = .ok (.iconst 1, 1) := by decide +kernel
theorem dX11_morning_111 : decode cX11_morning 111 = .ok (.iload_n 3, 1) := by decide +kernel
theorem dX11_morning_112 : decode cX11_morning 112 = .ok (.iconst 1, 1) := by decide +kernel
theorem dX11_morning_113 : decode cX11_morning 113 = .ok (.iload 13, 2) := by decide +kernel
theorem dX11_morning_115 : decode cX11_morning 115 = .ok (.invokevirtual 208, 3) := by decide +kernel
theorem dX11_morning_118 : decode cX11_morning 118 = .ok (.lstore 16, 2) := by decide +kernel
theorem dX11_morning_120 : decode cX11_morning 120 = .ok (.iload 12, 2) := by decide +kernel
theorem dX11_morning_122 : decode cX11_morning 122 = .ok (.lload 14, 2) := by decide +kernel
theorem dX11_morning_124 : decode cX11_morning 124 = .ok (.lload 8, 2) := by decide +kernel
theorem dX11_morning_126 : decode cX11_morning 126 = .ok (.lcmp, 1) := by decide +kernel
theorem dX11_morning_127 : decode cX11_morning 127 = .ok (.ifCond .lt 34, 3) := by decide +kernel
theorem dX11_morning_130 : decode cX11_morning 130 = .ok (.lload 16, 2) := by decide +kernel
theorem dX11_morning_132 : decode cX11_morning 132 = .ok (.lload 10, 2) := by decide +kernel
theorem dX11_morning_134 : decode cX11_morning 134 = .ok (.lcmp, 1) := by decide +kernel
theorem dX11_morning_135 : decode cX11_morning 135 = .ok (.ifCond .lt 26, 3) := by decide +kernel
theorem dX11_morning_138 : decode cX11_morning 138 = .ok (.lload 14, 2) := by decide +kernel
theorem dX11_morning_140 : decode cX11_morning 140 = .ok (.lload 8, 2) := by decide +kernel
theorem dX11_morning_142 : decode cX11_morning 142 = .ok (.lcmp, 1) := by decide +kernel
theorem dX11_morning_143 : decode cX11_morning 143 = .ok (.ifCond .gt 11, 3) := by decide +kernel
theorem dX11_morning_146 : decode cX11_morning 146 = .ok (.lload 16, 2) := by decide +kernel
theorem dX11_morning_148 : decode cX11_morning 148 = .ok (.lload 10, 2) := by decide +kernel
theorem dX11_morning_150 : decode cX11_morning 150 = .ok (.lcmp, 1) := by decide +kernel
theorem dX11_morning_151 : decode cX11_morning 151 = .ok (.ifCond .le 10, 3) := by decide +kernel
theorem dX11_morning_154 : decode cX11_morning 154 = .ok (.iconst 1, 1) := by decide +kernel
theorem dX11_morning_155 : decode cX11_morning 155 = .ok (.iload 13, 2) := by decide +kernel
theorem dX11_morning_157 : decode cX11_morning 157 = .ok (.ishl, 1) := by decide +kernel
theorem dX11_morning_158 : decode cX11_morning 158 = .ok (.goto 4, 3) := by decide +kernel
theorem dX11_morning_161 : decode cX11_morning 161 = .ok (.iconst 0, 1) := by decide +kernel
theorem dX11_morning_162 : decode cX11_morning 162 = .ok (.ior, 1) := by decide +kernel
theorem dX11_morning_163 : decode cX11_morning 163 = .ok (.istore 12, 2) := by decide +kernel
theorem dX11_morning_165 : decode cX11_morning 165 = .ok (.iinc 13 1, 3) := by decide +kernel
theorem dX11_morning_168 : decode cX11_morning 168 = .ok (.goto (-78), 3) := by decide +kernel
theorem dX11_morning_171 : decode cX11_morning 171 = .ok (.iload 12, 2) := by decide +kernel
theorem dX11_morning_173 : decode cX11_morning 173 = .ok (.ireturn, 1) := by decide +kernel
set_option maxRecDepth 100000 in
set_option maxHeartbeats 4000000 in
theorem tb_X11_morning_154 {K : sd_K} {E : sd_Env}   {r : (Int32 × sd_Mem)} (C : sd_C K E sd_LM RX11 cX11_morning 18 (some .int))  {k90 : sd_Mem → Int32 → Int32 → Int64 → Int64 → Int32 → Int32 → Option (Int32 × sd_Mem)} (hk90 : ∀ (M : sd_Mem) (x3 : Int32) (x4 : Int32) (l8 : Int64) (l10 : Int64) (x12 : Int32) (x13 : Int32), k90 M x3 x4 l8 l10 x12 x13 = some r → sd_Z K rm_X11_morning E sd_LM 18 (sd_QI K E sd_LM r.1 r.2) M 90 [(0, .ref (E.2.2 100)), (3, .int x3), (4, .int x4), (8, .long l8), (10, .long l10), (12, .int x12), (13, .int x13)] []) : ∀ (M : sd_Mem) (x3 : Int32) (x4 : Int32) (l8 : Int64) (l10 : Int64) (x13 : Int32) (xs0 : Int32), fn_X11_morning_154 k90 M x3 x4 l8 l10 x13 xs0 = some r → sd_Z K rm_X11_morning E sd_LM 18 (sd_QI K E sd_LM r.1 r.2) M 154 [(0, .ref (E.2.2 100)), (3, .int x3), (4, .int x4), (8, .long l8), (10, .long l10), (13, .int x13)] [.int xs0] := by
  intro M x3 x4 l8 l10 x13 xs0 hF
  unfold fn_X11_morning_154 at hF
  refine sd_iconst C (v := 1) dX11_morning_154 rfl rfl (n' := 155) ?_
  refine sd_iload C 5 dX11_morning_155 rfl rfl (n' := 157) ?_
  refine sd_ishl C dX11_morning_157 rfl (n' := 158) ?_
  refine sd_goto C (tgt := 162) dX11_morning_158 rfl ?_
  refine sd_ior C dX11_morning_162 rfl (n' := 163) ?_
  refine sd_istore [(12, .int (xs0 ||| ((1 : Int32) <<< (x13 &&& 31)))), (0, .ref (E.2.2 100)), (3, .int x3), (4, .int x4), (8, .long l8), (10, .long l10), (13, .int x13)] C dX11_morning_163 (by decide) rfl rfl (n' := 165) ?_
  refine sd_iinc [(13, .int (x13 + (1 : Int32))), (12, .int (xs0 ||| ((1 : Int32) <<< (x13 &&& 31)))), (0, .ref (E.2.2 100)), (3, .int x3), (4, .int x4), (8, .long l8), (10, .long l10)] 6 C dX11_morning_165 rfl rfl (by decide) rfl rfl (n' := 168) ?_
  refine sd_goto C (tgt := 90) dX11_morning_168 rfl ?_
  refine sd_sub [2, 3, 4, 5, 6, 1, 0] rfl ?_
  exact hk90 M x3 x4 l8 l10 (xs0 ||| ((1 : Int32) <<< (x13 &&& 31))) (x13 + (1 : Int32)) hF
set_option maxRecDepth 100000 in
set_option maxHeartbeats 4000000 in
theorem tb_X11_morning_90 {K : sd_K} {E : sd_Env}   {r : (Int32 × sd_Mem)} (C : sd_C K E sd_LM RX11 cX11_morning 18 (some .int))  : ∀ (n : Nat), ∀ (M : sd_Mem) (x3 : Int32) (x4 : Int32) (l8 : Int64) (l10 : Int64) (x12 : Int32) (x13 : Int32), fn_X11_morning_90 n M x3 x4 l8 l10 x12 x13 = some r → sd_Z K rm_X11_morning E sd_LM 18 (sd_QI K E sd_LM r.1 r.2) M 90 [(0, .ref (E.2.2 100)), (3, .int x3), (4, .int x4), (8, .long l8), (10, .long l10), (12, .int x12), (13, .int x13)] [] := by
  intro n
  induction n with
  | zero => intro M x3 x4 l8 l10 x12 x13 hF; cases hF
  | succ n ih =>
    intro M x3 x4 l8 l10 x12 x13 hF
    unfold fn_X11_morning_90 at hF
    refine sd_iload C 6 dX11_morning_90 rfl rfl (n' := 92) ?_
    refine sd_bipush C (v := 12) dX11_morning_92 rfl rfl (n' := 94) ?_
    refine sd_icmp_gt C (n' := 97) (tgt := 171) dX11_morning_94 rfl rfl (fun c94 => ?_) (fun c94 => ?_)
    · replace hF := sd_pos hF c94
      refine sd_iload C 5 dX11_morning_171 rfl rfl (n' := 173) ?_
      exact sd_iret C dX11_morning_173 (sd_fst hF) (sd_snd hF)
    · replace hF := sd_neg hF c94
      refine sd_aload_n C 0 dX11_morning_97 rfl rfl rfl (n' := 98) ?_
      refine sd_iconst C (v := 0) dX11_morning_98 rfl rfl (n' := 99) ?_
      refine sd_iload C 2 dX11_morning_99 rfl rfl (n' := 101) ?_
      refine sd_iconst C (v := 1) dX11_morning_101 rfl rfl (n' := 102) ?_
      refine sd_iload C 6 dX11_morning_102 rfl rfl (n' := 104) ?_
      obtain ⟨q104, e104, hF⟩ := sd_bind hF
      refine sd_callVL [.int (0 : Int32), .int x4, .int (1 : Int32), .int x13] [] C (ct_X11_worthOf M (0 : Int32) x4 (1 : Int32) x13  e104) sd_lX11_208 ⟨rfl, rfl, Nat.le_of_ble_eq_true rfl, Nat.le_of_ble_eq_true rfl⟩ sd_i100 (sd_e12 sd_k100) rfl rfl rfl (Nat.le_of_ble_eq_true rfl) dX11_morning_104 rfl (n' := 107) ?_
      refine sd_lstore [(14, .long q104), (0, .ref (E.2.2 100)), (3, .int x3), (4, .int x4), (8, .long l8), (10, .long l10), (12, .int x12), (13, .int x13)] C dX11_morning_107 (by decide) rfl rfl (n' := 109) ?_
      refine sd_aload_n C 1 dX11_morning_109 rfl rfl rfl (n' := 110) ?_
      refine sd_iconst C (v := 1) dX11_morning_110 rfl rfl (n' := 111) ?_
      refine sd_iload_n C 2 dX11_morning_111 rfl rfl rfl (n' := 112) ?_
      refine sd_iconst C (v := 1) dX11_morning_112 rfl rfl (n' := 113) ?_
      refine sd_iload C 7 dX11_morning_113 rfl rfl (n' := 115) ?_
      obtain ⟨q115, e115, hF⟩ := sd_bind hF
      refine sd_callVL [.int (1 : Int32), .int x3, .int (1 : Int32), .int x13] [] C (ct_X11_worthOf M (1 : Int32) x3 (1 : Int32) x13  e115) sd_lX11_208 ⟨rfl, rfl, Nat.le_of_ble_eq_true rfl, Nat.le_of_ble_eq_true rfl⟩ sd_i100 (sd_e12 sd_k100) rfl rfl rfl (Nat.le_of_ble_eq_true rfl) dX11_morning_115 rfl (n' := 118) ?_
      refine sd_lstore [(16, .long q115), (14, .long q104), (0, .ref (E.2.2 100)), (3, .int x3), (4, .int x4), (8, .long l8), (10, .long l10), (12, .int x12), (13, .int x13)] C dX11_morning_118 (by decide) rfl rfl (n' := 120) ?_
      refine sd_iload C 7 dX11_morning_120 rfl rfl (n' := 122) ?_
      refine sd_lload C 1 dX11_morning_122 rfl rfl (n' := 124) ?_
      refine sd_lload C 5 dX11_morning_124 rfl rfl (n' := 126) ?_
      refine sd_lcmp C dX11_morning_126 rfl (n' := 127) ?_
      refine sd_if_lt C (n' := 130) (tgt := 161) dX11_morning_127 rfl rfl (fun c127 => ?_) (fun c127 => ?_)
      · replace hF := sd_pos hF c127
        refine sd_iconst C (v := 0) dX11_morning_161 rfl rfl (n' := 162) ?_
        refine sd_ior C dX11_morning_162 rfl (n' := 163) ?_
        refine sd_istore [(12, .int (x12 ||| (0 : Int32))), (16, .long q115), (14, .long q104), (0, .ref (E.2.2 100)), (3, .int x3), (4, .int x4), (8, .long l8), (10, .long l10), (13, .int x13)] C dX11_morning_163 (by decide) rfl rfl (n' := 165) ?_
        refine sd_iinc [(13, .int (x13 + (1 : Int32))), (12, .int (x12 ||| (0 : Int32))), (16, .long q115), (14, .long q104), (0, .ref (E.2.2 100)), (3, .int x3), (4, .int x4), (8, .long l8), (10, .long l10)] 8 C dX11_morning_165 rfl rfl (by decide) rfl rfl (n' := 168) ?_
        refine sd_goto C (tgt := 90) dX11_morning_168 rfl ?_
        refine sd_sub [4, 5, 6, 7, 8, 1, 0] rfl ?_
        exact ih M x3 x4 l8 l10 (x12 ||| (0 : Int32)) (x13 + (1 : Int32)) hF
      · replace hF := sd_neg hF c127
        refine sd_lload C 0 dX11_morning_130 rfl rfl (n' := 132) ?_
        refine sd_lload C 6 dX11_morning_132 rfl rfl (n' := 134) ?_
        refine sd_lcmp C dX11_morning_134 rfl (n' := 135) ?_
        refine sd_if_lt C (n' := 138) (tgt := 161) dX11_morning_135 rfl rfl (fun c135 => ?_) (fun c135 => ?_)
        · replace hF := sd_pos hF c135
          refine sd_iconst C (v := 0) dX11_morning_161 rfl rfl (n' := 162) ?_
          refine sd_ior C dX11_morning_162 rfl (n' := 163) ?_
          refine sd_istore [(12, .int (x12 ||| (0 : Int32))), (16, .long q115), (14, .long q104), (0, .ref (E.2.2 100)), (3, .int x3), (4, .int x4), (8, .long l8), (10, .long l10), (13, .int x13)] C dX11_morning_163 (by decide) rfl rfl (n' := 165) ?_
          refine sd_iinc [(13, .int (x13 + (1 : Int32))), (12, .int (x12 ||| (0 : Int32))), (16, .long q115), (14, .long q104), (0, .ref (E.2.2 100)), (3, .int x3), (4, .int x4), (8, .long l8), (10, .long l10)] 8 C dX11_morning_165 rfl rfl (by decide) rfl rfl (n' := 168) ?_
          refine sd_goto C (tgt := 90) dX11_morning_168 rfl ?_
          refine sd_sub [4, 5, 6, 7, 8, 1, 0] rfl ?_
          exact ih M x3 x4 l8 l10 (x12 ||| (0 : Int32)) (x13 + (1 : Int32)) hF
        · replace hF := sd_neg hF c135
          refine sd_lload C 1 dX11_morning_138 rfl rfl (n' := 140) ?_
          refine sd_lload C 5 dX11_morning_140 rfl rfl (n' := 142) ?_
          refine sd_lcmp C dX11_morning_142 rfl (n' := 143) ?_
          refine sd_if_gt C (n' := 146) (tgt := 154) dX11_morning_143 rfl rfl (fun c143 => ?_) (fun c143 => ?_)
          · replace hF := sd_pos hF c143
            refine sd_sub [2, 3, 4, 5, 6, 8] rfl ?_
            exact tb_X11_morning_154 C ih M x3 x4 l8 l10 x13 x12 hF
          · replace hF := sd_neg hF c143
            refine sd_lload C 0 dX11_morning_146 rfl rfl (n' := 148) ?_
            refine sd_lload C 6 dX11_morning_148 rfl rfl (n' := 150) ?_
            refine sd_lcmp C dX11_morning_150 rfl (n' := 151) ?_
            refine sd_if_le C (n' := 154) (tgt := 161) dX11_morning_151 rfl rfl (fun c151 => ?_) (fun c151 => ?_)
            · replace hF := sd_pos hF c151
              refine sd_iconst C (v := 0) dX11_morning_161 rfl rfl (n' := 162) ?_
              refine sd_ior C dX11_morning_162 rfl (n' := 163) ?_
              refine sd_istore [(12, .int (x12 ||| (0 : Int32))), (16, .long q115), (14, .long q104), (0, .ref (E.2.2 100)), (3, .int x3), (4, .int x4), (8, .long l8), (10, .long l10), (13, .int x13)] C dX11_morning_163 (by decide) rfl rfl (n' := 165) ?_
              refine sd_iinc [(13, .int (x13 + (1 : Int32))), (12, .int (x12 ||| (0 : Int32))), (16, .long q115), (14, .long q104), (0, .ref (E.2.2 100)), (3, .int x3), (4, .int x4), (8, .long l8), (10, .long l10)] 8 C dX11_morning_165 rfl rfl (by decide) rfl rfl (n' := 168) ?_
              refine sd_goto C (tgt := 90) dX11_morning_168 rfl ?_
              refine sd_sub [4, 5, 6, 7, 8, 1, 0] rfl ?_
              exact ih M x3 x4 l8 l10 (x12 ||| (0 : Int32)) (x13 + (1 : Int32)) hF
            · replace hF := sd_neg hF c151
              refine sd_sub [2, 3, 4, 5, 6, 8] rfl ?_
              exact tb_X11_morning_154 C ih M x3 x4 l8 l10 x13 x12 hF
set_option maxRecDepth 100000 in
set_option maxHeartbeats 4000000 in
theorem tb_X11_morning_0 {K : sd_K} {E : sd_Env}   {r : (Int32 × sd_Mem)} (C : sd_C K E sd_LM RX11 cX11_morning 18 (some .int))  : ∀ (M : sd_Mem) (x1 : Int32) (x2 : Int32) (x3 : Int32) (x4 : Int32), fn_X11_morning_0 M x1 x2 x3 x4 = some r → sd_Z K rm_X11_morning E sd_LM 18 (sd_QI K E sd_LM r.1 r.2) M 0 [(0, .ref (E.2.2 100)), (1, .int x1), (2, .int x2), (3, .int x3), (4, .int x4)] [] := by
  intro M x1 x2 x3 x4 hF
  unfold fn_X11_morning_0 at hF
  refine sd_aload_n C 0 dX11_morning_0 rfl rfl rfl (n' := 1) ?_
  refine sd_iconst C (v := 1) dX11_morning_1 rfl rfl (n' := 2) ?_
  refine sd_iload_n C 3 dX11_morning_2 rfl rfl rfl (n' := 3) ?_
  obtain ⟨q3, e3, hF⟩ := sd_bind hF
  refine sd_callVI [.int (1 : Int32), .int x3] [] C (ct_X11_isSort M (1 : Int32) x3  e3) sd_lX11_153 ⟨rfl, rfl, Nat.le_of_ble_eq_true rfl, Nat.le_of_ble_eq_true rfl⟩ sd_i100 (sd_e12 sd_k100) rfl rfl rfl (Nat.le_of_ble_eq_true rfl) dX11_morning_3 rfl (n' := 6) ?_
  refine sd_if_eq C (n' := 9) (tgt := 19) dX11_morning_6 rfl rfl (fun c6 => ?_) (fun c6 => ?_)
  · replace hF := sd_pos hF c6
    refine sd_iconst C (v := -1) dX11_morning_19 rfl rfl (n' := 20) ?_
    exact sd_iret C dX11_morning_20 (sd_fst hF) (sd_snd hF)
  · replace hF := sd_neg hF c6
    refine sd_aload_n C 0 dX11_morning_9 rfl rfl rfl (n' := 10) ?_
    refine sd_iconst C (v := 0) dX11_morning_10 rfl rfl (n' := 11) ?_
    refine sd_iload C 4 dX11_morning_11 rfl rfl (n' := 13) ?_
    obtain ⟨q13, e13, hF⟩ := sd_bind hF
    refine sd_callVI [.int (0 : Int32), .int x4] [] C (ct_X11_isSort M (0 : Int32) x4  e13) sd_lX11_153 ⟨rfl, rfl, Nat.le_of_ble_eq_true rfl, Nat.le_of_ble_eq_true rfl⟩ sd_i100 (sd_e12 sd_k100) rfl rfl rfl (Nat.le_of_ble_eq_true rfl) dX11_morning_13 rfl (n' := 16) ?_
    refine sd_if_ne C (n' := 19) (tgt := 21) dX11_morning_16 rfl rfl (fun c16 => ?_) (fun c16 => ?_)
    · replace hF := sd_neg hF c16
      refine sd_aload_n C 0 dX11_morning_21 rfl rfl rfl (n' := 22) ?_
      refine sd_iload_n C 1 dX11_morning_22 rfl rfl rfl (n' := 23) ?_
      refine sd_iload_n C 2 dX11_morning_23 rfl rfl rfl (n' := 24) ?_
      refine sd_iconst C (v := 1) dX11_morning_24 rfl rfl (n' := 25) ?_
      obtain ⟨q25, e25, hF⟩ := sd_bind hF
      refine sd_callVI [.int x1, .int x2, .int (1 : Int32)] [] C (ct_X11_askedTwo M x1 x2 (1 : Int32)  e25) sd_lX11_195 ⟨rfl, rfl, Nat.le_of_ble_eq_true rfl, Nat.le_of_ble_eq_true rfl⟩ sd_i100 (sd_e12 sd_k100) rfl rfl rfl (Nat.le_of_ble_eq_true rfl) dX11_morning_25 rfl (n' := 28) ?_
      refine sd_istore [(5, .int q25.1), (0, .ref (E.2.2 100)), (1, .int x1), (2, .int x2), (3, .int x3), (4, .int x4)] C dX11_morning_28 (by decide) rfl rfl (n' := 30) ?_
      refine sd_iload C 0 dX11_morning_30 rfl rfl (n' := 32) ?_
      refine sd_if_ge C (n' := 35) (tgt := 38) dX11_morning_32 rfl rfl (fun c32 => ?_) (fun c32 => ?_)
      · replace hF := sd_pos hF c32
        refine sd_aload_n C 1 dX11_morning_38 rfl rfl rfl (n' := 39) ?_
        refine sd_iload_n C 2 dX11_morning_39 rfl rfl rfl (n' := 40) ?_
        refine sd_iload_n C 3 dX11_morning_40 rfl rfl rfl (n' := 41) ?_
        refine sd_iload_n C 4 dX11_morning_41 rfl rfl rfl (n' := 42) ?_
        refine sd_iload C 5 dX11_morning_42 rfl rfl (n' := 44) ?_
        obtain ⟨q44, e44, hF⟩ := sd_bind hF
        refine sd_callVI [.int x1, .int x2, .int x3, .int x4] [] C (ct_X11_dayOf q25.2 x1 x2 x3 x4  e44) sd_lX11_199 ⟨rfl, rfl, Nat.le_of_ble_eq_true rfl, Nat.le_of_ble_eq_true rfl⟩ sd_i100 (sd_e12 sd_k100) rfl rfl rfl (Nat.le_of_ble_eq_true rfl) dX11_morning_44 rfl (n' := 47) ?_
        refine sd_istore [(6, .int q44), (5, .int q25.1), (0, .ref (E.2.2 100)), (1, .int x1), (2, .int x2), (3, .int x3), (4, .int x4)] C dX11_morning_47 (by decide) rfl rfl (n' := 49) ?_
        refine sd_aload_n C 2 dX11_morning_49 rfl rfl rfl (n' := 50) ?_
        refine sd_iload_n C 3 dX11_morning_50 rfl rfl rfl (n' := 51) ?_
        refine sd_iload_n C 5 dX11_morning_51 rfl rfl rfl (n' := 52) ?_
        refine sd_iload C 0 dX11_morning_52 rfl rfl (n' := 54) ?_
        obtain ⟨q54, e54, hF⟩ := sd_bind hF
        refine sd_callVI [.int x1, .int x3, .int q44] [] C (ct_X11_wageOn q25.2 x1 x3 q44  e54) sd_lX11_203 ⟨rfl, rfl, Nat.le_of_ble_eq_true rfl, Nat.le_of_ble_eq_true rfl⟩ sd_i100 (sd_e12 sd_k100) rfl rfl rfl (Nat.le_of_ble_eq_true rfl) dX11_morning_54 rfl (n' := 57) ?_
        refine sd_istore [(7, .int q54), (6, .int q44), (5, .int q25.1), (0, .ref (E.2.2 100)), (1, .int x1), (2, .int x2), (3, .int x3), (4, .int x4)] C dX11_morning_57 (by decide) rfl rfl (n' := 59) ?_
        refine sd_aload_n C 3 dX11_morning_59 rfl rfl rfl (n' := 60) ?_
        refine sd_iconst C (v := 0) dX11_morning_60 rfl rfl (n' := 61) ?_
        refine sd_iload C 7 dX11_morning_61 rfl rfl (n' := 63) ?_
        refine sd_iload C 1 dX11_morning_63 rfl rfl (n' := 65) ?_
        refine sd_iload C 0 dX11_morning_65 rfl rfl (n' := 67) ?_
        obtain ⟨q67, e67, hF⟩ := sd_bind hF
        refine sd_callVL [.int (0 : Int32), .int x4, .int q44, .int q54] [] C (ct_X11_worthOf q25.2 (0 : Int32) x4 q44 q54  e67) sd_lX11_208 ⟨rfl, rfl, Nat.le_of_ble_eq_true rfl, Nat.le_of_ble_eq_true rfl⟩ sd_i100 (sd_e12 sd_k100) rfl rfl rfl (Nat.le_of_ble_eq_true rfl) dX11_morning_67 rfl (n' := 70) ?_
        refine sd_lstore [(8, .long q67), (7, .int q54), (6, .int q44), (5, .int q25.1), (0, .ref (E.2.2 100)), (1, .int x1), (2, .int x2), (3, .int x3), (4, .int x4)] C dX11_morning_70 (by decide) rfl rfl (n' := 72) ?_
        refine sd_aload_n C 4 dX11_morning_72 rfl rfl rfl (n' := 73) ?_
        refine sd_iconst C (v := 1) dX11_morning_73 rfl rfl (n' := 74) ?_
        refine sd_iload_n C 7 dX11_morning_74 rfl rfl rfl (n' := 75) ?_
        refine sd_iload C 2 dX11_morning_75 rfl rfl (n' := 77) ?_
        refine sd_iload C 1 dX11_morning_77 rfl rfl (n' := 79) ?_
        obtain ⟨q79, e79, hF⟩ := sd_bind hF
        refine sd_callVL [.int (1 : Int32), .int x3, .int q44, .int q54] [] C (ct_X11_worthOf q25.2 (1 : Int32) x3 q44 q54  e79) sd_lX11_208 ⟨rfl, rfl, Nat.le_of_ble_eq_true rfl, Nat.le_of_ble_eq_true rfl⟩ sd_i100 (sd_e12 sd_k100) rfl rfl rfl (Nat.le_of_ble_eq_true rfl) dX11_morning_79 rfl (n' := 82) ?_
        refine sd_lstore [(10, .long q79), (8, .long q67), (7, .int q54), (6, .int q44), (5, .int q25.1), (0, .ref (E.2.2 100)), (1, .int x1), (2, .int x2), (3, .int x3), (4, .int x4)] C dX11_morning_82 (by decide) rfl rfl (n' := 84) ?_
        refine sd_iconst C (v := 0) dX11_morning_84 rfl rfl (n' := 85) ?_
        refine sd_istore [(12, .int (0 : Int32)), (10, .long q79), (8, .long q67), (7, .int q54), (6, .int q44), (5, .int q25.1), (0, .ref (E.2.2 100)), (1, .int x1), (2, .int x2), (3, .int x3), (4, .int x4)] C dX11_morning_85 (by decide) rfl rfl (n' := 87) ?_
        refine sd_iconst C (v := 0) dX11_morning_87 rfl rfl (n' := 88) ?_
        refine sd_istore [(13, .int (0 : Int32)), (12, .int (0 : Int32)), (10, .long q79), (8, .long q67), (7, .int q54), (6, .int q44), (5, .int q25.1), (0, .ref (E.2.2 100)), (1, .int x1), (2, .int x2), (3, .int x3), (4, .int x4)] C dX11_morning_88 (by decide) rfl rfl (n' := 90) ?_
        refine sd_sub [7, 10, 11, 3, 2, 1, 0] rfl ?_
        exact tb_X11_morning_90 C sd_FU q25.2 x3 x4 q67 q79 (0 : Int32) (0 : Int32) hF
      · replace hF := sd_neg hF c32
        refine sd_iload C 0 dX11_morning_35 rfl rfl (n' := 37) ?_
        exact sd_iret C dX11_morning_37 (sd_fst hF) (sd_snd hF)
    · replace hF := sd_pos hF c16
      refine sd_iconst C (v := -1) dX11_morning_19 rfl rfl (n' := 20) ?_
      exact sd_iret C dX11_morning_20 (sd_fst hF) (sd_snd hF)
theorem ct_X11_morning {l : Launch} {E : sd_Env} (M : sd_Mem) (x1 : Int32) (x2 : Int32) (x3 : Int32) (x4 : Int32)  {r : (Int32 × sd_Mem)} (hF : fn_X11_morning M x1 x2 x3 x4 = some r) : sd_MI l E sd_LM yX11_morning cX11_morning 18 (some .int) rm_X11_morning [.ref (E.2.2 100), .int x1, .int x2, .int x3, .int x4] M r.1 r.2 := sd_ent0 (by decide +kernel) (Nat.le_of_ble_eq_true rfl) (fun p e s m below meth c C => tb_X11_morning_0 C M x1 x2 x3 x4 hF)
theorem dX11_losesBy_0 : decode cX11_losesBy 0 = .ok (.lconst 0, 1) := by decide +kernel
theorem dX11_losesBy_1 : decode cX11_losesBy 1 = .ok (.lstore 4, 2) := by decide +kernel
theorem dX11_losesBy_3 : decode cX11_losesBy 3 = .ok (.iconst 0, 1) := by decide +kernel
theorem dX11_losesBy_4 : decode cX11_losesBy 4 = .ok (.istore 6, 2) := by decide +kernel
theorem dX11_losesBy_6 : decode cX11_losesBy 6 = .ok (.iload 6, 2) := by decide +kernel
theorem dX11_losesBy_8 : decode cX11_losesBy 8 = .ok (.aload_n 0, 1) := by decide +kernel
theorem dX11_losesBy_9 : decode cX11_losesBy 9 = .ok (.getfield 32, 3) := by decide +kernel
theorem dX11_losesBy_12 : decode cX11_losesBy 12 = .ok (.iconst 1, 1) := by decide +kernel
theorem dX11_losesBy_13 : decode cX11_losesBy 13 = .ok (.iaload, 1) := by decide +kernel
theorem dX11_losesBy_14 : decode cX11_losesBy 14 = .ok (.if_icmp .ge 171, 3) := by decide +kernel
theorem dX11_losesBy_17 : decode cX11_losesBy 17 = .ok (.iconst 0, 1) := by decide +kernel
theorem dX11_losesBy_18 : decode cX11_losesBy 18 = .ok (.istore 7, 2) := by decide +kernel
theorem dX11_losesBy_20 : decode cX11_losesBy 20 = .ok (.iload 7, 2) := by decide +kernel
theorem dX11_losesBy_22 : decode cX11_losesBy 22 = .ok (.aload_n 0, 1) := by decide +kernel
theorem dX11_losesBy_23 : decode cX11_losesBy 23 = .ok (.getfield 32, 3) := by decide +kernel
theorem dX11_losesBy_26 : decode cX11_losesBy 26 = .ok (.iconst 0, 1) := by decide +kernel
theorem dX11_losesBy_27 : decode cX11_losesBy 27 = .ok (.iaload, 1) := by decide +kernel
theorem dX11_losesBy_28 : decode cX11_losesBy 28 = .ok (.if_icmp .ge 151, 3) := by decide +kernel
theorem dX11_losesBy_31 : decode cX11_losesBy 31 = .ok (.aload_n 0, 1) := by decide +kernel
theorem dX11_losesBy_32 : decode cX11_losesBy 32 = .ok (.iload_n 1, 1) := by decide +kernel
theorem dX11_losesBy_33 : decode cX11_losesBy 33 = .ok (.iload_n 2, 1) := by decide +kernel
theorem dX11_losesBy_34 : decode cX11_losesBy 34 = .ok (.iload 6, 2) := by decide +kernel
theorem dX11_losesBy_36 : decode cX11_losesBy 36 = .ok (.iload 7, 2) := by decide +kernel
theorem dX11_losesBy_38 : decode cX11_losesBy 38 = .ok (.invokevirtual 199, 3) := by decide +kernel
theorem dX11_losesBy_41 : decode cX11_losesBy 41 = .ok (.istore 8, 2) := by decide +kernel
theorem dX11_losesBy_43 : decode cX11_losesBy 43 = .ok (.iload 8, 2) := by decide +kernel
theorem dX11_losesBy_45 : decode cX11_losesBy 45 = .ok (.aload_n 0, 1) := by decide +kernel
theorem dX11_losesBy_46 : decode cX11_losesBy 46 = .ok (.invokevirtual 188, 3) := by decide +kernel
theorem dX11_losesBy_49 : decode cX11_losesBy 49 = .ok (.if_icmp .ge 8, 3) := by decide +kernel
theorem dX11_losesBy_52 : decode cX11_losesBy 52 = .ok (.iload 8, 2) := by decide +kernel
theorem dX11_losesBy_54 : decode cX11_losesBy 54 = .ok (.goto 7, 3) := by decide +kernel
theorem dX11_losesBy_57 : decode cX11_losesBy 57 = .ok (.aload_n 0, 1) := by decide +kernel
theorem dX11_losesBy_58 : decode cX11_losesBy 58 = .ok (.invokevirtual 188, 3) := by decide +kernel
theorem dX11_losesBy_61 : decode cX11_losesBy 61 = .ok (.istore 9, 2) := by decide +kernel
theorem dX11_losesBy_63 : decode cX11_losesBy 63 = .ok (.lconst 0, 1) := by decide +kernel
theorem dX11_losesBy_64 : decode cX11_losesBy 64 = .ok (.lstore 10, 2) := by decide +kernel
theorem dX11_losesBy_66 : decode cX11_losesBy 66 = .ok (.lconst 1, 1) := by decide +kernel
theorem dX11_losesBy_67 : decode cX11_losesBy 67 = .ok (.lstore 12, 2) := by decide +kernel
theorem dX11_losesBy_69 : decode cX11_losesBy 69 = .ok (.iconst 1, 1) := by decide +kernel
theorem dX11_losesBy_70 : decode cX11_losesBy 70 = .ok (.istore 14, 2) := by decide +kernel
theorem dX11_losesBy_72 : decode cX11_losesBy 72 = .ok (.iload 14, 2) := by decide +kernel
theorem dX11_losesBy_74 : decode cX11_losesBy 74 = .ok (.iload 9, 2) := by decide +kernel
theorem dX11_losesBy_76 : decode cX11_losesBy 76 = .ok (.if_icmp .gt 46, 3) := by decide +kernel
theorem dX11_losesBy_79 : decode cX11_losesBy 79 = .ok (.lload 10, 2) := by decide +kernel
theorem dX11_losesBy_81 : decode cX11_losesBy 81 = .ok (.lload 12, 2) := by decide +kernel
theorem dX11_losesBy_83 : decode cX11_losesBy 83 = .ok (.iload_n 3, 1) := by decide +kernel
theorem dX11_losesBy_84 : decode cX11_losesBy 84 = .ok (.i2l, 1) := by decide +kernel
theorem dX11_losesBy_85 : decode cX11_losesBy 85 = .ok (.lmul, 1) := by decide +kernel
theorem dX11_losesBy_86 : decode cX11_losesBy 86 = .ok (.iload 14, 2) := by decide +kernel
theorem dX11_losesBy_88 : decode cX11_losesBy 88 = .ok (.iconst 1, 1) := by decide +kernel
theorem dX11_losesBy_89 : decode cX11_losesBy 89 = .ok (.isub, 1) := by decide +kernel
theorem dX11_losesBy_90 : decode cX11_losesBy 90 = .ok (.i2l, 1) := by decide +kernel
theorem dX11_losesBy_91 : decode cX11_losesBy 91 = .ok (.lmul, 1) := by decide +kernel
theorem dX11_losesBy_92 : decode cX11_losesBy 92 = .ok (.aload_n 0, 1) := by decide +kernel
theorem dX11_losesBy_93 : decode cX11_losesBy 93 = .ok (.invokevirtual 188, 3) := by decide +kernel
theorem dX11_losesBy_96 : decode cX11_losesBy 96 = .ok (.iload 14, 2) := by decide +kernel
theorem dX11_losesBy_98 : decode cX11_losesBy 98 = .ok (.isub, 1) := by decide +kernel
theorem dX11_losesBy_99 : decode cX11_losesBy 99 = .ok (.invokestatic 212, 3) := by decide +kernel
theorem dX11_losesBy_102 : decode cX11_losesBy 102 = .ok (.lmul, 1) := by decide +kernel
theorem dX11_losesBy_103 : decode cX11_losesBy 103 = .ok (.ladd, 1) := by decide +kernel
theorem dX11_losesBy_104 : decode cX11_losesBy 104 = .ok (.lstore 10, 2) := by decide +kernel
theorem dX11_losesBy_106 : decode cX11_losesBy 106 = .ok (.lload 12, 2) := by decide +kernel
theorem dX11_losesBy_108 : decode cX11_losesBy 108 = .ok (.bipush 12, 2) := by decide +kernel
theorem dX11_losesBy_110 : decode cX11_losesBy 110 = .ok (.iload_n 3, 1) := by decide +kernel
theorem dX11_losesBy_111 : decode cX11_losesBy 111 = .ok (.isub, 1) := by decide +kernel
theorem dX11_losesBy_112 : decode cX11_losesBy 112 = .ok (.i2l, 1) := by decide +kernel
theorem dX11_losesBy_113 : decode cX11_losesBy 113 = .ok (.lmul, 1) := by decide +kernel
theorem dX11_losesBy_114 : decode cX11_losesBy 114 = .ok (.lstore 12, 2) := by decide +kernel
theorem dX11_losesBy_116 : decode cX11_losesBy 116 = .ok (.iinc 14 1, 3) := by decide +kernel
theorem dX11_losesBy_119 : decode cX11_losesBy 119 = .ok (.goto (-47), 3) := by decide +kernel
theorem dX11_losesBy_122 : decode cX11_losesBy 122 = .ok (.lload 10, 2) := by decide +kernel
theorem dX11_losesBy_124 : decode cX11_losesBy 124 = .ok (.lload 12, 2) := by decide +kernel
theorem dX11_losesBy_126 : decode cX11_losesBy 126 = .ok (.iload 8, 2) := by decide +kernel
theorem dX11_losesBy_128 : decode cX11_losesBy 128 = .ok (.iconst 1, 1) := by decide +kernel
theorem dX11_losesBy_129 : decode cX11_losesBy 129 = .ok (.isub, 1) := by decide +kernel
theorem dX11_losesBy_130 : decode cX11_losesBy 130 = .ok (.i2l, 1) := by decide +kernel
theorem dX11_losesBy_131 : decode cX11_losesBy 131 = .ok (.lmul, 1) := by decide +kernel
theorem dX11_losesBy_132 : decode cX11_losesBy 132 = .ok (.aload_n 0, 1) := by decide +kernel
theorem dX11_losesBy_133 : decode cX11_losesBy 133 = .ok (.invokevirtual 188, 3) := by decide +kernel
theorem dX11_losesBy_136 : decode cX11_losesBy 136 = .ok (.iload 9, 2) := by decide +kernel
theorem dX11_losesBy_138 : decode cX11_losesBy 138 = .ok (.isub, 1) := by decide +kernel
theorem dX11_losesBy_139 : decode cX11_losesBy 139 = .ok (.invokestatic 212, 3) := by decide +kernel
theorem dX11_losesBy_142 : decode cX11_losesBy 142 = .ok (.lmul, 1) := by decide +kernel
theorem dX11_losesBy_143 : decode cX11_losesBy 143 = .ok (.ladd, 1) := by decide +kernel
theorem dX11_losesBy_144 : decode cX11_losesBy 144 = .ok (.lstore 10, 2) := by decide +kernel
theorem dX11_losesBy_146 : decode cX11_losesBy 146 = .ok (.lload 4, 2) := by decide +kernel
theorem dX11_losesBy_148 : decode cX11_losesBy 148 = .ok (.lload 10, 2) := by decide +kernel
theorem dX11_losesBy_150 : decode cX11_losesBy 150 = .ok (.aload_n 0, 1) := by decide +kernel
theorem dX11_losesBy_151 : decode cX11_losesBy 151 = .ok (.getfield 35, 3) := by decide +kernel
theorem dX11_losesBy_154 : decode cX11_losesBy 154 = .ok (.iconst 3, 1) := by decide +kernel
theorem dX11_losesBy_155 : decode cX11_losesBy 155 = .ok (.iload 6, 2) := by decide +kernel
theorem dX11_losesBy_157 : decode cX11_losesBy 157 = .ok (.iadd, 1) := by decide +kernel
theorem dX11_losesBy_158 : decode cX11_losesBy 158 = .ok (.iaload, 1) := by decide +kernel
theorem dX11_losesBy_159 : decode cX11_losesBy 159 = .ok (.i2l, 1) := by decide +kernel
theorem dX11_losesBy_160 : decode cX11_losesBy 160 = .ok (.lmul, 1) := by decide +kernel
theorem dX11_losesBy_161 : decode cX11_losesBy 161 = .ok (.aload_n 0, 1) := by decide +kernel
theorem dX11_losesBy_162 : decode cX11_losesBy 162 = .ok (.getfield 35, 3) := by decide +kernel
theorem dX11_losesBy_165 : decode cX11_losesBy 165 = .ok (.iload 7, 2) := by decide +kernel
theorem dX11_losesBy_167 : decode cX11_losesBy 167 = .ok (.iaload, 1) := by decide +kernel
theorem dX11_losesBy_168 : decode cX11_losesBy 168 = .ok (.i2l, 1) := by decide +kernel
theorem dX11_losesBy_169 : decode cX11_losesBy 169 = .ok (.lmul, 1) := by decide +kernel
theorem dX11_losesBy_170 : decode cX11_losesBy 170 = .ok (.ladd, 1) := by decide +kernel
theorem dX11_losesBy_171 : decode cX11_losesBy 171 = .ok (.lstore 4, 2) := by decide +kernel
theorem dX11_losesBy_173 : decode cX11_losesBy 173 = .ok (.iinc 7 1, 3) := by decide +kernel
theorem dX11_losesBy_176 : decode cX11_losesBy 176 = .ok (.goto (-156), 3) := by decide +kernel
theorem dX11_losesBy_179 : decode cX11_losesBy 179 = .ok (.iinc 6 1, 3) := by decide +kernel
theorem dX11_losesBy_182 : decode cX11_losesBy 182 = .ok (.goto (-176), 3) := by decide +kernel
theorem dX11_losesBy_185 : decode cX11_losesBy 185 = .ok (.lload 4, 2) := by decide +kernel
theorem dX11_losesBy_187 : decode cX11_losesBy 187 = .ok (.lreturn, 1) := by decide +kernel
set_option maxRecDepth 100000 in
set_option maxHeartbeats 4000000 in
theorem tb_X11_losesBy_122 {K : sd_K} {E : sd_Env} {M : sd_Mem}  {r : Int64} (C : sd_C K E sd_LM RX11 cX11_losesBy 15 (some .long))  {k6 : Int32 → Int32 → Int32 → Int64 → Int32 → Option Int64} (hk6 : ∀ (x1 : Int32) (x2 : Int32) (x3 : Int32) (l4 : Int64) (x6 : Int32), k6 x1 x2 x3 l4 x6 = some r → sd_Z K rm_X11_losesBy E sd_LM 15 (sd_QL K E sd_LM r M) M 6 [(0, .ref (E.2.2 100)), (1, .int x1), (2, .int x2), (3, .int x3), (4, .long l4), (6, .int x6)] []) {k20 : Int32 → Int32 → Int32 → Int64 → Int32 → Int32 → Option Int64} (hk20 : ∀ (x1 : Int32) (x2 : Int32) (x3 : Int32) (l4 : Int64) (x6 : Int32) (x7 : Int32), k20 x1 x2 x3 l4 x6 x7 = some r → sd_Z K rm_X11_losesBy E sd_LM 15 (sd_QL K E sd_LM r M) M 20 [(0, .ref (E.2.2 100)), (1, .int x1), (2, .int x2), (3, .int x3), (4, .long l4), (6, .int x6), (7, .int x7)] []) : ∀ (x1 : Int32) (x2 : Int32) (x3 : Int32) (l4 : Int64) (x6 : Int32) (x7 : Int32) (x8 : Int32) (x9 : Int32) (l10 : Int64) (l12 : Int64), fn_X11_losesBy_122 M k6 k20 x1 x2 x3 l4 x6 x7 x8 x9 l10 l12 = some r → sd_Z K rm_X11_losesBy E sd_LM 15 (sd_QL K E sd_LM r M) M 122 [(0, .ref (E.2.2 100)), (1, .int x1), (2, .int x2), (3, .int x3), (4, .long l4), (6, .int x6), (7, .int x7), (8, .int x8), (9, .int x9), (10, .long l10), (12, .long l12)] [] := by
  intro x1 x2 x3 l4 x6 x7 x8 x9 l10 l12 hF
  unfold fn_X11_losesBy_122 at hF
  refine sd_lload C 9 dX11_losesBy_122 rfl rfl (n' := 124) ?_
  refine sd_lload C 10 dX11_losesBy_124 rfl rfl (n' := 126) ?_
  refine sd_iload C 7 dX11_losesBy_126 rfl rfl (n' := 128) ?_
  refine sd_iconst C (v := 1) dX11_losesBy_128 rfl rfl (n' := 129) ?_
  refine sd_isub C dX11_losesBy_129 rfl (n' := 130) ?_
  refine sd_i2l C dX11_losesBy_130 rfl (n' := 131) ?_
  refine sd_lmul C dX11_losesBy_131 rfl (n' := 132) ?_
  refine sd_aload_n C 0 dX11_losesBy_132 rfl rfl rfl (n' := 133) ?_
  obtain ⟨q133, e133, hF⟩ := sd_bind hF
  refine sd_callVI [] [.long (l12 * ((x8 - (1 : Int32)).toInt64)), .long l10] C (ct_X11_last M   e133) sd_lX11_188 ⟨rfl, rfl, Nat.le_of_ble_eq_true rfl, Nat.le_of_ble_eq_true rfl⟩ sd_i100 (sd_e12 sd_k100) rfl rfl rfl (Nat.le_of_ble_eq_true rfl) dX11_losesBy_133 rfl (n' := 136) ?_
  refine sd_iload C 8 dX11_losesBy_136 rfl rfl (n' := 138) ?_
  refine sd_isub C dX11_losesBy_138 rfl (n' := 139) ?_
  obtain ⟨q139, e139, hF⟩ := sd_bind hF
  refine sd_callSL [.int (q133 - x9)] [.long (l12 * ((x8 - (1 : Int32)).toInt64)), .long l10] C (ct_X11_twelve M (q133 - x9)  e139) sd_lX11_212 ⟨rfl, rfl, Nat.le_of_ble_eq_true rfl, Nat.le_of_ble_eq_true rfl⟩ rfl (Nat.le_of_ble_eq_true rfl) dX11_losesBy_139 rfl (n' := 142) ?_
  refine sd_lmul C dX11_losesBy_142 rfl (n' := 143) ?_
  refine sd_ladd C dX11_losesBy_143 rfl (n' := 144) ?_
  refine sd_lstore [(10, .long (l10 + ((l12 * ((x8 - (1 : Int32)).toInt64)) * q139))), (0, .ref (E.2.2 100)), (1, .int x1), (2, .int x2), (3, .int x3), (4, .long l4), (6, .int x6), (7, .int x7), (8, .int x8), (9, .int x9), (12, .long l12)] C dX11_losesBy_144 (by decide) rfl rfl (n' := 146) ?_
  refine sd_lload C 5 dX11_losesBy_146 rfl rfl (n' := 148) ?_
  refine sd_lload C 0 dX11_losesBy_148 rfl rfl (n' := 150) ?_
  refine sd_aload_n C 1 dX11_losesBy_150 rfl rfl rfl (n' := 151) ?_
  refine sd_g11_11 C sd_i100 sd_k100 sd_w1052 dX11_losesBy_151 rfl (n' := 154) ?_
  refine sd_iconst C (v := 3) dX11_losesBy_154 rfl rfl (n' := 155) ?_
  refine sd_iload C 6 dX11_losesBy_155 rfl rfl (n' := 157) ?_
  refine sd_iadd C dX11_losesBy_157 rfl (n' := 158) ?_
  obtain ⟨b158, hF⟩ := sd_ok hF
  refine sd_iald C sd_i108 sd_k108 sd_n108 b158 dX11_losesBy_158 rfl (n' := 159) ?_
  refine sd_i2l C dX11_losesBy_159 rfl (n' := 160) ?_
  refine sd_lmul C dX11_losesBy_160 rfl (n' := 161) ?_
  refine sd_aload_n C 1 dX11_losesBy_161 rfl rfl rfl (n' := 162) ?_
  refine sd_g11_11 C sd_i100 sd_k100 sd_w1052 dX11_losesBy_162 rfl (n' := 165) ?_
  refine sd_iload C 7 dX11_losesBy_165 rfl rfl (n' := 167) ?_
  obtain ⟨b167, hF⟩ := sd_ok hF
  refine sd_iald C sd_i108 sd_k108 sd_n108 b167 dX11_losesBy_167 rfl (n' := 168) ?_
  refine sd_i2l C dX11_losesBy_168 rfl (n' := 169) ?_
  refine sd_lmul C dX11_losesBy_169 rfl (n' := 170) ?_
  refine sd_ladd C dX11_losesBy_170 rfl (n' := 171) ?_
  refine sd_lstore [(4, .long (l4 + (((l10 + ((l12 * ((x8 - (1 : Int32)).toInt64)) * q139)) * ((M.1 108 ((3 : Int32) + x6).toNatClampNeg).toInt64)) * ((M.1 108 x7.toNatClampNeg).toInt64)))), (10, .long (l10 + ((l12 * ((x8 - (1 : Int32)).toInt64)) * q139))), (0, .ref (E.2.2 100)), (1, .int x1), (2, .int x2), (3, .int x3), (6, .int x6), (7, .int x7), (8, .int x8), (9, .int x9), (12, .long l12)] C dX11_losesBy_171 (by decide) rfl rfl (n' := 173) ?_
  refine sd_iinc [(7, .int (x7 + (1 : Int32))), (4, .long (l4 + (((l10 + ((l12 * ((x8 - (1 : Int32)).toInt64)) * q139)) * ((M.1 108 ((3 : Int32) + x6).toNatClampNeg).toInt64)) * ((M.1 108 x7.toNatClampNeg).toInt64)))), (10, .long (l10 + ((l12 * ((x8 - (1 : Int32)).toInt64)) * q139))), (0, .ref (E.2.2 100)), (1, .int x1), (2, .int x2), (3, .int x3), (6, .int x6), (8, .int x8), (9, .int x9), (12, .long l12)] 7 C dX11_losesBy_173 rfl rfl (by decide) rfl rfl (n' := 176) ?_
  refine sd_goto C (tgt := 20) dX11_losesBy_176 rfl ?_
  refine sd_sub [3, 4, 5, 6, 1, 7, 0] rfl ?_
  exact hk20 x1 x2 x3 (l4 + (((l10 + ((l12 * ((x8 - (1 : Int32)).toInt64)) * q139)) * ((M.1 108 ((3 : Int32) + x6).toNatClampNeg).toInt64)) * ((M.1 108 x7.toNatClampNeg).toInt64))) x6 (x7 + (1 : Int32)) hF
set_option maxRecDepth 100000 in
set_option maxHeartbeats 4000000 in
theorem tb_X11_losesBy_72 {K : sd_K} {E : sd_Env} {M : sd_Mem}  {r : Int64} (C : sd_C K E sd_LM RX11 cX11_losesBy 15 (some .long))  {k6 : Int32 → Int32 → Int32 → Int64 → Int32 → Option Int64} (hk6 : ∀ (x1 : Int32) (x2 : Int32) (x3 : Int32) (l4 : Int64) (x6 : Int32), k6 x1 x2 x3 l4 x6 = some r → sd_Z K rm_X11_losesBy E sd_LM 15 (sd_QL K E sd_LM r M) M 6 [(0, .ref (E.2.2 100)), (1, .int x1), (2, .int x2), (3, .int x3), (4, .long l4), (6, .int x6)] []) {k20 : Int32 → Int32 → Int32 → Int64 → Int32 → Int32 → Option Int64} (hk20 : ∀ (x1 : Int32) (x2 : Int32) (x3 : Int32) (l4 : Int64) (x6 : Int32) (x7 : Int32), k20 x1 x2 x3 l4 x6 x7 = some r → sd_Z K rm_X11_losesBy E sd_LM 15 (sd_QL K E sd_LM r M) M 20 [(0, .ref (E.2.2 100)), (1, .int x1), (2, .int x2), (3, .int x3), (4, .long l4), (6, .int x6), (7, .int x7)] []) : ∀ (n : Nat), ∀ (x1 : Int32) (x2 : Int32) (x3 : Int32) (l4 : Int64) (x6 : Int32) (x7 : Int32) (x8 : Int32) (x9 : Int32) (l10 : Int64) (l12 : Int64) (x14 : Int32), fn_X11_losesBy_72 M k6 k20 n x1 x2 x3 l4 x6 x7 x8 x9 l10 l12 x14 = some r → sd_Z K rm_X11_losesBy E sd_LM 15 (sd_QL K E sd_LM r M) M 72 [(0, .ref (E.2.2 100)), (1, .int x1), (2, .int x2), (3, .int x3), (4, .long l4), (6, .int x6), (7, .int x7), (8, .int x8), (9, .int x9), (10, .long l10), (12, .long l12), (14, .int x14)] [] := by
  intro n
  induction n with
  | zero => intro x1 x2 x3 l4 x6 x7 x8 x9 l10 l12 x14 hF; cases hF
  | succ n ih =>
    intro x1 x2 x3 l4 x6 x7 x8 x9 l10 l12 x14 hF
    unfold fn_X11_losesBy_72 at hF
    refine sd_iload C 11 dX11_losesBy_72 rfl rfl (n' := 74) ?_
    refine sd_iload C 8 dX11_losesBy_74 rfl rfl (n' := 76) ?_
    refine sd_icmp_gt C (n' := 79) (tgt := 122) dX11_losesBy_76 rfl rfl (fun c76 => ?_) (fun c76 => ?_)
    · replace hF := sd_pos hF c76
      refine sd_sub [0, 1, 2, 3, 4, 5, 6, 7, 8, 9, 10] rfl ?_
      exact tb_X11_losesBy_122 C hk6 hk20 x1 x2 x3 l4 x6 x7 x8 x9 l10 l12 hF
    · replace hF := sd_neg hF c76
      refine sd_lload C 9 dX11_losesBy_79 rfl rfl (n' := 81) ?_
      refine sd_lload C 10 dX11_losesBy_81 rfl rfl (n' := 83) ?_
      refine sd_iload_n C 3 dX11_losesBy_83 rfl rfl rfl (n' := 84) ?_
      refine sd_i2l C dX11_losesBy_84 rfl (n' := 85) ?_
      refine sd_lmul C dX11_losesBy_85 rfl (n' := 86) ?_
      refine sd_iload C 11 dX11_losesBy_86 rfl rfl (n' := 88) ?_
      refine sd_iconst C (v := 1) dX11_losesBy_88 rfl rfl (n' := 89) ?_
      refine sd_isub C dX11_losesBy_89 rfl (n' := 90) ?_
      refine sd_i2l C dX11_losesBy_90 rfl (n' := 91) ?_
      refine sd_lmul C dX11_losesBy_91 rfl (n' := 92) ?_
      refine sd_aload_n C 0 dX11_losesBy_92 rfl rfl rfl (n' := 93) ?_
      obtain ⟨q93, e93, hF⟩ := sd_bind hF
      refine sd_callVI [] [.long ((l12 * x3.toInt64) * ((x14 - (1 : Int32)).toInt64)), .long l10] C (ct_X11_last M   e93) sd_lX11_188 ⟨rfl, rfl, Nat.le_of_ble_eq_true rfl, Nat.le_of_ble_eq_true rfl⟩ sd_i100 (sd_e12 sd_k100) rfl rfl rfl (Nat.le_of_ble_eq_true rfl) dX11_losesBy_93 rfl (n' := 96) ?_
      refine sd_iload C 11 dX11_losesBy_96 rfl rfl (n' := 98) ?_
      refine sd_isub C dX11_losesBy_98 rfl (n' := 99) ?_
      obtain ⟨q99, e99, hF⟩ := sd_bind hF
      refine sd_callSL [.int (q93 - x14)] [.long ((l12 * x3.toInt64) * ((x14 - (1 : Int32)).toInt64)), .long l10] C (ct_X11_twelve M (q93 - x14)  e99) sd_lX11_212 ⟨rfl, rfl, Nat.le_of_ble_eq_true rfl, Nat.le_of_ble_eq_true rfl⟩ rfl (Nat.le_of_ble_eq_true rfl) dX11_losesBy_99 rfl (n' := 102) ?_
      refine sd_lmul C dX11_losesBy_102 rfl (n' := 103) ?_
      refine sd_ladd C dX11_losesBy_103 rfl (n' := 104) ?_
      refine sd_lstore [(10, .long (l10 + (((l12 * x3.toInt64) * ((x14 - (1 : Int32)).toInt64)) * q99))), (0, .ref (E.2.2 100)), (1, .int x1), (2, .int x2), (3, .int x3), (4, .long l4), (6, .int x6), (7, .int x7), (8, .int x8), (9, .int x9), (12, .long l12), (14, .int x14)] C dX11_losesBy_104 (by decide) rfl rfl (n' := 106) ?_
      refine sd_lload C 10 dX11_losesBy_106 rfl rfl (n' := 108) ?_
      refine sd_bipush C (v := 12) dX11_losesBy_108 rfl rfl (n' := 110) ?_
      refine sd_iload_n C 4 dX11_losesBy_110 rfl rfl rfl (n' := 111) ?_
      refine sd_isub C dX11_losesBy_111 rfl (n' := 112) ?_
      refine sd_i2l C dX11_losesBy_112 rfl (n' := 113) ?_
      refine sd_lmul C dX11_losesBy_113 rfl (n' := 114) ?_
      refine sd_lstore [(12, .long (l12 * (((12 : Int32) - x3).toInt64))), (10, .long (l10 + (((l12 * x3.toInt64) * ((x14 - (1 : Int32)).toInt64)) * q99))), (0, .ref (E.2.2 100)), (1, .int x1), (2, .int x2), (3, .int x3), (4, .long l4), (6, .int x6), (7, .int x7), (8, .int x8), (9, .int x9), (14, .int x14)] C dX11_losesBy_114 (by decide) rfl rfl (n' := 116) ?_
      refine sd_iinc [(14, .int (x14 + (1 : Int32))), (12, .long (l12 * (((12 : Int32) - x3).toInt64))), (10, .long (l10 + (((l12 * x3.toInt64) * ((x14 - (1 : Int32)).toInt64)) * q99))), (0, .ref (E.2.2 100)), (1, .int x1), (2, .int x2), (3, .int x3), (4, .long l4), (6, .int x6), (7, .int x7), (8, .int x8), (9, .int x9)] 11 C dX11_losesBy_116 rfl rfl (by decide) rfl rfl (n' := 119) ?_
      refine sd_goto C (tgt := 72) dX11_losesBy_119 rfl ?_
      refine sd_sub [3, 4, 5, 6, 7, 8, 9, 10, 11, 2, 1, 0] rfl ?_
      exact ih x1 x2 x3 l4 x6 x7 x8 x9 (l10 + (((l12 * x3.toInt64) * ((x14 - (1 : Int32)).toInt64)) * q99)) (l12 * (((12 : Int32) - x3).toInt64)) (x14 + (1 : Int32)) hF
set_option maxRecDepth 100000 in
set_option maxHeartbeats 4000000 in
theorem tb_X11_losesBy_61 {K : sd_K} {E : sd_Env} {M : sd_Mem}  {r : Int64} (C : sd_C K E sd_LM RX11 cX11_losesBy 15 (some .long))  {k6 : Int32 → Int32 → Int32 → Int64 → Int32 → Option Int64} (hk6 : ∀ (x1 : Int32) (x2 : Int32) (x3 : Int32) (l4 : Int64) (x6 : Int32), k6 x1 x2 x3 l4 x6 = some r → sd_Z K rm_X11_losesBy E sd_LM 15 (sd_QL K E sd_LM r M) M 6 [(0, .ref (E.2.2 100)), (1, .int x1), (2, .int x2), (3, .int x3), (4, .long l4), (6, .int x6)] []) {k20 : Int32 → Int32 → Int32 → Int64 → Int32 → Int32 → Option Int64} (hk20 : ∀ (x1 : Int32) (x2 : Int32) (x3 : Int32) (l4 : Int64) (x6 : Int32) (x7 : Int32), k20 x1 x2 x3 l4 x6 x7 = some r → sd_Z K rm_X11_losesBy E sd_LM 15 (sd_QL K E sd_LM r M) M 20 [(0, .ref (E.2.2 100)), (1, .int x1), (2, .int x2), (3, .int x3), (4, .long l4), (6, .int x6), (7, .int x7)] []) : ∀ (x1 : Int32) (x2 : Int32) (x3 : Int32) (l4 : Int64) (x6 : Int32) (x7 : Int32) (x8 : Int32) (xs0 : Int32), fn_X11_losesBy_61 M k6 k20 x1 x2 x3 l4 x6 x7 x8 xs0 = some r → sd_Z K rm_X11_losesBy E sd_LM 15 (sd_QL K E sd_LM r M) M 61 [(0, .ref (E.2.2 100)), (1, .int x1), (2, .int x2), (3, .int x3), (4, .long l4), (6, .int x6), (7, .int x7), (8, .int x8)] [.int xs0] := by
  intro x1 x2 x3 l4 x6 x7 x8 xs0 hF
  unfold fn_X11_losesBy_61 at hF
  refine sd_istore [(9, .int xs0), (0, .ref (E.2.2 100)), (1, .int x1), (2, .int x2), (3, .int x3), (4, .long l4), (6, .int x6), (7, .int x7), (8, .int x8)] C dX11_losesBy_61 (by decide) rfl rfl (n' := 63) ?_
  refine sd_lconst C (v := 0) dX11_losesBy_63 rfl rfl (n' := 64) ?_
  refine sd_lstore [(10, .long (0 : Int64)), (9, .int xs0), (0, .ref (E.2.2 100)), (1, .int x1), (2, .int x2), (3, .int x3), (4, .long l4), (6, .int x6), (7, .int x7), (8, .int x8)] C dX11_losesBy_64 (by decide) rfl rfl (n' := 66) ?_
  refine sd_lconst C (v := 1) dX11_losesBy_66 rfl rfl (n' := 67) ?_
  refine sd_lstore [(12, .long (1 : Int64)), (10, .long (0 : Int64)), (9, .int xs0), (0, .ref (E.2.2 100)), (1, .int x1), (2, .int x2), (3, .int x3), (4, .long l4), (6, .int x6), (7, .int x7), (8, .int x8)] C dX11_losesBy_67 (by decide) rfl rfl (n' := 69) ?_
  refine sd_iconst C (v := 1) dX11_losesBy_69 rfl rfl (n' := 70) ?_
  refine sd_istore [(14, .int (1 : Int32)), (12, .long (1 : Int64)), (10, .long (0 : Int64)), (9, .int xs0), (0, .ref (E.2.2 100)), (1, .int x1), (2, .int x2), (3, .int x3), (4, .long l4), (6, .int x6), (7, .int x7), (8, .int x8)] C dX11_losesBy_70 (by decide) rfl rfl (n' := 72) ?_
  refine sd_sub [4, 5, 6, 7, 8, 9, 10, 11, 3, 2, 1, 0] rfl ?_
  exact tb_X11_losesBy_72 C hk6 hk20 sd_FU x1 x2 x3 l4 x6 x7 x8 xs0 (0 : Int64) (1 : Int64) (1 : Int32) hF
set_option maxRecDepth 100000 in
set_option maxHeartbeats 4000000 in
theorem tb_X11_losesBy_20 {K : sd_K} {E : sd_Env} {M : sd_Mem}  {r : Int64} (C : sd_C K E sd_LM RX11 cX11_losesBy 15 (some .long))  {k6 : Int32 → Int32 → Int32 → Int64 → Int32 → Option Int64} (hk6 : ∀ (x1 : Int32) (x2 : Int32) (x3 : Int32) (l4 : Int64) (x6 : Int32), k6 x1 x2 x3 l4 x6 = some r → sd_Z K rm_X11_losesBy E sd_LM 15 (sd_QL K E sd_LM r M) M 6 [(0, .ref (E.2.2 100)), (1, .int x1), (2, .int x2), (3, .int x3), (4, .long l4), (6, .int x6)] []) : ∀ (n : Nat), ∀ (x1 : Int32) (x2 : Int32) (x3 : Int32) (l4 : Int64) (x6 : Int32) (x7 : Int32), fn_X11_losesBy_20 M k6 n x1 x2 x3 l4 x6 x7 = some r → sd_Z K rm_X11_losesBy E sd_LM 15 (sd_QL K E sd_LM r M) M 20 [(0, .ref (E.2.2 100)), (1, .int x1), (2, .int x2), (3, .int x3), (4, .long l4), (6, .int x6), (7, .int x7)] [] := by
  intro n
  induction n with
  | zero => intro x1 x2 x3 l4 x6 x7 hF; cases hF
  | succ n ih =>
    intro x1 x2 x3 l4 x6 x7 hF
    unfold fn_X11_losesBy_20 at hF
    refine sd_iload C 6 dX11_losesBy_20 rfl rfl (n' := 22) ?_
    refine sd_aload_n C 0 dX11_losesBy_22 rfl rfl rfl (n' := 23) ?_
    refine sd_g11_10 C sd_i100 sd_k100 sd_w1051 dX11_losesBy_23 rfl (n' := 26) ?_
    refine sd_iconst C (v := 0) dX11_losesBy_26 rfl rfl (n' := 27) ?_
    obtain ⟨b27, hF⟩ := sd_ok hF
    refine sd_iald C sd_i107 sd_k107 sd_n107 b27 dX11_losesBy_27 rfl (n' := 28) ?_
    refine sd_icmp_ge C (n' := 31) (tgt := 179) dX11_losesBy_28 rfl rfl (fun c28 => ?_) (fun c28 => ?_)
    · replace hF := sd_pos hF c28
      refine sd_iinc [(6, .int (x6 + (1 : Int32))), (0, .ref (E.2.2 100)), (1, .int x1), (2, .int x2), (3, .int x3), (4, .long l4), (7, .int x7)] 5 C dX11_losesBy_179 rfl rfl (by decide) rfl rfl (n' := 182) ?_
      refine sd_goto C (tgt := 6) dX11_losesBy_182 rfl ?_
      refine sd_sub [1, 2, 3, 4, 5, 0] rfl ?_
      exact hk6 x1 x2 x3 l4 (x6 + (1 : Int32)) hF
    · replace hF := sd_neg hF c28
      refine sd_aload_n C 0 dX11_losesBy_31 rfl rfl rfl (n' := 32) ?_
      refine sd_iload_n C 1 dX11_losesBy_32 rfl rfl rfl (n' := 33) ?_
      refine sd_iload_n C 2 dX11_losesBy_33 rfl rfl rfl (n' := 34) ?_
      refine sd_iload C 5 dX11_losesBy_34 rfl rfl (n' := 36) ?_
      refine sd_iload C 6 dX11_losesBy_36 rfl rfl (n' := 38) ?_
      obtain ⟨q38, e38, hF⟩ := sd_bind hF
      refine sd_callVI [.int x1, .int x2, .int x6, .int x7] [] C (ct_X11_dayOf M x1 x2 x6 x7  e38) sd_lX11_199 ⟨rfl, rfl, Nat.le_of_ble_eq_true rfl, Nat.le_of_ble_eq_true rfl⟩ sd_i100 (sd_e12 sd_k100) rfl rfl rfl (Nat.le_of_ble_eq_true rfl) dX11_losesBy_38 rfl (n' := 41) ?_
      refine sd_istore [(8, .int q38), (0, .ref (E.2.2 100)), (1, .int x1), (2, .int x2), (3, .int x3), (4, .long l4), (6, .int x6), (7, .int x7)] C dX11_losesBy_41 (by decide) rfl rfl (n' := 43) ?_
      refine sd_iload C 0 dX11_losesBy_43 rfl rfl (n' := 45) ?_
      refine sd_aload_n C 1 dX11_losesBy_45 rfl rfl rfl (n' := 46) ?_
      obtain ⟨q46, e46, hF⟩ := sd_bind hF
      refine sd_callVI [] [.int q38] C (ct_X11_last M   e46) sd_lX11_188 ⟨rfl, rfl, Nat.le_of_ble_eq_true rfl, Nat.le_of_ble_eq_true rfl⟩ sd_i100 (sd_e12 sd_k100) rfl rfl rfl (Nat.le_of_ble_eq_true rfl) dX11_losesBy_46 rfl (n' := 49) ?_
      refine sd_icmp_ge C (n' := 52) (tgt := 57) dX11_losesBy_49 rfl rfl (fun c49 => ?_) (fun c49 => ?_)
      · replace hF := sd_pos hF c49
        refine sd_aload_n C 1 dX11_losesBy_57 rfl rfl rfl (n' := 58) ?_
        obtain ⟨q58, e58, hF⟩ := sd_bind hF
        refine sd_callVI [] [] C (ct_X11_last M   e58) sd_lX11_188 ⟨rfl, rfl, Nat.le_of_ble_eq_true rfl, Nat.le_of_ble_eq_true rfl⟩ sd_i100 (sd_e12 sd_k100) rfl rfl rfl (Nat.le_of_ble_eq_true rfl) dX11_losesBy_58 rfl (n' := 61) ?_
        refine sd_sub [1, 2, 3, 4, 5, 6, 7, 0] rfl ?_
        exact tb_X11_losesBy_61 C hk6 ih x1 x2 x3 l4 x6 x7 q38 q58 hF
      · replace hF := sd_neg hF c49
        refine sd_iload C 0 dX11_losesBy_52 rfl rfl (n' := 54) ?_
        refine sd_goto C (tgt := 61) dX11_losesBy_54 rfl ?_
        refine sd_sub [1, 2, 3, 4, 5, 6, 7, 0] rfl ?_
        exact tb_X11_losesBy_61 C hk6 ih x1 x2 x3 l4 x6 x7 q38 q38 hF
set_option maxRecDepth 100000 in
set_option maxHeartbeats 4000000 in
theorem tb_X11_losesBy_6 {K : sd_K} {E : sd_Env} {M : sd_Mem}  {r : Int64} (C : sd_C K E sd_LM RX11 cX11_losesBy 15 (some .long))  : ∀ (n : Nat), ∀ (x1 : Int32) (x2 : Int32) (x3 : Int32) (l4 : Int64) (x6 : Int32), fn_X11_losesBy_6 M n x1 x2 x3 l4 x6 = some r → sd_Z K rm_X11_losesBy E sd_LM 15 (sd_QL K E sd_LM r M) M 6 [(0, .ref (E.2.2 100)), (1, .int x1), (2, .int x2), (3, .int x3), (4, .long l4), (6, .int x6)] [] := by
  intro n
  induction n with
  | zero => intro x1 x2 x3 l4 x6 hF; cases hF
  | succ n ih =>
    intro x1 x2 x3 l4 x6 hF
    unfold fn_X11_losesBy_6 at hF
    refine sd_iload C 5 dX11_losesBy_6 rfl rfl (n' := 8) ?_
    refine sd_aload_n C 0 dX11_losesBy_8 rfl rfl rfl (n' := 9) ?_
    refine sd_g11_10 C sd_i100 sd_k100 sd_w1051 dX11_losesBy_9 rfl (n' := 12) ?_
    refine sd_iconst C (v := 1) dX11_losesBy_12 rfl rfl (n' := 13) ?_
    obtain ⟨b13, hF⟩ := sd_ok hF
    refine sd_iald C sd_i107 sd_k107 sd_n107 b13 dX11_losesBy_13 rfl (n' := 14) ?_
    refine sd_icmp_ge C (n' := 17) (tgt := 185) dX11_losesBy_14 rfl rfl (fun c14 => ?_) (fun c14 => ?_)
    · replace hF := sd_pos hF c14
      refine sd_lload C 4 dX11_losesBy_185 rfl rfl (n' := 187) ?_
      exact sd_lret C dX11_losesBy_187 (Option.some.inj hF) rfl
    · replace hF := sd_neg hF c14
      refine sd_iconst C (v := 0) dX11_losesBy_17 rfl rfl (n' := 18) ?_
      refine sd_istore [(7, .int (0 : Int32)), (0, .ref (E.2.2 100)), (1, .int x1), (2, .int x2), (3, .int x3), (4, .long l4), (6, .int x6)] C dX11_losesBy_18 (by decide) rfl rfl (n' := 20) ?_
      refine sd_sub [1, 2, 3, 4, 5, 6, 0] rfl ?_
      exact tb_X11_losesBy_20 C ih sd_FU x1 x2 x3 l4 x6 (0 : Int32) hF
set_option maxRecDepth 100000 in
set_option maxHeartbeats 4000000 in
theorem tb_X11_losesBy_0 {K : sd_K} {E : sd_Env} {M : sd_Mem}  {r : Int64} (C : sd_C K E sd_LM RX11 cX11_losesBy 15 (some .long))  : ∀ (x1 : Int32) (x2 : Int32) (x3 : Int32), fn_X11_losesBy_0 M x1 x2 x3 = some r → sd_Z K rm_X11_losesBy E sd_LM 15 (sd_QL K E sd_LM r M) M 0 [(0, .ref (E.2.2 100)), (1, .int x1), (2, .int x2), (3, .int x3)] [] := by
  intro x1 x2 x3 hF
  unfold fn_X11_losesBy_0 at hF
  refine sd_lconst C (v := 0) dX11_losesBy_0 rfl rfl (n' := 1) ?_
  refine sd_lstore [(4, .long (0 : Int64)), (0, .ref (E.2.2 100)), (1, .int x1), (2, .int x2), (3, .int x3)] C dX11_losesBy_1 (by decide) rfl rfl (n' := 3) ?_
  refine sd_iconst C (v := 0) dX11_losesBy_3 rfl rfl (n' := 4) ?_
  refine sd_istore [(6, .int (0 : Int32)), (4, .long (0 : Int64)), (0, .ref (E.2.2 100)), (1, .int x1), (2, .int x2), (3, .int x3)] C dX11_losesBy_4 (by decide) rfl rfl (n' := 6) ?_
  refine sd_sub [2, 3, 4, 5, 1, 0] rfl ?_
  exact tb_X11_losesBy_6 C sd_FU x1 x2 x3 (0 : Int64) (0 : Int32) hF
theorem ct_X11_losesBy {l : Launch} {E : sd_Env} (M : sd_Mem) (x1 : Int32) (x2 : Int32) (x3 : Int32)  {r : Int64} (hF : fn_X11_losesBy M x1 x2 x3 = some r) : sd_ML l E sd_LM yX11_losesBy cX11_losesBy 15 (some .long) rm_X11_losesBy [.ref (E.2.2 100), .int x1, .int x2, .int x3] M r M := sd_ent0 (by decide +kernel) (Nat.le_of_ble_eq_true rfl) (fun p e s m below meth c C => tb_X11_losesBy_0 C x1 x2 x3 hF)
theorem dX11_law_0 : decode cX11_law 0 = .ok (.aload_n 0, 1) := by decide +kernel
theorem dX11_law_1 : decode cX11_law 1 = .ok (.iload_n 1, 1) := by decide +kernel
theorem dX11_law_2 : decode cX11_law 2 = .ok (.iload_n 2, 1) := by decide +kernel
theorem dX11_law_3 : decode cX11_law 3 = .ok (.iconst 1, 1) := by decide +kernel
theorem dX11_law_4 : decode cX11_law 4 = .ok (.invokevirtual 195, 3) := by decide +kernel
theorem dX11_law_7 : decode cX11_law 7 = .ok (.istore_n 3, 1) := by decide +kernel
theorem dX11_law_8 : decode cX11_law 8 = .ok (.iload_n 3, 1) := by decide +kernel
theorem dX11_law_9 : decode cX11_law 9 = .ok (.ifCond .ge 5, 3) := by decide +kernel
theorem dX11_law_12 : decode cX11_law 12 = .ok (.iload_n 3, 1) := by decide +kernel
theorem dX11_law_13 : decode cX11_law 13 = .ok (.ireturn, 1) := by decide +kernel
theorem dX11_law_14 : decode cX11_law 14 = .ok (.aload_n 0, 1) := by decide +kernel
theorem dX11_law_15 : decode cX11_law 15 = .ok (.getfield 44, 3) := by decide +kernel
theorem dX11_law_18 : decode cX11_law 18 = .ok (.istore 4, 2) := by decide +kernel
theorem dX11_law_20 : decode cX11_law 20 = .ok (.bipush (-9), 2) := by decide +kernel
theorem dX11_law_22 : decode cX11_law 22 = .ok (.istore 5, 2) := by decide +kernel
theorem dX11_law_24 : decode cX11_law 24 = .ok (.lconst 0, 1) := by decide +kernel
theorem dX11_law_25 : decode cX11_law 25 = .ok (.lstore 6, 2) := by decide +kernel
theorem dX11_law_27 : decode cX11_law 27 = .ok (.iconst 1, 1) := by decide +kernel
theorem dX11_law_28 : decode cX11_law 28 = .ok (.istore 8, 2) := by decide +kernel
theorem dX11_law_30 : decode cX11_law 30 = .ok (.iload 8, 2) := by decide +kernel
theorem dX11_law_32 : decode cX11_law 32 = .ok (.iconst 4, 1) := by decide +kernel
theorem dX11_law_33 : decode cX11_law 33 = .ok (.if_icmp .gt 67, 3) := by decide +kernel
theorem dX11_law_36 : decode cX11_law 36 = .ok (.iconst 0, 1) := by decide +kernel
theorem dX11_law_37 : decode cX11_law 37 = .ok (.istore 9, 2) := by decide +kernel
theorem dX11_law_39 : decode cX11_law 39 = .ok (.iload 9, 2) := by decide +kernel
theorem dX11_law_41 : decode cX11_law 41 = .ok (.iconst 3, 1) := by decide +kernel
theorem dX11_law_42 : decode cX11_law 42 = .ok (.if_icmp .gt 52, 3) := by decide +kernel
theorem dX11_law_45 : decode cX11_law 45 = .ok (.aload_n 0, 1) := by decide +kernel
theorem dX11_law_46 : decode cX11_law 46 = .ok (.iload 8, 2) := by decide +kernel
theorem dX11_law_48 : decode cX11_law 48 = .ok (.putfield 44, 3) := by decide +kernel
theorem dX11_law_51 : decode cX11_law 51 = .ok (.aload_n 0, 1) := by decide +kernel
theorem dX11_law_52 : decode cX11_law 52 = .ok (.iload_n 1, 1) := by decide +kernel
theorem dX11_law_53 : decode cX11_law 53 = .ok (.iload_n 2, 1) := by decide +kernel
theorem dX11_law_54 : decode cX11_law 54 = .ok (.iload 9, 2) := by decide +kernel
theorem dX11_law_56 : decode cX11_law 56 = .ok (.invokevirtual 268, 3) := by decide +kernel
theorem dX11_law_59 : decode cX11_law 59 = .ok (.lstore 10, 2) := by decide +kernel
theorem dX11_law_61 : decode cX11_law 61 = .ok (.iload 5, 2) := by decide +kernel
theorem dX11_law_63 : decode cX11_law 63 = .ok (.ifCond .lt 11, 3) := by decide +kernel
theorem dX11_law_66 : decode cX11_law 66 = .ok (.lload 10, 2) := by decide +kernel
theorem dX11_law_68 : decode cX11_law 68 = .ok (.lload 6, 2) := by decide +kernel
theorem dX11_law_70 : decode cX11_law 70 = .ok (.lcmp, 1) := by decide +kernel
theorem dX11_law_71 : decode cX11_law 71 = .ok (.ifCond .ge 17, 3) := by decide +kernel
theorem dX11_law_74 : decode cX11_law 74 = .ok (.bipush 10, 2) := by decide +kernel
theorem dX11_law_76 : decode cX11_law 76 = .ok (.iload 8, 2) := by decide +kernel
theorem dX11_law_78 : decode cX11_law 78 = .ok (.imul, 1) := by decide +kernel
theorem dX11_law_79 : decode cX11_law 79 = .ok (.iload 9, 2) := by decide +kernel
theorem dX11_law_81 : decode cX11_law 81 = .ok (.iadd, 1) := by decide +kernel
theorem dX11_law_82 : decode cX11_law 82 = .ok (.istore 5, 2) := by decide +kernel
theorem dX11_law_84 : decode cX11_law 84 = .ok (.lload 10, 2) := by decide +kernel
theorem dX11_law_86 : decode cX11_law 86 = .ok (.lstore 6, 2) := by decide +kernel
theorem dX11_law_88 : decode cX11_law 88 = .ok (.iinc 9 3, 3) := by decide +kernel
theorem dX11_law_91 : decode cX11_law 91 = .ok (.goto (-52), 3) := by decide +kernel
theorem dX11_law_94 : decode cX11_law 94 = .ok (.iinc 8 1, 3) := by decide +kernel
theorem dX11_law_97 : decode cX11_law 97 = .ok (.goto (-67), 3) := by decide +kernel
theorem dX11_law_100 : decode cX11_law 100 = .ok (.aload_n 0, 1) := by decide +kernel
theorem dX11_law_101 : decode cX11_law 101 = .ok (.iload 4, 2) := by decide +kernel
theorem dX11_law_103 : decode cX11_law 103 = .ok (.putfield 44, 3) := by decide +kernel
theorem dX11_law_106 : decode cX11_law 106 = .ok (.aload_n 0, 1) := by decide +kernel
theorem dX11_law_107 : decode cX11_law 107 = .ok (.lload 6, 2) := by decide +kernel
theorem dX11_law_109 : decode cX11_law 109 = .ok (.aload_n 0, 1) := by decide +kernel
theorem dX11_law_110 : decode cX11_law 110 = .ok (.invokevirtual 188, 3) := by decide +kernel
theorem dX11_law_113 : decode cX11_law 113 = .ok (.invokestatic 212, 3) := by decide +kernel
theorem dX11_law_116 : decode cX11_law 116 = .ok (.aload_n 0, 1) := by decide +kernel
theorem dX11_law_117 : decode cX11_law 117 = .ok (.invokevirtual 235, 3) := by decide +kernel
theorem dX11_law_120 : decode cX11_law 120 = .ok (.lmul, 1) := by decide +kernel
theorem dX11_law_121 : decode cX11_law 121 = .ok (.iload 5, 2) := by decide +kernel
theorem dX11_law_123 : decode cX11_law 123 = .ok (.invokevirtual 225, 3) := by decide +kernel
theorem dX11_law_126 : decode cX11_law 126 = .ok (.ireturn, 1) := by decide +kernel
set_option maxRecDepth 100000 in
set_option maxHeartbeats 4000000 in
theorem tb_X11_law_74 {K : sd_K} {E : sd_Env}   {r : (Int32 × sd_Mem)} (C : sd_C K E sd_LM RX11 cX11_law 12 (some .int))  {k30 : sd_Mem → Int32 → Int32 → Int32 → Int32 → Int64 → Int32 → Option (Int32 × sd_Mem)} (hk30 : ∀ (M : sd_Mem) (x1 : Int32) (x2 : Int32) (x4 : Int32) (x5 : Int32) (l6 : Int64) (x8 : Int32), k30 M x1 x2 x4 x5 l6 x8 = some r → sd_Z K rm_X11_law E sd_LM 12 (sd_QI K E sd_LM r.1 r.2) M 30 [(0, .ref (E.2.2 100)), (1, .int x1), (2, .int x2), (4, .int x4), (5, .int x5), (6, .long l6), (8, .int x8)] []) {k39 : sd_Mem → Int32 → Int32 → Int32 → Int32 → Int64 → Int32 → Int32 → Option (Int32 × sd_Mem)} (hk39 : ∀ (M : sd_Mem) (x1 : Int32) (x2 : Int32) (x4 : Int32) (x5 : Int32) (l6 : Int64) (x8 : Int32) (x9 : Int32), k39 M x1 x2 x4 x5 l6 x8 x9 = some r → sd_Z K rm_X11_law E sd_LM 12 (sd_QI K E sd_LM r.1 r.2) M 39 [(0, .ref (E.2.2 100)), (1, .int x1), (2, .int x2), (4, .int x4), (5, .int x5), (6, .long l6), (8, .int x8), (9, .int x9)] []) : ∀ (M : sd_Mem) (x1 : Int32) (x2 : Int32) (x4 : Int32) (x8 : Int32) (x9 : Int32) (l10 : Int64), fn_X11_law_74 k30 k39 M x1 x2 x4 x8 x9 l10 = some r → sd_Z K rm_X11_law E sd_LM 12 (sd_QI K E sd_LM r.1 r.2) M 74 [(0, .ref (E.2.2 100)), (1, .int x1), (2, .int x2), (4, .int x4), (8, .int x8), (9, .int x9), (10, .long l10)] [] := by
  intro M x1 x2 x4 x8 x9 l10 hF
  unfold fn_X11_law_74 at hF
  refine sd_bipush C (v := 10) dX11_law_74 rfl rfl (n' := 76) ?_
  refine sd_iload C 4 dX11_law_76 rfl rfl (n' := 78) ?_
  refine sd_imul C dX11_law_78 rfl (n' := 79) ?_
  refine sd_iload C 5 dX11_law_79 rfl rfl (n' := 81) ?_
  refine sd_iadd C dX11_law_81 rfl (n' := 82) ?_
  refine sd_istore [(5, .int (((10 : Int32) * x8) + x9)), (0, .ref (E.2.2 100)), (1, .int x1), (2, .int x2), (4, .int x4), (8, .int x8), (9, .int x9), (10, .long l10)] C dX11_law_82 (by decide) rfl rfl (n' := 84) ?_
  refine sd_lload C 7 dX11_law_84 rfl rfl (n' := 86) ?_
  refine sd_lstore [(6, .long l10), (5, .int (((10 : Int32) * x8) + x9)), (0, .ref (E.2.2 100)), (1, .int x1), (2, .int x2), (4, .int x4), (8, .int x8), (9, .int x9), (10, .long l10)] C dX11_law_86 (by decide) rfl rfl (n' := 88) ?_
  refine sd_iinc [(9, .int (x9 + (3 : Int32))), (6, .long l10), (5, .int (((10 : Int32) * x8) + x9)), (0, .ref (E.2.2 100)), (1, .int x1), (2, .int x2), (4, .int x4), (8, .int x8), (10, .long l10)] 7 C dX11_law_88 rfl rfl (by decide) rfl rfl (n' := 91) ?_
  refine sd_goto C (tgt := 39) dX11_law_91 rfl ?_
  refine sd_sub [3, 4, 5, 6, 2, 1, 7, 0] rfl ?_
  exact hk39 M x1 x2 x4 (((10 : Int32) * x8) + x9) l10 x8 (x9 + (3 : Int32)) hF
set_option maxRecDepth 100000 in
set_option maxHeartbeats 4000000 in
theorem tb_X11_law_39 {K : sd_K} {E : sd_Env}   {r : (Int32 × sd_Mem)} (C : sd_C K E sd_LM RX11 cX11_law 12 (some .int))  {k30 : sd_Mem → Int32 → Int32 → Int32 → Int32 → Int64 → Int32 → Option (Int32 × sd_Mem)} (hk30 : ∀ (M : sd_Mem) (x1 : Int32) (x2 : Int32) (x4 : Int32) (x5 : Int32) (l6 : Int64) (x8 : Int32), k30 M x1 x2 x4 x5 l6 x8 = some r → sd_Z K rm_X11_law E sd_LM 12 (sd_QI K E sd_LM r.1 r.2) M 30 [(0, .ref (E.2.2 100)), (1, .int x1), (2, .int x2), (4, .int x4), (5, .int x5), (6, .long l6), (8, .int x8)] []) : ∀ (n : Nat), ∀ (M : sd_Mem) (x1 : Int32) (x2 : Int32) (x4 : Int32) (x5 : Int32) (l6 : Int64) (x8 : Int32) (x9 : Int32), fn_X11_law_39 k30 n M x1 x2 x4 x5 l6 x8 x9 = some r → sd_Z K rm_X11_law E sd_LM 12 (sd_QI K E sd_LM r.1 r.2) M 39 [(0, .ref (E.2.2 100)), (1, .int x1), (2, .int x2), (4, .int x4), (5, .int x5), (6, .long l6), (8, .int x8), (9, .int x9)] [] := by
  intro n
  induction n with
  | zero => intro M x1 x2 x4 x5 l6 x8 x9 hF; cases hF
  | succ n ih =>
    intro M x1 x2 x4 x5 l6 x8 x9 hF
    unfold fn_X11_law_39 at hF
    refine sd_iload C 7 dX11_law_39 rfl rfl (n' := 41) ?_
    refine sd_iconst C (v := 3) dX11_law_41 rfl rfl (n' := 42) ?_
    refine sd_icmp_gt C (n' := 45) (tgt := 94) dX11_law_42 rfl rfl (fun c42 => ?_) (fun c42 => ?_)
    · replace hF := sd_pos hF c42
      refine sd_iinc [(8, .int (x8 + (1 : Int32))), (0, .ref (E.2.2 100)), (1, .int x1), (2, .int x2), (4, .int x4), (5, .int x5), (6, .long l6), (9, .int x9)] 6 C dX11_law_94 rfl rfl (by decide) rfl rfl (n' := 97) ?_
      refine sd_goto C (tgt := 30) dX11_law_97 rfl ?_
      refine sd_sub [1, 2, 3, 4, 5, 6, 0] rfl ?_
      exact hk30 M x1 x2 x4 x5 l6 (x8 + (1 : Int32)) hF
    · replace hF := sd_neg hF c42
      refine sd_aload_n C 0 dX11_law_45 rfl rfl rfl (n' := 46) ?_
      refine sd_iload C 6 dX11_law_46 rfl rfl (n' := 48) ?_
      refine sd_p11_14 C sd_i100 sd_k100 sd_w1055 dX11_law_48 rfl (n' := 51) ?_
      refine sd_aload_n C 0 dX11_law_51 rfl rfl rfl (n' := 52) ?_
      refine sd_iload_n C 1 dX11_law_52 rfl rfl rfl (n' := 53) ?_
      refine sd_iload_n C 2 dX11_law_53 rfl rfl rfl (n' := 54) ?_
      refine sd_iload C 7 dX11_law_54 rfl rfl (n' := 56) ?_
      obtain ⟨q56, e56, hF⟩ := sd_bind hF
      refine sd_callVL [.int x1, .int x2, .int x9] [] C (ct_X11_losesBy (sd_setI M 100 14 x8) x1 x2 x9  e56) sd_lX11_268 ⟨rfl, rfl, Nat.le_of_ble_eq_true rfl, Nat.le_of_ble_eq_true rfl⟩ sd_i100 (sd_e12 sd_k100) rfl rfl rfl (Nat.le_of_ble_eq_true rfl) dX11_law_56 rfl (n' := 59) ?_
      refine sd_lstore [(10, .long q56), (0, .ref (E.2.2 100)), (1, .int x1), (2, .int x2), (4, .int x4), (5, .int x5), (6, .long l6), (8, .int x8), (9, .int x9)] C dX11_law_59 (by decide) rfl rfl (n' := 61) ?_
      refine sd_iload C 5 dX11_law_61 rfl rfl (n' := 63) ?_
      refine sd_if_lt C (n' := 66) (tgt := 74) dX11_law_63 rfl rfl (fun c63 => ?_) (fun c63 => ?_)
      · replace hF := sd_pos hF c63
        refine sd_sub [1, 2, 3, 4, 7, 8, 0] rfl ?_
        exact tb_X11_law_74 C hk30 ih (sd_setI M 100 14 x8) x1 x2 x4 x8 x9 q56 hF
      · replace hF := sd_neg hF c63
        refine sd_lload C 0 dX11_law_66 rfl rfl (n' := 68) ?_
        refine sd_lload C 6 dX11_law_68 rfl rfl (n' := 70) ?_
        refine sd_lcmp C dX11_law_70 rfl (n' := 71) ?_
        refine sd_if_ge C (n' := 74) (tgt := 88) dX11_law_71 rfl rfl (fun c71 => ?_) (fun c71 => ?_)
        · replace hF := sd_pos hF c71
          refine sd_iinc [(9, .int (x9 + (3 : Int32))), (10, .long q56), (0, .ref (E.2.2 100)), (1, .int x1), (2, .int x2), (4, .int x4), (5, .int x5), (6, .long l6), (8, .int x8)] 8 C dX11_law_88 rfl rfl (by decide) rfl rfl (n' := 91) ?_
          refine sd_goto C (tgt := 39) dX11_law_91 rfl ?_
          refine sd_sub [2, 3, 4, 5, 6, 7, 8, 0] rfl ?_
          exact ih (sd_setI M 100 14 x8) x1 x2 x4 x5 l6 x8 (x9 + (3 : Int32)) hF
        · replace hF := sd_neg hF c71
          refine sd_sub [1, 2, 3, 4, 7, 8, 0] rfl ?_
          exact tb_X11_law_74 C hk30 ih (sd_setI M 100 14 x8) x1 x2 x4 x8 x9 q56 hF
set_option maxRecDepth 100000 in
set_option maxHeartbeats 4000000 in
theorem tb_X11_law_100 {K : sd_K} {E : sd_Env}   {r : (Int32 × sd_Mem)} (C : sd_C K E sd_LM RX11 cX11_law 12 (some .int))  : ∀ (M : sd_Mem) (x4 : Int32) (x5 : Int32) (l6 : Int64), fn_X11_law_100 M x4 x5 l6 = some r → sd_Z K rm_X11_law E sd_LM 12 (sd_QI K E sd_LM r.1 r.2) M 100 [(0, .ref (E.2.2 100)), (4, .int x4), (5, .int x5), (6, .long l6)] [] := by
  intro M x4 x5 l6 hF
  unfold fn_X11_law_100 at hF
  refine sd_aload_n C 0 dX11_law_100 rfl rfl rfl (n' := 101) ?_
  refine sd_iload C 1 dX11_law_101 rfl rfl (n' := 103) ?_
  refine sd_p11_14 C sd_i100 sd_k100 sd_w1055 dX11_law_103 rfl (n' := 106) ?_
  refine sd_aload_n C 0 dX11_law_106 rfl rfl rfl (n' := 107) ?_
  refine sd_lload C 3 dX11_law_107 rfl rfl (n' := 109) ?_
  refine sd_aload_n C 0 dX11_law_109 rfl rfl rfl (n' := 110) ?_
  obtain ⟨q110, e110, hF⟩ := sd_bind hF
  refine sd_callVI [] [.long l6, .ref (E.2.2 100)] C (ct_X11_last (sd_setI M 100 14 x4)   e110) sd_lX11_188 ⟨rfl, rfl, Nat.le_of_ble_eq_true rfl, Nat.le_of_ble_eq_true rfl⟩ sd_i100 (sd_e12 sd_k100) rfl rfl rfl (Nat.le_of_ble_eq_true rfl) dX11_law_110 rfl (n' := 113) ?_
  obtain ⟨q113, e113, hF⟩ := sd_bind hF
  refine sd_callSL [.int q110] [.long l6, .ref (E.2.2 100)] C (ct_X11_twelve (sd_setI M 100 14 x4) q110  e113) sd_lX11_212 ⟨rfl, rfl, Nat.le_of_ble_eq_true rfl, Nat.le_of_ble_eq_true rfl⟩ rfl (Nat.le_of_ble_eq_true rfl) dX11_law_113 rfl (n' := 116) ?_
  refine sd_aload_n C 0 dX11_law_116 rfl rfl rfl (n' := 117) ?_
  obtain ⟨q117, e117, hF⟩ := sd_bind hF
  refine sd_callVL [] [.long q113, .long l6, .ref (E.2.2 100)] C (ct_X11_pairs (sd_setI M 100 14 x4)   e117) sd_lX11_235 ⟨rfl, rfl, Nat.le_of_ble_eq_true rfl, Nat.le_of_ble_eq_true rfl⟩ sd_i100 (sd_e12 sd_k100) rfl rfl rfl (Nat.le_of_ble_eq_true rfl) dX11_law_117 rfl (n' := 120) ?_
  refine sd_lmul C dX11_law_120 rfl (n' := 121) ?_
  refine sd_iload C 2 dX11_law_121 rfl rfl (n' := 123) ?_
  obtain ⟨q123, e123, hF⟩ := sd_bind hF
  refine sd_callVI [.long l6, .long (q113 * q117), .int x5] [] C (ct_X11_share (sd_setI M 100 14 x4) l6 (q113 * q117) x5  e123) sd_lX11_225 ⟨rfl, rfl, Nat.le_of_ble_eq_true rfl, Nat.le_of_ble_eq_true rfl⟩ sd_i100 (sd_e12 sd_k100) rfl rfl rfl (Nat.le_of_ble_eq_true rfl) dX11_law_123 rfl (n' := 126) ?_
  exact sd_iret C dX11_law_126 (sd_fst hF) (sd_snd hF)
set_option maxRecDepth 100000 in
set_option maxHeartbeats 4000000 in
theorem tb_X11_law_30 {K : sd_K} {E : sd_Env}   {r : (Int32 × sd_Mem)} (C : sd_C K E sd_LM RX11 cX11_law 12 (some .int))  : ∀ (n : Nat), ∀ (M : sd_Mem) (x1 : Int32) (x2 : Int32) (x4 : Int32) (x5 : Int32) (l6 : Int64) (x8 : Int32), fn_X11_law_30 n M x1 x2 x4 x5 l6 x8 = some r → sd_Z K rm_X11_law E sd_LM 12 (sd_QI K E sd_LM r.1 r.2) M 30 [(0, .ref (E.2.2 100)), (1, .int x1), (2, .int x2), (4, .int x4), (5, .int x5), (6, .long l6), (8, .int x8)] [] := by
  intro n
  induction n with
  | zero => intro M x1 x2 x4 x5 l6 x8 hF; cases hF
  | succ n ih =>
    intro M x1 x2 x4 x5 l6 x8 hF
    unfold fn_X11_law_30 at hF
    refine sd_iload C 6 dX11_law_30 rfl rfl (n' := 32) ?_
    refine sd_iconst C (v := 4) dX11_law_32 rfl rfl (n' := 33) ?_
    refine sd_icmp_gt C (n' := 36) (tgt := 100) dX11_law_33 rfl rfl (fun c33 => ?_) (fun c33 => ?_)
    · replace hF := sd_pos hF c33
      refine sd_sub [0, 3, 4, 5] rfl ?_
      exact tb_X11_law_100 C M x4 x5 l6 hF
    · replace hF := sd_neg hF c33
      refine sd_iconst C (v := 0) dX11_law_36 rfl rfl (n' := 37) ?_
      refine sd_istore [(9, .int (0 : Int32)), (0, .ref (E.2.2 100)), (1, .int x1), (2, .int x2), (4, .int x4), (5, .int x5), (6, .long l6), (8, .int x8)] C dX11_law_37 (by decide) rfl rfl (n' := 39) ?_
      refine sd_sub [1, 2, 3, 4, 5, 6, 7, 0] rfl ?_
      exact tb_X11_law_39 C ih sd_FU M x1 x2 x4 x5 l6 x8 (0 : Int32) hF
set_option maxRecDepth 100000 in
set_option maxHeartbeats 4000000 in
theorem tb_X11_law_0 {K : sd_K} {E : sd_Env}   {r : (Int32 × sd_Mem)} (C : sd_C K E sd_LM RX11 cX11_law 12 (some .int))  : ∀ (M : sd_Mem) (x1 : Int32) (x2 : Int32), fn_X11_law_0 M x1 x2 = some r → sd_Z K rm_X11_law E sd_LM 12 (sd_QI K E sd_LM r.1 r.2) M 0 [(0, .ref (E.2.2 100)), (1, .int x1), (2, .int x2)] [] := by
  intro M x1 x2 hF
  unfold fn_X11_law_0 at hF
  refine sd_aload_n C 0 dX11_law_0 rfl rfl rfl (n' := 1) ?_
  refine sd_iload_n C 1 dX11_law_1 rfl rfl rfl (n' := 2) ?_
  refine sd_iload_n C 2 dX11_law_2 rfl rfl rfl (n' := 3) ?_
  refine sd_iconst C (v := 1) dX11_law_3 rfl rfl (n' := 4) ?_
  obtain ⟨q4, e4, hF⟩ := sd_bind hF
  refine sd_callVI [.int x1, .int x2, .int (1 : Int32)] [] C (ct_X11_askedTwo M x1 x2 (1 : Int32)  e4) sd_lX11_195 ⟨rfl, rfl, Nat.le_of_ble_eq_true rfl, Nat.le_of_ble_eq_true rfl⟩ sd_i100 (sd_e12 sd_k100) rfl rfl rfl (Nat.le_of_ble_eq_true rfl) dX11_law_4 rfl (n' := 7) ?_
  refine sd_istore_n [(3, .int q4.1), (0, .ref (E.2.2 100)), (1, .int x1), (2, .int x2)] C dX11_law_7 rfl (by decide) rfl rfl (n' := 8) ?_
  refine sd_iload_n C 0 dX11_law_8 rfl rfl rfl (n' := 9) ?_
  refine sd_if_ge C (n' := 12) (tgt := 14) dX11_law_9 rfl rfl (fun c9 => ?_) (fun c9 => ?_)
  · replace hF := sd_pos hF c9
    refine sd_aload_n C 1 dX11_law_14 rfl rfl rfl (n' := 15) ?_
    refine sd_g11_14 C sd_i100 sd_k100 sd_w1055 dX11_law_15 rfl (n' := 18) ?_
    refine sd_istore [(4, .int (q4.2.1 100 14)), (3, .int q4.1), (0, .ref (E.2.2 100)), (1, .int x1), (2, .int x2)] C dX11_law_18 (by decide) rfl rfl (n' := 20) ?_
    refine sd_bipush C (v := -9) dX11_law_20 rfl rfl (n' := 22) ?_
    refine sd_istore [(5, .int (-9 : Int32)), (4, .int (q4.2.1 100 14)), (3, .int q4.1), (0, .ref (E.2.2 100)), (1, .int x1), (2, .int x2)] C dX11_law_22 (by decide) rfl rfl (n' := 24) ?_
    refine sd_lconst C (v := 0) dX11_law_24 rfl rfl (n' := 25) ?_
    refine sd_lstore [(6, .long (0 : Int64)), (5, .int (-9 : Int32)), (4, .int (q4.2.1 100 14)), (3, .int q4.1), (0, .ref (E.2.2 100)), (1, .int x1), (2, .int x2)] C dX11_law_25 (by decide) rfl rfl (n' := 27) ?_
    refine sd_iconst C (v := 1) dX11_law_27 rfl rfl (n' := 28) ?_
    refine sd_istore [(8, .int (1 : Int32)), (6, .long (0 : Int64)), (5, .int (-9 : Int32)), (4, .int (q4.2.1 100 14)), (3, .int q4.1), (0, .ref (E.2.2 100)), (1, .int x1), (2, .int x2)] C dX11_law_28 (by decide) rfl rfl (n' := 30) ?_
    refine sd_sub [5, 6, 7, 3, 2, 1, 0] rfl ?_
    exact tb_X11_law_30 C sd_FU q4.2 x1 x2 (q4.2.1 100 14) (-9 : Int32) (0 : Int64) (1 : Int32) hF
  · replace hF := sd_neg hF c9
    refine sd_iload_n C 0 dX11_law_12 rfl rfl rfl (n' := 13) ?_
    exact sd_iret C dX11_law_13 (sd_fst hF) (sd_snd hF)
theorem ct_X11_law {l : Launch} {E : sd_Env} (M : sd_Mem) (x1 : Int32) (x2 : Int32)  {r : (Int32 × sd_Mem)} (hF : fn_X11_law M x1 x2 = some r) : sd_MI l E sd_LM yX11_law cX11_law 12 (some .int) rm_X11_law [.ref (E.2.2 100), .int x1, .int x2] M r.1 r.2 := sd_ent0 (by decide +kernel) (Nat.le_of_ble_eq_true rfl) (fun p e s m below meth c C => tb_X11_law_0 C M x1 x2 hF)
theorem dX11_isKindOfMen_0 : decode cX11_isKindOfMen 0 = .ok (.iload_n 0, 1) := by decide +kernel
theorem dX11_isKindOfMen_1 : decode cX11_isKindOfMen 1 = .ok (.iconst 0, 1) := by decide +kernel
theorem dX11_isKindOfMen_2 : decode cX11_isKindOfMen 2 = .ok (.iconst 5, 1) := by decide +kernel
theorem dX11_isKindOfMen_3 : decode cX11_isKindOfMen 3 = .ok (.invokestatic 97, 3) := by decide +kernel
theorem dX11_isKindOfMen_6 : decode cX11_isKindOfMen 6 = .ok (.ireturn, 1) := by decide +kernel
set_option maxRecDepth 100000 in
set_option maxHeartbeats 4000000 in
theorem tb_X11_isKindOfMen_0 {K : sd_K} {E : sd_Env} {M : sd_Mem}  {r : Int32} (C : sd_C K E sd_LM RX11 cX11_isKindOfMen 1 (some .boolean))  : ∀ (x0 : Int32), fn_X11_isKindOfMen_0 x0 = some r → sd_Z K rm_X11_isKindOfMen E sd_LM 1 (sd_QI K E sd_LM r M) M 0 [(0, .int x0)] [] := by
  intro x0 hF
  unfold fn_X11_isKindOfMen_0 at hF
  refine sd_iload_n C 0 dX11_isKindOfMen_0 rfl rfl rfl (n' := 1) ?_
  refine sd_iconst C (v := 0) dX11_isKindOfMen_1 rfl rfl (n' := 2) ?_
  refine sd_iconst C (v := 5) dX11_isKindOfMen_2 rfl rfl (n' := 3) ?_
  obtain ⟨q3, e3, hF⟩ := sd_bind hF
  refine sd_callSI [.int x0, .int (0 : Int32), .int (5 : Int32)] [] C (ct_X11_in M x0 (0 : Int32) (5 : Int32)  e3) sd_lX11_97 ⟨rfl, rfl, Nat.le_of_ble_eq_true rfl, Nat.le_of_ble_eq_true rfl⟩ rfl (Nat.le_of_ble_eq_true rfl) dX11_isKindOfMen_3 rfl (n' := 6) ?_
  obtain ⟨b6, hF⟩ := sd_ok hF
  exact sd_zret C dX11_isKindOfMen_6 (Decidable.of_not_not b6) (Option.some.inj hF) rfl
theorem ct_X11_isKindOfMen {l : Launch} {E : sd_Env} (M : sd_Mem) (x0 : Int32)  {r : Int32} (hF : fn_X11_isKindOfMen x0 = some r) : sd_MI l E sd_LM yX11_isKindOfMen cX11_isKindOfMen 1 (some .boolean) rm_X11_isKindOfMen [.int x0] M r M := sd_ent0 (by decide +kernel) (Nat.le_of_ble_eq_true rfl) (fun p e s m below meth c C => tb_X11_isKindOfMen_0 C x0 hF)
theorem dX11_men_0 : decode cX11_men 0 = .ok (.iload_n 1, 1) := by decide +kernel
theorem dX11_men_1 : decode cX11_men 1 = .ok (.invokestatic 271, 3) := by decide +kernel
theorem dX11_men_4 : decode cX11_men 4 = .ok (.ifCond .eq 34, 3) := by decide +kernel
theorem dX11_men_7 : decode cX11_men 7 = .ok (.iload_n 2, 1) := by decide +kernel
theorem dX11_men_8 : decode cX11_men 8 = .ok (.iconst 0, 1) := by decide +kernel
theorem dX11_men_9 : decode cX11_men 9 = .ok (.bipush 99, 2) := by decide +kernel
theorem dX11_men_11 : decode cX11_men 11 = .ok (.invokestatic 97, 3) := by decide +kernel
theorem dX11_men_14 : decode cX11_men 14 = .ok (.ifCond .eq 24, 3) := by decide +kernel
theorem dX11_men_17 : decode cX11_men 17 = .ok (.iload_n 3, 1) := by decide +kernel
theorem dX11_men_18 : decode cX11_men 18 = .ok (.iconst 0, 1) := by decide +kernel
theorem dX11_men_19 : decode cX11_men 19 = .ok (.bipush 99, 2) := by decide +kernel
theorem dX11_men_21 : decode cX11_men 21 = .ok (.invokestatic 97, 3) := by decide +kernel
theorem dX11_men_24 : decode cX11_men 24 = .ok (.ifCond .eq 14, 3) := by decide +kernel
theorem dX11_men_27 : decode cX11_men 27 = .ok (.iload 4, 2) := by decide +kernel
theorem dX11_men_29 : decode cX11_men 29 = .ok (.iconst 0, 1) := by decide +kernel
theorem dX11_men_30 : decode cX11_men 30 = .ok (.bipush 100, 2) := by decide +kernel
theorem dX11_men_32 : decode cX11_men 32 = .ok (.invokestatic 97, 3) := by decide +kernel
theorem dX11_men_35 : decode cX11_men 35 = .ok (.ifCond .ne 5, 3) := by decide +kernel
theorem dX11_men_38 : decode cX11_men 38 = .ok (.iconst (-1), 1) := by decide +kernel
theorem dX11_men_39 : decode cX11_men 39 = .ok (.ireturn, 1) := by decide +kernel
theorem dX11_men_40 : decode cX11_men 40 = .ok (.aload_n 0, 1) := by decide +kernel
theorem dX11_men_41 : decode cX11_men 41 = .ok (.getfield 76, 3) := by decide +kernel
theorem dX11_men_44 : decode cX11_men 44 = .ok (.iload_n 1, 1) := by decide +kernel
theorem dX11_men_45 : decode cX11_men 45 = .ok (.iload_n 2, 1) := by decide +kernel
theorem dX11_men_46 : decode cX11_men 46 = .ok (.iastore, 1) := by decide +kernel
theorem dX11_men_47 : decode cX11_men 47 = .ok (.aload_n 0, 1) := by decide +kernel
theorem dX11_men_48 : decode cX11_men 48 = .ok (.getfield 79, 3) := by decide +kernel
theorem dX11_men_51 : decode cX11_men 51 = .ok (.iload_n 1, 1) := by decide +kernel
theorem dX11_men_52 : decode cX11_men 52 = .ok (.iload_n 3, 1) := by decide +kernel
theorem dX11_men_53 : decode cX11_men 53 = .ok (.iastore, 1) := by decide +kernel
theorem dX11_men_54 : decode cX11_men 54 = .ok (.aload_n 0, 1) := by decide +kernel
theorem dX11_men_55 : decode cX11_men 55 = .ok (.getfield 82, 3) := by decide +kernel
theorem dX11_men_58 : decode cX11_men 58 = .ok (.iload_n 1, 1) := by decide +kernel
theorem dX11_men_59 : decode cX11_men 59 = .ok (.iload 4, 2) := by decide +kernel
theorem dX11_men_61 : decode cX11_men 61 = .ok (.iastore, 1) := by decide +kernel
theorem dX11_men_62 : decode cX11_men 62 = .ok (.iconst 1, 1) := by decide +kernel
theorem dX11_men_63 : decode cX11_men 63 = .ok (.ireturn, 1) := by decide +kernel
set_option maxRecDepth 100000 in
set_option maxHeartbeats 4000000 in
theorem tb_X11_men_0 {K : sd_K} {E : sd_Env}   {r : (Int32 × sd_Mem)} (C : sd_C K E sd_LM RX11 cX11_men 5 (some .int))  : ∀ (M : sd_Mem) (x1 : Int32) (x2 : Int32) (x3 : Int32) (x4 : Int32), fn_X11_men_0 M x1 x2 x3 x4 = some r → sd_Z K rm_X11_men E sd_LM 5 (sd_QI K E sd_LM r.1 r.2) M 0 [(0, .ref (E.2.2 100)), (1, .int x1), (2, .int x2), (3, .int x3), (4, .int x4)] [] := by
  intro M x1 x2 x3 x4 hF
  unfold fn_X11_men_0 at hF
  refine sd_iload_n C 1 dX11_men_0 rfl rfl rfl (n' := 1) ?_
  obtain ⟨q1, e1, hF⟩ := sd_bind hF
  refine sd_callSI [.int x1] [] C (ct_X11_isKindOfMen M x1  e1) sd_lX11_271 ⟨rfl, rfl, Nat.le_of_ble_eq_true rfl, Nat.le_of_ble_eq_true rfl⟩ rfl (Nat.le_of_ble_eq_true rfl) dX11_men_1 rfl (n' := 4) ?_
  refine sd_if_eq C (n' := 7) (tgt := 38) dX11_men_4 rfl rfl (fun c4 => ?_) (fun c4 => ?_)
  · replace hF := sd_pos hF c4
    refine sd_iconst C (v := -1) dX11_men_38 rfl rfl (n' := 39) ?_
    exact sd_iret C dX11_men_39 (sd_fst hF) (sd_snd hF)
  · replace hF := sd_neg hF c4
    refine sd_iload_n C 2 dX11_men_7 rfl rfl rfl (n' := 8) ?_
    refine sd_iconst C (v := 0) dX11_men_8 rfl rfl (n' := 9) ?_
    refine sd_bipush C (v := 99) dX11_men_9 rfl rfl (n' := 11) ?_
    obtain ⟨q11, e11, hF⟩ := sd_bind hF
    refine sd_callSI [.int x2, .int (0 : Int32), .int (99 : Int32)] [] C (ct_X11_in M x2 (0 : Int32) (99 : Int32)  e11) sd_lX11_97 ⟨rfl, rfl, Nat.le_of_ble_eq_true rfl, Nat.le_of_ble_eq_true rfl⟩ rfl (Nat.le_of_ble_eq_true rfl) dX11_men_11 rfl (n' := 14) ?_
    refine sd_if_eq C (n' := 17) (tgt := 38) dX11_men_14 rfl rfl (fun c14 => ?_) (fun c14 => ?_)
    · replace hF := sd_pos hF c14
      refine sd_iconst C (v := -1) dX11_men_38 rfl rfl (n' := 39) ?_
      exact sd_iret C dX11_men_39 (sd_fst hF) (sd_snd hF)
    · replace hF := sd_neg hF c14
      refine sd_iload_n C 3 dX11_men_17 rfl rfl rfl (n' := 18) ?_
      refine sd_iconst C (v := 0) dX11_men_18 rfl rfl (n' := 19) ?_
      refine sd_bipush C (v := 99) dX11_men_19 rfl rfl (n' := 21) ?_
      obtain ⟨q21, e21, hF⟩ := sd_bind hF
      refine sd_callSI [.int x3, .int (0 : Int32), .int (99 : Int32)] [] C (ct_X11_in M x3 (0 : Int32) (99 : Int32)  e21) sd_lX11_97 ⟨rfl, rfl, Nat.le_of_ble_eq_true rfl, Nat.le_of_ble_eq_true rfl⟩ rfl (Nat.le_of_ble_eq_true rfl) dX11_men_21 rfl (n' := 24) ?_
      refine sd_if_eq C (n' := 27) (tgt := 38) dX11_men_24 rfl rfl (fun c24 => ?_) (fun c24 => ?_)
      · replace hF := sd_pos hF c24
        refine sd_iconst C (v := -1) dX11_men_38 rfl rfl (n' := 39) ?_
        exact sd_iret C dX11_men_39 (sd_fst hF) (sd_snd hF)
      · replace hF := sd_neg hF c24
        refine sd_iload C 4 dX11_men_27 rfl rfl (n' := 29) ?_
        refine sd_iconst C (v := 0) dX11_men_29 rfl rfl (n' := 30) ?_
        refine sd_bipush C (v := 100) dX11_men_30 rfl rfl (n' := 32) ?_
        obtain ⟨q32, e32, hF⟩ := sd_bind hF
        refine sd_callSI [.int x4, .int (0 : Int32), .int (100 : Int32)] [] C (ct_X11_in M x4 (0 : Int32) (100 : Int32)  e32) sd_lX11_97 ⟨rfl, rfl, Nat.le_of_ble_eq_true rfl, Nat.le_of_ble_eq_true rfl⟩ rfl (Nat.le_of_ble_eq_true rfl) dX11_men_32 rfl (n' := 35) ?_
        refine sd_if_ne C (n' := 38) (tgt := 40) dX11_men_35 rfl rfl (fun c35 => ?_) (fun c35 => ?_)
        · replace hF := sd_neg hF c35
          refine sd_aload_n C 0 dX11_men_40 rfl rfl rfl (n' := 41) ?_
          refine sd_g11_27 C sd_i100 sd_k100 sd_w1068 dX11_men_41 rfl (n' := 44) ?_
          refine sd_iload_n C 1 dX11_men_44 rfl rfl rfl (n' := 45) ?_
          refine sd_iload_n C 2 dX11_men_45 rfl rfl rfl (n' := 46) ?_
          obtain ⟨b46, hF⟩ := sd_ok hF
          refine sd_iast C sd_i119 sd_k119 sd_n119 b46 dX11_men_46 rfl (n' := 47) ?_
          refine sd_aload_n C 0 dX11_men_47 rfl rfl rfl (n' := 48) ?_
          refine sd_g11_28 C sd_i100 sd_k100 sd_w1069 dX11_men_48 rfl (n' := 51) ?_
          refine sd_iload_n C 1 dX11_men_51 rfl rfl rfl (n' := 52) ?_
          refine sd_iload_n C 3 dX11_men_52 rfl rfl rfl (n' := 53) ?_
          obtain ⟨b53, hF⟩ := sd_ok hF
          refine sd_iast C sd_i120 sd_k120 sd_n120 b53 dX11_men_53 rfl (n' := 54) ?_
          refine sd_aload_n C 0 dX11_men_54 rfl rfl rfl (n' := 55) ?_
          refine sd_g11_29 C sd_i100 sd_k100 sd_w1070 dX11_men_55 rfl (n' := 58) ?_
          refine sd_iload_n C 1 dX11_men_58 rfl rfl rfl (n' := 59) ?_
          refine sd_iload C 4 dX11_men_59 rfl rfl (n' := 61) ?_
          obtain ⟨b61, hF⟩ := sd_ok hF
          refine sd_iast C sd_i121 sd_k121 sd_n121 b61 dX11_men_61 rfl (n' := 62) ?_
          refine sd_iconst C (v := 1) dX11_men_62 rfl rfl (n' := 63) ?_
          exact sd_iret C dX11_men_63 (sd_fst hF) (sd_snd hF)
        · replace hF := sd_pos hF c35
          refine sd_iconst C (v := -1) dX11_men_38 rfl rfl (n' := 39) ?_
          exact sd_iret C dX11_men_39 (sd_fst hF) (sd_snd hF)
theorem ct_X11_men {l : Launch} {E : sd_Env} (M : sd_Mem) (x1 : Int32) (x2 : Int32) (x3 : Int32) (x4 : Int32)  {r : (Int32 × sd_Mem)} (hF : fn_X11_men M x1 x2 x3 x4 = some r) : sd_MI l E sd_LM yX11_men cX11_men 5 (some .int) rm_X11_men [.ref (E.2.2 100), .int x1, .int x2, .int x3, .int x4] M r.1 r.2 := sd_ent0 (by decide +kernel) (Nat.le_of_ble_eq_true rfl) (fun p e s m below meth c C => tb_X11_men_0 C M x1 x2 x3 x4 hF)
theorem dX11_leftBy_0 : decode cX11_leftBy 0 = .ok (.iload_n 1, 1) := by decide +kernel
theorem dX11_leftBy_1 : decode cX11_leftBy 1 = .ok (.invokestatic 271, 3) := by decide +kernel
theorem dX11_leftBy_4 : decode cX11_leftBy 4 = .ok (.ifCond .eq 12, 3) := by decide +kernel
theorem dX11_leftBy_7 : decode cX11_leftBy 7 = .ok (.iload_n 3, 1) := by decide +kernel
theorem dX11_leftBy_8 : decode cX11_leftBy 8 = .ok (.iload 4, 2) := by decide +kernel
theorem dX11_leftBy_10 : decode cX11_leftBy 10 = .ok (.invokestatic 165, 3) := by decide +kernel
theorem dX11_leftBy_13 : decode cX11_leftBy 13 = .ok (.ifCond .ne 5, 3) := by decide +kernel
theorem dX11_leftBy_16 : decode cX11_leftBy 16 = .ok (.iconst (-1), 1) := by decide +kernel
theorem dX11_leftBy_17 : decode cX11_leftBy 17 = .ok (.ireturn, 1) := by decide +kernel
theorem dX11_leftBy_18 : decode cX11_leftBy 18 = .ok (.aload_n 0, 1) := by decide +kernel
theorem dX11_leftBy_19 : decode cX11_leftBy 19 = .ok (.iload_n 2, 1) := by decide +kernel
theorem dX11_leftBy_20 : decode cX11_leftBy 20 = .ok (.invokevirtual 168, 3) := by decide +kernel
theorem dX11_leftBy_23 : decode cX11_leftBy 23 = .ok (.istore 5, 2) := by decide +kernel
theorem dX11_leftBy_25 : decode cX11_leftBy 25 = .ok (.iload 5, 2) := by decide +kernel
theorem dX11_leftBy_27 : decode cX11_leftBy 27 = .ok (.ifCond .ge 6, 3) := by decide +kernel
theorem dX11_leftBy_30 : decode cX11_leftBy 30 = .ok (.iload 5, 2) := by decide +kernel
theorem dX11_leftBy_32 : decode cX11_leftBy 32 = .ok (.ireturn, 1) := by decide +kernel
theorem dX11_leftBy_33 : decode cX11_leftBy 33 = .ok (.aload_n 0, 1) := by decide +kernel
theorem dX11_leftBy_34 : decode cX11_leftBy 34 = .ok (.getfield 63, 3) := by decide +kernel
theorem dX11_leftBy_37 : decode cX11_leftBy 37 = .ok (.iload_n 2, 1) := by decide +kernel
theorem dX11_leftBy_38 : decode cX11_leftBy 38 = .ok (.iaload, 1) := by decide +kernel
theorem dX11_leftBy_39 : decode cX11_leftBy 39 = .ok (.iconst 4, 1) := by decide +kernel
theorem dX11_leftBy_40 : decode cX11_leftBy 40 = .ok (.if_icmp .eq 9, 3) := by decide +kernel
theorem dX11_leftBy_43 : decode cX11_leftBy 43 = .ok (.aload_n 0, 1) := by decide +kernel
theorem dX11_leftBy_44 : decode cX11_leftBy 44 = .ok (.iconst 3, 1) := by decide +kernel
theorem dX11_leftBy_45 : decode cX11_leftBy 45 = .ok (.invokevirtual 105, 3) := by decide +kernel
theorem dX11_leftBy_48 : decode cX11_leftBy 48 = .ok (.ireturn, 1) := by decide +kernel
theorem dX11_leftBy_49 : decode cX11_leftBy 49 = .ok (.aload_n 0, 1) := by decide +kernel
theorem dX11_leftBy_50 : decode cX11_leftBy 50 = .ok (.getfield 79, 3) := by decide +kernel
theorem dX11_leftBy_53 : decode cX11_leftBy 53 = .ok (.iload_n 1, 1) := by decide +kernel
theorem dX11_leftBy_54 : decode cX11_leftBy 54 = .ok (.aload_n 0, 1) := by decide +kernel
theorem dX11_leftBy_55 : decode cX11_leftBy 55 = .ok (.iload_n 2, 1) := by decide +kernel
theorem dX11_leftBy_56 : decode cX11_leftBy 56 = .ok (.iload_n 3, 1) := by decide +kernel
theorem dX11_leftBy_57 : decode cX11_leftBy 57 = .ok (.iload 4, 2) := by decide +kernel
theorem dX11_leftBy_59 : decode cX11_leftBy 59 = .ok (.invokevirtual 174, 3) := by decide +kernel
theorem dX11_leftBy_62 : decode cX11_leftBy 62 = .ok (.iastore, 1) := by decide +kernel
theorem dX11_leftBy_63 : decode cX11_leftBy 63 = .ok (.aload_n 0, 1) := by decide +kernel
theorem dX11_leftBy_64 : decode cX11_leftBy 64 = .ok (.getfield 79, 3) := by decide +kernel
theorem dX11_leftBy_67 : decode cX11_leftBy 67 = .ok (.iload_n 1, 1) := by decide +kernel
theorem dX11_leftBy_68 : decode cX11_leftBy 68 = .ok (.iaload, 1) := by decide +kernel
theorem dX11_leftBy_69 : decode cX11_leftBy 69 = .ok (.ireturn, 1) := by decide +kernel
set_option maxRecDepth 100000 in
set_option maxHeartbeats 4000000 in
theorem tb_X11_leftBy_0 {K : sd_K} {E : sd_Env}   {r : (Int32 × sd_Mem)} (C : sd_C K E sd_LM RX11 cX11_leftBy 6 (some .int))  : ∀ (M : sd_Mem) (x1 : Int32) (x2 : Int32) (x3 : Int32) (x4 : Int32), fn_X11_leftBy_0 M x1 x2 x3 x4 = some r → sd_Z K rm_X11_leftBy E sd_LM 6 (sd_QI K E sd_LM r.1 r.2) M 0 [(0, .ref (E.2.2 100)), (1, .int x1), (2, .int x2), (3, .int x3), (4, .int x4)] [] := by
  intro M x1 x2 x3 x4 hF
  unfold fn_X11_leftBy_0 at hF
  refine sd_iload_n C 1 dX11_leftBy_0 rfl rfl rfl (n' := 1) ?_
  obtain ⟨q1, e1, hF⟩ := sd_bind hF
  refine sd_callSI [.int x1] [] C (ct_X11_isKindOfMen M x1  e1) sd_lX11_271 ⟨rfl, rfl, Nat.le_of_ble_eq_true rfl, Nat.le_of_ble_eq_true rfl⟩ rfl (Nat.le_of_ble_eq_true rfl) dX11_leftBy_1 rfl (n' := 4) ?_
  refine sd_if_eq C (n' := 7) (tgt := 16) dX11_leftBy_4 rfl rfl (fun c4 => ?_) (fun c4 => ?_)
  · replace hF := sd_pos hF c4
    refine sd_iconst C (v := -1) dX11_leftBy_16 rfl rfl (n' := 17) ?_
    exact sd_iret C dX11_leftBy_17 (sd_fst hF) (sd_snd hF)
  · replace hF := sd_neg hF c4
    refine sd_iload_n C 3 dX11_leftBy_7 rfl rfl rfl (n' := 8) ?_
    refine sd_iload C 4 dX11_leftBy_8 rfl rfl (n' := 10) ?_
    obtain ⟨q10, e10, hF⟩ := sd_bind hF
    refine sd_callSI [.int x3, .int x4] [] C (ct_X11_isPlace M x3 x4  e10) sd_lX11_165 ⟨rfl, rfl, Nat.le_of_ble_eq_true rfl, Nat.le_of_ble_eq_true rfl⟩ rfl (Nat.le_of_ble_eq_true rfl) dX11_leftBy_10 rfl (n' := 13) ?_
    refine sd_if_ne C (n' := 16) (tgt := 18) dX11_leftBy_13 rfl rfl (fun c13 => ?_) (fun c13 => ?_)
    · replace hF := sd_neg hF c13
      refine sd_aload_n C 0 dX11_leftBy_18 rfl rfl rfl (n' := 19) ?_
      refine sd_iload_n C 2 dX11_leftBy_19 rfl rfl rfl (n' := 20) ?_
      obtain ⟨q20, e20, hF⟩ := sd_bind hF
      refine sd_callVI [.int x2] [] C (ct_X11_askedWay M x2  e20) sd_lX11_168 ⟨rfl, rfl, Nat.le_of_ble_eq_true rfl, Nat.le_of_ble_eq_true rfl⟩ sd_i100 (sd_e12 sd_k100) rfl rfl rfl (Nat.le_of_ble_eq_true rfl) dX11_leftBy_20 rfl (n' := 23) ?_
      refine sd_istore [(5, .int q20.1), (0, .ref (E.2.2 100)), (1, .int x1), (2, .int x2), (3, .int x3), (4, .int x4)] C dX11_leftBy_23 (by decide) rfl rfl (n' := 25) ?_
      refine sd_iload C 0 dX11_leftBy_25 rfl rfl (n' := 27) ?_
      refine sd_if_ge C (n' := 30) (tgt := 33) dX11_leftBy_27 rfl rfl (fun c27 => ?_) (fun c27 => ?_)
      · replace hF := sd_pos hF c27
        refine sd_aload_n C 1 dX11_leftBy_33 rfl rfl rfl (n' := 34) ?_
        refine sd_g11_23 C sd_i100 sd_k100 sd_w1064 dX11_leftBy_34 rfl (n' := 37) ?_
        refine sd_iload_n C 3 dX11_leftBy_37 rfl rfl rfl (n' := 38) ?_
        obtain ⟨b38, hF⟩ := sd_ok hF
        refine sd_iald C sd_i115 sd_k115 sd_n115 b38 dX11_leftBy_38 rfl (n' := 39) ?_
        refine sd_iconst C (v := 4) dX11_leftBy_39 rfl rfl (n' := 40) ?_
        refine sd_icmp_eq C (n' := 43) (tgt := 49) dX11_leftBy_40 rfl rfl (fun c40 => ?_) (fun c40 => ?_)
        · replace hF := sd_pos hF c40
          refine sd_aload_n C 1 dX11_leftBy_49 rfl rfl rfl (n' := 50) ?_
          refine sd_g11_28 C sd_i100 sd_k100 sd_w1069 dX11_leftBy_50 rfl (n' := 53) ?_
          refine sd_iload_n C 2 dX11_leftBy_53 rfl rfl rfl (n' := 54) ?_
          refine sd_aload_n C 1 dX11_leftBy_54 rfl rfl rfl (n' := 55) ?_
          refine sd_iload_n C 3 dX11_leftBy_55 rfl rfl rfl (n' := 56) ?_
          refine sd_iload_n C 4 dX11_leftBy_56 rfl rfl rfl (n' := 57) ?_
          refine sd_iload C 5 dX11_leftBy_57 rfl rfl (n' := 59) ?_
          obtain ⟨q59, e59, hF⟩ := sd_bind hF
          refine sd_callVI [.int x2, .int x3, .int x4] [.int x1, .ref (E.2.2 120)] C (ct_X11_number q20.2 x2 x3 x4  e59) sd_lX11_174 ⟨rfl, rfl, Nat.le_of_ble_eq_true rfl, Nat.le_of_ble_eq_true rfl⟩ sd_i100 (sd_e12 sd_k100) rfl rfl rfl (Nat.le_of_ble_eq_true rfl) dX11_leftBy_59 rfl (n' := 62) ?_
          obtain ⟨b62, hF⟩ := sd_ok hF
          refine sd_iast C sd_i120 sd_k120 sd_n120 b62 dX11_leftBy_62 rfl (n' := 63) ?_
          refine sd_aload_n C 1 dX11_leftBy_63 rfl rfl rfl (n' := 64) ?_
          refine sd_g11_28 C sd_i100 sd_k100 sd_w1069 dX11_leftBy_64 rfl (n' := 67) ?_
          refine sd_iload_n C 2 dX11_leftBy_67 rfl rfl rfl (n' := 68) ?_
          obtain ⟨b68, hF⟩ := sd_ok hF
          refine sd_iald C sd_i120 sd_k120 sd_n120 b68 dX11_leftBy_68 rfl (n' := 69) ?_
          exact sd_iret C dX11_leftBy_69 (sd_fst hF) (sd_snd hF)
        · replace hF := sd_neg hF c40
          refine sd_aload_n C 1 dX11_leftBy_43 rfl rfl rfl (n' := 44) ?_
          refine sd_iconst C (v := 3) dX11_leftBy_44 rfl rfl (n' := 45) ?_
          obtain ⟨q45, e45, hF⟩ := sd_bind hF
          refine sd_callVI [.int (3 : Int32)] [] C (ct_X11_meets q20.2 (3 : Int32)  e45) sd_lX11_105 ⟨rfl, rfl, Nat.le_of_ble_eq_true rfl, Nat.le_of_ble_eq_true rfl⟩ sd_i100 (sd_e12 sd_k100) rfl rfl rfl (Nat.le_of_ble_eq_true rfl) dX11_leftBy_45 rfl (n' := 48) ?_
          exact sd_iret C dX11_leftBy_48 (sd_fst hF) (sd_snd hF)
      · replace hF := sd_neg hF c27
        refine sd_iload C 0 dX11_leftBy_30 rfl rfl (n' := 32) ?_
        exact sd_iret C dX11_leftBy_32 (sd_fst hF) (sd_snd hF)
    · replace hF := sd_pos hF c13
      refine sd_iconst C (v := -1) dX11_leftBy_16 rfl rfl (n' := 17) ?_
      exact sd_iret C dX11_leftBy_17 (sd_fst hF) (sd_snd hF)
theorem ct_X11_leftBy {l : Launch} {E : sd_Env} (M : sd_Mem) (x1 : Int32) (x2 : Int32) (x3 : Int32) (x4 : Int32)  {r : (Int32 × sd_Mem)} (hF : fn_X11_leftBy M x1 x2 x3 x4 = some r) : sd_MI l E sd_LM yX11_leftBy cX11_leftBy 6 (some .int) rm_X11_leftBy [.ref (E.2.2 100), .int x1, .int x2, .int x3, .int x4] M r.1 r.2 := sd_ent0 (by decide +kernel) (Nat.le_of_ble_eq_true rfl) (fun p e s m below meth c C => tb_X11_leftBy_0 C M x1 x2 x3 x4 hF)
theorem dX11_isFund_0 : decode cX11_isFund 0 = .ok (.iload_n 0, 1) := by decide +kernel
theorem dX11_isFund_1 : decode cX11_isFund 1 = .ok (.iconst 0, 1) := by decide +kernel
theorem dX11_isFund_2 : decode cX11_isFund 2 = .ok (.sipush 9999, 3) := by decide +kernel
theorem dX11_isFund_5 : decode cX11_isFund 5 = .ok (.invokestatic 97, 3) := by decide +kernel
theorem dX11_isFund_8 : decode cX11_isFund 8 = .ok (.ifCond .eq 18, 3) := by decide +kernel
theorem dX11_isFund_11 : decode cX11_isFund 11 = .ok (.iload_n 1, 1) := by decide +kernel
theorem dX11_isFund_12 : decode cX11_isFund 12 = .ok (.iconst 0, 1) := by decide +kernel
theorem dX11_isFund_13 : decode cX11_isFund 13 = .ok (.sipush 999, 3) := by decide +kernel
theorem dX11_isFund_16 : decode cX11_isFund 16 = .ok (.invokestatic 97, 3) := by decide +kernel
theorem dX11_isFund_19 : decode cX11_isFund 19 = .ok (.ifCond .eq 7, 3) := by decide +kernel
theorem dX11_isFund_22 : decode cX11_isFund 22 = .ok (.iconst 1, 1) := by decide +kernel
theorem dX11_isFund_23 : decode cX11_isFund 23 = .ok (.goto 4, 3) := by decide +kernel
theorem dX11_isFund_26 : decode cX11_isFund 26 = .ok (.iconst 0, 1) := by decide +kernel
theorem dX11_isFund_27 : decode cX11_isFund 27 = .ok (.ireturn, 1) := by decide +kernel
set_option maxRecDepth 100000 in
set_option maxHeartbeats 4000000 in
theorem tb_X11_isFund_0 {K : sd_K} {E : sd_Env} {M : sd_Mem}  {r : Int32} (C : sd_C K E sd_LM RX11 cX11_isFund 2 (some .boolean))  : ∀ (x0 : Int32) (x1 : Int32), fn_X11_isFund_0 x0 x1 = some r → sd_Z K rm_X11_isFund E sd_LM 2 (sd_QI K E sd_LM r M) M 0 [(0, .int x0), (1, .int x1)] [] := by
  intro x0 x1 hF
  unfold fn_X11_isFund_0 at hF
  refine sd_iload_n C 0 dX11_isFund_0 rfl rfl rfl (n' := 1) ?_
  refine sd_iconst C (v := 0) dX11_isFund_1 rfl rfl (n' := 2) ?_
  refine sd_sipush C (v := 9999) dX11_isFund_2 rfl rfl (n' := 5) ?_
  obtain ⟨q5, e5, hF⟩ := sd_bind hF
  refine sd_callSI [.int x0, .int (0 : Int32), .int (9999 : Int32)] [] C (ct_X11_in M x0 (0 : Int32) (9999 : Int32)  e5) sd_lX11_97 ⟨rfl, rfl, Nat.le_of_ble_eq_true rfl, Nat.le_of_ble_eq_true rfl⟩ rfl (Nat.le_of_ble_eq_true rfl) dX11_isFund_5 rfl (n' := 8) ?_
  refine sd_if_eq C (n' := 11) (tgt := 26) dX11_isFund_8 rfl rfl (fun c8 => ?_) (fun c8 => ?_)
  · replace hF := sd_pos hF c8
    refine sd_iconst C (v := 0) dX11_isFund_26 rfl rfl (n' := 27) ?_
    exact sd_zret C dX11_isFund_27 rfl (Option.some.inj hF) rfl
  · replace hF := sd_neg hF c8
    refine sd_iload_n C 1 dX11_isFund_11 rfl rfl rfl (n' := 12) ?_
    refine sd_iconst C (v := 0) dX11_isFund_12 rfl rfl (n' := 13) ?_
    refine sd_sipush C (v := 999) dX11_isFund_13 rfl rfl (n' := 16) ?_
    obtain ⟨q16, e16, hF⟩ := sd_bind hF
    refine sd_callSI [.int x1, .int (0 : Int32), .int (999 : Int32)] [] C (ct_X11_in M x1 (0 : Int32) (999 : Int32)  e16) sd_lX11_97 ⟨rfl, rfl, Nat.le_of_ble_eq_true rfl, Nat.le_of_ble_eq_true rfl⟩ rfl (Nat.le_of_ble_eq_true rfl) dX11_isFund_16 rfl (n' := 19) ?_
    refine sd_if_eq C (n' := 22) (tgt := 26) dX11_isFund_19 rfl rfl (fun c19 => ?_) (fun c19 => ?_)
    · replace hF := sd_pos hF c19
      refine sd_iconst C (v := 0) dX11_isFund_26 rfl rfl (n' := 27) ?_
      exact sd_zret C dX11_isFund_27 rfl (Option.some.inj hF) rfl
    · replace hF := sd_neg hF c19
      refine sd_iconst C (v := 1) dX11_isFund_22 rfl rfl (n' := 23) ?_
      refine sd_goto C (tgt := 27) dX11_isFund_23 rfl ?_
      exact sd_zret C dX11_isFund_27 rfl (Option.some.inj hF) rfl
theorem ct_X11_isFund {l : Launch} {E : sd_Env} (M : sd_Mem) (x0 : Int32) (x1 : Int32)  {r : Int32} (hF : fn_X11_isFund x0 x1 = some r) : sd_MI l E sd_LM yX11_isFund cX11_isFund 2 (some .boolean) rm_X11_isFund [.int x0, .int x1] M r M := sd_ent0 (by decide +kernel) (Nat.le_of_ble_eq_true rfl) (fun p e s m below meth c C => tb_X11_isFund_0 C x0 x1 hF)
theorem dX11_begins_0 : decode cX11_begins 0 = .ok (.aload_n 0, 1) := by decide +kernel
theorem dX11_begins_1 : decode cX11_begins 1 = .ok (.iconst 0, 1) := by decide +kernel
theorem dX11_begins_2 : decode cX11_begins 2 = .ok (.putfield 274, 3) := by decide +kernel
theorem dX11_begins_5 : decode cX11_begins 5 = .ok (.aload_n 0, 1) := by decide +kernel
theorem dX11_begins_6 : decode cX11_begins 6 = .ok (.iload_n 1, 1) := by decide +kernel
theorem dX11_begins_7 : decode cX11_begins 7 = .ok (.putfield 277, 3) := by decide +kernel
theorem dX11_begins_10 : decode cX11_begins 10 = .ok (.aload_n 0, 1) := by decide +kernel
theorem dX11_begins_11 : decode cX11_begins 11 = .ok (.iconst 0, 1) := by decide +kernel
theorem dX11_begins_12 : decode cX11_begins 12 = .ok (.putfield 280, 3) := by decide +kernel
theorem dX11_begins_15 : decode cX11_begins 15 = .ok (.aload_n 0, 1) := by decide +kernel
theorem dX11_begins_16 : decode cX11_begins 16 = .ok (.iconst 0, 1) := by decide +kernel
theorem dX11_begins_17 : decode cX11_begins 17 = .ok (.putfield 283, 3) := by decide +kernel
theorem dX11_begins_20 : decode cX11_begins 20 = .ok (.iconst 0, 1) := by decide +kernel
theorem dX11_begins_21 : decode cX11_begins 21 = .ok (.istore_n 2, 1) := by decide +kernel
theorem dX11_begins_22 : decode cX11_begins 22 = .ok (.iload_n 2, 1) := by decide +kernel
theorem dX11_begins_23 : decode cX11_begins 23 = .ok (.bipush 6, 2) := by decide +kernel
theorem dX11_begins_25 : decode cX11_begins 25 = .ok (.if_icmp .ge 21, 3) := by decide +kernel
theorem dX11_begins_28 : decode cX11_begins 28 = .ok (.aload_n 0, 1) := by decide +kernel
theorem dX11_begins_29 : decode cX11_begins 29 = .ok (.getfield 85, 3) := by decide +kernel
theorem dX11_begins_32 : decode cX11_begins 32 = .ok (.iload_n 2, 1) := by decide +kernel
theorem dX11_begins_33 : decode cX11_begins 33 = .ok (.aload_n 0, 1) := by decide +kernel
theorem dX11_begins_34 : decode cX11_begins 34 = .ok (.getfield 79, 3) := by decide +kernel
theorem dX11_begins_37 : decode cX11_begins 37 = .ok (.iload_n 2, 1) := by decide +kernel
theorem dX11_begins_38 : decode cX11_begins 38 = .ok (.iaload, 1) := by decide +kernel
theorem dX11_begins_39 : decode cX11_begins 39 = .ok (.iastore, 1) := by decide +kernel
theorem dX11_begins_40 : decode cX11_begins 40 = .ok (.iinc 2 1, 3) := by decide +kernel
theorem dX11_begins_43 : decode cX11_begins 43 = .ok (.goto (-21), 3) := by decide +kernel
theorem dX11_begins_46 : decode cX11_begins 46 = .ok (.return_, 1) := by decide +kernel
set_option maxRecDepth 100000 in
set_option maxHeartbeats 4000000 in
theorem tb_X11_begins_22 {K : sd_K} {E : sd_Env}   {r : sd_Mem} (C : sd_C K E sd_LM RX11 cX11_begins 3 none)  : ∀ (n : Nat), ∀ (M : sd_Mem) (x2 : Int32), fn_X11_begins_22 n M x2 = some r → sd_Z K rm_X11_begins E sd_LM 3 (sd_QV K E sd_LM r) M 22 [(0, .ref (E.2.2 100)), (2, .int x2)] [] := by
  intro n
  induction n with
  | zero => intro M x2 hF; cases hF
  | succ n ih =>
    intro M x2 hF
    unfold fn_X11_begins_22 at hF
    refine sd_iload_n C 1 dX11_begins_22 rfl rfl rfl (n' := 23) ?_
    refine sd_bipush C (v := 6) dX11_begins_23 rfl rfl (n' := 25) ?_
    refine sd_icmp_ge C (n' := 28) (tgt := 46) dX11_begins_25 rfl rfl (fun c25 => ?_) (fun c25 => ?_)
    · replace hF := sd_pos hF c25
      exact sd_vret C dX11_begins_46 (Option.some.inj hF)
    · replace hF := sd_neg hF c25
      refine sd_aload_n C 0 dX11_begins_28 rfl rfl rfl (n' := 29) ?_
      refine sd_g11_31 C sd_i100 sd_k100 sd_w1072 dX11_begins_29 rfl (n' := 32) ?_
      refine sd_iload_n C 1 dX11_begins_32 rfl rfl rfl (n' := 33) ?_
      refine sd_aload_n C 0 dX11_begins_33 rfl rfl rfl (n' := 34) ?_
      refine sd_g11_28 C sd_i100 sd_k100 sd_w1069 dX11_begins_34 rfl (n' := 37) ?_
      refine sd_iload_n C 1 dX11_begins_37 rfl rfl rfl (n' := 38) ?_
      obtain ⟨b38, hF⟩ := sd_ok hF
      refine sd_iald C sd_i120 sd_k120 sd_n120 b38 dX11_begins_38 rfl (n' := 39) ?_
      obtain ⟨b39, hF⟩ := sd_ok hF
      refine sd_iast C sd_i122 sd_k122 sd_n122 b39 dX11_begins_39 rfl (n' := 40) ?_
      refine sd_iinc [(2, .int (x2 + (1 : Int32))), (0, .ref (E.2.2 100))] 1 C dX11_begins_40 rfl rfl (by decide) rfl rfl (n' := 43) ?_
      refine sd_goto C (tgt := 22) dX11_begins_43 rfl ?_
      refine sd_sub [1, 0] rfl ?_
      exact ih (sd_setI M 122 x2.toNatClampNeg (M.1 120 x2.toNatClampNeg)) (x2 + (1 : Int32)) hF
set_option maxRecDepth 100000 in
set_option maxHeartbeats 4000000 in
theorem tb_X11_begins_0 {K : sd_K} {E : sd_Env}   {r : sd_Mem} (C : sd_C K E sd_LM RX11 cX11_begins 3 none)  : ∀ (M : sd_Mem) (x1 : Int32), fn_X11_begins_0 M x1 = some r → sd_Z K rm_X11_begins E sd_LM 3 (sd_QV K E sd_LM r) M 0 [(0, .ref (E.2.2 100)), (1, .int x1)] [] := by
  intro M x1 hF
  unfold fn_X11_begins_0 at hF
  refine sd_aload_n C 0 dX11_begins_0 rfl rfl rfl (n' := 1) ?_
  refine sd_iconst C (v := 0) dX11_begins_1 rfl rfl (n' := 2) ?_
  refine sd_p11_30 C sd_i100 sd_k100 sd_w1071 dX11_begins_2 rfl (n' := 5) ?_
  refine sd_aload_n C 0 dX11_begins_5 rfl rfl rfl (n' := 6) ?_
  refine sd_iload_n C 1 dX11_begins_6 rfl rfl rfl (n' := 7) ?_
  refine sd_p11_32 C sd_i100 sd_k100 sd_w1073 dX11_begins_7 rfl (n' := 10) ?_
  refine sd_aload_n C 0 dX11_begins_10 rfl rfl rfl (n' := 11) ?_
  refine sd_iconst C (v := 0) dX11_begins_11 rfl rfl (n' := 12) ?_
  refine sd_p11_33 C sd_i100 sd_k100 sd_w1074 dX11_begins_12 rfl (n' := 15) ?_
  refine sd_aload_n C 0 dX11_begins_15 rfl rfl rfl (n' := 16) ?_
  refine sd_iconst C (v := 0) dX11_begins_16 rfl rfl (n' := 17) ?_
  refine sd_p11_34 C rfl sd_i100 sd_k100 sd_w1075 dX11_begins_17 rfl (n' := 20) ?_
  refine sd_iconst C (v := 0) dX11_begins_20 rfl rfl (n' := 21) ?_
  refine sd_istore_n [(2, .int (0 : Int32)), (0, .ref (E.2.2 100)), (1, .int x1)] C dX11_begins_21 rfl (by decide) rfl rfl (n' := 22) ?_
  refine sd_sub [1, 0] rfl ?_
  exact tb_X11_begins_22 C sd_FU (sd_setI (sd_setI (sd_setI (sd_setI M 100 30 (0 : Int32)) 100 32 x1) 100 33 (0 : Int32)) 100 34 (0 : Int32)) (0 : Int32) hF
theorem ct_X11_begins {l : Launch} {E : sd_Env} (M : sd_Mem) (x1 : Int32)  {r : sd_Mem} (hF : fn_X11_begins M x1 = some r) : sd_MV l E sd_LM yX11_begins cX11_begins 3 none rm_X11_begins [.ref (E.2.2 100), .int x1] M r := sd_ent0 (by decide +kernel) (Nat.le_of_ble_eq_true rfl) (fun p e s m below meth c C => tb_X11_begins_0 C M x1 hF)
theorem dX11_menOf_0 : decode cX11_menOf 0 = .ok (.iconst 0, 1) := by decide +kernel
theorem dX11_menOf_1 : decode cX11_menOf 1 = .ok (.istore_n 2, 1) := by decide +kernel
theorem dX11_menOf_2 : decode cX11_menOf 2 = .ok (.iconst 0, 1) := by decide +kernel
theorem dX11_menOf_3 : decode cX11_menOf 3 = .ok (.istore_n 3, 1) := by decide +kernel
theorem dX11_menOf_4 : decode cX11_menOf 4 = .ok (.iload_n 3, 1) := by decide +kernel
theorem dX11_menOf_5 : decode cX11_menOf 5 = .ok (.bipush 6, 2) := by decide +kernel
theorem dX11_menOf_7 : decode cX11_menOf 7 = .ok (.if_icmp .ge 30, 3) := by decide +kernel
theorem dX11_menOf_10 : decode cX11_menOf 10 = .ok (.iload_n 2, 1) := by decide +kernel
theorem dX11_menOf_11 : decode cX11_menOf 11 = .ok (.iload_n 1, 1) := by decide +kernel
theorem dX11_menOf_12 : decode cX11_menOf 12 = .ok (.iload_n 3, 1) := by decide +kernel
theorem dX11_menOf_13 : decode cX11_menOf 13 = .ok (.invokestatic 159, 3) := by decide +kernel
theorem dX11_menOf_16 : decode cX11_menOf 16 = .ok (.ifCond .eq 12, 3) := by decide +kernel
theorem dX11_menOf_19 : decode cX11_menOf 19 = .ok (.aload_n 0, 1) := by decide +kernel
theorem dX11_menOf_20 : decode cX11_menOf 20 = .ok (.getfield 76, 3) := by decide +kernel
theorem dX11_menOf_23 : decode cX11_menOf 23 = .ok (.iload_n 3, 1) := by decide +kernel
theorem dX11_menOf_24 : decode cX11_menOf 24 = .ok (.iaload, 1) := by decide +kernel
theorem dX11_menOf_25 : decode cX11_menOf 25 = .ok (.goto 4, 3) := by decide +kernel
theorem dX11_menOf_28 : decode cX11_menOf 28 = .ok (.iconst 0, 1) := by decide +kernel
theorem dX11_menOf_29 : decode cX11_menOf 29 = .ok (.iadd, 1) := by decide +kernel
theorem dX11_menOf_30 : decode cX11_menOf 30 = .ok (.istore_n 2, 1) := by decide +kernel
theorem dX11_menOf_31 : decode cX11_menOf 31 = .ok (.iinc 3 1, 3) := by decide +kernel
theorem dX11_menOf_34 : decode cX11_menOf 34 = .ok (.goto (-30), 3) := by decide +kernel
theorem dX11_menOf_37 : decode cX11_menOf 37 = .ok (.iload_n 2, 1) := by decide +kernel
theorem dX11_menOf_38 : decode cX11_menOf 38 = .ok (.ireturn, 1) := by decide +kernel
set_option maxRecDepth 100000 in
set_option maxHeartbeats 4000000 in
theorem tb_X11_menOf_4 {K : sd_K} {E : sd_Env} {M : sd_Mem}  {r : Int32} (C : sd_C K E sd_LM RX11 cX11_menOf 4 (some .int))  : ∀ (n : Nat), ∀ (x1 : Int32) (x2 : Int32) (x3 : Int32), fn_X11_menOf_4 M n x1 x2 x3 = some r → sd_Z K rm_X11_menOf E sd_LM 4 (sd_QI K E sd_LM r M) M 4 [(0, .ref (E.2.2 100)), (1, .int x1), (2, .int x2), (3, .int x3)] [] := by
  intro n
  induction n with
  | zero => intro x1 x2 x3 hF; cases hF
  | succ n ih =>
    intro x1 x2 x3 hF
    unfold fn_X11_menOf_4 at hF
    refine sd_iload_n C 3 dX11_menOf_4 rfl rfl rfl (n' := 5) ?_
    refine sd_bipush C (v := 6) dX11_menOf_5 rfl rfl (n' := 7) ?_
    refine sd_icmp_ge C (n' := 10) (tgt := 37) dX11_menOf_7 rfl rfl (fun c7 => ?_) (fun c7 => ?_)
    · replace hF := sd_pos hF c7
      refine sd_iload_n C 2 dX11_menOf_37 rfl rfl rfl (n' := 38) ?_
      exact sd_iret C dX11_menOf_38 (Option.some.inj hF) rfl
    · replace hF := sd_neg hF c7
      refine sd_iload_n C 2 dX11_menOf_10 rfl rfl rfl (n' := 11) ?_
      refine sd_iload_n C 1 dX11_menOf_11 rfl rfl rfl (n' := 12) ?_
      refine sd_iload_n C 3 dX11_menOf_12 rfl rfl rfl (n' := 13) ?_
      obtain ⟨q13, e13, hF⟩ := sd_bind hF
      refine sd_callSI [.int x1, .int x3] [.int x2] C (ct_X11_isIn M x1 x3  e13) sd_lX11_159 ⟨rfl, rfl, Nat.le_of_ble_eq_true rfl, Nat.le_of_ble_eq_true rfl⟩ rfl (Nat.le_of_ble_eq_true rfl) dX11_menOf_13 rfl (n' := 16) ?_
      refine sd_if_eq C (n' := 19) (tgt := 28) dX11_menOf_16 rfl rfl (fun c16 => ?_) (fun c16 => ?_)
      · replace hF := sd_pos hF c16
        refine sd_iconst C (v := 0) dX11_menOf_28 rfl rfl (n' := 29) ?_
        refine sd_iadd C dX11_menOf_29 rfl (n' := 30) ?_
        refine sd_istore_n [(2, .int (x2 + (0 : Int32))), (0, .ref (E.2.2 100)), (1, .int x1), (3, .int x3)] C dX11_menOf_30 rfl (by decide) rfl rfl (n' := 31) ?_
        refine sd_iinc [(3, .int (x3 + (1 : Int32))), (2, .int (x2 + (0 : Int32))), (0, .ref (E.2.2 100)), (1, .int x1)] 3 C dX11_menOf_31 rfl rfl (by decide) rfl rfl (n' := 34) ?_
        refine sd_goto C (tgt := 4) dX11_menOf_34 rfl ?_
        refine sd_sub [2, 3, 1, 0] rfl ?_
        exact ih x1 (x2 + (0 : Int32)) (x3 + (1 : Int32)) hF
      · replace hF := sd_neg hF c16
        refine sd_aload_n C 0 dX11_menOf_19 rfl rfl rfl (n' := 20) ?_
        refine sd_g11_27 C sd_i100 sd_k100 sd_w1068 dX11_menOf_20 rfl (n' := 23) ?_
        refine sd_iload_n C 3 dX11_menOf_23 rfl rfl rfl (n' := 24) ?_
        obtain ⟨b24, hF⟩ := sd_ok hF
        refine sd_iald C sd_i119 sd_k119 sd_n119 b24 dX11_menOf_24 rfl (n' := 25) ?_
        refine sd_goto C (tgt := 29) dX11_menOf_25 rfl ?_
        refine sd_iadd C dX11_menOf_29 rfl (n' := 30) ?_
        refine sd_istore_n [(2, .int (x2 + (M.1 119 x3.toNatClampNeg))), (0, .ref (E.2.2 100)), (1, .int x1), (3, .int x3)] C dX11_menOf_30 rfl (by decide) rfl rfl (n' := 31) ?_
        refine sd_iinc [(3, .int (x3 + (1 : Int32))), (2, .int (x2 + (M.1 119 x3.toNatClampNeg))), (0, .ref (E.2.2 100)), (1, .int x1)] 3 C dX11_menOf_31 rfl rfl (by decide) rfl rfl (n' := 34) ?_
        refine sd_goto C (tgt := 4) dX11_menOf_34 rfl ?_
        refine sd_sub [2, 3, 1, 0] rfl ?_
        exact ih x1 (x2 + (M.1 119 x3.toNatClampNeg)) (x3 + (1 : Int32)) hF
set_option maxRecDepth 100000 in
set_option maxHeartbeats 4000000 in
theorem tb_X11_menOf_0 {K : sd_K} {E : sd_Env} {M : sd_Mem}  {r : Int32} (C : sd_C K E sd_LM RX11 cX11_menOf 4 (some .int))  : ∀ (x1 : Int32), fn_X11_menOf_0 M x1 = some r → sd_Z K rm_X11_menOf E sd_LM 4 (sd_QI K E sd_LM r M) M 0 [(0, .ref (E.2.2 100)), (1, .int x1)] [] := by
  intro x1 hF
  unfold fn_X11_menOf_0 at hF
  refine sd_iconst C (v := 0) dX11_menOf_0 rfl rfl (n' := 1) ?_
  refine sd_istore_n [(2, .int (0 : Int32)), (0, .ref (E.2.2 100)), (1, .int x1)] C dX11_menOf_1 rfl (by decide) rfl rfl (n' := 2) ?_
  refine sd_iconst C (v := 0) dX11_menOf_2 rfl rfl (n' := 3) ?_
  refine sd_istore_n [(3, .int (0 : Int32)), (2, .int (0 : Int32)), (0, .ref (E.2.2 100)), (1, .int x1)] C dX11_menOf_3 rfl (by decide) rfl rfl (n' := 4) ?_
  refine sd_sub [2, 3, 1, 0] rfl ?_
  exact tb_X11_menOf_4 C sd_FU x1 (0 : Int32) (0 : Int32) hF
theorem ct_X11_menOf {l : Launch} {E : sd_Env} (M : sd_Mem) (x1 : Int32)  {r : Int32} (hF : fn_X11_menOf M x1 = some r) : sd_MI l E sd_LM yX11_menOf cX11_menOf 4 (some .int) rm_X11_menOf [.ref (E.2.2 100), .int x1] M r M := sd_ent0 (by decide +kernel) (Nat.le_of_ble_eq_true rfl) (fun p e s m below meth c C => tb_X11_menOf_0 C x1 hF)
