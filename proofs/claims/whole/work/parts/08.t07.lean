theorem dX11_copy_0 : decode cX11_copy 0 = .ok (.iload_n 1, 1) := by decide +kernel
theorem dX11_copy_1 : decode cX11_copy 1 = .ok (.invokestatic 101, 3) := by decide +kernel
theorem dX11_copy_4 : decode cX11_copy 4 = .ok (.ifCond .eq 10, 3) := by decide +kernel
theorem dX11_copy_7 : decode cX11_copy 7 = .ok (.iload_n 3, 1) := by decide +kernel
theorem dX11_copy_8 : decode cX11_copy 8 = .ok (.invokestatic 101, 3) := by decide +kernel
theorem dX11_copy_11 : decode cX11_copy 11 = .ok (.ifCond .ne 5, 3) := by decide +kernel
theorem dX11_copy_14 : decode cX11_copy 14 = .ok (.iconst (-1), 1) := by decide +kernel
theorem dX11_copy_15 : decode cX11_copy 15 = .ok (.ireturn, 1) := by decide +kernel
theorem dX11_copy_16 : decode cX11_copy 16 = .ok (.iload 5, 2) := by decide +kernel
theorem dX11_copy_18 : decode cX11_copy 18 = .ok (.ifCond .ge 9, 3) := by decide +kernel
theorem dX11_copy_21 : decode cX11_copy 21 = .ok (.aload_n 0, 1) := by decide +kernel
theorem dX11_copy_22 : decode cX11_copy 22 = .ok (.iconst 5, 1) := by decide +kernel
theorem dX11_copy_23 : decode cX11_copy 23 = .ok (.invokevirtual 105, 3) := by decide +kernel
theorem dX11_copy_26 : decode cX11_copy 26 = .ok (.ireturn, 1) := by decide +kernel
theorem dX11_copy_27 : decode cX11_copy 27 = .ok (.aload_n 0, 1) := by decide +kernel
theorem dX11_copy_28 : decode cX11_copy 28 = .ok (.getfield 17, 3) := by decide +kernel
theorem dX11_copy_31 : decode cX11_copy 31 = .ok (.iload_n 1, 1) := by decide +kernel
theorem dX11_copy_32 : decode cX11_copy 32 = .ok (.iaload, 1) := by decide +kernel
theorem dX11_copy_33 : decode cX11_copy 33 = .ok (.ifCond .lt 12, 3) := by decide +kernel
theorem dX11_copy_36 : decode cX11_copy 36 = .ok (.aload_n 0, 1) := by decide +kernel
theorem dX11_copy_37 : decode cX11_copy 37 = .ok (.getfield 17, 3) := by decide +kernel
theorem dX11_copy_40 : decode cX11_copy 40 = .ok (.iload_n 3, 1) := by decide +kernel
theorem dX11_copy_41 : decode cX11_copy 41 = .ok (.iaload, 1) := by decide +kernel
theorem dX11_copy_42 : decode cX11_copy 42 = .ok (.ifCond .ge 9, 3) := by decide +kernel
theorem dX11_copy_45 : decode cX11_copy 45 = .ok (.aload_n 0, 1) := by decide +kernel
theorem dX11_copy_46 : decode cX11_copy 46 = .ok (.iconst 1, 1) := by decide +kernel
theorem dX11_copy_47 : decode cX11_copy 47 = .ok (.invokevirtual 105, 3) := by decide +kernel
theorem dX11_copy_50 : decode cX11_copy 50 = .ok (.ireturn, 1) := by decide +kernel
theorem dX11_copy_51 : decode cX11_copy 51 = .ok (.iload_n 2, 1) := by decide +kernel
theorem dX11_copy_52 : decode cX11_copy 52 = .ok (.ifCond .lt 43, 3) := by decide +kernel
theorem dX11_copy_55 : decode cX11_copy 55 = .ok (.iload 4, 2) := by decide +kernel
theorem dX11_copy_57 : decode cX11_copy 57 = .ok (.ifCond .lt 38, 3) := by decide +kernel
theorem dX11_copy_60 : decode cX11_copy 60 = .ok (.iload_n 2, 1) := by decide +kernel
theorem dX11_copy_61 : decode cX11_copy 61 = .ok (.i2l, 1) := by decide +kernel
theorem dX11_copy_62 : decode cX11_copy 62 = .ok (.iload 5, 2) := by decide +kernel
theorem dX11_copy_64 : decode cX11_copy 64 = .ok (.i2l, 1) := by decide +kernel
theorem dX11_copy_65 : decode cX11_copy 65 = .ok (.ladd, 1) := by decide +kernel
theorem dX11_copy_66 : decode cX11_copy 66 = .ok (.aload_n 0, 1) := by decide +kernel
theorem dX11_copy_67 : decode cX11_copy 67 = .ok (.getfield 17, 3) := by decide +kernel
theorem dX11_copy_70 : decode cX11_copy 70 = .ok (.iload_n 1, 1) := by decide +kernel
theorem dX11_copy_71 : decode cX11_copy 71 = .ok (.iaload, 1) := by decide +kernel
theorem dX11_copy_72 : decode cX11_copy 72 = .ok (.i2l, 1) := by decide +kernel
theorem dX11_copy_73 : decode cX11_copy 73 = .ok (.lcmp, 1) := by decide +kernel
theorem dX11_copy_74 : decode cX11_copy 74 = .ok (.ifCond .gt 21, 3) := by decide +kernel
theorem dX11_copy_77 : decode cX11_copy 77 = .ok (.iload 4, 2) := by decide +kernel
theorem dX11_copy_79 : decode cX11_copy 79 = .ok (.i2l, 1) := by decide +kernel
theorem dX11_copy_80 : decode cX11_copy 80 = .ok (.iload 5, 2) := by decide +kernel
theorem dX11_copy_82 : decode cX11_copy 82 = .ok (.i2l, 1) := by decide +kernel
theorem dX11_copy_83 : decode cX11_copy 83 = .ok (.ladd, 1) := by decide +kernel
theorem dX11_copy_84 : decode cX11_copy 84 = .ok (.aload_n 0, 1) := by decide +kernel
theorem dX11_copy_85 : decode cX11_copy 85 = .ok (.getfield 17, 3) := by decide +kernel
theorem dX11_copy_88 : decode cX11_copy 88 = .ok (.iload_n 3, 1) := by decide +kernel
theorem dX11_copy_89 : decode cX11_copy 89 = .ok (.iaload, 1) := by decide +kernel
theorem dX11_copy_90 : decode cX11_copy 90 = .ok (.i2l, 1) := by decide +kernel
theorem dX11_copy_91 : decode cX11_copy 91 = .ok (.lcmp, 1) := by decide +kernel
theorem dX11_copy_92 : decode cX11_copy 92 = .ok (.ifCond .le 9, 3) := by decide +kernel
theorem dX11_copy_95 : decode cX11_copy 95 = .ok (.aload_n 0, 1) := by decide +kernel
theorem dX11_copy_96 : decode cX11_copy 96 = .ok (.iconst 2, 1) := by decide +kernel
theorem dX11_copy_97 : decode cX11_copy 97 = .ok (.invokevirtual 105, 3) := by decide +kernel
theorem dX11_copy_100 : decode cX11_copy 100 = .ok (.ireturn, 1) := by decide +kernel
theorem dX11_copy_101 : decode cX11_copy 101 = .ok (.iconst 0, 1) := by decide +kernel
theorem dX11_copy_102 : decode cX11_copy 102 = .ok (.istore 6, 2) := by decide +kernel
theorem dX11_copy_104 : decode cX11_copy 104 = .ok (.iload 6, 2) := by decide +kernel
theorem dX11_copy_106 : decode cX11_copy 106 = .ok (.iload 5, 2) := by decide +kernel
theorem dX11_copy_108 : decode cX11_copy 108 = .ok (.if_icmp .ge 25, 3) := by decide +kernel
theorem dX11_copy_111 : decode cX11_copy 111 = .ok (.aload_n 0, 1) := by decide +kernel
theorem dX11_copy_112 : decode cX11_copy 112 = .ok (.getfield 23, 3) := by decide +kernel
theorem dX11_copy_115 : decode cX11_copy 115 = .ok (.iload 6, 2) := by decide +kernel
theorem dX11_copy_117 : decode cX11_copy 117 = .ok (.aload_n 0, 1) := by decide +kernel
theorem dX11_copy_118 : decode cX11_copy 118 = .ok (.iload_n 1, 1) := by decide +kernel
theorem dX11_copy_119 : decode cX11_copy 119 = .ok (.iload_n 2, 1) := by decide +kernel
theorem dX11_copy_120 : decode cX11_copy 120 = .ok (.iload 6, 2) := by decide +kernel
theorem dX11_copy_122 : decode cX11_copy 122 = .ok (.iadd, 1) := by decide +kernel
theorem dX11_copy_123 : decode cX11_copy 123 = .ok (.invokevirtual 115, 3) := by decide +kernel
theorem dX11_copy_126 : decode cX11_copy 126 = .ok (.iastore, 1) := by decide +kernel
theorem dX11_copy_127 : decode cX11_copy 127 = .ok (.iinc 6 1, 3) := by decide +kernel
theorem dX11_copy_130 : decode cX11_copy 130 = .ok (.goto (-26), 3) := by decide +kernel
theorem dX11_copy_133 : decode cX11_copy 133 = .ok (.iconst 0, 1) := by decide +kernel
theorem dX11_copy_134 : decode cX11_copy 134 = .ok (.istore 6, 2) := by decide +kernel
theorem dX11_copy_136 : decode cX11_copy 136 = .ok (.iload 6, 2) := by decide +kernel
theorem dX11_copy_138 : decode cX11_copy 138 = .ok (.iload 5, 2) := by decide +kernel
theorem dX11_copy_140 : decode cX11_copy 140 = .ok (.if_icmp .ge 31, 3) := by decide +kernel
theorem dX11_copy_143 : decode cX11_copy 143 = .ok (.aload_n 0, 1) := by decide +kernel
theorem dX11_copy_144 : decode cX11_copy 144 = .ok (.getfield 20, 3) := by decide +kernel
theorem dX11_copy_147 : decode cX11_copy 147 = .ok (.bipush 40, 2) := by decide +kernel
theorem dX11_copy_149 : decode cX11_copy 149 = .ok (.iload_n 3, 1) := by decide +kernel
theorem dX11_copy_150 : decode cX11_copy 150 = .ok (.imul, 1) := by decide +kernel
theorem dX11_copy_151 : decode cX11_copy 151 = .ok (.iload 4, 2) := by decide +kernel
theorem dX11_copy_153 : decode cX11_copy 153 = .ok (.iadd, 1) := by decide +kernel
theorem dX11_copy_154 : decode cX11_copy 154 = .ok (.iload 6, 2) := by decide +kernel
theorem dX11_copy_156 : decode cX11_copy 156 = .ok (.iadd, 1) := by decide +kernel
theorem dX11_copy_157 : decode cX11_copy 157 = .ok (.aload_n 0, 1) := by decide +kernel
theorem dX11_copy_158 : decode cX11_copy 158 = .ok (.getfield 23, 3) := by decide +kernel
theorem dX11_copy_161 : decode cX11_copy 161 = .ok (.iload 6, 2) := by decide +kernel
theorem dX11_copy_163 : decode cX11_copy 163 = .ok (.iaload, 1) := by decide +kernel
theorem dX11_copy_164 : decode cX11_copy 164 = .ok (.iastore, 1) := by decide +kernel
theorem dX11_copy_165 : decode cX11_copy 165 = .ok (.iinc 6 1, 3) := by decide +kernel
theorem dX11_copy_168 : decode cX11_copy 168 = .ok (.goto (-32), 3) := by decide +kernel
theorem dX11_copy_171 : decode cX11_copy 171 = .ok (.iconst 1, 1) := by decide +kernel
theorem dX11_copy_172 : decode cX11_copy 172 = .ok (.ireturn, 1) := by decide +kernel
set_option maxRecDepth 100000 in
set_option maxHeartbeats 4000000 in
theorem tb_X11_copy_136 {K : sd_K} {E : sd_Env}   {r : (Int32 × sd_Mem)} (C : sd_C K E sd_LM RX11 cX11_copy 7 (some .int))  : ∀ (n : Nat), ∀ (M : sd_Mem) (x3 : Int32) (x4 : Int32) (x5 : Int32) (x6 : Int32), fn_X11_copy_136 n M x3 x4 x5 x6 = some r → sd_Z K rm_X11_copy E sd_LM 7 (sd_QI K E sd_LM r.1 r.2) M 136 [(0, .ref (E.2.2 100)), (3, .int x3), (4, .int x4), (5, .int x5), (6, .int x6)] [] := by
  intro n
  induction n with
  | zero => intro M x3 x4 x5 x6 hF; cases hF
  | succ n ih =>
    intro M x3 x4 x5 x6 hF
    unfold fn_X11_copy_136 at hF
    refine sd_iload C 4 dX11_copy_136 rfl rfl (n' := 138) ?_
    refine sd_iload C 3 dX11_copy_138 rfl rfl (n' := 140) ?_
    refine sd_icmp_ge C (n' := 143) (tgt := 171) dX11_copy_140 rfl rfl (fun c140 => ?_) (fun c140 => ?_)
    · replace hF := sd_pos hF c140
      refine sd_iconst C (v := 1) dX11_copy_171 rfl rfl (n' := 172) ?_
      exact sd_iret C dX11_copy_172 (sd_fst hF) (sd_snd hF)
    · replace hF := sd_neg hF c140
      refine sd_aload_n C 0 dX11_copy_143 rfl rfl rfl (n' := 144) ?_
      refine sd_g11_6 C sd_i100 sd_k100 sd_w1047 dX11_copy_144 rfl (n' := 147) ?_
      refine sd_bipush C (v := 40) dX11_copy_147 rfl rfl (n' := 149) ?_
      refine sd_iload_n C 1 dX11_copy_149 rfl rfl rfl (n' := 150) ?_
      refine sd_imul C dX11_copy_150 rfl (n' := 151) ?_
      refine sd_iload C 2 dX11_copy_151 rfl rfl (n' := 153) ?_
      refine sd_iadd C dX11_copy_153 rfl (n' := 154) ?_
      refine sd_iload C 4 dX11_copy_154 rfl rfl (n' := 156) ?_
      refine sd_iadd C dX11_copy_156 rfl (n' := 157) ?_
      refine sd_aload_n C 0 dX11_copy_157 rfl rfl rfl (n' := 158) ?_
      refine sd_g11_7 C sd_i100 sd_k100 sd_w1048 dX11_copy_158 rfl (n' := 161) ?_
      refine sd_iload C 4 dX11_copy_161 rfl rfl (n' := 163) ?_
      obtain ⟨b163, hF⟩ := sd_ok hF
      refine sd_iald C sd_i104 sd_k104 sd_n104 b163 dX11_copy_163 rfl (n' := 164) ?_
      obtain ⟨b164, hF⟩ := sd_ok hF
      refine sd_iast C sd_i103 sd_k103 sd_n103 b164 dX11_copy_164 rfl (n' := 165) ?_
      refine sd_iinc [(6, .int (x6 + (1 : Int32))), (0, .ref (E.2.2 100)), (3, .int x3), (4, .int x4), (5, .int x5)] 4 C dX11_copy_165 rfl rfl (by decide) rfl rfl (n' := 168) ?_
      refine sd_goto C (tgt := 136) dX11_copy_168 rfl ?_
      refine sd_sub [1, 2, 3, 4, 0] rfl ?_
      exact ih (sd_setI M 103 ((((40 : Int32) * x3) + x4) + x6).toNatClampNeg (M.1 104 x6.toNatClampNeg)) x3 x4 x5 (x6 + (1 : Int32)) hF
set_option maxRecDepth 100000 in
set_option maxHeartbeats 4000000 in
theorem tb_X11_copy_104 {K : sd_K} {E : sd_Env}   {r : (Int32 × sd_Mem)} (C : sd_C K E sd_LM RX11 cX11_copy 7 (some .int))  : ∀ (n : Nat), ∀ (M : sd_Mem) (x1 : Int32) (x2 : Int32) (x3 : Int32) (x4 : Int32) (x5 : Int32) (x6 : Int32), fn_X11_copy_104 n M x1 x2 x3 x4 x5 x6 = some r → sd_Z K rm_X11_copy E sd_LM 7 (sd_QI K E sd_LM r.1 r.2) M 104 [(0, .ref (E.2.2 100)), (1, .int x1), (2, .int x2), (3, .int x3), (4, .int x4), (5, .int x5), (6, .int x6)] [] := by
  intro n
  induction n with
  | zero => intro M x1 x2 x3 x4 x5 x6 hF; cases hF
  | succ n ih =>
    intro M x1 x2 x3 x4 x5 x6 hF
    unfold fn_X11_copy_104 at hF
    refine sd_iload C 6 dX11_copy_104 rfl rfl (n' := 106) ?_
    refine sd_iload C 5 dX11_copy_106 rfl rfl (n' := 108) ?_
    refine sd_icmp_ge C (n' := 111) (tgt := 133) dX11_copy_108 rfl rfl (fun c108 => ?_) (fun c108 => ?_)
    · replace hF := sd_pos hF c108
      refine sd_iconst C (v := 0) dX11_copy_133 rfl rfl (n' := 134) ?_
      refine sd_istore [(6, .int (0 : Int32)), (0, .ref (E.2.2 100)), (1, .int x1), (2, .int x2), (3, .int x3), (4, .int x4), (5, .int x5)] C dX11_copy_134 (by decide) rfl rfl (n' := 136) ?_
      refine sd_sub [1, 4, 5, 6, 0] rfl ?_
      exact tb_X11_copy_136 C sd_FU M x3 x4 x5 (0 : Int32) hF
    · replace hF := sd_neg hF c108
      refine sd_aload_n C 0 dX11_copy_111 rfl rfl rfl (n' := 112) ?_
      refine sd_g11_7 C sd_i100 sd_k100 sd_w1048 dX11_copy_112 rfl (n' := 115) ?_
      refine sd_iload C 6 dX11_copy_115 rfl rfl (n' := 117) ?_
      refine sd_aload_n C 0 dX11_copy_117 rfl rfl rfl (n' := 118) ?_
      refine sd_iload_n C 1 dX11_copy_118 rfl rfl rfl (n' := 119) ?_
      refine sd_iload_n C 2 dX11_copy_119 rfl rfl rfl (n' := 120) ?_
      refine sd_iload C 6 dX11_copy_120 rfl rfl (n' := 122) ?_
      refine sd_iadd C dX11_copy_122 rfl (n' := 123) ?_
      obtain ⟨q123, e123, hF⟩ := sd_bind hF
      refine sd_callVI [.int x1, .int (x2 + x6)] [.int x6, .ref (E.2.2 104)] C (ct_X11_rowAt M x1 (x2 + x6)  e123) sd_lX11_115 ⟨rfl, rfl, Nat.le_of_ble_eq_true rfl, Nat.le_of_ble_eq_true rfl⟩ sd_i100 (sd_e12 sd_k100) rfl rfl rfl (Nat.le_of_ble_eq_true rfl) dX11_copy_123 rfl (n' := 126) ?_
      obtain ⟨b126, hF⟩ := sd_ok hF
      refine sd_iast C sd_i104 sd_k104 sd_n104 b126 dX11_copy_126 rfl (n' := 127) ?_
      refine sd_iinc [(6, .int (x6 + (1 : Int32))), (0, .ref (E.2.2 100)), (1, .int x1), (2, .int x2), (3, .int x3), (4, .int x4), (5, .int x5)] 6 C dX11_copy_127 rfl rfl (by decide) rfl rfl (n' := 130) ?_
      refine sd_goto C (tgt := 104) dX11_copy_130 rfl ?_
      refine sd_sub [1, 2, 3, 4, 5, 6, 0] rfl ?_
      exact ih (sd_setI M 104 x6.toNatClampNeg q123) x1 x2 x3 x4 x5 (x6 + (1 : Int32)) hF
set_option maxRecDepth 100000 in
set_option maxHeartbeats 4000000 in
theorem tb_X11_copy_0 {K : sd_K} {E : sd_Env}   {r : (Int32 × sd_Mem)} (C : sd_C K E sd_LM RX11 cX11_copy 7 (some .int))  : ∀ (M : sd_Mem) (x1 : Int32) (x2 : Int32) (x3 : Int32) (x4 : Int32) (x5 : Int32), fn_X11_copy_0 M x1 x2 x3 x4 x5 = some r → sd_Z K rm_X11_copy E sd_LM 7 (sd_QI K E sd_LM r.1 r.2) M 0 [(0, .ref (E.2.2 100)), (1, .int x1), (2, .int x2), (3, .int x3), (4, .int x4), (5, .int x5)] [] := by
  intro M x1 x2 x3 x4 x5 hF
  unfold fn_X11_copy_0 at hF
  refine sd_iload_n C 1 dX11_copy_0 rfl rfl rfl (n' := 1) ?_
  obtain ⟨q1, e1, hF⟩ := sd_bind hF
  refine sd_callSI [.int x1] [] C (ct_X11_isRow M x1  e1) sd_lX11_101 ⟨rfl, rfl, Nat.le_of_ble_eq_true rfl, Nat.le_of_ble_eq_true rfl⟩ rfl (Nat.le_of_ble_eq_true rfl) dX11_copy_1 rfl (n' := 4) ?_
  refine sd_if_eq C (n' := 7) (tgt := 14) dX11_copy_4 rfl rfl (fun c4 => ?_) (fun c4 => ?_)
  · replace hF := sd_pos hF c4
    refine sd_iconst C (v := -1) dX11_copy_14 rfl rfl (n' := 15) ?_
    exact sd_iret C dX11_copy_15 (sd_fst hF) (sd_snd hF)
  · replace hF := sd_neg hF c4
    refine sd_iload_n C 3 dX11_copy_7 rfl rfl rfl (n' := 8) ?_
    obtain ⟨q8, e8, hF⟩ := sd_bind hF
    refine sd_callSI [.int x3] [] C (ct_X11_isRow M x3  e8) sd_lX11_101 ⟨rfl, rfl, Nat.le_of_ble_eq_true rfl, Nat.le_of_ble_eq_true rfl⟩ rfl (Nat.le_of_ble_eq_true rfl) dX11_copy_8 rfl (n' := 11) ?_
    refine sd_if_ne C (n' := 14) (tgt := 16) dX11_copy_11 rfl rfl (fun c11 => ?_) (fun c11 => ?_)
    · replace hF := sd_neg hF c11
      refine sd_iload C 5 dX11_copy_16 rfl rfl (n' := 18) ?_
      refine sd_if_ge C (n' := 21) (tgt := 27) dX11_copy_18 rfl rfl (fun c18 => ?_) (fun c18 => ?_)
      · replace hF := sd_pos hF c18
        refine sd_aload_n C 0 dX11_copy_27 rfl rfl rfl (n' := 28) ?_
        refine sd_g11_5 C sd_i100 sd_k100 sd_w1046 dX11_copy_28 rfl (n' := 31) ?_
        refine sd_iload_n C 1 dX11_copy_31 rfl rfl rfl (n' := 32) ?_
        obtain ⟨b32, hF⟩ := sd_ok hF
        refine sd_iald C sd_i102 sd_k102 sd_n102 b32 dX11_copy_32 rfl (n' := 33) ?_
        refine sd_if_lt C (n' := 36) (tgt := 45) dX11_copy_33 rfl rfl (fun c33 => ?_) (fun c33 => ?_)
        · replace hF := sd_pos hF c33
          refine sd_aload_n C 0 dX11_copy_45 rfl rfl rfl (n' := 46) ?_
          refine sd_iconst C (v := 1) dX11_copy_46 rfl rfl (n' := 47) ?_
          obtain ⟨q47, e47, hF⟩ := sd_bind hF
          refine sd_callVI [.int (1 : Int32)] [] C (ct_X11_meets M (1 : Int32)  e47) sd_lX11_105 ⟨rfl, rfl, Nat.le_of_ble_eq_true rfl, Nat.le_of_ble_eq_true rfl⟩ sd_i100 (sd_e12 sd_k100) rfl rfl rfl (Nat.le_of_ble_eq_true rfl) dX11_copy_47 rfl (n' := 50) ?_
          exact sd_iret C dX11_copy_50 (sd_fst hF) (sd_snd hF)
        · replace hF := sd_neg hF c33
          refine sd_aload_n C 0 dX11_copy_36 rfl rfl rfl (n' := 37) ?_
          refine sd_g11_5 C sd_i100 sd_k100 sd_w1046 dX11_copy_37 rfl (n' := 40) ?_
          refine sd_iload_n C 3 dX11_copy_40 rfl rfl rfl (n' := 41) ?_
          obtain ⟨b41, hF⟩ := sd_ok hF
          refine sd_iald C sd_i102 sd_k102 sd_n102 b41 dX11_copy_41 rfl (n' := 42) ?_
          refine sd_if_ge C (n' := 45) (tgt := 51) dX11_copy_42 rfl rfl (fun c42 => ?_) (fun c42 => ?_)
          · replace hF := sd_pos hF c42
            refine sd_iload_n C 2 dX11_copy_51 rfl rfl rfl (n' := 52) ?_
            refine sd_if_lt C (n' := 55) (tgt := 95) dX11_copy_52 rfl rfl (fun c52 => ?_) (fun c52 => ?_)
            · replace hF := sd_pos hF c52
              refine sd_aload_n C 0 dX11_copy_95 rfl rfl rfl (n' := 96) ?_
              refine sd_iconst C (v := 2) dX11_copy_96 rfl rfl (n' := 97) ?_
              obtain ⟨q97, e97, hF⟩ := sd_bind hF
              refine sd_callVI [.int (2 : Int32)] [] C (ct_X11_meets M (2 : Int32)  e97) sd_lX11_105 ⟨rfl, rfl, Nat.le_of_ble_eq_true rfl, Nat.le_of_ble_eq_true rfl⟩ sd_i100 (sd_e12 sd_k100) rfl rfl rfl (Nat.le_of_ble_eq_true rfl) dX11_copy_97 rfl (n' := 100) ?_
              exact sd_iret C dX11_copy_100 (sd_fst hF) (sd_snd hF)
            · replace hF := sd_neg hF c52
              refine sd_iload C 4 dX11_copy_55 rfl rfl (n' := 57) ?_
              refine sd_if_lt C (n' := 60) (tgt := 95) dX11_copy_57 rfl rfl (fun c57 => ?_) (fun c57 => ?_)
              · replace hF := sd_pos hF c57
                refine sd_aload_n C 0 dX11_copy_95 rfl rfl rfl (n' := 96) ?_
                refine sd_iconst C (v := 2) dX11_copy_96 rfl rfl (n' := 97) ?_
                obtain ⟨q97, e97, hF⟩ := sd_bind hF
                refine sd_callVI [.int (2 : Int32)] [] C (ct_X11_meets M (2 : Int32)  e97) sd_lX11_105 ⟨rfl, rfl, Nat.le_of_ble_eq_true rfl, Nat.le_of_ble_eq_true rfl⟩ sd_i100 (sd_e12 sd_k100) rfl rfl rfl (Nat.le_of_ble_eq_true rfl) dX11_copy_97 rfl (n' := 100) ?_
                exact sd_iret C dX11_copy_100 (sd_fst hF) (sd_snd hF)
              · replace hF := sd_neg hF c57
                refine sd_iload_n C 2 dX11_copy_60 rfl rfl rfl (n' := 61) ?_
                refine sd_i2l C dX11_copy_61 rfl (n' := 62) ?_
                refine sd_iload C 5 dX11_copy_62 rfl rfl (n' := 64) ?_
                refine sd_i2l C dX11_copy_64 rfl (n' := 65) ?_
                refine sd_ladd C dX11_copy_65 rfl (n' := 66) ?_
                refine sd_aload_n C 0 dX11_copy_66 rfl rfl rfl (n' := 67) ?_
                refine sd_g11_5 C sd_i100 sd_k100 sd_w1046 dX11_copy_67 rfl (n' := 70) ?_
                refine sd_iload_n C 1 dX11_copy_70 rfl rfl rfl (n' := 71) ?_
                obtain ⟨b71, hF⟩ := sd_ok hF
                refine sd_iald C sd_i102 sd_k102 sd_n102 b71 dX11_copy_71 rfl (n' := 72) ?_
                refine sd_i2l C dX11_copy_72 rfl (n' := 73) ?_
                refine sd_lcmp C dX11_copy_73 rfl (n' := 74) ?_
                refine sd_if_gt C (n' := 77) (tgt := 95) dX11_copy_74 rfl rfl (fun c74 => ?_) (fun c74 => ?_)
                · replace hF := sd_pos hF c74
                  refine sd_aload_n C 0 dX11_copy_95 rfl rfl rfl (n' := 96) ?_
                  refine sd_iconst C (v := 2) dX11_copy_96 rfl rfl (n' := 97) ?_
                  obtain ⟨q97, e97, hF⟩ := sd_bind hF
                  refine sd_callVI [.int (2 : Int32)] [] C (ct_X11_meets M (2 : Int32)  e97) sd_lX11_105 ⟨rfl, rfl, Nat.le_of_ble_eq_true rfl, Nat.le_of_ble_eq_true rfl⟩ sd_i100 (sd_e12 sd_k100) rfl rfl rfl (Nat.le_of_ble_eq_true rfl) dX11_copy_97 rfl (n' := 100) ?_
                  exact sd_iret C dX11_copy_100 (sd_fst hF) (sd_snd hF)
                · replace hF := sd_neg hF c74
                  refine sd_iload C 4 dX11_copy_77 rfl rfl (n' := 79) ?_
                  refine sd_i2l C dX11_copy_79 rfl (n' := 80) ?_
                  refine sd_iload C 5 dX11_copy_80 rfl rfl (n' := 82) ?_
                  refine sd_i2l C dX11_copy_82 rfl (n' := 83) ?_
                  refine sd_ladd C dX11_copy_83 rfl (n' := 84) ?_
                  refine sd_aload_n C 0 dX11_copy_84 rfl rfl rfl (n' := 85) ?_
                  refine sd_g11_5 C sd_i100 sd_k100 sd_w1046 dX11_copy_85 rfl (n' := 88) ?_
                  refine sd_iload_n C 3 dX11_copy_88 rfl rfl rfl (n' := 89) ?_
                  obtain ⟨b89, hF⟩ := sd_ok hF
                  refine sd_iald C sd_i102 sd_k102 sd_n102 b89 dX11_copy_89 rfl (n' := 90) ?_
                  refine sd_i2l C dX11_copy_90 rfl (n' := 91) ?_
                  refine sd_lcmp C dX11_copy_91 rfl (n' := 92) ?_
                  refine sd_if_le C (n' := 95) (tgt := 101) dX11_copy_92 rfl rfl (fun c92 => ?_) (fun c92 => ?_)
                  · replace hF := sd_pos hF c92
                    refine sd_iconst C (v := 0) dX11_copy_101 rfl rfl (n' := 102) ?_
                    refine sd_istore [(6, .int (0 : Int32)), (0, .ref (E.2.2 100)), (1, .int x1), (2, .int x2), (3, .int x3), (4, .int x4), (5, .int x5)] C dX11_copy_102 (by decide) rfl rfl (n' := 104) ?_
                    refine sd_sub [1, 2, 3, 4, 5, 6, 0] rfl ?_
                    exact tb_X11_copy_104 C sd_FU M x1 x2 x3 x4 x5 (0 : Int32) hF
                  · replace hF := sd_neg hF c92
                    refine sd_aload_n C 0 dX11_copy_95 rfl rfl rfl (n' := 96) ?_
                    refine sd_iconst C (v := 2) dX11_copy_96 rfl rfl (n' := 97) ?_
                    obtain ⟨q97, e97, hF⟩ := sd_bind hF
                    refine sd_callVI [.int (2 : Int32)] [] C (ct_X11_meets M (2 : Int32)  e97) sd_lX11_105 ⟨rfl, rfl, Nat.le_of_ble_eq_true rfl, Nat.le_of_ble_eq_true rfl⟩ sd_i100 (sd_e12 sd_k100) rfl rfl rfl (Nat.le_of_ble_eq_true rfl) dX11_copy_97 rfl (n' := 100) ?_
                    exact sd_iret C dX11_copy_100 (sd_fst hF) (sd_snd hF)
          · replace hF := sd_neg hF c42
            refine sd_aload_n C 0 dX11_copy_45 rfl rfl rfl (n' := 46) ?_
            refine sd_iconst C (v := 1) dX11_copy_46 rfl rfl (n' := 47) ?_
            obtain ⟨q47, e47, hF⟩ := sd_bind hF
            refine sd_callVI [.int (1 : Int32)] [] C (ct_X11_meets M (1 : Int32)  e47) sd_lX11_105 ⟨rfl, rfl, Nat.le_of_ble_eq_true rfl, Nat.le_of_ble_eq_true rfl⟩ sd_i100 (sd_e12 sd_k100) rfl rfl rfl (Nat.le_of_ble_eq_true rfl) dX11_copy_47 rfl (n' := 50) ?_
            exact sd_iret C dX11_copy_50 (sd_fst hF) (sd_snd hF)
      · replace hF := sd_neg hF c18
        refine sd_aload_n C 0 dX11_copy_21 rfl rfl rfl (n' := 22) ?_
        refine sd_iconst C (v := 5) dX11_copy_22 rfl rfl (n' := 23) ?_
        obtain ⟨q23, e23, hF⟩ := sd_bind hF
        refine sd_callVI [.int (5 : Int32)] [] C (ct_X11_meets M (5 : Int32)  e23) sd_lX11_105 ⟨rfl, rfl, Nat.le_of_ble_eq_true rfl, Nat.le_of_ble_eq_true rfl⟩ sd_i100 (sd_e12 sd_k100) rfl rfl rfl (Nat.le_of_ble_eq_true rfl) dX11_copy_23 rfl (n' := 26) ?_
        exact sd_iret C dX11_copy_26 (sd_fst hF) (sd_snd hF)
    · replace hF := sd_pos hF c11
      refine sd_iconst C (v := -1) dX11_copy_14 rfl rfl (n' := 15) ?_
      exact sd_iret C dX11_copy_15 (sd_fst hF) (sd_snd hF)
theorem ct_X11_copy {l : Launch} {E : sd_Env} (M : sd_Mem) (x1 : Int32) (x2 : Int32) (x3 : Int32) (x4 : Int32) (x5 : Int32)  {r : (Int32 × sd_Mem)} (hF : fn_X11_copy M x1 x2 x3 x4 x5 = some r) : sd_MI l E sd_LM yX11_copy cX11_copy 7 (some .int) rm_X11_copy [.ref (E.2.2 100), .int x1, .int x2, .int x3, .int x4, .int x5] M r.1 r.2 := sd_ent0 (by decide +kernel) (Nat.le_of_ble_eq_true rfl) (fun p e s m below meth c C => tb_X11_copy_0 C M x1 x2 x3 x4 x5 hF)
theorem dX11_ask_0 : decode cX11_ask 0 = .ok (.aload_n 0, 1) := by decide +kernel
theorem dX11_ask_1 : decode cX11_ask 1 = .ok (.iload_n 1, 1) := by decide +kernel
theorem dX11_ask_2 : decode cX11_ask 2 = .ok (.putfield 91, 3) := by decide +kernel
theorem dX11_ask_5 : decode cX11_ask 5 = .ok (.iload_n 2, 1) := by decide +kernel
theorem dX11_ask_6 : decode cX11_ask 6 = .ok (.ireturn, 1) := by decide +kernel
set_option maxRecDepth 100000 in
set_option maxHeartbeats 4000000 in
theorem tb_X11_ask_0 {K : sd_K} {E : sd_Env}   {r : (Int32 × sd_Mem)} (C : sd_C K E sd_LM RX11 cX11_ask 3 (some .int))  : ∀ (M : sd_Mem) (x1 : Int32) (x2 : Int32), fn_X11_ask_0 M x1 x2 = some r → sd_Z K rm_X11_ask E sd_LM 3 (sd_QI K E sd_LM r.1 r.2) M 0 [(0, .ref (E.2.2 100)), (1, .int x1), (2, .int x2)] [] := by
  intro M x1 x2 hF
  unfold fn_X11_ask_0 at hF
  refine sd_aload_n C 0 dX11_ask_0 rfl rfl rfl (n' := 1) ?_
  refine sd_iload_n C 1 dX11_ask_1 rfl rfl rfl (n' := 2) ?_
  refine sd_p11_2 C sd_i100 sd_k100 sd_w1043 dX11_ask_2 rfl (n' := 5) ?_
  refine sd_iload_n C 2 dX11_ask_5 rfl rfl rfl (n' := 6) ?_
  exact sd_iret C dX11_ask_6 (sd_fst hF) (sd_snd hF)
theorem ct_X11_ask {l : Launch} {E : sd_Env} (M : sd_Mem) (x1 : Int32) (x2 : Int32)  {r : (Int32 × sd_Mem)} (hF : fn_X11_ask M x1 x2 = some r) : sd_MI l E sd_LM yX11_ask cX11_ask 3 (some .int) rm_X11_ask [.ref (E.2.2 100), .int x1, .int x2] M r.1 r.2 := sd_ent0 (by decide +kernel) (Nat.le_of_ble_eq_true rfl) (fun p e s m below meth c C => tb_X11_ask_0 C M x1 x2 hF)
theorem dX11_mean_0 : decode cX11_mean 0 = .ok (.aload_n 0, 1) := by decide +kernel
theorem dX11_mean_1 : decode cX11_mean 1 = .ok (.iload_n 1, 1) := by decide +kernel
theorem dX11_mean_2 : decode cX11_mean 2 = .ok (.invokevirtual 112, 3) := by decide +kernel
theorem dX11_mean_5 : decode cX11_mean 5 = .ok (.istore_n 2, 1) := by decide +kernel
theorem dX11_mean_6 : decode cX11_mean 6 = .ok (.iload_n 2, 1) := by decide +kernel
theorem dX11_mean_7 : decode cX11_mean 7 = .ok (.ifCond .ge 5, 3) := by decide +kernel
theorem dX11_mean_10 : decode cX11_mean 10 = .ok (.iload_n 2, 1) := by decide +kernel
theorem dX11_mean_11 : decode cX11_mean 11 = .ok (.ireturn, 1) := by decide +kernel
theorem dX11_mean_12 : decode cX11_mean 12 = .ok (.lconst 0, 1) := by decide +kernel
theorem dX11_mean_13 : decode cX11_mean 13 = .ok (.lstore_n 3, 1) := by decide +kernel
theorem dX11_mean_14 : decode cX11_mean 14 = .ok (.iconst 0, 1) := by decide +kernel
theorem dX11_mean_15 : decode cX11_mean 15 = .ok (.istore 5, 2) := by decide +kernel
theorem dX11_mean_17 : decode cX11_mean 17 = .ok (.iload 5, 2) := by decide +kernel
theorem dX11_mean_19 : decode cX11_mean 19 = .ok (.aload_n 0, 1) := by decide +kernel
theorem dX11_mean_20 : decode cX11_mean 20 = .ok (.getfield 17, 3) := by decide +kernel
theorem dX11_mean_23 : decode cX11_mean 23 = .ok (.iload_n 1, 1) := by decide +kernel
theorem dX11_mean_24 : decode cX11_mean 24 = .ok (.iaload, 1) := by decide +kernel
theorem dX11_mean_25 : decode cX11_mean 25 = .ok (.if_icmp .ge 20, 3) := by decide +kernel
theorem dX11_mean_28 : decode cX11_mean 28 = .ok (.lload_n 3, 1) := by decide +kernel
theorem dX11_mean_29 : decode cX11_mean 29 = .ok (.aload_n 0, 1) := by decide +kernel
theorem dX11_mean_30 : decode cX11_mean 30 = .ok (.iload_n 1, 1) := by decide +kernel
theorem dX11_mean_31 : decode cX11_mean 31 = .ok (.iload 5, 2) := by decide +kernel
theorem dX11_mean_33 : decode cX11_mean 33 = .ok (.invokevirtual 115, 3) := by decide +kernel
theorem dX11_mean_36 : decode cX11_mean 36 = .ok (.i2l, 1) := by decide +kernel
theorem dX11_mean_37 : decode cX11_mean 37 = .ok (.ladd, 1) := by decide +kernel
theorem dX11_mean_38 : decode cX11_mean 38 = .ok (.lstore_n 3, 1) := by decide +kernel
theorem dX11_mean_39 : decode cX11_mean 39 = .ok (.iinc 5 1, 3) := by decide +kernel
theorem dX11_mean_42 : decode cX11_mean 42 = .ok (.goto (-25), 3) := by decide +kernel
theorem dX11_mean_45 : decode cX11_mean 45 = .ok (.aload_n 0, 1) := by decide +kernel
theorem dX11_mean_46 : decode cX11_mean 46 = .ok (.getfield 17, 3) := by decide +kernel
theorem dX11_mean_49 : decode cX11_mean 49 = .ok (.iload_n 1, 1) := by decide +kernel
theorem dX11_mean_50 : decode cX11_mean 50 = .ok (.iaload, 1) := by decide +kernel
theorem dX11_mean_51 : decode cX11_mean 51 = .ok (.ifCond .ne 11, 3) := by decide +kernel
theorem dX11_mean_54 : decode cX11_mean 54 = .ok (.aload_n 0, 1) := by decide +kernel
theorem dX11_mean_55 : decode cX11_mean 55 = .ok (.iconst 4, 1) := by decide +kernel
theorem dX11_mean_56 : decode cX11_mean 56 = .ok (.invokevirtual 105, 3) := by decide +kernel
theorem dX11_mean_59 : decode cX11_mean 59 = .ok (.goto 18, 3) := by decide +kernel
theorem dX11_mean_62 : decode cX11_mean 62 = .ok (.aload_n 0, 1) := by decide +kernel
theorem dX11_mean_63 : decode cX11_mean 63 = .ok (.lload_n 3, 1) := by decide +kernel
theorem dX11_mean_64 : decode cX11_mean 64 = .ok (.aload_n 0, 1) := by decide +kernel
theorem dX11_mean_65 : decode cX11_mean 65 = .ok (.getfield 17, 3) := by decide +kernel
theorem dX11_mean_68 : decode cX11_mean 68 = .ok (.iload_n 1, 1) := by decide +kernel
theorem dX11_mean_69 : decode cX11_mean 69 = .ok (.iaload, 1) := by decide +kernel
theorem dX11_mean_70 : decode cX11_mean 70 = .ok (.i2l, 1) := by decide +kernel
theorem dX11_mean_71 : decode cX11_mean 71 = .ok (.ldiv, 1) := by decide +kernel
theorem dX11_mean_72 : decode cX11_mean 72 = .ok (.l2i, 1) := by decide +kernel
theorem dX11_mean_73 : decode cX11_mean 73 = .ok (.iconst 1, 1) := by decide +kernel
theorem dX11_mean_74 : decode cX11_mean 74 = .ok (.invokevirtual 119, 3) := by decide +kernel
theorem dX11_mean_77 : decode cX11_mean 77 = .ok (.ireturn, 1) := by decide +kernel
set_option maxRecDepth 100000 in
set_option maxHeartbeats 4000000 in
theorem tb_X11_mean_45 {K : sd_K} {E : sd_Env}   {r : (Int32 × sd_Mem)} (C : sd_C K E sd_LM RX11 cX11_mean 6 (some .int))  : ∀ (M : sd_Mem) (x1 : Int32) (l3 : Int64), fn_X11_mean_45 M x1 l3 = some r → sd_Z K rm_X11_mean E sd_LM 6 (sd_QI K E sd_LM r.1 r.2) M 45 [(0, .ref (E.2.2 100)), (1, .int x1), (3, .long l3)] [] := by
  intro M x1 l3 hF
  unfold fn_X11_mean_45 at hF
  refine sd_aload_n C 0 dX11_mean_45 rfl rfl rfl (n' := 46) ?_
  refine sd_g11_5 C sd_i100 sd_k100 sd_w1046 dX11_mean_46 rfl (n' := 49) ?_
  refine sd_iload_n C 1 dX11_mean_49 rfl rfl rfl (n' := 50) ?_
  obtain ⟨b50, hF⟩ := sd_ok hF
  refine sd_iald C sd_i102 sd_k102 sd_n102 b50 dX11_mean_50 rfl (n' := 51) ?_
  refine sd_if_ne C (n' := 54) (tgt := 62) dX11_mean_51 rfl rfl (fun c51 => ?_) (fun c51 => ?_)
  · replace hF := sd_neg hF c51
    refine sd_aload_n C 0 dX11_mean_62 rfl rfl rfl (n' := 63) ?_
    refine sd_lload_n C 2 dX11_mean_63 rfl rfl rfl (n' := 64) ?_
    refine sd_aload_n C 0 dX11_mean_64 rfl rfl rfl (n' := 65) ?_
    refine sd_g11_5 C sd_i100 sd_k100 sd_w1046 dX11_mean_65 rfl (n' := 68) ?_
    refine sd_iload_n C 1 dX11_mean_68 rfl rfl rfl (n' := 69) ?_
    obtain ⟨b69, hF⟩ := sd_ok hF
    refine sd_iald C sd_i102 sd_k102 sd_n102 b69 dX11_mean_69 rfl (n' := 70) ?_
    refine sd_i2l C dX11_mean_70 rfl (n' := 71) ?_
    obtain ⟨b71, hF⟩ := sd_ok hF
    refine sd_ldiv C dX11_mean_71 b71 rfl (n' := 72) ?_
    refine sd_l2i C dX11_mean_72 rfl (n' := 73) ?_
    refine sd_iconst C (v := 1) dX11_mean_73 rfl rfl (n' := 74) ?_
    obtain ⟨q74, e74, hF⟩ := sd_bind hF
    refine sd_callVI [.int ((l3 / ((M.1 102 x1.toNatClampNeg).toInt64)).toInt32), .int (1 : Int32)] [] C (ct_X11_ask M ((l3 / ((M.1 102 x1.toNatClampNeg).toInt64)).toInt32) (1 : Int32)  e74) sd_lX11_119 ⟨rfl, rfl, Nat.le_of_ble_eq_true rfl, Nat.le_of_ble_eq_true rfl⟩ sd_i100 (sd_e12 sd_k100) rfl rfl rfl (Nat.le_of_ble_eq_true rfl) dX11_mean_74 rfl (n' := 77) ?_
    exact sd_iret C dX11_mean_77 (sd_fst hF) (sd_snd hF)
  · replace hF := sd_pos hF c51
    refine sd_aload_n C 0 dX11_mean_54 rfl rfl rfl (n' := 55) ?_
    refine sd_iconst C (v := 4) dX11_mean_55 rfl rfl (n' := 56) ?_
    obtain ⟨q56, e56, hF⟩ := sd_bind hF
    refine sd_callVI [.int (4 : Int32)] [] C (ct_X11_meets M (4 : Int32)  e56) sd_lX11_105 ⟨rfl, rfl, Nat.le_of_ble_eq_true rfl, Nat.le_of_ble_eq_true rfl⟩ sd_i100 (sd_e12 sd_k100) rfl rfl rfl (Nat.le_of_ble_eq_true rfl) dX11_mean_56 rfl (n' := 59) ?_
    refine sd_goto C (tgt := 77) dX11_mean_59 rfl ?_
    exact sd_iret C dX11_mean_77 (sd_fst hF) (sd_snd hF)
set_option maxRecDepth 100000 in
set_option maxHeartbeats 4000000 in
theorem tb_X11_mean_17 {K : sd_K} {E : sd_Env}   {r : (Int32 × sd_Mem)} (C : sd_C K E sd_LM RX11 cX11_mean 6 (some .int))  : ∀ (n : Nat), ∀ (M : sd_Mem) (x1 : Int32) (l3 : Int64) (x5 : Int32), fn_X11_mean_17 n M x1 l3 x5 = some r → sd_Z K rm_X11_mean E sd_LM 6 (sd_QI K E sd_LM r.1 r.2) M 17 [(0, .ref (E.2.2 100)), (1, .int x1), (3, .long l3), (5, .int x5)] [] := by
  intro n
  induction n with
  | zero => intro M x1 l3 x5 hF; cases hF
  | succ n ih =>
    intro M x1 l3 x5 hF
    unfold fn_X11_mean_17 at hF
    refine sd_iload C 3 dX11_mean_17 rfl rfl (n' := 19) ?_
    refine sd_aload_n C 0 dX11_mean_19 rfl rfl rfl (n' := 20) ?_
    refine sd_g11_5 C sd_i100 sd_k100 sd_w1046 dX11_mean_20 rfl (n' := 23) ?_
    refine sd_iload_n C 1 dX11_mean_23 rfl rfl rfl (n' := 24) ?_
    obtain ⟨b24, hF⟩ := sd_ok hF
    refine sd_iald C sd_i102 sd_k102 sd_n102 b24 dX11_mean_24 rfl (n' := 25) ?_
    refine sd_icmp_ge C (n' := 28) (tgt := 45) dX11_mean_25 rfl rfl (fun c25 => ?_) (fun c25 => ?_)
    · replace hF := sd_pos hF c25
      refine sd_sub [0, 1, 2] rfl ?_
      exact tb_X11_mean_45 C M x1 l3 hF
    · replace hF := sd_neg hF c25
      refine sd_lload_n C 2 dX11_mean_28 rfl rfl rfl (n' := 29) ?_
      refine sd_aload_n C 0 dX11_mean_29 rfl rfl rfl (n' := 30) ?_
      refine sd_iload_n C 1 dX11_mean_30 rfl rfl rfl (n' := 31) ?_
      refine sd_iload C 3 dX11_mean_31 rfl rfl (n' := 33) ?_
      obtain ⟨q33, e33, hF⟩ := sd_bind hF
      refine sd_callVI [.int x1, .int x5] [.long l3] C (ct_X11_rowAt M x1 x5  e33) sd_lX11_115 ⟨rfl, rfl, Nat.le_of_ble_eq_true rfl, Nat.le_of_ble_eq_true rfl⟩ sd_i100 (sd_e12 sd_k100) rfl rfl rfl (Nat.le_of_ble_eq_true rfl) dX11_mean_33 rfl (n' := 36) ?_
      refine sd_i2l C dX11_mean_36 rfl (n' := 37) ?_
      refine sd_ladd C dX11_mean_37 rfl (n' := 38) ?_
      refine sd_lstore_n [(3, .long (l3 + q33.toInt64)), (0, .ref (E.2.2 100)), (1, .int x1), (5, .int x5)] C dX11_mean_38 rfl (by decide) rfl rfl (n' := 39) ?_
      refine sd_iinc [(5, .int (x5 + (1 : Int32))), (3, .long (l3 + q33.toInt64)), (0, .ref (E.2.2 100)), (1, .int x1)] 3 C dX11_mean_39 rfl rfl (by decide) rfl rfl (n' := 42) ?_
      refine sd_goto C (tgt := 17) dX11_mean_42 rfl ?_
      refine sd_sub [2, 3, 1, 0] rfl ?_
      exact ih M x1 (l3 + q33.toInt64) (x5 + (1 : Int32)) hF
set_option maxRecDepth 100000 in
set_option maxHeartbeats 4000000 in
theorem tb_X11_mean_0 {K : sd_K} {E : sd_Env}   {r : (Int32 × sd_Mem)} (C : sd_C K E sd_LM RX11 cX11_mean 6 (some .int))  : ∀ (M : sd_Mem) (x1 : Int32), fn_X11_mean_0 M x1 = some r → sd_Z K rm_X11_mean E sd_LM 6 (sd_QI K E sd_LM r.1 r.2) M 0 [(0, .ref (E.2.2 100)), (1, .int x1)] [] := by
  intro M x1 hF
  unfold fn_X11_mean_0 at hF
  refine sd_aload_n C 0 dX11_mean_0 rfl rfl rfl (n' := 1) ?_
  refine sd_iload_n C 1 dX11_mean_1 rfl rfl rfl (n' := 2) ?_
  obtain ⟨q2, e2, hF⟩ := sd_bind hF
  refine sd_callVI [.int x1] [] C (ct_X11_askedRow M x1  e2) sd_lX11_112 ⟨rfl, rfl, Nat.le_of_ble_eq_true rfl, Nat.le_of_ble_eq_true rfl⟩ sd_i100 (sd_e12 sd_k100) rfl rfl rfl (Nat.le_of_ble_eq_true rfl) dX11_mean_2 rfl (n' := 5) ?_
  refine sd_istore_n [(2, .int q2.1), (0, .ref (E.2.2 100)), (1, .int x1)] C dX11_mean_5 rfl (by decide) rfl rfl (n' := 6) ?_
  refine sd_iload_n C 0 dX11_mean_6 rfl rfl rfl (n' := 7) ?_
  refine sd_if_ge C (n' := 10) (tgt := 12) dX11_mean_7 rfl rfl (fun c7 => ?_) (fun c7 => ?_)
  · replace hF := sd_pos hF c7
    refine sd_lconst C (v := 0) dX11_mean_12 rfl rfl (n' := 13) ?_
    refine sd_lstore_n [(3, .long (0 : Int64)), (2, .int q2.1), (0, .ref (E.2.2 100)), (1, .int x1)] C dX11_mean_13 rfl (by decide) rfl rfl (n' := 14) ?_
    refine sd_iconst C (v := 0) dX11_mean_14 rfl rfl (n' := 15) ?_
    refine sd_istore [(5, .int (0 : Int32)), (3, .long (0 : Int64)), (2, .int q2.1), (0, .ref (E.2.2 100)), (1, .int x1)] C dX11_mean_15 (by decide) rfl rfl (n' := 17) ?_
    refine sd_sub [3, 4, 1, 0] rfl ?_
    exact tb_X11_mean_17 C sd_FU q2.2 x1 (0 : Int64) (0 : Int32) hF
  · replace hF := sd_neg hF c7
    refine sd_iload_n C 0 dX11_mean_10 rfl rfl rfl (n' := 11) ?_
    exact sd_iret C dX11_mean_11 (sd_fst hF) (sd_snd hF)
theorem ct_X11_mean {l : Launch} {E : sd_Env} (M : sd_Mem) (x1 : Int32)  {r : (Int32 × sd_Mem)} (hF : fn_X11_mean M x1 = some r) : sd_MI l E sd_LM yX11_mean cX11_mean 6 (some .int) rm_X11_mean [.ref (E.2.2 100), .int x1] M r.1 r.2 := sd_ent0 (by decide +kernel) (Nat.le_of_ble_eq_true rfl) (fun p e s m below meth c C => tb_X11_mean_0 C M x1 hF)
theorem dX11_isText_0 : decode cX11_isText 0 = .ok (.iload_n 0, 1) := by decide +kernel
theorem dX11_isText_1 : decode cX11_isText 1 = .ok (.iconst 0, 1) := by decide +kernel
theorem dX11_isText_2 : decode cX11_isText 2 = .ok (.iconst 3, 1) := by decide +kernel
theorem dX11_isText_3 : decode cX11_isText 3 = .ok (.invokestatic 97, 3) := by decide +kernel
theorem dX11_isText_6 : decode cX11_isText 6 = .ok (.ireturn, 1) := by decide +kernel
set_option maxRecDepth 100000 in
set_option maxHeartbeats 4000000 in
theorem tb_X11_isText_0 {K : sd_K} {E : sd_Env} {M : sd_Mem}  {r : Int32} (C : sd_C K E sd_LM RX11 cX11_isText 1 (some .boolean))  : ∀ (x0 : Int32), fn_X11_isText_0 x0 = some r → sd_Z K rm_X11_isText E sd_LM 1 (sd_QI K E sd_LM r M) M 0 [(0, .int x0)] [] := by
  intro x0 hF
  unfold fn_X11_isText_0 at hF
  refine sd_iload_n C 0 dX11_isText_0 rfl rfl rfl (n' := 1) ?_
  refine sd_iconst C (v := 0) dX11_isText_1 rfl rfl (n' := 2) ?_
  refine sd_iconst C (v := 3) dX11_isText_2 rfl rfl (n' := 3) ?_
  obtain ⟨q3, e3, hF⟩ := sd_bind hF
  refine sd_callSI [.int x0, .int (0 : Int32), .int (3 : Int32)] [] C (ct_X11_in M x0 (0 : Int32) (3 : Int32)  e3) sd_lX11_97 ⟨rfl, rfl, Nat.le_of_ble_eq_true rfl, Nat.le_of_ble_eq_true rfl⟩ rfl (Nat.le_of_ble_eq_true rfl) dX11_isText_3 rfl (n' := 6) ?_
  obtain ⟨b6, hF⟩ := sd_ok hF
  exact sd_zret C dX11_isText_6 (Decidable.of_not_not b6) (Option.some.inj hF) rfl
theorem ct_X11_isText {l : Launch} {E : sd_Env} (M : sd_Mem) (x0 : Int32)  {r : Int32} (hF : fn_X11_isText x0 = some r) : sd_MI l E sd_LM yX11_isText cX11_isText 1 (some .boolean) rm_X11_isText [.int x0] M r M := sd_ent0 (by decide +kernel) (Nat.le_of_ble_eq_true rfl) (fun p e s m below meth c C => tb_X11_isText_0 C x0 hF)
theorem dX11_text_0 : decode cX11_text 0 = .ok (.iload_n 1, 1) := by decide +kernel
theorem dX11_text_1 : decode cX11_text 1 = .ok (.invokestatic 109, 3) := by decide +kernel
theorem dX11_text_4 : decode cX11_text 4 = .ok (.ifCond .eq 9, 3) := by decide +kernel
theorem dX11_text_7 : decode cX11_text 7 = .ok (.iload_n 2, 1) := by decide +kernel
theorem dX11_text_8 : decode cX11_text 8 = .ok (.bipush 60, 2) := by decide +kernel
theorem dX11_text_10 : decode cX11_text 10 = .ok (.if_icmp .le 5, 3) := by decide +kernel
theorem dX11_text_13 : decode cX11_text 13 = .ok (.iconst (-1), 1) := by decide +kernel
theorem dX11_text_14 : decode cX11_text 14 = .ok (.ireturn, 1) := by decide +kernel
theorem dX11_text_15 : decode cX11_text 15 = .ok (.iload_n 2, 1) := by decide +kernel
theorem dX11_text_16 : decode cX11_text 16 = .ok (.ifCond .ge 9, 3) := by decide +kernel
theorem dX11_text_19 : decode cX11_text 19 = .ok (.aload_n 0, 1) := by decide +kernel
theorem dX11_text_20 : decode cX11_text 20 = .ok (.iconst 5, 1) := by decide +kernel
theorem dX11_text_21 : decode cX11_text 21 = .ok (.invokevirtual 105, 3) := by decide +kernel
theorem dX11_text_24 : decode cX11_text 24 = .ok (.ireturn, 1) := by decide +kernel
theorem dX11_text_25 : decode cX11_text 25 = .ok (.aload_n 0, 1) := by decide +kernel
theorem dX11_text_26 : decode cX11_text 26 = .ok (.getfield 26, 3) := by decide +kernel
theorem dX11_text_29 : decode cX11_text 29 = .ok (.iload_n 1, 1) := by decide +kernel
theorem dX11_text_30 : decode cX11_text 30 = .ok (.iload_n 2, 1) := by decide +kernel
theorem dX11_text_31 : decode cX11_text 31 = .ok (.iastore, 1) := by decide +kernel
theorem dX11_text_32 : decode cX11_text 32 = .ok (.iconst 0, 1) := by decide +kernel
theorem dX11_text_33 : decode cX11_text 33 = .ok (.istore_n 3, 1) := by decide +kernel
theorem dX11_text_34 : decode cX11_text 34 = .ok (.iload_n 3, 1) := by decide +kernel
theorem dX11_text_35 : decode cX11_text 35 = .ok (.bipush 60, 2) := by decide +kernel
theorem dX11_text_37 : decode cX11_text 37 = .ok (.if_icmp .ge 22, 3) := by decide +kernel
theorem dX11_text_40 : decode cX11_text 40 = .ok (.aload_n 0, 1) := by decide +kernel
theorem dX11_text_41 : decode cX11_text 41 = .ok (.getfield 29, 3) := by decide +kernel
theorem dX11_text_44 : decode cX11_text 44 = .ok (.bipush 60, 2) := by decide +kernel
theorem dX11_text_46 : decode cX11_text 46 = .ok (.iload_n 1, 1) := by decide +kernel
theorem dX11_text_47 : decode cX11_text 47 = .ok (.imul, 1) := by decide +kernel
theorem dX11_text_48 : decode cX11_text 48 = .ok (.iload_n 3, 1) := by decide +kernel
theorem dX11_text_49 : decode cX11_text 49 = .ok (.iadd, 1) := by decide +kernel
theorem dX11_text_50 : decode cX11_text 50 = .ok (.bipush 32, 2) := by decide +kernel
theorem dX11_text_52 : decode cX11_text 52 = .ok (.iastore, 1) := by decide +kernel
theorem dX11_text_53 : decode cX11_text 53 = .ok (.iinc 3 1, 3) := by decide +kernel
theorem dX11_text_56 : decode cX11_text 56 = .ok (.goto (-22), 3) := by decide +kernel
theorem dX11_text_59 : decode cX11_text 59 = .ok (.iload_n 2, 1) := by decide +kernel
theorem dX11_text_60 : decode cX11_text 60 = .ok (.ireturn, 1) := by decide +kernel
set_option maxRecDepth 100000 in
set_option maxHeartbeats 4000000 in
theorem tb_X11_text_34 {K : sd_K} {E : sd_Env}   {r : (Int32 × sd_Mem)} (C : sd_C K E sd_LM RX11 cX11_text 4 (some .int))  : ∀ (n : Nat), ∀ (M : sd_Mem) (x1 : Int32) (x2 : Int32) (x3 : Int32), fn_X11_text_34 n M x1 x2 x3 = some r → sd_Z K rm_X11_text E sd_LM 4 (sd_QI K E sd_LM r.1 r.2) M 34 [(0, .ref (E.2.2 100)), (1, .int x1), (2, .int x2), (3, .int x3)] [] := by
  intro n
  induction n with
  | zero => intro M x1 x2 x3 hF; cases hF
  | succ n ih =>
    intro M x1 x2 x3 hF
    unfold fn_X11_text_34 at hF
    refine sd_iload_n C 3 dX11_text_34 rfl rfl rfl (n' := 35) ?_
    refine sd_bipush C (v := 60) dX11_text_35 rfl rfl (n' := 37) ?_
    refine sd_icmp_ge C (n' := 40) (tgt := 59) dX11_text_37 rfl rfl (fun c37 => ?_) (fun c37 => ?_)
    · replace hF := sd_pos hF c37
      refine sd_iload_n C 2 dX11_text_59 rfl rfl rfl (n' := 60) ?_
      exact sd_iret C dX11_text_60 (sd_fst hF) (sd_snd hF)
    · replace hF := sd_neg hF c37
      refine sd_aload_n C 0 dX11_text_40 rfl rfl rfl (n' := 41) ?_
      refine sd_g11_9 C sd_i100 sd_k100 sd_w1050 dX11_text_41 rfl (n' := 44) ?_
      refine sd_bipush C (v := 60) dX11_text_44 rfl rfl (n' := 46) ?_
      refine sd_iload_n C 1 dX11_text_46 rfl rfl rfl (n' := 47) ?_
      refine sd_imul C dX11_text_47 rfl (n' := 48) ?_
      refine sd_iload_n C 3 dX11_text_48 rfl rfl rfl (n' := 49) ?_
      refine sd_iadd C dX11_text_49 rfl (n' := 50) ?_
      refine sd_bipush C (v := 32) dX11_text_50 rfl rfl (n' := 52) ?_
      obtain ⟨b52, hF⟩ := sd_ok hF
      refine sd_iast C sd_i106 sd_k106 sd_n106 b52 dX11_text_52 rfl (n' := 53) ?_
      refine sd_iinc [(3, .int (x3 + (1 : Int32))), (0, .ref (E.2.2 100)), (1, .int x1), (2, .int x2)] 3 C dX11_text_53 rfl rfl (by decide) rfl rfl (n' := 56) ?_
      refine sd_goto C (tgt := 34) dX11_text_56 rfl ?_
      refine sd_sub [1, 2, 3, 0] rfl ?_
      exact ih (sd_setI M 106 (((60 : Int32) * x1) + x3).toNatClampNeg (32 : Int32)) x1 x2 (x3 + (1 : Int32)) hF
set_option maxRecDepth 100000 in
set_option maxHeartbeats 4000000 in
theorem tb_X11_text_0 {K : sd_K} {E : sd_Env}   {r : (Int32 × sd_Mem)} (C : sd_C K E sd_LM RX11 cX11_text 4 (some .int))  : ∀ (M : sd_Mem) (x1 : Int32) (x2 : Int32), fn_X11_text_0 M x1 x2 = some r → sd_Z K rm_X11_text E sd_LM 4 (sd_QI K E sd_LM r.1 r.2) M 0 [(0, .ref (E.2.2 100)), (1, .int x1), (2, .int x2)] [] := by
  intro M x1 x2 hF
  unfold fn_X11_text_0 at hF
  refine sd_iload_n C 1 dX11_text_0 rfl rfl rfl (n' := 1) ?_
  obtain ⟨q1, e1, hF⟩ := sd_bind hF
  refine sd_callSI [.int x1] [] C (ct_X11_isText M x1  e1) sd_lX11_109 ⟨rfl, rfl, Nat.le_of_ble_eq_true rfl, Nat.le_of_ble_eq_true rfl⟩ rfl (Nat.le_of_ble_eq_true rfl) dX11_text_1 rfl (n' := 4) ?_
  refine sd_if_eq C (n' := 7) (tgt := 13) dX11_text_4 rfl rfl (fun c4 => ?_) (fun c4 => ?_)
  · replace hF := sd_pos hF c4
    refine sd_iconst C (v := -1) dX11_text_13 rfl rfl (n' := 14) ?_
    exact sd_iret C dX11_text_14 (sd_fst hF) (sd_snd hF)
  · replace hF := sd_neg hF c4
    refine sd_iload_n C 2 dX11_text_7 rfl rfl rfl (n' := 8) ?_
    refine sd_bipush C (v := 60) dX11_text_8 rfl rfl (n' := 10) ?_
    refine sd_icmp_le C (n' := 13) (tgt := 15) dX11_text_10 rfl rfl (fun c10 => ?_) (fun c10 => ?_)
    · replace hF := sd_pos hF c10
      refine sd_iload_n C 2 dX11_text_15 rfl rfl rfl (n' := 16) ?_
      refine sd_if_ge C (n' := 19) (tgt := 25) dX11_text_16 rfl rfl (fun c16 => ?_) (fun c16 => ?_)
      · replace hF := sd_pos hF c16
        refine sd_aload_n C 0 dX11_text_25 rfl rfl rfl (n' := 26) ?_
        refine sd_g11_8 C sd_i100 sd_k100 sd_w1049 dX11_text_26 rfl (n' := 29) ?_
        refine sd_iload_n C 1 dX11_text_29 rfl rfl rfl (n' := 30) ?_
        refine sd_iload_n C 2 dX11_text_30 rfl rfl rfl (n' := 31) ?_
        obtain ⟨b31, hF⟩ := sd_ok hF
        refine sd_iast C sd_i105 sd_k105 sd_n105 b31 dX11_text_31 rfl (n' := 32) ?_
        refine sd_iconst C (v := 0) dX11_text_32 rfl rfl (n' := 33) ?_
        refine sd_istore_n [(3, .int (0 : Int32)), (0, .ref (E.2.2 100)), (1, .int x1), (2, .int x2)] C dX11_text_33 rfl (by decide) rfl rfl (n' := 34) ?_
        refine sd_sub [1, 2, 3, 0] rfl ?_
        exact tb_X11_text_34 C sd_FU (sd_setI M 105 x1.toNatClampNeg x2) x1 x2 (0 : Int32) hF
      · replace hF := sd_neg hF c16
        refine sd_aload_n C 0 dX11_text_19 rfl rfl rfl (n' := 20) ?_
        refine sd_iconst C (v := 5) dX11_text_20 rfl rfl (n' := 21) ?_
        obtain ⟨q21, e21, hF⟩ := sd_bind hF
        refine sd_callVI [.int (5 : Int32)] [] C (ct_X11_meets M (5 : Int32)  e21) sd_lX11_105 ⟨rfl, rfl, Nat.le_of_ble_eq_true rfl, Nat.le_of_ble_eq_true rfl⟩ sd_i100 (sd_e12 sd_k100) rfl rfl rfl (Nat.le_of_ble_eq_true rfl) dX11_text_21 rfl (n' := 24) ?_
        exact sd_iret C dX11_text_24 (sd_fst hF) (sd_snd hF)
    · replace hF := sd_neg hF c10
      refine sd_iconst C (v := -1) dX11_text_13 rfl rfl (n' := 14) ?_
      exact sd_iret C dX11_text_14 (sd_fst hF) (sd_snd hF)
theorem ct_X11_text {l : Launch} {E : sd_Env} (M : sd_Mem) (x1 : Int32) (x2 : Int32)  {r : (Int32 × sd_Mem)} (hF : fn_X11_text M x1 x2 = some r) : sd_MI l E sd_LM yX11_text cX11_text 4 (some .int) rm_X11_text [.ref (E.2.2 100), .int x1, .int x2] M r.1 r.2 := sd_ent0 (by decide +kernel) (Nat.le_of_ble_eq_true rfl) (fun p e s m below meth c C => tb_X11_text_0 C M x1 x2 hF)
theorem dX11_askedText_0 : decode cX11_askedText 0 = .ok (.iload_n 1, 1) := by decide +kernel
theorem dX11_askedText_1 : decode cX11_askedText 1 = .ok (.invokestatic 109, 3) := by decide +kernel
theorem dX11_askedText_4 : decode cX11_askedText 4 = .ok (.ifCond .ne 7, 3) := by decide +kernel
theorem dX11_askedText_7 : decode cX11_askedText 7 = .ok (.iconst (-1), 1) := by decide +kernel
theorem dX11_askedText_8 : decode cX11_askedText 8 = .ok (.goto 21, 3) := by decide +kernel
theorem dX11_askedText_11 : decode cX11_askedText 11 = .ok (.aload_n 0, 1) := by decide +kernel
theorem dX11_askedText_12 : decode cX11_askedText 12 = .ok (.getfield 26, 3) := by decide +kernel
theorem dX11_askedText_15 : decode cX11_askedText 15 = .ok (.iload_n 1, 1) := by decide +kernel
theorem dX11_askedText_16 : decode cX11_askedText 16 = .ok (.iaload, 1) := by decide +kernel
theorem dX11_askedText_17 : decode cX11_askedText 17 = .ok (.ifCond .ge 11, 3) := by decide +kernel
theorem dX11_askedText_20 : decode cX11_askedText 20 = .ok (.aload_n 0, 1) := by decide +kernel
theorem dX11_askedText_21 : decode cX11_askedText 21 = .ok (.iconst 1, 1) := by decide +kernel
theorem dX11_askedText_22 : decode cX11_askedText 22 = .ok (.invokevirtual 105, 3) := by decide +kernel
theorem dX11_askedText_25 : decode cX11_askedText 25 = .ok (.goto 4, 3) := by decide +kernel
theorem dX11_askedText_28 : decode cX11_askedText 28 = .ok (.iconst 0, 1) := by decide +kernel
theorem dX11_askedText_29 : decode cX11_askedText 29 = .ok (.ireturn, 1) := by decide +kernel
set_option maxRecDepth 100000 in
set_option maxHeartbeats 4000000 in
theorem tb_X11_askedText_0 {K : sd_K} {E : sd_Env}   {r : (Int32 × sd_Mem)} (C : sd_C K E sd_LM RX11 cX11_askedText 2 (some .int))  : ∀ (M : sd_Mem) (x1 : Int32), fn_X11_askedText_0 M x1 = some r → sd_Z K rm_X11_askedText E sd_LM 2 (sd_QI K E sd_LM r.1 r.2) M 0 [(0, .ref (E.2.2 100)), (1, .int x1)] [] := by
  intro M x1 hF
  unfold fn_X11_askedText_0 at hF
  refine sd_iload_n C 1 dX11_askedText_0 rfl rfl rfl (n' := 1) ?_
  obtain ⟨q1, e1, hF⟩ := sd_bind hF
  refine sd_callSI [.int x1] [] C (ct_X11_isText M x1  e1) sd_lX11_109 ⟨rfl, rfl, Nat.le_of_ble_eq_true rfl, Nat.le_of_ble_eq_true rfl⟩ rfl (Nat.le_of_ble_eq_true rfl) dX11_askedText_1 rfl (n' := 4) ?_
  refine sd_if_ne C (n' := 7) (tgt := 11) dX11_askedText_4 rfl rfl (fun c4 => ?_) (fun c4 => ?_)
  · replace hF := sd_neg hF c4
    refine sd_aload_n C 0 dX11_askedText_11 rfl rfl rfl (n' := 12) ?_
    refine sd_g11_8 C sd_i100 sd_k100 sd_w1049 dX11_askedText_12 rfl (n' := 15) ?_
    refine sd_iload_n C 1 dX11_askedText_15 rfl rfl rfl (n' := 16) ?_
    obtain ⟨b16, hF⟩ := sd_ok hF
    refine sd_iald C sd_i105 sd_k105 sd_n105 b16 dX11_askedText_16 rfl (n' := 17) ?_
    refine sd_if_ge C (n' := 20) (tgt := 28) dX11_askedText_17 rfl rfl (fun c17 => ?_) (fun c17 => ?_)
    · replace hF := sd_pos hF c17
      refine sd_iconst C (v := 0) dX11_askedText_28 rfl rfl (n' := 29) ?_
      exact sd_iret C dX11_askedText_29 (sd_fst hF) (sd_snd hF)
    · replace hF := sd_neg hF c17
      refine sd_aload_n C 0 dX11_askedText_20 rfl rfl rfl (n' := 21) ?_
      refine sd_iconst C (v := 1) dX11_askedText_21 rfl rfl (n' := 22) ?_
      obtain ⟨q22, e22, hF⟩ := sd_bind hF
      refine sd_callVI [.int (1 : Int32)] [] C (ct_X11_meets M (1 : Int32)  e22) sd_lX11_105 ⟨rfl, rfl, Nat.le_of_ble_eq_true rfl, Nat.le_of_ble_eq_true rfl⟩ sd_i100 (sd_e12 sd_k100) rfl rfl rfl (Nat.le_of_ble_eq_true rfl) dX11_askedText_22 rfl (n' := 25) ?_
      refine sd_goto C (tgt := 29) dX11_askedText_25 rfl ?_
      exact sd_iret C dX11_askedText_29 (sd_fst hF) (sd_snd hF)
  · replace hF := sd_pos hF c4
    refine sd_iconst C (v := -1) dX11_askedText_7 rfl rfl (n' := 8) ?_
    refine sd_goto C (tgt := 29) dX11_askedText_8 rfl ?_
    exact sd_iret C dX11_askedText_29 (sd_fst hF) (sd_snd hF)
theorem ct_X11_askedText {l : Launch} {E : sd_Env} (M : sd_Mem) (x1 : Int32)  {r : (Int32 × sd_Mem)} (hF : fn_X11_askedText M x1 = some r) : sd_MI l E sd_LM yX11_askedText cX11_askedText 2 (some .int) rm_X11_askedText [.ref (E.2.2 100), .int x1] M r.1 r.2 := sd_ent0 (by decide +kernel) (Nat.le_of_ble_eq_true rfl) (fun p e s m below meth c C => tb_X11_askedText_0 C M x1 hF)
theorem dX11_put_0 : decode cX11_put 0 = .ok (.aload_n 0, 1) := by decide +kernel
theorem dX11_put_1 : decode cX11_put 1 = .ok (.iload_n 1, 1) := by decide +kernel
theorem dX11_put_2 : decode cX11_put 2 = .ok (.invokevirtual 122, 3) := by decide +kernel
theorem dX11_put_5 : decode cX11_put 5 = .ok (.istore 4, 2) := by decide +kernel
theorem dX11_put_7 : decode cX11_put 7 = .ok (.iload 4, 2) := by decide +kernel
theorem dX11_put_9 : decode cX11_put 9 = .ok (.ifCond .ge 6, 3) := by decide +kernel
theorem dX11_put_12 : decode cX11_put 12 = .ok (.iload 4, 2) := by decide +kernel
theorem dX11_put_14 : decode cX11_put 14 = .ok (.ireturn, 1) := by decide +kernel
theorem dX11_put_15 : decode cX11_put 15 = .ok (.iload_n 2, 1) := by decide +kernel
theorem dX11_put_16 : decode cX11_put 16 = .ok (.iconst 0, 1) := by decide +kernel
theorem dX11_put_17 : decode cX11_put 17 = .ok (.aload_n 0, 1) := by decide +kernel
theorem dX11_put_18 : decode cX11_put 18 = .ok (.getfield 26, 3) := by decide +kernel
theorem dX11_put_21 : decode cX11_put 21 = .ok (.iload_n 1, 1) := by decide +kernel
theorem dX11_put_22 : decode cX11_put 22 = .ok (.iaload, 1) := by decide +kernel
theorem dX11_put_23 : decode cX11_put 23 = .ok (.iconst 1, 1) := by decide +kernel
theorem dX11_put_24 : decode cX11_put 24 = .ok (.isub, 1) := by decide +kernel
theorem dX11_put_25 : decode cX11_put 25 = .ok (.invokestatic 97, 3) := by decide +kernel
theorem dX11_put_28 : decode cX11_put 28 = .ok (.ifCond .ne 9, 3) := by decide +kernel
theorem dX11_put_31 : decode cX11_put 31 = .ok (.aload_n 0, 1) := by decide +kernel
theorem dX11_put_32 : decode cX11_put 32 = .ok (.iconst 2, 1) := by decide +kernel
theorem dX11_put_33 : decode cX11_put 33 = .ok (.invokevirtual 105, 3) := by decide +kernel
theorem dX11_put_36 : decode cX11_put 36 = .ok (.ireturn, 1) := by decide +kernel
theorem dX11_put_37 : decode cX11_put 37 = .ok (.aload_n 0, 1) := by decide +kernel
theorem dX11_put_38 : decode cX11_put 38 = .ok (.getfield 29, 3) := by decide +kernel
theorem dX11_put_41 : decode cX11_put 41 = .ok (.bipush 60, 2) := by decide +kernel
theorem dX11_put_43 : decode cX11_put 43 = .ok (.iload_n 1, 1) := by decide +kernel
theorem dX11_put_44 : decode cX11_put 44 = .ok (.imul, 1) := by decide +kernel
theorem dX11_put_45 : decode cX11_put 45 = .ok (.iload_n 2, 1) := by decide +kernel
theorem dX11_put_46 : decode cX11_put 46 = .ok (.iadd, 1) := by decide +kernel
theorem dX11_put_47 : decode cX11_put 47 = .ok (.iaload, 1) := by decide +kernel
theorem dX11_put_48 : decode cX11_put 48 = .ok (.istore 5, 2) := by decide +kernel
theorem dX11_put_50 : decode cX11_put 50 = .ok (.aload_n 0, 1) := by decide +kernel
theorem dX11_put_51 : decode cX11_put 51 = .ok (.getfield 29, 3) := by decide +kernel
theorem dX11_put_54 : decode cX11_put 54 = .ok (.bipush 60, 2) := by decide +kernel
theorem dX11_put_56 : decode cX11_put 56 = .ok (.iload_n 1, 1) := by decide +kernel
theorem dX11_put_57 : decode cX11_put 57 = .ok (.imul, 1) := by decide +kernel
theorem dX11_put_58 : decode cX11_put 58 = .ok (.iload_n 2, 1) := by decide +kernel
theorem dX11_put_59 : decode cX11_put 59 = .ok (.iadd, 1) := by decide +kernel
theorem dX11_put_60 : decode cX11_put 60 = .ok (.iload_n 3, 1) := by decide +kernel
theorem dX11_put_61 : decode cX11_put 61 = .ok (.i2b, 1) := by decide +kernel
theorem dX11_put_62 : decode cX11_put 62 = .ok (.iastore, 1) := by decide +kernel
theorem dX11_put_63 : decode cX11_put 63 = .ok (.iload 5, 2) := by decide +kernel
theorem dX11_put_65 : decode cX11_put 65 = .ok (.sipush 1000, 3) := by decide +kernel
theorem dX11_put_68 : decode cX11_put 68 = .ok (.iadd, 1) := by decide +kernel
theorem dX11_put_69 : decode cX11_put 69 = .ok (.ireturn, 1) := by decide +kernel
set_option maxRecDepth 100000 in
set_option maxHeartbeats 4000000 in
theorem tb_X11_put_0 {K : sd_K} {E : sd_Env}   {r : (Int32 × sd_Mem)} (C : sd_C K E sd_LM RX11 cX11_put 6 (some .int))  : ∀ (M : sd_Mem) (x1 : Int32) (x2 : Int32) (x3 : Int32), fn_X11_put_0 M x1 x2 x3 = some r → sd_Z K rm_X11_put E sd_LM 6 (sd_QI K E sd_LM r.1 r.2) M 0 [(0, .ref (E.2.2 100)), (1, .int x1), (2, .int x2), (3, .int x3)] [] := by
  intro M x1 x2 x3 hF
  unfold fn_X11_put_0 at hF
  refine sd_aload_n C 0 dX11_put_0 rfl rfl rfl (n' := 1) ?_
  refine sd_iload_n C 1 dX11_put_1 rfl rfl rfl (n' := 2) ?_
  obtain ⟨q2, e2, hF⟩ := sd_bind hF
  refine sd_callVI [.int x1] [] C (ct_X11_askedText M x1  e2) sd_lX11_122 ⟨rfl, rfl, Nat.le_of_ble_eq_true rfl, Nat.le_of_ble_eq_true rfl⟩ sd_i100 (sd_e12 sd_k100) rfl rfl rfl (Nat.le_of_ble_eq_true rfl) dX11_put_2 rfl (n' := 5) ?_
  refine sd_istore [(4, .int q2.1), (0, .ref (E.2.2 100)), (1, .int x1), (2, .int x2), (3, .int x3)] C dX11_put_5 (by decide) rfl rfl (n' := 7) ?_
  refine sd_iload C 0 dX11_put_7 rfl rfl (n' := 9) ?_
  refine sd_if_ge C (n' := 12) (tgt := 15) dX11_put_9 rfl rfl (fun c9 => ?_) (fun c9 => ?_)
  · replace hF := sd_pos hF c9
    refine sd_iload_n C 3 dX11_put_15 rfl rfl rfl (n' := 16) ?_
    refine sd_iconst C (v := 0) dX11_put_16 rfl rfl (n' := 17) ?_
    refine sd_aload_n C 1 dX11_put_17 rfl rfl rfl (n' := 18) ?_
    refine sd_g11_8 C sd_i100 sd_k100 sd_w1049 dX11_put_18 rfl (n' := 21) ?_
    refine sd_iload_n C 2 dX11_put_21 rfl rfl rfl (n' := 22) ?_
    obtain ⟨b22, hF⟩ := sd_ok hF
    refine sd_iald C sd_i105 sd_k105 sd_n105 b22 dX11_put_22 rfl (n' := 23) ?_
    refine sd_iconst C (v := 1) dX11_put_23 rfl rfl (n' := 24) ?_
    refine sd_isub C dX11_put_24 rfl (n' := 25) ?_
    obtain ⟨q25, e25, hF⟩ := sd_bind hF
    refine sd_callSI [.int x2, .int (0 : Int32), .int ((q2.2.1 105 x1.toNatClampNeg) - (1 : Int32))] [] C (ct_X11_in q2.2 x2 (0 : Int32) ((q2.2.1 105 x1.toNatClampNeg) - (1 : Int32))  e25) sd_lX11_97 ⟨rfl, rfl, Nat.le_of_ble_eq_true rfl, Nat.le_of_ble_eq_true rfl⟩ rfl (Nat.le_of_ble_eq_true rfl) dX11_put_25 rfl (n' := 28) ?_
    refine sd_if_ne C (n' := 31) (tgt := 37) dX11_put_28 rfl rfl (fun c28 => ?_) (fun c28 => ?_)
    · replace hF := sd_neg hF c28
      refine sd_aload_n C 1 dX11_put_37 rfl rfl rfl (n' := 38) ?_
      refine sd_g11_9 C sd_i100 sd_k100 sd_w1050 dX11_put_38 rfl (n' := 41) ?_
      refine sd_bipush C (v := 60) dX11_put_41 rfl rfl (n' := 43) ?_
      refine sd_iload_n C 2 dX11_put_43 rfl rfl rfl (n' := 44) ?_
      refine sd_imul C dX11_put_44 rfl (n' := 45) ?_
      refine sd_iload_n C 3 dX11_put_45 rfl rfl rfl (n' := 46) ?_
      refine sd_iadd C dX11_put_46 rfl (n' := 47) ?_
      obtain ⟨b47, hF⟩ := sd_ok hF
      refine sd_iald C sd_i106 sd_k106 sd_n106 b47 dX11_put_47 rfl (n' := 48) ?_
      refine sd_istore [(5, .int (q2.2.1 106 (((60 : Int32) * x1) + x2).toNatClampNeg)), (4, .int q2.1), (0, .ref (E.2.2 100)), (1, .int x1), (2, .int x2), (3, .int x3)] C dX11_put_48 (by decide) rfl rfl (n' := 50) ?_
      refine sd_aload_n C 2 dX11_put_50 rfl rfl rfl (n' := 51) ?_
      refine sd_g11_9 C sd_i100 sd_k100 sd_w1050 dX11_put_51 rfl (n' := 54) ?_
      refine sd_bipush C (v := 60) dX11_put_54 rfl rfl (n' := 56) ?_
      refine sd_iload_n C 3 dX11_put_56 rfl rfl rfl (n' := 57) ?_
      refine sd_imul C dX11_put_57 rfl (n' := 58) ?_
      refine sd_iload_n C 4 dX11_put_58 rfl rfl rfl (n' := 59) ?_
      refine sd_iadd C dX11_put_59 rfl (n' := 60) ?_
      refine sd_iload_n C 5 dX11_put_60 rfl rfl rfl (n' := 61) ?_
      refine sd_i2b C dX11_put_61 rfl (n' := 62) ?_
      obtain ⟨b62, hF⟩ := sd_ok hF
      refine sd_iast C sd_i106 sd_k106 sd_n106 b62 dX11_put_62 rfl (n' := 63) ?_
      refine sd_iload C 0 dX11_put_63 rfl rfl (n' := 65) ?_
      refine sd_sipush C (v := 1000) dX11_put_65 rfl rfl (n' := 68) ?_
      refine sd_iadd C dX11_put_68 rfl (n' := 69) ?_
      exact sd_iret C dX11_put_69 (sd_fst hF) (sd_snd hF)
    · replace hF := sd_pos hF c28
      refine sd_aload_n C 1 dX11_put_31 rfl rfl rfl (n' := 32) ?_
      refine sd_iconst C (v := 2) dX11_put_32 rfl rfl (n' := 33) ?_
      obtain ⟨q33, e33, hF⟩ := sd_bind hF
      refine sd_callVI [.int (2 : Int32)] [] C (ct_X11_meets q2.2 (2 : Int32)  e33) sd_lX11_105 ⟨rfl, rfl, Nat.le_of_ble_eq_true rfl, Nat.le_of_ble_eq_true rfl⟩ sd_i100 (sd_e12 sd_k100) rfl rfl rfl (Nat.le_of_ble_eq_true rfl) dX11_put_33 rfl (n' := 36) ?_
      exact sd_iret C dX11_put_36 (sd_fst hF) (sd_snd hF)
  · replace hF := sd_neg hF c9
    refine sd_iload C 0 dX11_put_12 rfl rfl (n' := 14) ?_
    exact sd_iret C dX11_put_14 (sd_fst hF) (sd_snd hF)
theorem ct_X11_put {l : Launch} {E : sd_Env} (M : sd_Mem) (x1 : Int32) (x2 : Int32) (x3 : Int32)  {r : (Int32 × sd_Mem)} (hF : fn_X11_put M x1 x2 x3 = some r) : sd_MI l E sd_LM yX11_put cX11_put 6 (some .int) rm_X11_put [.ref (E.2.2 100), .int x1, .int x2, .int x3] M r.1 r.2 := sd_ent0 (by decide +kernel) (Nat.le_of_ble_eq_true rfl) (fun p e s m below meth c C => tb_X11_put_0 C M x1 x2 x3 hF)
theorem dX11_here_0 : decode cX11_here 0 = .ok (.aload_n 0, 1) := by decide +kernel
theorem dX11_here_1 : decode cX11_here 1 = .ok (.getfield 125, 3) := by decide +kernel
theorem dX11_here_4 : decode cX11_here 4 = .ok (.aload_n 0, 1) := by decide +kernel
theorem dX11_here_5 : decode cX11_here 5 = .ok (.getfield 26, 3) := by decide +kernel
theorem dX11_here_8 : decode cX11_here 8 = .ok (.iload_n 1, 1) := by decide +kernel
theorem dX11_here_9 : decode cX11_here 9 = .ok (.iaload, 1) := by decide +kernel
theorem dX11_here_10 : decode cX11_here 10 = .ok (.if_icmp .ge 20, 3) := by decide +kernel
theorem dX11_here_13 : decode cX11_here 13 = .ok (.aload_n 0, 1) := by decide +kernel
theorem dX11_here_14 : decode cX11_here 14 = .ok (.getfield 29, 3) := by decide +kernel
theorem dX11_here_17 : decode cX11_here 17 = .ok (.bipush 60, 2) := by decide +kernel
theorem dX11_here_19 : decode cX11_here 19 = .ok (.iload_n 1, 1) := by decide +kernel
theorem dX11_here_20 : decode cX11_here 20 = .ok (.imul, 1) := by decide +kernel
theorem dX11_here_21 : decode cX11_here 21 = .ok (.aload_n 0, 1) := by decide +kernel
theorem dX11_here_22 : decode cX11_here 22 = .ok (.getfield 125, 3) := by decide +kernel
theorem dX11_here_25 : decode cX11_here 25 = .ok (.iadd, 1) := by decide +kernel
theorem dX11_here_26 : decode cX11_here 26 = .ok (.iaload, 1) := by decide +kernel
theorem dX11_here_27 : decode cX11_here 27 = .ok (.goto 5, 3) := by decide +kernel
theorem dX11_here_30 : decode cX11_here 30 = .ok (.bipush (-9), 2) := by decide +kernel
theorem dX11_here_32 : decode cX11_here 32 = .ok (.ireturn, 1) := by decide +kernel
set_option maxRecDepth 100000 in
set_option maxHeartbeats 4000000 in
theorem tb_X11_here_0 {K : sd_K} {E : sd_Env} {M : sd_Mem}  {r : Int32} (C : sd_C K E sd_LM RX11 cX11_here 2 (some .int))  : ∀ (x1 : Int32), fn_X11_here_0 M x1 = some r → sd_Z K rm_X11_here E sd_LM 2 (sd_QI K E sd_LM r M) M 0 [(0, .ref (E.2.2 100)), (1, .int x1)] [] := by
  intro x1 hF
  unfold fn_X11_here_0 at hF
  refine sd_aload_n C 0 dX11_here_0 rfl rfl rfl (n' := 1) ?_
  refine sd_g11_21 C sd_i100 sd_k100 sd_w1062 dX11_here_1 rfl (n' := 4) ?_
  refine sd_aload_n C 0 dX11_here_4 rfl rfl rfl (n' := 5) ?_
  refine sd_g11_8 C sd_i100 sd_k100 sd_w1049 dX11_here_5 rfl (n' := 8) ?_
  refine sd_iload_n C 1 dX11_here_8 rfl rfl rfl (n' := 9) ?_
  obtain ⟨b9, hF⟩ := sd_ok hF
  refine sd_iald C sd_i105 sd_k105 sd_n105 b9 dX11_here_9 rfl (n' := 10) ?_
  refine sd_icmp_ge C (n' := 13) (tgt := 30) dX11_here_10 rfl rfl (fun c10 => ?_) (fun c10 => ?_)
  · replace hF := sd_pos hF c10
    refine sd_bipush C (v := -9) dX11_here_30 rfl rfl (n' := 32) ?_
    exact sd_iret C dX11_here_32 (Option.some.inj hF) rfl
  · replace hF := sd_neg hF c10
    refine sd_aload_n C 0 dX11_here_13 rfl rfl rfl (n' := 14) ?_
    refine sd_g11_9 C sd_i100 sd_k100 sd_w1050 dX11_here_14 rfl (n' := 17) ?_
    refine sd_bipush C (v := 60) dX11_here_17 rfl rfl (n' := 19) ?_
    refine sd_iload_n C 1 dX11_here_19 rfl rfl rfl (n' := 20) ?_
    refine sd_imul C dX11_here_20 rfl (n' := 21) ?_
    refine sd_aload_n C 0 dX11_here_21 rfl rfl rfl (n' := 22) ?_
    refine sd_g11_21 C sd_i100 sd_k100 sd_w1062 dX11_here_22 rfl (n' := 25) ?_
    refine sd_iadd C dX11_here_25 rfl (n' := 26) ?_
    obtain ⟨b26, hF⟩ := sd_ok hF
    refine sd_iald C sd_i106 sd_k106 sd_n106 b26 dX11_here_26 rfl (n' := 27) ?_
    refine sd_goto C (tgt := 32) dX11_here_27 rfl ?_
    exact sd_iret C dX11_here_32 (Option.some.inj hF) rfl
theorem ct_X11_here {l : Launch} {E : sd_Env} (M : sd_Mem) (x1 : Int32)  {r : Int32} (hF : fn_X11_here M x1 = some r) : sd_MI l E sd_LM yX11_here cX11_here 2 (some .int) rm_X11_here [.ref (E.2.2 100), .int x1] M r M := sd_ent0 (by decide +kernel) (Nat.le_of_ble_eq_true rfl) (fun p e s m below meth c C => tb_X11_here_0 C x1 hF)
theorem dX11_which_0 : decode cX11_which 0 = .ok (.iload_n 0, 1) := by decide +kernel
theorem dX11_which_1 : decode cX11_which 1 = .ok (.bipush 118, 2) := by decide +kernel
theorem dX11_which_3 : decode cX11_which 3 = .ok (.if_icmp .ne 7, 3) := by decide +kernel
theorem dX11_which_6 : decode cX11_which 6 = .ok (.iconst 0, 1) := by decide +kernel
theorem dX11_which_7 : decode cX11_which 7 = .ok (.goto 35, 3) := by decide +kernel
theorem dX11_which_10 : decode cX11_which 10 = .ok (.iload_n 0, 1) := by decide +kernel
theorem dX11_which_11 : decode cX11_which 11 = .ok (.bipush 104, 2) := by decide +kernel
theorem dX11_which_13 : decode cX11_which 13 = .ok (.if_icmp .ne 7, 3) := by decide +kernel
theorem dX11_which_16 : decode cX11_which 16 = .ok (.iconst 1, 1) := by decide +kernel
theorem dX11_which_17 : decode cX11_which 17 = .ok (.goto 25, 3) := by decide +kernel
theorem dX11_which_20 : decode cX11_which 20 = .ok (.iload_n 0, 1) := by decide +kernel
theorem dX11_which_21 : decode cX11_which 21 = .ok (.bipush 108, 2) := by decide +kernel
theorem dX11_which_23 : decode cX11_which 23 = .ok (.if_icmp .ne 7, 3) := by decide +kernel
theorem dX11_which_26 : decode cX11_which 26 = .ok (.iconst 2, 1) := by decide +kernel
theorem dX11_which_27 : decode cX11_which 27 = .ok (.goto 15, 3) := by decide +kernel
theorem dX11_which_30 : decode cX11_which 30 = .ok (.iload_n 0, 1) := by decide +kernel
theorem dX11_which_31 : decode cX11_which 31 = .ok (.bipush 119, 2) := by decide +kernel
theorem dX11_which_33 : decode cX11_which 33 = .ok (.if_icmp .ne 7, 3) := by decide +kernel
theorem dX11_which_36 : decode cX11_which 36 = .ok (.iconst 3, 1) := by decide +kernel
theorem dX11_which_37 : decode cX11_which 37 = .ok (.goto 5, 3) := by decide +kernel
theorem dX11_which_40 : decode cX11_which 40 = .ok (.bipush (-9), 2) := by decide +kernel
theorem dX11_which_42 : decode cX11_which 42 = .ok (.ireturn, 1) := by decide +kernel
set_option maxRecDepth 100000 in
set_option maxHeartbeats 4000000 in
theorem tb_X11_which_0 {K : sd_K} {E : sd_Env} {M : sd_Mem}  {r : Int32} (C : sd_C K E sd_LM RX11 cX11_which 1 (some .int))  : ∀ (x0 : Int32), fn_X11_which_0 x0 = some r → sd_Z K rm_X11_which E sd_LM 1 (sd_QI K E sd_LM r M) M 0 [(0, .int x0)] [] := by
  intro x0 hF
  unfold fn_X11_which_0 at hF
  refine sd_iload_n C 0 dX11_which_0 rfl rfl rfl (n' := 1) ?_
  refine sd_bipush C (v := 118) dX11_which_1 rfl rfl (n' := 3) ?_
  refine sd_icmp_ne C (n' := 6) (tgt := 10) dX11_which_3 rfl rfl (fun c3 => ?_) (fun c3 => ?_)
  · replace hF := sd_neg hF c3
    refine sd_iload_n C 0 dX11_which_10 rfl rfl rfl (n' := 11) ?_
    refine sd_bipush C (v := 104) dX11_which_11 rfl rfl (n' := 13) ?_
    refine sd_icmp_ne C (n' := 16) (tgt := 20) dX11_which_13 rfl rfl (fun c13 => ?_) (fun c13 => ?_)
    · replace hF := sd_neg hF c13
      refine sd_iload_n C 0 dX11_which_20 rfl rfl rfl (n' := 21) ?_
      refine sd_bipush C (v := 108) dX11_which_21 rfl rfl (n' := 23) ?_
      refine sd_icmp_ne C (n' := 26) (tgt := 30) dX11_which_23 rfl rfl (fun c23 => ?_) (fun c23 => ?_)
      · replace hF := sd_neg hF c23
        refine sd_iload_n C 0 dX11_which_30 rfl rfl rfl (n' := 31) ?_
        refine sd_bipush C (v := 119) dX11_which_31 rfl rfl (n' := 33) ?_
        refine sd_icmp_ne C (n' := 36) (tgt := 40) dX11_which_33 rfl rfl (fun c33 => ?_) (fun c33 => ?_)
        · replace hF := sd_neg hF c33
          refine sd_bipush C (v := -9) dX11_which_40 rfl rfl (n' := 42) ?_
          exact sd_iret C dX11_which_42 (Option.some.inj hF) rfl
        · replace hF := sd_pos hF c33
          refine sd_iconst C (v := 3) dX11_which_36 rfl rfl (n' := 37) ?_
          refine sd_goto C (tgt := 42) dX11_which_37 rfl ?_
          exact sd_iret C dX11_which_42 (Option.some.inj hF) rfl
      · replace hF := sd_pos hF c23
        refine sd_iconst C (v := 2) dX11_which_26 rfl rfl (n' := 27) ?_
        refine sd_goto C (tgt := 42) dX11_which_27 rfl ?_
        exact sd_iret C dX11_which_42 (Option.some.inj hF) rfl
    · replace hF := sd_pos hF c13
      refine sd_iconst C (v := 1) dX11_which_16 rfl rfl (n' := 17) ?_
      refine sd_goto C (tgt := 42) dX11_which_17 rfl ?_
      exact sd_iret C dX11_which_42 (Option.some.inj hF) rfl
  · replace hF := sd_pos hF c3
    refine sd_iconst C (v := 0) dX11_which_6 rfl rfl (n' := 7) ?_
    refine sd_goto C (tgt := 42) dX11_which_7 rfl ?_
    exact sd_iret C dX11_which_42 (Option.some.inj hF) rfl
theorem ct_X11_which {l : Launch} {E : sd_Env} (M : sd_Mem) (x0 : Int32)  {r : Int32} (hF : fn_X11_which x0 = some r) : sd_MI l E sd_LM yX11_which cX11_which 1 (some .int) rm_X11_which [.int x0] M r M := sd_ent0 (by decide +kernel) (Nat.le_of_ble_eq_true rfl) (fun p e s m below meth c C => tb_X11_which_0 C x0 hF)
theorem dX11_readsNumber_0 : decode cX11_readsNumber 0 = .ok (.aload_n 0, 1) := by decide +kernel
theorem dX11_readsNumber_1 : decode cX11_readsNumber 1 = .ok (.getfield 125, 3) := by decide +kernel
theorem dX11_readsNumber_4 : decode cX11_readsNumber 4 = .ok (.istore 4, 2) := by decide +kernel
theorem dX11_readsNumber_6 : decode cX11_readsNumber 6 = .ok (.aload_n 0, 1) := by decide +kernel
theorem dX11_readsNumber_7 : decode cX11_readsNumber 7 = .ok (.iconst 0, 1) := by decide +kernel
theorem dX11_readsNumber_8 : decode cX11_readsNumber 8 = .ok (.putfield 128, 3) := by decide +kernel
theorem dX11_readsNumber_11 : decode cX11_readsNumber 11 = .ok (.aload_n 0, 1) := by decide +kernel
theorem dX11_readsNumber_12 : decode cX11_readsNumber 12 = .ok (.getfield 125, 3) := by decide +kernel
theorem dX11_readsNumber_15 : decode cX11_readsNumber 15 = .ok (.iload 4, 2) := by decide +kernel
theorem dX11_readsNumber_17 : decode cX11_readsNumber 17 = .ok (.isub, 1) := by decide +kernel
theorem dX11_readsNumber_18 : decode cX11_readsNumber 18 = .ok (.iconst 2, 1) := by decide +kernel
theorem dX11_readsNumber_19 : decode cX11_readsNumber 19 = .ok (.if_icmp .ge 51, 3) := by decide +kernel
theorem dX11_readsNumber_22 : decode cX11_readsNumber 22 = .ok (.aload_n 0, 1) := by decide +kernel
theorem dX11_readsNumber_23 : decode cX11_readsNumber 23 = .ok (.iload_n 1, 1) := by decide +kernel
theorem dX11_readsNumber_24 : decode cX11_readsNumber 24 = .ok (.invokevirtual 131, 3) := by decide +kernel
theorem dX11_readsNumber_27 : decode cX11_readsNumber 27 = .ok (.bipush 48, 2) := by decide +kernel
theorem dX11_readsNumber_29 : decode cX11_readsNumber 29 = .ok (.bipush 57, 2) := by decide +kernel
theorem dX11_readsNumber_31 : decode cX11_readsNumber 31 = .ok (.invokestatic 97, 3) := by decide +kernel
theorem dX11_readsNumber_34 : decode cX11_readsNumber 34 = .ok (.ifCond .eq 36, 3) := by decide +kernel
theorem dX11_readsNumber_37 : decode cX11_readsNumber 37 = .ok (.aload_n 0, 1) := by decide +kernel
theorem dX11_readsNumber_38 : decode cX11_readsNumber 38 = .ok (.bipush 10, 2) := by decide +kernel
theorem dX11_readsNumber_40 : decode cX11_readsNumber 40 = .ok (.aload_n 0, 1) := by decide +kernel
theorem dX11_readsNumber_41 : decode cX11_readsNumber 41 = .ok (.getfield 128, 3) := by decide +kernel
theorem dX11_readsNumber_44 : decode cX11_readsNumber 44 = .ok (.imul, 1) := by decide +kernel
theorem dX11_readsNumber_45 : decode cX11_readsNumber 45 = .ok (.aload_n 0, 1) := by decide +kernel
theorem dX11_readsNumber_46 : decode cX11_readsNumber 46 = .ok (.iload_n 1, 1) := by decide +kernel
theorem dX11_readsNumber_47 : decode cX11_readsNumber 47 = .ok (.invokevirtual 131, 3) := by decide +kernel
theorem dX11_readsNumber_50 : decode cX11_readsNumber 50 = .ok (.iadd, 1) := by decide +kernel
theorem dX11_readsNumber_51 : decode cX11_readsNumber 51 = .ok (.bipush 48, 2) := by decide +kernel
theorem dX11_readsNumber_53 : decode cX11_readsNumber 53 = .ok (.isub, 1) := by decide +kernel
theorem dX11_readsNumber_54 : decode cX11_readsNumber 54 = .ok (.putfield 128, 3) := by decide +kernel
theorem dX11_readsNumber_57 : decode cX11_readsNumber 57 = .ok (.aload_n 0, 1) := by decide +kernel
theorem dX11_readsNumber_58 : decode cX11_readsNumber 58 = .ok (.dup, 1) := by decide +kernel
theorem dX11_readsNumber_59 : decode cX11_readsNumber 59 = .ok (.getfield 125, 3) := by decide +kernel
theorem dX11_readsNumber_62 : decode cX11_readsNumber 62 = .ok (.iconst 1, 1) := by decide +kernel
theorem dX11_readsNumber_63 : decode cX11_readsNumber 63 = .ok (.iadd, 1) := by decide +kernel
theorem dX11_readsNumber_64 : decode cX11_readsNumber 64 = .ok (.putfield 125, 3) := by decide +kernel
theorem dX11_readsNumber_67 : decode cX11_readsNumber 67 = .ok (.goto (-56), 3) := by decide +kernel
theorem dX11_readsNumber_70 : decode cX11_readsNumber 70 = .ok (.aload_n 0, 1) := by decide +kernel
theorem dX11_readsNumber_71 : decode cX11_readsNumber 71 = .ok (.getfield 125, 3) := by decide +kernel
theorem dX11_readsNumber_74 : decode cX11_readsNumber 74 = .ok (.iload 4, 2) := by decide +kernel
theorem dX11_readsNumber_76 : decode cX11_readsNumber 76 = .ok (.if_icmp .le 19, 3) := by decide +kernel
theorem dX11_readsNumber_79 : decode cX11_readsNumber 79 = .ok (.aload_n 0, 1) := by decide +kernel
theorem dX11_readsNumber_80 : decode cX11_readsNumber 80 = .ok (.getfield 128, 3) := by decide +kernel
theorem dX11_readsNumber_83 : decode cX11_readsNumber 83 = .ok (.iload_n 2, 1) := by decide +kernel
theorem dX11_readsNumber_84 : decode cX11_readsNumber 84 = .ok (.iload_n 3, 1) := by decide +kernel
theorem dX11_readsNumber_85 : decode cX11_readsNumber 85 = .ok (.invokestatic 97, 3) := by decide +kernel
theorem dX11_readsNumber_88 : decode cX11_readsNumber 88 = .ok (.ifCond .eq 7, 3) := by decide +kernel
theorem dX11_readsNumber_91 : decode cX11_readsNumber 91 = .ok (.iconst 1, 1) := by decide +kernel
theorem dX11_readsNumber_92 : decode cX11_readsNumber 92 = .ok (.goto 4, 3) := by decide +kernel
theorem dX11_readsNumber_95 : decode cX11_readsNumber 95 = .ok (.iconst 0, 1) := by decide +kernel
theorem dX11_readsNumber_96 : decode cX11_readsNumber 96 = .ok (.ireturn, 1) := by decide +kernel
set_option maxRecDepth 100000 in
set_option maxHeartbeats 4000000 in
theorem tb_X11_readsNumber_70 {K : sd_K} {E : sd_Env}   {r : (Int32 × sd_Mem)} (C : sd_C K E sd_LM RX11 cX11_readsNumber 5 (some .boolean))  : ∀ (M : sd_Mem) (x2 : Int32) (x3 : Int32) (x4 : Int32), fn_X11_readsNumber_70 M x2 x3 x4 = some r → sd_Z K rm_X11_readsNumber E sd_LM 5 (sd_QI K E sd_LM r.1 r.2) M 70 [(0, .ref (E.2.2 100)), (2, .int x2), (3, .int x3), (4, .int x4)] [] := by
  intro M x2 x3 x4 hF
  unfold fn_X11_readsNumber_70 at hF
  refine sd_aload_n C 0 dX11_readsNumber_70 rfl rfl rfl (n' := 71) ?_
  refine sd_g11_21 C sd_i100 sd_k100 sd_w1062 dX11_readsNumber_71 rfl (n' := 74) ?_
  refine sd_iload C 3 dX11_readsNumber_74 rfl rfl (n' := 76) ?_
  refine sd_icmp_le C (n' := 79) (tgt := 95) dX11_readsNumber_76 rfl rfl (fun c76 => ?_) (fun c76 => ?_)
  · replace hF := sd_pos hF c76
    refine sd_iconst C (v := 0) dX11_readsNumber_95 rfl rfl (n' := 96) ?_
    exact sd_zret C dX11_readsNumber_96 rfl (sd_fst hF) (sd_snd hF)
  · replace hF := sd_neg hF c76
    refine sd_aload_n C 0 dX11_readsNumber_79 rfl rfl rfl (n' := 80) ?_
    refine sd_g11_22 C sd_i100 sd_k100 sd_w1063 dX11_readsNumber_80 rfl (n' := 83) ?_
    refine sd_iload_n C 1 dX11_readsNumber_83 rfl rfl rfl (n' := 84) ?_
    refine sd_iload_n C 2 dX11_readsNumber_84 rfl rfl rfl (n' := 85) ?_
    obtain ⟨q85, e85, hF⟩ := sd_bind hF
    refine sd_callSI [.int (M.1 100 22), .int x2, .int x3] [] C (ct_X11_in M (M.1 100 22) x2 x3  e85) sd_lX11_97 ⟨rfl, rfl, Nat.le_of_ble_eq_true rfl, Nat.le_of_ble_eq_true rfl⟩ rfl (Nat.le_of_ble_eq_true rfl) dX11_readsNumber_85 rfl (n' := 88) ?_
    refine sd_if_eq C (n' := 91) (tgt := 95) dX11_readsNumber_88 rfl rfl (fun c88 => ?_) (fun c88 => ?_)
    · replace hF := sd_pos hF c88
      refine sd_iconst C (v := 0) dX11_readsNumber_95 rfl rfl (n' := 96) ?_
      exact sd_zret C dX11_readsNumber_96 rfl (sd_fst hF) (sd_snd hF)
    · replace hF := sd_neg hF c88
      refine sd_iconst C (v := 1) dX11_readsNumber_91 rfl rfl (n' := 92) ?_
      refine sd_goto C (tgt := 96) dX11_readsNumber_92 rfl ?_
      exact sd_zret C dX11_readsNumber_96 rfl (sd_fst hF) (sd_snd hF)
set_option maxRecDepth 100000 in
set_option maxHeartbeats 4000000 in
theorem tb_X11_readsNumber_11 {K : sd_K} {E : sd_Env}   {r : (Int32 × sd_Mem)} (C : sd_C K E sd_LM RX11 cX11_readsNumber 5 (some .boolean))  : ∀ (n : Nat), ∀ (M : sd_Mem) (x1 : Int32) (x2 : Int32) (x3 : Int32) (x4 : Int32), fn_X11_readsNumber_11 n M x1 x2 x3 x4 = some r → sd_Z K rm_X11_readsNumber E sd_LM 5 (sd_QI K E sd_LM r.1 r.2) M 11 [(0, .ref (E.2.2 100)), (1, .int x1), (2, .int x2), (3, .int x3), (4, .int x4)] [] := by
  intro n
  induction n with
  | zero => intro M x1 x2 x3 x4 hF; cases hF
  | succ n ih =>
    intro M x1 x2 x3 x4 hF
    unfold fn_X11_readsNumber_11 at hF
    refine sd_aload_n C 0 dX11_readsNumber_11 rfl rfl rfl (n' := 12) ?_
    refine sd_g11_21 C sd_i100 sd_k100 sd_w1062 dX11_readsNumber_12 rfl (n' := 15) ?_
    refine sd_iload C 4 dX11_readsNumber_15 rfl rfl (n' := 17) ?_
    refine sd_isub C dX11_readsNumber_17 rfl (n' := 18) ?_
    refine sd_iconst C (v := 2) dX11_readsNumber_18 rfl rfl (n' := 19) ?_
    refine sd_icmp_ge C (n' := 22) (tgt := 70) dX11_readsNumber_19 rfl rfl (fun c19 => ?_) (fun c19 => ?_)
    · replace hF := sd_pos hF c19
      refine sd_sub [0, 2, 3, 4] rfl ?_
      exact tb_X11_readsNumber_70 C M x2 x3 x4 hF
    · replace hF := sd_neg hF c19
      refine sd_aload_n C 0 dX11_readsNumber_22 rfl rfl rfl (n' := 23) ?_
      refine sd_iload_n C 1 dX11_readsNumber_23 rfl rfl rfl (n' := 24) ?_
      obtain ⟨q24, e24, hF⟩ := sd_bind hF
      refine sd_callVI [.int x1] [] C (ct_X11_here M x1  e24) sd_lX11_131 ⟨rfl, rfl, Nat.le_of_ble_eq_true rfl, Nat.le_of_ble_eq_true rfl⟩ sd_i100 (sd_e12 sd_k100) rfl rfl rfl (Nat.le_of_ble_eq_true rfl) dX11_readsNumber_24 rfl (n' := 27) ?_
      refine sd_bipush C (v := 48) dX11_readsNumber_27 rfl rfl (n' := 29) ?_
      refine sd_bipush C (v := 57) dX11_readsNumber_29 rfl rfl (n' := 31) ?_
      obtain ⟨q31, e31, hF⟩ := sd_bind hF
      refine sd_callSI [.int q24, .int (48 : Int32), .int (57 : Int32)] [] C (ct_X11_in M q24 (48 : Int32) (57 : Int32)  e31) sd_lX11_97 ⟨rfl, rfl, Nat.le_of_ble_eq_true rfl, Nat.le_of_ble_eq_true rfl⟩ rfl (Nat.le_of_ble_eq_true rfl) dX11_readsNumber_31 rfl (n' := 34) ?_
      refine sd_if_eq C (n' := 37) (tgt := 70) dX11_readsNumber_34 rfl rfl (fun c34 => ?_) (fun c34 => ?_)
      · replace hF := sd_pos hF c34
        refine sd_sub [0, 2, 3, 4] rfl ?_
        exact tb_X11_readsNumber_70 C M x2 x3 x4 hF
      · replace hF := sd_neg hF c34
        refine sd_aload_n C 0 dX11_readsNumber_37 rfl rfl rfl (n' := 38) ?_
        refine sd_bipush C (v := 10) dX11_readsNumber_38 rfl rfl (n' := 40) ?_
        refine sd_aload_n C 0 dX11_readsNumber_40 rfl rfl rfl (n' := 41) ?_
        refine sd_g11_22 C sd_i100 sd_k100 sd_w1063 dX11_readsNumber_41 rfl (n' := 44) ?_
        refine sd_imul C dX11_readsNumber_44 rfl (n' := 45) ?_
        refine sd_aload_n C 0 dX11_readsNumber_45 rfl rfl rfl (n' := 46) ?_
        refine sd_iload_n C 1 dX11_readsNumber_46 rfl rfl rfl (n' := 47) ?_
        obtain ⟨q47, e47, hF⟩ := sd_bind hF
        refine sd_callVI [.int x1] [.int ((10 : Int32) * (M.1 100 22)), .ref (E.2.2 100)] C (ct_X11_here M x1  e47) sd_lX11_131 ⟨rfl, rfl, Nat.le_of_ble_eq_true rfl, Nat.le_of_ble_eq_true rfl⟩ sd_i100 (sd_e12 sd_k100) rfl rfl rfl (Nat.le_of_ble_eq_true rfl) dX11_readsNumber_47 rfl (n' := 50) ?_
        refine sd_iadd C dX11_readsNumber_50 rfl (n' := 51) ?_
        refine sd_bipush C (v := 48) dX11_readsNumber_51 rfl rfl (n' := 53) ?_
        refine sd_isub C dX11_readsNumber_53 rfl (n' := 54) ?_
        refine sd_p11_22 C sd_i100 sd_k100 sd_w1063 dX11_readsNumber_54 rfl (n' := 57) ?_
        refine sd_aload_n C 0 dX11_readsNumber_57 rfl rfl rfl (n' := 58) ?_
        refine sd_dup C dX11_readsNumber_58 rfl rfl (n' := 59) ?_
        refine sd_g11_21 C sd_i100 sd_k100 sd_w1062 dX11_readsNumber_59 rfl (n' := 62) ?_
        refine sd_iconst C (v := 1) dX11_readsNumber_62 rfl rfl (n' := 63) ?_
        refine sd_iadd C dX11_readsNumber_63 rfl (n' := 64) ?_
        refine sd_p11_21 C sd_i100 sd_k100 sd_w1062 dX11_readsNumber_64 rfl (n' := 67) ?_
        refine sd_goto C (tgt := 11) dX11_readsNumber_67 rfl ?_
        exact ih (sd_setI (sd_setI M 100 22 ((((10 : Int32) * (M.1 100 22)) + q47) - (48 : Int32))) 100 21 (((sd_setI M 100 22 ((((10 : Int32) * (M.1 100 22)) + q47) - (48 : Int32))).1 100 21) + (1 : Int32))) x1 x2 x3 x4 hF
set_option maxRecDepth 100000 in
set_option maxHeartbeats 4000000 in
theorem tb_X11_readsNumber_0 {K : sd_K} {E : sd_Env}   {r : (Int32 × sd_Mem)} (C : sd_C K E sd_LM RX11 cX11_readsNumber 5 (some .boolean))  : ∀ (M : sd_Mem) (x1 : Int32) (x2 : Int32) (x3 : Int32), fn_X11_readsNumber_0 M x1 x2 x3 = some r → sd_Z K rm_X11_readsNumber E sd_LM 5 (sd_QI K E sd_LM r.1 r.2) M 0 [(0, .ref (E.2.2 100)), (1, .int x1), (2, .int x2), (3, .int x3)] [] := by
  intro M x1 x2 x3 hF
  unfold fn_X11_readsNumber_0 at hF
  refine sd_aload_n C 0 dX11_readsNumber_0 rfl rfl rfl (n' := 1) ?_
  refine sd_g11_21 C sd_i100 sd_k100 sd_w1062 dX11_readsNumber_1 rfl (n' := 4) ?_
  refine sd_istore [(4, .int (M.1 100 21)), (0, .ref (E.2.2 100)), (1, .int x1), (2, .int x2), (3, .int x3)] C dX11_readsNumber_4 (by decide) rfl rfl (n' := 6) ?_
  refine sd_aload_n C 1 dX11_readsNumber_6 rfl rfl rfl (n' := 7) ?_
  refine sd_iconst C (v := 0) dX11_readsNumber_7 rfl rfl (n' := 8) ?_
  refine sd_p11_22 C sd_i100 sd_k100 sd_w1063 dX11_readsNumber_8 rfl (n' := 11) ?_
  refine sd_sub [1, 2, 3, 4, 0] rfl ?_
  exact tb_X11_readsNumber_11 C sd_FU (sd_setI M 100 22 (0 : Int32)) x1 x2 x3 (M.1 100 21) hF
theorem ct_X11_readsNumber {l : Launch} {E : sd_Env} (M : sd_Mem) (x1 : Int32) (x2 : Int32) (x3 : Int32)  {r : (Int32 × sd_Mem)} (hF : fn_X11_readsNumber M x1 x2 x3 = some r) : sd_MI l E sd_LM yX11_readsNumber cX11_readsNumber 5 (some .boolean) rm_X11_readsNumber [.ref (E.2.2 100), .int x1, .int x2, .int x3] M r.1 r.2 := sd_ent0 (by decide +kernel) (Nat.le_of_ble_eq_true rfl) (fun p e s m below meth c C => tb_X11_readsNumber_0 C M x1 x2 x3 hF)
theorem dX11_readsSort_0 : decode cX11_readsSort 0 = .ok (.aload_n 0, 1) := by decide +kernel
theorem dX11_readsSort_1 : decode cX11_readsSort 1 = .ok (.iload_n 1, 1) := by decide +kernel
theorem dX11_readsSort_2 : decode cX11_readsSort 2 = .ok (.iconst 1, 1) := by decide +kernel
theorem dX11_readsSort_3 : decode cX11_readsSort 3 = .ok (.bipush 9, 2) := by decide +kernel
theorem dX11_readsSort_5 : decode cX11_readsSort 5 = .ok (.invokevirtual 134, 3) := by decide +kernel
theorem dX11_readsSort_8 : decode cX11_readsSort 8 = .ok (.ifCond .ne 5, 3) := by decide +kernel
theorem dX11_readsSort_11 : decode cX11_readsSort 11 = .ok (.iconst 0, 1) := by decide +kernel
theorem dX11_readsSort_12 : decode cX11_readsSort 12 = .ok (.ireturn, 1) := by decide +kernel
theorem dX11_readsSort_13 : decode cX11_readsSort 13 = .ok (.iconst 3, 1) := by decide +kernel
theorem dX11_readsSort_14 : decode cX11_readsSort 14 = .ok (.iload_n 2, 1) := by decide +kernel
theorem dX11_readsSort_15 : decode cX11_readsSort 15 = .ok (.imul, 1) := by decide +kernel
theorem dX11_readsSort_16 : decode cX11_readsSort 16 = .ok (.aload_n 0, 1) := by decide +kernel
theorem dX11_readsSort_17 : decode cX11_readsSort 17 = .ok (.getfield 51, 3) := by decide +kernel
theorem dX11_readsSort_20 : decode cX11_readsSort 20 = .ok (.iload_n 2, 1) := by decide +kernel
theorem dX11_readsSort_21 : decode cX11_readsSort 21 = .ok (.iaload, 1) := by decide +kernel
theorem dX11_readsSort_22 : decode cX11_readsSort 22 = .ok (.iadd, 1) := by decide +kernel
theorem dX11_readsSort_23 : decode cX11_readsSort 23 = .ok (.istore_n 3, 1) := by decide +kernel
theorem dX11_readsSort_24 : decode cX11_readsSort 24 = .ok (.aload_n 0, 1) := by decide +kernel
theorem dX11_readsSort_25 : decode cX11_readsSort 25 = .ok (.getfield 54, 3) := by decide +kernel
theorem dX11_readsSort_28 : decode cX11_readsSort 28 = .ok (.iload_n 3, 1) := by decide +kernel
theorem dX11_readsSort_29 : decode cX11_readsSort 29 = .ok (.aload_n 0, 1) := by decide +kernel
theorem dX11_readsSort_30 : decode cX11_readsSort 30 = .ok (.getfield 128, 3) := by decide +kernel
theorem dX11_readsSort_33 : decode cX11_readsSort 33 = .ok (.iastore, 1) := by decide +kernel
theorem dX11_readsSort_34 : decode cX11_readsSort 34 = .ok (.aload_n 0, 1) := by decide +kernel
theorem dX11_readsSort_35 : decode cX11_readsSort 35 = .ok (.iload_n 1, 1) := by decide +kernel
theorem dX11_readsSort_36 : decode cX11_readsSort 36 = .ok (.invokevirtual 131, 3) := by decide +kernel
theorem dX11_readsSort_39 : decode cX11_readsSort 39 = .ok (.bipush 44, 2) := by decide +kernel
theorem dX11_readsSort_41 : decode cX11_readsSort 41 = .ok (.if_icmp .eq 5, 3) := by decide +kernel
theorem dX11_readsSort_44 : decode cX11_readsSort 44 = .ok (.iconst 0, 1) := by decide +kernel
theorem dX11_readsSort_45 : decode cX11_readsSort 45 = .ok (.ireturn, 1) := by decide +kernel
theorem dX11_readsSort_46 : decode cX11_readsSort 46 = .ok (.aload_n 0, 1) := by decide +kernel
theorem dX11_readsSort_47 : decode cX11_readsSort 47 = .ok (.dup, 1) := by decide +kernel
theorem dX11_readsSort_48 : decode cX11_readsSort 48 = .ok (.getfield 125, 3) := by decide +kernel
theorem dX11_readsSort_51 : decode cX11_readsSort 51 = .ok (.iconst 1, 1) := by decide +kernel
theorem dX11_readsSort_52 : decode cX11_readsSort 52 = .ok (.iadd, 1) := by decide +kernel
theorem dX11_readsSort_53 : decode cX11_readsSort 53 = .ok (.putfield 125, 3) := by decide +kernel
theorem dX11_readsSort_56 : decode cX11_readsSort 56 = .ok (.aload_n 0, 1) := by decide +kernel
theorem dX11_readsSort_57 : decode cX11_readsSort 57 = .ok (.iload_n 1, 1) := by decide +kernel
theorem dX11_readsSort_58 : decode cX11_readsSort 58 = .ok (.iconst 0, 1) := by decide +kernel
theorem dX11_readsSort_59 : decode cX11_readsSort 59 = .ok (.bipush 99, 2) := by decide +kernel
theorem dX11_readsSort_61 : decode cX11_readsSort 61 = .ok (.invokevirtual 134, 3) := by decide +kernel
theorem dX11_readsSort_64 : decode cX11_readsSort 64 = .ok (.ifCond .ne 5, 3) := by decide +kernel
theorem dX11_readsSort_67 : decode cX11_readsSort 67 = .ok (.iconst 0, 1) := by decide +kernel
theorem dX11_readsSort_68 : decode cX11_readsSort 68 = .ok (.ireturn, 1) := by decide +kernel
theorem dX11_readsSort_69 : decode cX11_readsSort 69 = .ok (.aload_n 0, 1) := by decide +kernel
theorem dX11_readsSort_70 : decode cX11_readsSort 70 = .ok (.getfield 57, 3) := by decide +kernel
theorem dX11_readsSort_73 : decode cX11_readsSort 73 = .ok (.iload_n 3, 1) := by decide +kernel
theorem dX11_readsSort_74 : decode cX11_readsSort 74 = .ok (.aload_n 0, 1) := by decide +kernel
theorem dX11_readsSort_75 : decode cX11_readsSort 75 = .ok (.getfield 128, 3) := by decide +kernel
theorem dX11_readsSort_78 : decode cX11_readsSort 78 = .ok (.iastore, 1) := by decide +kernel
theorem dX11_readsSort_79 : decode cX11_readsSort 79 = .ok (.aload_n 0, 1) := by decide +kernel
theorem dX11_readsSort_80 : decode cX11_readsSort 80 = .ok (.getfield 51, 3) := by decide +kernel
theorem dX11_readsSort_83 : decode cX11_readsSort 83 = .ok (.iload_n 2, 1) := by decide +kernel
theorem dX11_readsSort_84 : decode cX11_readsSort 84 = .ok (.dup2, 1) := by decide +kernel
theorem dX11_readsSort_85 : decode cX11_readsSort 85 = .ok (.iaload, 1) := by decide +kernel
theorem dX11_readsSort_86 : decode cX11_readsSort 86 = .ok (.iconst 1, 1) := by decide +kernel
theorem dX11_readsSort_87 : decode cX11_readsSort 87 = .ok (.iadd, 1) := by decide +kernel
theorem dX11_readsSort_88 : decode cX11_readsSort 88 = .ok (.iastore, 1) := by decide +kernel
theorem dX11_readsSort_89 : decode cX11_readsSort 89 = .ok (.iconst 1, 1) := by decide +kernel
theorem dX11_readsSort_90 : decode cX11_readsSort 90 = .ok (.ireturn, 1) := by decide +kernel
set_option maxRecDepth 100000 in
set_option maxHeartbeats 4000000 in
theorem tb_X11_readsSort_0 {K : sd_K} {E : sd_Env}   {r : (Int32 × sd_Mem)} (C : sd_C K E sd_LM RX11 cX11_readsSort 4 (some .boolean))  : ∀ (M : sd_Mem) (x1 : Int32) (x2 : Int32), fn_X11_readsSort_0 M x1 x2 = some r → sd_Z K rm_X11_readsSort E sd_LM 4 (sd_QI K E sd_LM r.1 r.2) M 0 [(0, .ref (E.2.2 100)), (1, .int x1), (2, .int x2)] [] := by
  intro M x1 x2 hF
  unfold fn_X11_readsSort_0 at hF
  refine sd_aload_n C 0 dX11_readsSort_0 rfl rfl rfl (n' := 1) ?_
  refine sd_iload_n C 1 dX11_readsSort_1 rfl rfl rfl (n' := 2) ?_
  refine sd_iconst C (v := 1) dX11_readsSort_2 rfl rfl (n' := 3) ?_
  refine sd_bipush C (v := 9) dX11_readsSort_3 rfl rfl (n' := 5) ?_
  obtain ⟨q5, e5, hF⟩ := sd_bind hF
  refine sd_callVI [.int x1, .int (1 : Int32), .int (9 : Int32)] [] C (ct_X11_readsNumber M x1 (1 : Int32) (9 : Int32)  e5) sd_lX11_134 ⟨rfl, rfl, Nat.le_of_ble_eq_true rfl, Nat.le_of_ble_eq_true rfl⟩ sd_i100 (sd_e12 sd_k100) rfl rfl rfl (Nat.le_of_ble_eq_true rfl) dX11_readsSort_5 rfl (n' := 8) ?_
  refine sd_if_ne C (n' := 11) (tgt := 13) dX11_readsSort_8 rfl rfl (fun c8 => ?_) (fun c8 => ?_)
  · replace hF := sd_neg hF c8
    refine sd_iconst C (v := 3) dX11_readsSort_13 rfl rfl (n' := 14) ?_
    refine sd_iload_n C 2 dX11_readsSort_14 rfl rfl rfl (n' := 15) ?_
    refine sd_imul C dX11_readsSort_15 rfl (n' := 16) ?_
    refine sd_aload_n C 0 dX11_readsSort_16 rfl rfl rfl (n' := 17) ?_
    refine sd_g11_17 C sd_i100 sd_k100 sd_w1058 dX11_readsSort_17 rfl (n' := 20) ?_
    refine sd_iload_n C 2 dX11_readsSort_20 rfl rfl rfl (n' := 21) ?_
    obtain ⟨b21, hF⟩ := sd_ok hF
    refine sd_iald C sd_i111 sd_k111 sd_n111 b21 dX11_readsSort_21 rfl (n' := 22) ?_
    refine sd_iadd C dX11_readsSort_22 rfl (n' := 23) ?_
    refine sd_istore_n [(3, .int (((3 : Int32) * x2) + (q5.2.1 111 x2.toNatClampNeg))), (0, .ref (E.2.2 100)), (1, .int x1), (2, .int x2)] C dX11_readsSort_23 rfl (by decide) rfl rfl (n' := 24) ?_
    refine sd_aload_n C 1 dX11_readsSort_24 rfl rfl rfl (n' := 25) ?_
    refine sd_g11_18 C sd_i100 sd_k100 sd_w1059 dX11_readsSort_25 rfl (n' := 28) ?_
    refine sd_iload_n C 0 dX11_readsSort_28 rfl rfl rfl (n' := 29) ?_
    refine sd_aload_n C 1 dX11_readsSort_29 rfl rfl rfl (n' := 30) ?_
    refine sd_g11_22 C sd_i100 sd_k100 sd_w1063 dX11_readsSort_30 rfl (n' := 33) ?_
    obtain ⟨b33, hF⟩ := sd_ok hF
    refine sd_iast C sd_i112 sd_k112 sd_n112 b33 dX11_readsSort_33 rfl (n' := 34) ?_
    refine sd_aload_n C 1 dX11_readsSort_34 rfl rfl rfl (n' := 35) ?_
    refine sd_iload_n C 2 dX11_readsSort_35 rfl rfl rfl (n' := 36) ?_
    obtain ⟨q36, e36, hF⟩ := sd_bind hF
    refine sd_callVI [.int x1] [] C (ct_X11_here (sd_setI q5.2 112 (((3 : Int32) * x2) + (q5.2.1 111 x2.toNatClampNeg)).toNatClampNeg (q5.2.1 100 22)) x1  e36) sd_lX11_131 ⟨rfl, rfl, Nat.le_of_ble_eq_true rfl, Nat.le_of_ble_eq_true rfl⟩ sd_i100 (sd_e12 sd_k100) rfl rfl rfl (Nat.le_of_ble_eq_true rfl) dX11_readsSort_36 rfl (n' := 39) ?_
    refine sd_bipush C (v := 44) dX11_readsSort_39 rfl rfl (n' := 41) ?_
    refine sd_icmp_eq C (n' := 44) (tgt := 46) dX11_readsSort_41 rfl rfl (fun c41 => ?_) (fun c41 => ?_)
    · replace hF := sd_pos hF c41
      refine sd_aload_n C 1 dX11_readsSort_46 rfl rfl rfl (n' := 47) ?_
      refine sd_dup C dX11_readsSort_47 rfl rfl (n' := 48) ?_
      refine sd_g11_21 C sd_i100 sd_k100 sd_w1062 dX11_readsSort_48 rfl (n' := 51) ?_
      refine sd_iconst C (v := 1) dX11_readsSort_51 rfl rfl (n' := 52) ?_
      refine sd_iadd C dX11_readsSort_52 rfl (n' := 53) ?_
      refine sd_p11_21 C sd_i100 sd_k100 sd_w1062 dX11_readsSort_53 rfl (n' := 56) ?_
      refine sd_aload_n C 1 dX11_readsSort_56 rfl rfl rfl (n' := 57) ?_
      refine sd_iload_n C 2 dX11_readsSort_57 rfl rfl rfl (n' := 58) ?_
      refine sd_iconst C (v := 0) dX11_readsSort_58 rfl rfl (n' := 59) ?_
      refine sd_bipush C (v := 99) dX11_readsSort_59 rfl rfl (n' := 61) ?_
      obtain ⟨q61, e61, hF⟩ := sd_bind hF
      refine sd_callVI [.int x1, .int (0 : Int32), .int (99 : Int32)] [] C (ct_X11_readsNumber (sd_setI (sd_setI q5.2 112 (((3 : Int32) * x2) + (q5.2.1 111 x2.toNatClampNeg)).toNatClampNeg (q5.2.1 100 22)) 100 21 (((sd_setI q5.2 112 (((3 : Int32) * x2) + (q5.2.1 111 x2.toNatClampNeg)).toNatClampNeg (q5.2.1 100 22)).1 100 21) + (1 : Int32))) x1 (0 : Int32) (99 : Int32)  e61) sd_lX11_134 ⟨rfl, rfl, Nat.le_of_ble_eq_true rfl, Nat.le_of_ble_eq_true rfl⟩ sd_i100 (sd_e12 sd_k100) rfl rfl rfl (Nat.le_of_ble_eq_true rfl) dX11_readsSort_61 rfl (n' := 64) ?_
      refine sd_if_ne C (n' := 67) (tgt := 69) dX11_readsSort_64 rfl rfl (fun c64 => ?_) (fun c64 => ?_)
      · replace hF := sd_neg hF c64
        refine sd_aload_n C 1 dX11_readsSort_69 rfl rfl rfl (n' := 70) ?_
        refine sd_g11_19 C sd_i100 sd_k100 sd_w1060 dX11_readsSort_70 rfl (n' := 73) ?_
        refine sd_iload_n C 0 dX11_readsSort_73 rfl rfl rfl (n' := 74) ?_
        refine sd_aload_n C 1 dX11_readsSort_74 rfl rfl rfl (n' := 75) ?_
        refine sd_g11_22 C sd_i100 sd_k100 sd_w1063 dX11_readsSort_75 rfl (n' := 78) ?_
        obtain ⟨b78, hF⟩ := sd_ok hF
        refine sd_iast C sd_i113 sd_k113 sd_n113 b78 dX11_readsSort_78 rfl (n' := 79) ?_
        refine sd_aload_n C 1 dX11_readsSort_79 rfl rfl rfl (n' := 80) ?_
        refine sd_g11_17 C sd_i100 sd_k100 sd_w1058 dX11_readsSort_80 rfl (n' := 83) ?_
        refine sd_iload_n C 3 dX11_readsSort_83 rfl rfl rfl (n' := 84) ?_
        refine sd_dup2 C dX11_readsSort_84 rfl rfl rfl (n' := 85) ?_
        obtain ⟨b85, hF⟩ := sd_ok hF
        refine sd_iald C sd_i111 sd_k111 sd_n111 b85 dX11_readsSort_85 rfl (n' := 86) ?_
        refine sd_iconst C (v := 1) dX11_readsSort_86 rfl rfl (n' := 87) ?_
        refine sd_iadd C dX11_readsSort_87 rfl (n' := 88) ?_
        obtain ⟨b88, hF⟩ := sd_ok hF
        refine sd_iast C sd_i111 sd_k111 sd_n111 b88 dX11_readsSort_88 rfl (n' := 89) ?_
        refine sd_iconst C (v := 1) dX11_readsSort_89 rfl rfl (n' := 90) ?_
        exact sd_zret C dX11_readsSort_90 rfl (sd_fst hF) (sd_snd hF)
      · replace hF := sd_pos hF c64
        refine sd_iconst C (v := 0) dX11_readsSort_67 rfl rfl (n' := 68) ?_
        exact sd_zret C dX11_readsSort_68 rfl (sd_fst hF) (sd_snd hF)
    · replace hF := sd_neg hF c41
      refine sd_iconst C (v := 0) dX11_readsSort_44 rfl rfl (n' := 45) ?_
      exact sd_zret C dX11_readsSort_45 rfl (sd_fst hF) (sd_snd hF)
  · replace hF := sd_pos hF c8
    refine sd_iconst C (v := 0) dX11_readsSort_11 rfl rfl (n' := 12) ?_
    exact sd_zret C dX11_readsSort_12 rfl (sd_fst hF) (sd_snd hF)
theorem ct_X11_readsSort {l : Launch} {E : sd_Env} (M : sd_Mem) (x1 : Int32) (x2 : Int32)  {r : (Int32 × sd_Mem)} (hF : fn_X11_readsSort M x1 x2 = some r) : sd_MI l E sd_LM yX11_readsSort cX11_readsSort 4 (some .boolean) rm_X11_readsSort [.ref (E.2.2 100), .int x1, .int x2] M r.1 r.2 := sd_ent0 (by decide +kernel) (Nat.le_of_ble_eq_true rfl) (fun p e s m below meth c C => tb_X11_readsSort_0 C M x1 x2 hF)
theorem dX11_reads_0 : decode cX11_reads 0 = .ok (.aload_n 0, 1) := by decide +kernel
theorem dX11_reads_1 : decode cX11_reads 1 = .ok (.getfield 51, 3) := by decide +kernel
theorem dX11_reads_4 : decode cX11_reads 4 = .ok (.iconst 0, 1) := by decide +kernel
theorem dX11_reads_5 : decode cX11_reads 5 = .ok (.iconst 0, 1) := by decide +kernel
theorem dX11_reads_6 : decode cX11_reads 6 = .ok (.iastore, 1) := by decide +kernel
theorem dX11_reads_7 : decode cX11_reads 7 = .ok (.aload_n 0, 1) := by decide +kernel
theorem dX11_reads_8 : decode cX11_reads 8 = .ok (.getfield 51, 3) := by decide +kernel
theorem dX11_reads_11 : decode cX11_reads 11 = .ok (.iconst 1, 1) := by decide +kernel
theorem dX11_reads_12 : decode cX11_reads 12 = .ok (.iconst 0, 1) := by decide +kernel
theorem dX11_reads_13 : decode cX11_reads 13 = .ok (.iastore, 1) := by decide +kernel
theorem dX11_reads_14 : decode cX11_reads 14 = .ok (.aload_n 0, 1) := by decide +kernel
theorem dX11_reads_15 : decode cX11_reads 15 = .ok (.getfield 60, 3) := by decide +kernel
theorem dX11_reads_18 : decode cX11_reads 18 = .ok (.iconst 0, 1) := by decide +kernel
theorem dX11_reads_19 : decode cX11_reads 19 = .ok (.bipush 10, 2) := by decide +kernel
theorem dX11_reads_21 : decode cX11_reads 21 = .ok (.iastore, 1) := by decide +kernel
theorem dX11_reads_22 : decode cX11_reads 22 = .ok (.aload_n 0, 1) := by decide +kernel
theorem dX11_reads_23 : decode cX11_reads 23 = .ok (.getfield 60, 3) := by decide +kernel
theorem dX11_reads_26 : decode cX11_reads 26 = .ok (.iconst 1, 1) := by decide +kernel
theorem dX11_reads_27 : decode cX11_reads 27 = .ok (.bipush 20, 2) := by decide +kernel
theorem dX11_reads_29 : decode cX11_reads 29 = .ok (.iastore, 1) := by decide +kernel
theorem dX11_reads_30 : decode cX11_reads 30 = .ok (.aload_n 0, 1) := by decide +kernel
theorem dX11_reads_31 : decode cX11_reads 31 = .ok (.getfield 60, 3) := by decide +kernel
theorem dX11_reads_34 : decode cX11_reads 34 = .ok (.iconst 2, 1) := by decide +kernel
theorem dX11_reads_35 : decode cX11_reads 35 = .ok (.iconst 5, 1) := by decide +kernel
theorem dX11_reads_36 : decode cX11_reads 36 = .ok (.iastore, 1) := by decide +kernel
theorem dX11_reads_37 : decode cX11_reads 37 = .ok (.aload_n 0, 1) := by decide +kernel
theorem dX11_reads_38 : decode cX11_reads 38 = .ok (.getfield 60, 3) := by decide +kernel
theorem dX11_reads_41 : decode cX11_reads 41 = .ok (.iconst 3, 1) := by decide +kernel
theorem dX11_reads_42 : decode cX11_reads 42 = .ok (.iconst 5, 1) := by decide +kernel
theorem dX11_reads_43 : decode cX11_reads 43 = .ok (.iastore, 1) := by decide +kernel
theorem dX11_reads_44 : decode cX11_reads 44 = .ok (.aload_n 0, 1) := by decide +kernel
theorem dX11_reads_45 : decode cX11_reads 45 = .ok (.iconst 0, 1) := by decide +kernel
theorem dX11_reads_46 : decode cX11_reads 46 = .ok (.putfield 125, 3) := by decide +kernel
theorem dX11_reads_49 : decode cX11_reads 49 = .ok (.aload_n 0, 1) := by decide +kernel
theorem dX11_reads_50 : decode cX11_reads 50 = .ok (.getfield 125, 3) := by decide +kernel
theorem dX11_reads_53 : decode cX11_reads 53 = .ok (.aload_n 0, 1) := by decide +kernel
theorem dX11_reads_54 : decode cX11_reads 54 = .ok (.getfield 26, 3) := by decide +kernel
theorem dX11_reads_57 : decode cX11_reads 57 = .ok (.iload_n 1, 1) := by decide +kernel
theorem dX11_reads_58 : decode cX11_reads 58 = .ok (.iaload, 1) := by decide +kernel
theorem dX11_reads_59 : decode cX11_reads 59 = .ok (.if_icmp .ge 195, 3) := by decide +kernel
theorem dX11_reads_62 : decode cX11_reads 62 = .ok (.aload_n 0, 1) := by decide +kernel
theorem dX11_reads_63 : decode cX11_reads 63 = .ok (.iload_n 1, 1) := by decide +kernel
theorem dX11_reads_64 : decode cX11_reads 64 = .ok (.invokevirtual 131, 3) := by decide +kernel
theorem dX11_reads_67 : decode cX11_reads 67 = .ok (.istore_n 2, 1) := by decide +kernel
theorem dX11_reads_68 : decode cX11_reads 68 = .ok (.iload_n 2, 1) := by decide +kernel
theorem dX11_reads_69 : decode cX11_reads 69 = .ok (.bipush 32, 2) := by decide +kernel
theorem dX11_reads_71 : decode cX11_reads 71 = .ok (.if_icmp .ne 16, 3) := by decide +kernel
theorem dX11_reads_74 : decode cX11_reads 74 = .ok (.aload_n 0, 1) := by decide +kernel
theorem dX11_reads_75 : decode cX11_reads 75 = .ok (.dup, 1) := by decide +kernel
theorem dX11_reads_76 : decode cX11_reads 76 = .ok (.getfield 125, 3) := by decide +kernel
theorem dX11_reads_79 : decode cX11_reads 79 = .ok (.iconst 1, 1) := by decide +kernel
theorem dX11_reads_80 : decode cX11_reads 80 = .ok (.iadd, 1) := by decide +kernel
theorem dX11_reads_81 : decode cX11_reads 81 = .ok (.putfield 125, 3) := by decide +kernel
theorem dX11_reads_84 : decode cX11_reads 84 = .ok (.goto (-35), 3) := by decide +kernel
theorem dX11_reads_87 : decode cX11_reads 87 = .ok (.iload_n 2, 1) := by decide +kernel
theorem dX11_reads_88 : decode cX11_reads 88 = .ok (.bipush 109, 2) := by decide +kernel
theorem dX11_reads_90 : decode cX11_reads 90 = .ok (.if_icmp .ne 7, 3) := by decide +kernel
theorem dX11_reads_93 : decode cX11_reads 93 = .ok (.iconst 0, 1) := by decide +kernel
theorem dX11_reads_94 : decode cX11_reads 94 = .ok (.goto 15, 3) := by decide +kernel
theorem dX11_reads_97 : decode cX11_reads 97 = .ok (.iload_n 2, 1) := by decide +kernel
theorem dX11_reads_98 : decode cX11_reads 98 = .ok (.bipush 111, 2) := by decide +kernel
theorem dX11_reads_100 : decode cX11_reads 100 = .ok (.if_icmp .ne 7, 3) := by decide +kernel
theorem dX11_reads_103 : decode cX11_reads 103 = .ok (.iconst 1, 1) := by decide +kernel
theorem dX11_reads_104 : decode cX11_reads 104 = .ok (.goto 5, 3) := by decide +kernel
theorem dX11_reads_107 : decode cX11_reads 107 = .ok (.bipush (-9), 2) := by decide +kernel
theorem dX11_reads_109 : decode cX11_reads 109 = .ok (.istore_n 3, 1) := by decide +kernel
theorem dX11_reads_110 : decode cX11_reads 110 = .ok (.iload_n 2, 1) := by decide +kernel
theorem dX11_reads_111 : decode cX11_reads 111 = .ok (.invokestatic 137, 3) := by decide +kernel
theorem dX11_reads_114 : decode cX11_reads 114 = .ok (.istore 4, 2) := by decide +kernel
theorem dX11_reads_116 : decode cX11_reads 116 = .ok (.iload_n 3, 1) := by decide +kernel
theorem dX11_reads_117 : decode cX11_reads 117 = .ok (.ifCond .ge 8, 3) := by decide +kernel
theorem dX11_reads_120 : decode cX11_reads 120 = .ok (.iload 4, 2) := by decide +kernel
theorem dX11_reads_122 : decode cX11_reads 122 = .ok (.ifCond .lt 17, 3) := by decide +kernel
theorem dX11_reads_125 : decode cX11_reads 125 = .ok (.iload_n 3, 1) := by decide +kernel
theorem dX11_reads_126 : decode cX11_reads 126 = .ok (.ifCond .lt 18, 3) := by decide +kernel
theorem dX11_reads_129 : decode cX11_reads 129 = .ok (.aload_n 0, 1) := by decide +kernel
theorem dX11_reads_130 : decode cX11_reads 130 = .ok (.getfield 51, 3) := by decide +kernel
theorem dX11_reads_133 : decode cX11_reads 133 = .ok (.iload_n 3, 1) := by decide +kernel
theorem dX11_reads_134 : decode cX11_reads 134 = .ok (.iaload, 1) := by decide +kernel
theorem dX11_reads_135 : decode cX11_reads 135 = .ok (.iconst 3, 1) := by decide +kernel
theorem dX11_reads_136 : decode cX11_reads 136 = .ok (.if_icmp .ne 8, 3) := by decide +kernel
theorem dX11_reads_139 : decode cX11_reads 139 = .ok (.aload_n 0, 1) := by decide +kernel
theorem dX11_reads_140 : decode cX11_reads 140 = .ok (.getfield 125, 3) := by decide +kernel
theorem dX11_reads_143 : decode cX11_reads 143 = .ok (.ireturn, 1) := by decide +kernel
theorem dX11_reads_144 : decode cX11_reads 144 = .ok (.aload_n 0, 1) := by decide +kernel
theorem dX11_reads_145 : decode cX11_reads 145 = .ok (.dup, 1) := by decide +kernel
theorem dX11_reads_146 : decode cX11_reads 146 = .ok (.getfield 125, 3) := by decide +kernel
theorem dX11_reads_149 : decode cX11_reads 149 = .ok (.iconst 1, 1) := by decide +kernel
theorem dX11_reads_150 : decode cX11_reads 150 = .ok (.iadd, 1) := by decide +kernel
theorem dX11_reads_151 : decode cX11_reads 151 = .ok (.putfield 125, 3) := by decide +kernel
theorem dX11_reads_154 : decode cX11_reads 154 = .ok (.iload_n 3, 1) := by decide +kernel
theorem dX11_reads_155 : decode cX11_reads 155 = .ok (.ifCond .lt 12, 3) := by decide +kernel
theorem dX11_reads_158 : decode cX11_reads 158 = .ok (.aload_n 0, 1) := by decide +kernel
theorem dX11_reads_159 : decode cX11_reads 159 = .ok (.iload_n 1, 1) := by decide +kernel
theorem dX11_reads_160 : decode cX11_reads 160 = .ok (.iload_n 3, 1) := by decide +kernel
theorem dX11_reads_161 : decode cX11_reads 161 = .ok (.invokevirtual 140, 3) := by decide +kernel
theorem dX11_reads_164 : decode cX11_reads 164 = .ok (.goto 59, 3) := by decide +kernel
theorem dX11_reads_167 : decode cX11_reads 167 = .ok (.aload_n 0, 1) := by decide +kernel
theorem dX11_reads_168 : decode cX11_reads 168 = .ok (.iload_n 1, 1) := by decide +kernel
theorem dX11_reads_169 : decode cX11_reads 169 = .ok (.iload 4, 2) := by decide +kernel
theorem dX11_reads_171 : decode cX11_reads 171 = .ok (.iconst 1, 1) := by decide +kernel
theorem dX11_reads_172 : decode cX11_reads 172 = .ok (.if_icmp .eq 9, 3) := by decide +kernel
theorem dX11_reads_175 : decode cX11_reads 175 = .ok (.iload 4, 2) := by decide +kernel
theorem dX11_reads_177 : decode cX11_reads 177 = .ok (.iconst 2, 1) := by decide +kernel
theorem dX11_reads_178 : decode cX11_reads 178 = .ok (.if_icmp .ne 7, 3) := by decide +kernel
theorem dX11_reads_181 : decode cX11_reads 181 = .ok (.iconst 1, 1) := by decide +kernel
theorem dX11_reads_182 : decode cX11_reads 182 = .ok (.goto 4, 3) := by decide +kernel
theorem dX11_reads_185 : decode cX11_reads 185 = .ok (.iconst 0, 1) := by decide +kernel
theorem dX11_reads_186 : decode cX11_reads 186 = .ok (.iload 4, 2) := by decide +kernel
theorem dX11_reads_188 : decode cX11_reads 188 = .ok (.ifCond .ne 8, 3) := by decide +kernel
theorem dX11_reads_191 : decode cX11_reads 191 = .ok (.bipush 99, 2) := by decide +kernel
theorem dX11_reads_193 : decode cX11_reads 193 = .ok (.goto 27, 3) := by decide +kernel
theorem dX11_reads_196 : decode cX11_reads 196 = .ok (.iload 4, 2) := by decide +kernel
theorem dX11_reads_198 : decode cX11_reads 198 = .ok (.iconst 1, 1) := by decide +kernel
theorem dX11_reads_199 : decode cX11_reads 199 = .ok (.if_icmp .ne 8, 3) := by decide +kernel
theorem dX11_reads_202 : decode cX11_reads 202 = .ok (.bipush 40, 2) := by decide +kernel
theorem dX11_reads_204 : decode cX11_reads 204 = .ok (.goto 16, 3) := by decide +kernel
theorem dX11_reads_207 : decode cX11_reads 207 = .ok (.iload 4, 2) := by decide +kernel
theorem dX11_reads_209 : decode cX11_reads 209 = .ok (.iconst 2, 1) := by decide +kernel
theorem dX11_reads_210 : decode cX11_reads 210 = .ok (.if_icmp .ne 8, 3) := by decide +kernel
theorem dX11_reads_213 : decode cX11_reads 213 = .ok (.bipush 10, 2) := by decide +kernel
theorem dX11_reads_215 : decode cX11_reads 215 = .ok (.goto 5, 3) := by decide +kernel
theorem dX11_reads_218 : decode cX11_reads 218 = .ok (.bipush 12, 2) := by decide +kernel
theorem dX11_reads_220 : decode cX11_reads 220 = .ok (.invokevirtual 134, 3) := by decide +kernel
theorem dX11_reads_223 : decode cX11_reads 223 = .ok (.istore 5, 2) := by decide +kernel
theorem dX11_reads_225 : decode cX11_reads 225 = .ok (.iload 5, 2) := by decide +kernel
theorem dX11_reads_227 : decode cX11_reads 227 = .ok (.ifCond .ne 8, 3) := by decide +kernel
theorem dX11_reads_230 : decode cX11_reads 230 = .ok (.aload_n 0, 1) := by decide +kernel
theorem dX11_reads_231 : decode cX11_reads 231 = .ok (.getfield 125, 3) := by decide +kernel
theorem dX11_reads_234 : decode cX11_reads 234 = .ok (.ireturn, 1) := by decide +kernel
theorem dX11_reads_235 : decode cX11_reads 235 = .ok (.iload 4, 2) := by decide +kernel
theorem dX11_reads_237 : decode cX11_reads 237 = .ok (.ifCond .lt 14, 3) := by decide +kernel
theorem dX11_reads_240 : decode cX11_reads 240 = .ok (.aload_n 0, 1) := by decide +kernel
theorem dX11_reads_241 : decode cX11_reads 241 = .ok (.getfield 60, 3) := by decide +kernel
theorem dX11_reads_244 : decode cX11_reads 244 = .ok (.iload 4, 2) := by decide +kernel
theorem dX11_reads_246 : decode cX11_reads 246 = .ok (.aload_n 0, 1) := by decide +kernel
theorem dX11_reads_247 : decode cX11_reads 247 = .ok (.getfield 128, 3) := by decide +kernel
theorem dX11_reads_250 : decode cX11_reads 250 = .ok (.iastore, 1) := by decide +kernel
theorem dX11_reads_251 : decode cX11_reads 251 = .ok (.goto (-202), 3) := by decide +kernel
theorem dX11_reads_254 : decode cX11_reads 254 = .ok (.aload_n 0, 1) := by decide +kernel
theorem dX11_reads_255 : decode cX11_reads 255 = .ok (.getfield 51, 3) := by decide +kernel
theorem dX11_reads_258 : decode cX11_reads 258 = .ok (.iconst 0, 1) := by decide +kernel
theorem dX11_reads_259 : decode cX11_reads 259 = .ok (.iaload, 1) := by decide +kernel
theorem dX11_reads_260 : decode cX11_reads 260 = .ok (.ifCond .eq 27, 3) := by decide +kernel
theorem dX11_reads_263 : decode cX11_reads 263 = .ok (.aload_n 0, 1) := by decide +kernel
theorem dX11_reads_264 : decode cX11_reads 264 = .ok (.getfield 51, 3) := by decide +kernel
theorem dX11_reads_267 : decode cX11_reads 267 = .ok (.iconst 1, 1) := by decide +kernel
theorem dX11_reads_268 : decode cX11_reads 268 = .ok (.iaload, 1) := by decide +kernel
theorem dX11_reads_269 : decode cX11_reads 269 = .ok (.ifCond .eq 18, 3) := by decide +kernel
theorem dX11_reads_272 : decode cX11_reads 272 = .ok (.aload_n 0, 1) := by decide +kernel
theorem dX11_reads_273 : decode cX11_reads 273 = .ok (.getfield 60, 3) := by decide +kernel
theorem dX11_reads_276 : decode cX11_reads 276 = .ok (.iconst 2, 1) := by decide +kernel
theorem dX11_reads_277 : decode cX11_reads 277 = .ok (.iaload, 1) := by decide +kernel
theorem dX11_reads_278 : decode cX11_reads 278 = .ok (.aload_n 0, 1) := by decide +kernel
theorem dX11_reads_279 : decode cX11_reads 279 = .ok (.getfield 60, 3) := by decide +kernel
theorem dX11_reads_282 : decode cX11_reads 282 = .ok (.iconst 1, 1) := by decide +kernel
theorem dX11_reads_283 : decode cX11_reads 283 = .ok (.iaload, 1) := by decide +kernel
theorem dX11_reads_284 : decode cX11_reads 284 = .ok (.if_icmp .le 12, 3) := by decide +kernel
theorem dX11_reads_287 : decode cX11_reads 287 = .ok (.aload_n 0, 1) := by decide +kernel
theorem dX11_reads_288 : decode cX11_reads 288 = .ok (.getfield 26, 3) := by decide +kernel
theorem dX11_reads_291 : decode cX11_reads 291 = .ok (.iload_n 1, 1) := by decide +kernel
theorem dX11_reads_292 : decode cX11_reads 292 = .ok (.iaload, 1) := by decide +kernel
theorem dX11_reads_293 : decode cX11_reads 293 = .ok (.goto 5, 3) := by decide +kernel
theorem dX11_reads_296 : decode cX11_reads 296 = .ok (.bipush (-9), 2) := by decide +kernel
theorem dX11_reads_298 : decode cX11_reads 298 = .ok (.ireturn, 1) := by decide +kernel
set_option maxRecDepth 100000 in
set_option maxHeartbeats 4000000 in
theorem tb_X11_reads_223 {K : sd_K} {E : sd_Env}   {r : (Int32 × sd_Mem)} (C : sd_C K E sd_LM RX11 cX11_reads 6 (some .int))  {k49 : sd_Mem → Int32 → Option (Int32 × sd_Mem)} (hk49 : ∀ (M : sd_Mem) (x1 : Int32), k49 M x1 = some r → sd_Z K rm_X11_reads E sd_LM 6 (sd_QI K E sd_LM r.1 r.2) M 49 [(0, .ref (E.2.2 100)), (1, .int x1)] []) : ∀ (M : sd_Mem) (x1 : Int32) (x4 : Int32) (xs0 : Int32), fn_X11_reads_223 k49 M x1 x4 xs0 = some r → sd_Z K rm_X11_reads E sd_LM 6 (sd_QI K E sd_LM r.1 r.2) M 223 [(0, .ref (E.2.2 100)), (1, .int x1), (4, .int x4)] [.int xs0] := by
  intro M x1 x4 xs0 hF
  unfold fn_X11_reads_223 at hF
  refine sd_istore [(5, .int xs0), (0, .ref (E.2.2 100)), (1, .int x1), (4, .int x4)] C dX11_reads_223 (by decide) rfl rfl (n' := 225) ?_
  refine sd_iload C 0 dX11_reads_225 rfl rfl (n' := 227) ?_
  refine sd_if_ne C (n' := 230) (tgt := 235) dX11_reads_227 rfl rfl (fun c227 => ?_) (fun c227 => ?_)
  · replace hF := sd_neg hF c227
    refine sd_iload C 3 dX11_reads_235 rfl rfl (n' := 237) ?_
    refine sd_if_lt C (n' := 240) (tgt := 251) dX11_reads_237 rfl rfl (fun c237 => ?_) (fun c237 => ?_)
    · replace hF := sd_pos hF c237
      refine sd_goto C (tgt := 49) dX11_reads_251 rfl ?_
      refine sd_sub [1, 2] rfl ?_
      exact hk49 M x1 hF
    · replace hF := sd_neg hF c237
      refine sd_aload_n C 1 dX11_reads_240 rfl rfl rfl (n' := 241) ?_
      refine sd_g11_20 C sd_i100 sd_k100 sd_w1061 dX11_reads_241 rfl (n' := 244) ?_
      refine sd_iload C 3 dX11_reads_244 rfl rfl (n' := 246) ?_
      refine sd_aload_n C 1 dX11_reads_246 rfl rfl rfl (n' := 247) ?_
      refine sd_g11_22 C sd_i100 sd_k100 sd_w1063 dX11_reads_247 rfl (n' := 250) ?_
      obtain ⟨b250, hF⟩ := sd_ok hF
      refine sd_iast C sd_i114 sd_k114 sd_n114 b250 dX11_reads_250 rfl (n' := 251) ?_
      refine sd_goto C (tgt := 49) dX11_reads_251 rfl ?_
      refine sd_sub [1, 2] rfl ?_
      exact hk49 (sd_setI M 114 x4.toNatClampNeg (M.1 100 22)) x1 hF
  · replace hF := sd_pos hF c227
    refine sd_aload_n C 1 dX11_reads_230 rfl rfl rfl (n' := 231) ?_
    refine sd_g11_21 C sd_i100 sd_k100 sd_w1062 dX11_reads_231 rfl (n' := 234) ?_
    exact sd_iret C dX11_reads_234 (sd_fst hF) (sd_snd hF)
set_option maxRecDepth 100000 in
set_option maxHeartbeats 4000000 in
theorem tb_X11_reads_186 {K : sd_K} {E : sd_Env}   {r : (Int32 × sd_Mem)} (C : sd_C K E sd_LM RX11 cX11_reads 6 (some .int))  {k49 : sd_Mem → Int32 → Option (Int32 × sd_Mem)} (hk49 : ∀ (M : sd_Mem) (x1 : Int32), k49 M x1 = some r → sd_Z K rm_X11_reads E sd_LM 6 (sd_QI K E sd_LM r.1 r.2) M 49 [(0, .ref (E.2.2 100)), (1, .int x1)] []) : ∀ (M : sd_Mem) (x1 : Int32) (x4 : Int32) (xs0 : Int32) (xs1 : Int32), fn_X11_reads_186 k49 M x1 x4 xs0 xs1 = some r → sd_Z K rm_X11_reads E sd_LM 6 (sd_QI K E sd_LM r.1 r.2) M 186 [(0, .ref (E.2.2 100)), (1, .int x1), (4, .int x4)] [.int xs0, .int xs1, .ref (E.2.2 100)] := by
  intro M x1 x4 xs0 xs1 hF
  unfold fn_X11_reads_186 at hF
  refine sd_iload C 2 dX11_reads_186 rfl rfl (n' := 188) ?_
  refine sd_if_ne C (n' := 191) (tgt := 196) dX11_reads_188 rfl rfl (fun c188 => ?_) (fun c188 => ?_)
  · replace hF := sd_neg hF c188
    refine sd_iload C 2 dX11_reads_196 rfl rfl (n' := 198) ?_
    refine sd_iconst C (v := 1) dX11_reads_198 rfl rfl (n' := 199) ?_
    refine sd_icmp_ne C (n' := 202) (tgt := 207) dX11_reads_199 rfl rfl (fun c199 => ?_) (fun c199 => ?_)
    · replace hF := sd_neg hF c199
      refine sd_iload C 2 dX11_reads_207 rfl rfl (n' := 209) ?_
      refine sd_iconst C (v := 2) dX11_reads_209 rfl rfl (n' := 210) ?_
      refine sd_icmp_ne C (n' := 213) (tgt := 218) dX11_reads_210 rfl rfl (fun c210 => ?_) (fun c210 => ?_)
      · replace hF := sd_neg hF c210
        refine sd_bipush C (v := 12) dX11_reads_218 rfl rfl (n' := 220) ?_
        obtain ⟨q220, e220, hF⟩ := sd_bind hF
        refine sd_callVI [.int xs1, .int xs0, .int (12 : Int32)] [] C (ct_X11_readsNumber M xs1 xs0 (12 : Int32)  e220) sd_lX11_134 ⟨rfl, rfl, Nat.le_of_ble_eq_true rfl, Nat.le_of_ble_eq_true rfl⟩ sd_i100 (sd_e12 sd_k100) rfl rfl rfl (Nat.le_of_ble_eq_true rfl) dX11_reads_220 rfl (n' := 223) ?_
        exact tb_X11_reads_223 C hk49 q220.2 x1 x4 q220.1 hF
      · replace hF := sd_pos hF c210
        refine sd_bipush C (v := 10) dX11_reads_213 rfl rfl (n' := 215) ?_
        refine sd_goto C (tgt := 220) dX11_reads_215 rfl ?_
        obtain ⟨q220, e220, hF⟩ := sd_bind hF
        refine sd_callVI [.int xs1, .int xs0, .int (10 : Int32)] [] C (ct_X11_readsNumber M xs1 xs0 (10 : Int32)  e220) sd_lX11_134 ⟨rfl, rfl, Nat.le_of_ble_eq_true rfl, Nat.le_of_ble_eq_true rfl⟩ sd_i100 (sd_e12 sd_k100) rfl rfl rfl (Nat.le_of_ble_eq_true rfl) dX11_reads_220 rfl (n' := 223) ?_
        exact tb_X11_reads_223 C hk49 q220.2 x1 x4 q220.1 hF
    · replace hF := sd_pos hF c199
      refine sd_bipush C (v := 40) dX11_reads_202 rfl rfl (n' := 204) ?_
      refine sd_goto C (tgt := 220) dX11_reads_204 rfl ?_
      obtain ⟨q220, e220, hF⟩ := sd_bind hF
      refine sd_callVI [.int xs1, .int xs0, .int (40 : Int32)] [] C (ct_X11_readsNumber M xs1 xs0 (40 : Int32)  e220) sd_lX11_134 ⟨rfl, rfl, Nat.le_of_ble_eq_true rfl, Nat.le_of_ble_eq_true rfl⟩ sd_i100 (sd_e12 sd_k100) rfl rfl rfl (Nat.le_of_ble_eq_true rfl) dX11_reads_220 rfl (n' := 223) ?_
      exact tb_X11_reads_223 C hk49 q220.2 x1 x4 q220.1 hF
  · replace hF := sd_pos hF c188
    refine sd_bipush C (v := 99) dX11_reads_191 rfl rfl (n' := 193) ?_
    refine sd_goto C (tgt := 220) dX11_reads_193 rfl ?_
    obtain ⟨q220, e220, hF⟩ := sd_bind hF
    refine sd_callVI [.int xs1, .int xs0, .int (99 : Int32)] [] C (ct_X11_readsNumber M xs1 xs0 (99 : Int32)  e220) sd_lX11_134 ⟨rfl, rfl, Nat.le_of_ble_eq_true rfl, Nat.le_of_ble_eq_true rfl⟩ sd_i100 (sd_e12 sd_k100) rfl rfl rfl (Nat.le_of_ble_eq_true rfl) dX11_reads_220 rfl (n' := 223) ?_
    exact tb_X11_reads_223 C hk49 q220.2 x1 x4 q220.1 hF
set_option maxRecDepth 100000 in
set_option maxHeartbeats 4000000 in
theorem tb_X11_reads_144 {K : sd_K} {E : sd_Env}   {r : (Int32 × sd_Mem)} (C : sd_C K E sd_LM RX11 cX11_reads 6 (some .int))  {k49 : sd_Mem → Int32 → Option (Int32 × sd_Mem)} (hk49 : ∀ (M : sd_Mem) (x1 : Int32), k49 M x1 = some r → sd_Z K rm_X11_reads E sd_LM 6 (sd_QI K E sd_LM r.1 r.2) M 49 [(0, .ref (E.2.2 100)), (1, .int x1)] []) : ∀ (M : sd_Mem) (x1 : Int32) (x3 : Int32) (x4 : Int32), fn_X11_reads_144 k49 M x1 x3 x4 = some r → sd_Z K rm_X11_reads E sd_LM 6 (sd_QI K E sd_LM r.1 r.2) M 144 [(0, .ref (E.2.2 100)), (1, .int x1), (3, .int x3), (4, .int x4)] [] := by
  intro M x1 x3 x4 hF
  unfold fn_X11_reads_144 at hF
  refine sd_aload_n C 0 dX11_reads_144 rfl rfl rfl (n' := 145) ?_
  refine sd_dup C dX11_reads_145 rfl rfl (n' := 146) ?_
  refine sd_g11_21 C sd_i100 sd_k100 sd_w1062 dX11_reads_146 rfl (n' := 149) ?_
  refine sd_iconst C (v := 1) dX11_reads_149 rfl rfl (n' := 150) ?_
  refine sd_iadd C dX11_reads_150 rfl (n' := 151) ?_
  refine sd_p11_21 C sd_i100 sd_k100 sd_w1062 dX11_reads_151 rfl (n' := 154) ?_
  refine sd_iload_n C 2 dX11_reads_154 rfl rfl rfl (n' := 155) ?_
  refine sd_if_lt C (n' := 158) (tgt := 167) dX11_reads_155 rfl rfl (fun c155 => ?_) (fun c155 => ?_)
  · replace hF := sd_pos hF c155
    refine sd_aload_n C 0 dX11_reads_167 rfl rfl rfl (n' := 168) ?_
    refine sd_iload_n C 1 dX11_reads_168 rfl rfl rfl (n' := 169) ?_
    refine sd_iload C 3 dX11_reads_169 rfl rfl (n' := 171) ?_
    refine sd_iconst C (v := 1) dX11_reads_171 rfl rfl (n' := 172) ?_
    refine sd_icmp_eq C (n' := 175) (tgt := 181) dX11_reads_172 rfl rfl (fun c172 => ?_) (fun c172 => ?_)
    · replace hF := sd_pos hF c172
      refine sd_iconst C (v := 1) dX11_reads_181 rfl rfl (n' := 182) ?_
      refine sd_goto C (tgt := 186) dX11_reads_182 rfl ?_
      refine sd_sub [0, 1, 3] rfl ?_
      exact tb_X11_reads_186 C hk49 (sd_setI M 100 21 ((M.1 100 21) + (1 : Int32))) x1 x4 (1 : Int32) x1 hF
    · replace hF := sd_neg hF c172
      refine sd_iload C 3 dX11_reads_175 rfl rfl (n' := 177) ?_
      refine sd_iconst C (v := 2) dX11_reads_177 rfl rfl (n' := 178) ?_
      refine sd_icmp_ne C (n' := 181) (tgt := 185) dX11_reads_178 rfl rfl (fun c178 => ?_) (fun c178 => ?_)
      · replace hF := sd_neg hF c178
        refine sd_iconst C (v := 0) dX11_reads_185 rfl rfl (n' := 186) ?_
        refine sd_sub [0, 1, 3] rfl ?_
        exact tb_X11_reads_186 C hk49 (sd_setI M 100 21 ((M.1 100 21) + (1 : Int32))) x1 x4 (0 : Int32) x1 hF
      · replace hF := sd_pos hF c178
        refine sd_iconst C (v := 1) dX11_reads_181 rfl rfl (n' := 182) ?_
        refine sd_goto C (tgt := 186) dX11_reads_182 rfl ?_
        refine sd_sub [0, 1, 3] rfl ?_
        exact tb_X11_reads_186 C hk49 (sd_setI M 100 21 ((M.1 100 21) + (1 : Int32))) x1 x4 (1 : Int32) x1 hF
  · replace hF := sd_neg hF c155
    refine sd_aload_n C 0 dX11_reads_158 rfl rfl rfl (n' := 159) ?_
    refine sd_iload_n C 1 dX11_reads_159 rfl rfl rfl (n' := 160) ?_
    refine sd_iload_n C 2 dX11_reads_160 rfl rfl rfl (n' := 161) ?_
    obtain ⟨q161, e161, hF⟩ := sd_bind hF
    refine sd_callVI [.int x1, .int x3] [] C (ct_X11_readsSort (sd_setI M 100 21 ((M.1 100 21) + (1 : Int32))) x1 x3  e161) sd_lX11_140 ⟨rfl, rfl, Nat.le_of_ble_eq_true rfl, Nat.le_of_ble_eq_true rfl⟩ sd_i100 (sd_e12 sd_k100) rfl rfl rfl (Nat.le_of_ble_eq_true rfl) dX11_reads_161 rfl (n' := 164) ?_
    refine sd_goto C (tgt := 223) dX11_reads_164 rfl ?_
    refine sd_sub [0, 1, 3] rfl ?_
    exact tb_X11_reads_223 C hk49 q161.2 x1 x4 q161.1 hF
set_option maxRecDepth 100000 in
set_option maxHeartbeats 4000000 in
theorem tb_X11_reads_125 {K : sd_K} {E : sd_Env}   {r : (Int32 × sd_Mem)} (C : sd_C K E sd_LM RX11 cX11_reads 6 (some .int))  {k49 : sd_Mem → Int32 → Option (Int32 × sd_Mem)} (hk49 : ∀ (M : sd_Mem) (x1 : Int32), k49 M x1 = some r → sd_Z K rm_X11_reads E sd_LM 6 (sd_QI K E sd_LM r.1 r.2) M 49 [(0, .ref (E.2.2 100)), (1, .int x1)] []) : ∀ (M : sd_Mem) (x1 : Int32) (x3 : Int32) (x4 : Int32), fn_X11_reads_125 k49 M x1 x3 x4 = some r → sd_Z K rm_X11_reads E sd_LM 6 (sd_QI K E sd_LM r.1 r.2) M 125 [(0, .ref (E.2.2 100)), (1, .int x1), (3, .int x3), (4, .int x4)] [] := by
  intro M x1 x3 x4 hF
  unfold fn_X11_reads_125 at hF
  refine sd_iload_n C 2 dX11_reads_125 rfl rfl rfl (n' := 126) ?_
  refine sd_if_lt C (n' := 129) (tgt := 144) dX11_reads_126 rfl rfl (fun c126 => ?_) (fun c126 => ?_)
  · replace hF := sd_pos hF c126
    exact tb_X11_reads_144 C hk49 M x1 x3 x4 hF
  · replace hF := sd_neg hF c126
    refine sd_aload_n C 0 dX11_reads_129 rfl rfl rfl (n' := 130) ?_
    refine sd_g11_17 C sd_i100 sd_k100 sd_w1058 dX11_reads_130 rfl (n' := 133) ?_
    refine sd_iload_n C 2 dX11_reads_133 rfl rfl rfl (n' := 134) ?_
    obtain ⟨b134, hF⟩ := sd_ok hF
    refine sd_iald C sd_i111 sd_k111 sd_n111 b134 dX11_reads_134 rfl (n' := 135) ?_
    refine sd_iconst C (v := 3) dX11_reads_135 rfl rfl (n' := 136) ?_
    refine sd_icmp_ne C (n' := 139) (tgt := 144) dX11_reads_136 rfl rfl (fun c136 => ?_) (fun c136 => ?_)
    · replace hF := sd_neg hF c136
      exact tb_X11_reads_144 C hk49 M x1 x3 x4 hF
    · replace hF := sd_pos hF c136
      refine sd_aload_n C 0 dX11_reads_139 rfl rfl rfl (n' := 140) ?_
      refine sd_g11_21 C sd_i100 sd_k100 sd_w1062 dX11_reads_140 rfl (n' := 143) ?_
      exact sd_iret C dX11_reads_143 (sd_fst hF) (sd_snd hF)
set_option maxRecDepth 100000 in
set_option maxHeartbeats 4000000 in
theorem tb_X11_reads_109 {K : sd_K} {E : sd_Env}   {r : (Int32 × sd_Mem)} (C : sd_C K E sd_LM RX11 cX11_reads 6 (some .int))  {k49 : sd_Mem → Int32 → Option (Int32 × sd_Mem)} (hk49 : ∀ (M : sd_Mem) (x1 : Int32), k49 M x1 = some r → sd_Z K rm_X11_reads E sd_LM 6 (sd_QI K E sd_LM r.1 r.2) M 49 [(0, .ref (E.2.2 100)), (1, .int x1)] []) : ∀ (M : sd_Mem) (x1 : Int32) (x2 : Int32) (xs0 : Int32), fn_X11_reads_109 k49 M x1 x2 xs0 = some r → sd_Z K rm_X11_reads E sd_LM 6 (sd_QI K E sd_LM r.1 r.2) M 109 [(0, .ref (E.2.2 100)), (1, .int x1), (2, .int x2)] [.int xs0] := by
  intro M x1 x2 xs0 hF
  unfold fn_X11_reads_109 at hF
  refine sd_istore_n [(3, .int xs0), (0, .ref (E.2.2 100)), (1, .int x1), (2, .int x2)] C dX11_reads_109 rfl (by decide) rfl rfl (n' := 110) ?_
  refine sd_iload_n C 3 dX11_reads_110 rfl rfl rfl (n' := 111) ?_
  obtain ⟨q111, e111, hF⟩ := sd_bind hF
  refine sd_callSI [.int x2] [] C (ct_X11_which M x2  e111) sd_lX11_137 ⟨rfl, rfl, Nat.le_of_ble_eq_true rfl, Nat.le_of_ble_eq_true rfl⟩ rfl (Nat.le_of_ble_eq_true rfl) dX11_reads_111 rfl (n' := 114) ?_
  refine sd_istore [(4, .int q111), (3, .int xs0), (0, .ref (E.2.2 100)), (1, .int x1), (2, .int x2)] C dX11_reads_114 (by decide) rfl rfl (n' := 116) ?_
  refine sd_iload_n C 1 dX11_reads_116 rfl rfl rfl (n' := 117) ?_
  refine sd_if_ge C (n' := 120) (tgt := 125) dX11_reads_117 rfl rfl (fun c117 => ?_) (fun c117 => ?_)
  · replace hF := sd_pos hF c117
    refine sd_sub [2, 3, 1, 0] rfl ?_
    exact tb_X11_reads_125 C hk49 M x1 xs0 q111 hF
  · replace hF := sd_neg hF c117
    refine sd_iload C 0 dX11_reads_120 rfl rfl (n' := 122) ?_
    refine sd_if_lt C (n' := 125) (tgt := 139) dX11_reads_122 rfl rfl (fun c122 => ?_) (fun c122 => ?_)
    · replace hF := sd_pos hF c122
      refine sd_aload_n C 2 dX11_reads_139 rfl rfl rfl (n' := 140) ?_
      refine sd_g11_21 C sd_i100 sd_k100 sd_w1062 dX11_reads_140 rfl (n' := 143) ?_
      exact sd_iret C dX11_reads_143 (sd_fst hF) (sd_snd hF)
    · replace hF := sd_neg hF c122
      refine sd_sub [2, 3, 1, 0] rfl ?_
      exact tb_X11_reads_125 C hk49 M x1 xs0 q111 hF
set_option maxRecDepth 100000 in
set_option maxHeartbeats 4000000 in
theorem tb_X11_reads_254 {K : sd_K} {E : sd_Env}   {r : (Int32 × sd_Mem)} (C : sd_C K E sd_LM RX11 cX11_reads 6 (some .int))  : ∀ (M : sd_Mem) (x1 : Int32), fn_X11_reads_254 M x1 = some r → sd_Z K rm_X11_reads E sd_LM 6 (sd_QI K E sd_LM r.1 r.2) M 254 [(0, .ref (E.2.2 100)), (1, .int x1)] [] := by
  intro M x1 hF
  unfold fn_X11_reads_254 at hF
  refine sd_aload_n C 0 dX11_reads_254 rfl rfl rfl (n' := 255) ?_
  refine sd_g11_17 C sd_i100 sd_k100 sd_w1058 dX11_reads_255 rfl (n' := 258) ?_
  refine sd_iconst C (v := 0) dX11_reads_258 rfl rfl (n' := 259) ?_
  obtain ⟨b259, hF⟩ := sd_ok hF
  refine sd_iald C sd_i111 sd_k111 sd_n111 b259 dX11_reads_259 rfl (n' := 260) ?_
  refine sd_if_eq C (n' := 263) (tgt := 287) dX11_reads_260 rfl rfl (fun c260 => ?_) (fun c260 => ?_)
  · replace hF := sd_pos hF c260
    refine sd_aload_n C 0 dX11_reads_287 rfl rfl rfl (n' := 288) ?_
    refine sd_g11_8 C sd_i100 sd_k100 sd_w1049 dX11_reads_288 rfl (n' := 291) ?_
    refine sd_iload_n C 1 dX11_reads_291 rfl rfl rfl (n' := 292) ?_
    obtain ⟨b292, hF⟩ := sd_ok hF
    refine sd_iald C sd_i105 sd_k105 sd_n105 b292 dX11_reads_292 rfl (n' := 293) ?_
    refine sd_goto C (tgt := 298) dX11_reads_293 rfl ?_
    exact sd_iret C dX11_reads_298 (sd_fst hF) (sd_snd hF)
  · replace hF := sd_neg hF c260
    refine sd_aload_n C 0 dX11_reads_263 rfl rfl rfl (n' := 264) ?_
    refine sd_g11_17 C sd_i100 sd_k100 sd_w1058 dX11_reads_264 rfl (n' := 267) ?_
    refine sd_iconst C (v := 1) dX11_reads_267 rfl rfl (n' := 268) ?_
    obtain ⟨b268, hF⟩ := sd_ok hF
    refine sd_iald C sd_i111 sd_k111 sd_n111 b268 dX11_reads_268 rfl (n' := 269) ?_
    refine sd_if_eq C (n' := 272) (tgt := 287) dX11_reads_269 rfl rfl (fun c269 => ?_) (fun c269 => ?_)
    · replace hF := sd_pos hF c269
      refine sd_aload_n C 0 dX11_reads_287 rfl rfl rfl (n' := 288) ?_
      refine sd_g11_8 C sd_i100 sd_k100 sd_w1049 dX11_reads_288 rfl (n' := 291) ?_
      refine sd_iload_n C 1 dX11_reads_291 rfl rfl rfl (n' := 292) ?_
      obtain ⟨b292, hF⟩ := sd_ok hF
      refine sd_iald C sd_i105 sd_k105 sd_n105 b292 dX11_reads_292 rfl (n' := 293) ?_
      refine sd_goto C (tgt := 298) dX11_reads_293 rfl ?_
      exact sd_iret C dX11_reads_298 (sd_fst hF) (sd_snd hF)
    · replace hF := sd_neg hF c269
      refine sd_aload_n C 0 dX11_reads_272 rfl rfl rfl (n' := 273) ?_
      refine sd_g11_20 C sd_i100 sd_k100 sd_w1061 dX11_reads_273 rfl (n' := 276) ?_
      refine sd_iconst C (v := 2) dX11_reads_276 rfl rfl (n' := 277) ?_
      obtain ⟨b277, hF⟩ := sd_ok hF
      refine sd_iald C sd_i114 sd_k114 sd_n114 b277 dX11_reads_277 rfl (n' := 278) ?_
      refine sd_aload_n C 0 dX11_reads_278 rfl rfl rfl (n' := 279) ?_
      refine sd_g11_20 C sd_i100 sd_k100 sd_w1061 dX11_reads_279 rfl (n' := 282) ?_
      refine sd_iconst C (v := 1) dX11_reads_282 rfl rfl (n' := 283) ?_
      obtain ⟨b283, hF⟩ := sd_ok hF
      refine sd_iald C sd_i114 sd_k114 sd_n114 b283 dX11_reads_283 rfl (n' := 284) ?_
      refine sd_icmp_le C (n' := 287) (tgt := 296) dX11_reads_284 rfl rfl (fun c284 => ?_) (fun c284 => ?_)
      · replace hF := sd_pos hF c284
        refine sd_bipush C (v := -9) dX11_reads_296 rfl rfl (n' := 298) ?_
        exact sd_iret C dX11_reads_298 (sd_fst hF) (sd_snd hF)
      · replace hF := sd_neg hF c284
        refine sd_aload_n C 0 dX11_reads_287 rfl rfl rfl (n' := 288) ?_
        refine sd_g11_8 C sd_i100 sd_k100 sd_w1049 dX11_reads_288 rfl (n' := 291) ?_
        refine sd_iload_n C 1 dX11_reads_291 rfl rfl rfl (n' := 292) ?_
        obtain ⟨b292, hF⟩ := sd_ok hF
        refine sd_iald C sd_i105 sd_k105 sd_n105 b292 dX11_reads_292 rfl (n' := 293) ?_
        refine sd_goto C (tgt := 298) dX11_reads_293 rfl ?_
        exact sd_iret C dX11_reads_298 (sd_fst hF) (sd_snd hF)
set_option maxRecDepth 100000 in
set_option maxHeartbeats 4000000 in
theorem tb_X11_reads_49 {K : sd_K} {E : sd_Env}   {r : (Int32 × sd_Mem)} (C : sd_C K E sd_LM RX11 cX11_reads 6 (some .int))  : ∀ (n : Nat), ∀ (M : sd_Mem) (x1 : Int32), fn_X11_reads_49 n M x1 = some r → sd_Z K rm_X11_reads E sd_LM 6 (sd_QI K E sd_LM r.1 r.2) M 49 [(0, .ref (E.2.2 100)), (1, .int x1)] [] := by
  intro n
  induction n with
  | zero => intro M x1 hF; cases hF
  | succ n ih =>
    intro M x1 hF
    unfold fn_X11_reads_49 at hF
    refine sd_aload_n C 0 dX11_reads_49 rfl rfl rfl (n' := 50) ?_
    refine sd_g11_21 C sd_i100 sd_k100 sd_w1062 dX11_reads_50 rfl (n' := 53) ?_
    refine sd_aload_n C 0 dX11_reads_53 rfl rfl rfl (n' := 54) ?_
    refine sd_g11_8 C sd_i100 sd_k100 sd_w1049 dX11_reads_54 rfl (n' := 57) ?_
    refine sd_iload_n C 1 dX11_reads_57 rfl rfl rfl (n' := 58) ?_
    obtain ⟨b58, hF⟩ := sd_ok hF
    refine sd_iald C sd_i105 sd_k105 sd_n105 b58 dX11_reads_58 rfl (n' := 59) ?_
    refine sd_icmp_ge C (n' := 62) (tgt := 254) dX11_reads_59 rfl rfl (fun c59 => ?_) (fun c59 => ?_)
    · replace hF := sd_pos hF c59
      exact tb_X11_reads_254 C M x1 hF
    · replace hF := sd_neg hF c59
      refine sd_aload_n C 0 dX11_reads_62 rfl rfl rfl (n' := 63) ?_
      refine sd_iload_n C 1 dX11_reads_63 rfl rfl rfl (n' := 64) ?_
      obtain ⟨q64, e64, hF⟩ := sd_bind hF
      refine sd_callVI [.int x1] [] C (ct_X11_here M x1  e64) sd_lX11_131 ⟨rfl, rfl, Nat.le_of_ble_eq_true rfl, Nat.le_of_ble_eq_true rfl⟩ sd_i100 (sd_e12 sd_k100) rfl rfl rfl (Nat.le_of_ble_eq_true rfl) dX11_reads_64 rfl (n' := 67) ?_
      refine sd_istore_n [(2, .int q64), (0, .ref (E.2.2 100)), (1, .int x1)] C dX11_reads_67 rfl (by decide) rfl rfl (n' := 68) ?_
      refine sd_iload_n C 0 dX11_reads_68 rfl rfl rfl (n' := 69) ?_
      refine sd_bipush C (v := 32) dX11_reads_69 rfl rfl (n' := 71) ?_
      refine sd_icmp_ne C (n' := 74) (tgt := 87) dX11_reads_71 rfl rfl (fun c71 => ?_) (fun c71 => ?_)
      · replace hF := sd_neg hF c71
        refine sd_iload_n C 0 dX11_reads_87 rfl rfl rfl (n' := 88) ?_
        refine sd_bipush C (v := 109) dX11_reads_88 rfl rfl (n' := 90) ?_
        refine sd_icmp_ne C (n' := 93) (tgt := 97) dX11_reads_90 rfl rfl (fun c90 => ?_) (fun c90 => ?_)
        · replace hF := sd_neg hF c90
          refine sd_iload_n C 0 dX11_reads_97 rfl rfl rfl (n' := 98) ?_
          refine sd_bipush C (v := 111) dX11_reads_98 rfl rfl (n' := 100) ?_
          refine sd_icmp_ne C (n' := 103) (tgt := 107) dX11_reads_100 rfl rfl (fun c100 => ?_) (fun c100 => ?_)
          · replace hF := sd_neg hF c100
            refine sd_bipush C (v := -9) dX11_reads_107 rfl rfl (n' := 109) ?_
            refine sd_sub [1, 2, 0] rfl ?_
            exact tb_X11_reads_109 C ih M x1 q64 (-9 : Int32) hF
          · replace hF := sd_pos hF c100
            refine sd_iconst C (v := 1) dX11_reads_103 rfl rfl (n' := 104) ?_
            refine sd_goto C (tgt := 109) dX11_reads_104 rfl ?_
            refine sd_sub [1, 2, 0] rfl ?_
            exact tb_X11_reads_109 C ih M x1 q64 (1 : Int32) hF
        · replace hF := sd_pos hF c90
          refine sd_iconst C (v := 0) dX11_reads_93 rfl rfl (n' := 94) ?_
          refine sd_goto C (tgt := 109) dX11_reads_94 rfl ?_
          refine sd_sub [1, 2, 0] rfl ?_
          exact tb_X11_reads_109 C ih M x1 q64 (0 : Int32) hF
      · replace hF := sd_pos hF c71
        refine sd_aload_n C 1 dX11_reads_74 rfl rfl rfl (n' := 75) ?_
        refine sd_dup C dX11_reads_75 rfl rfl (n' := 76) ?_
        refine sd_g11_21 C sd_i100 sd_k100 sd_w1062 dX11_reads_76 rfl (n' := 79) ?_
        refine sd_iconst C (v := 1) dX11_reads_79 rfl rfl (n' := 80) ?_
        refine sd_iadd C dX11_reads_80 rfl (n' := 81) ?_
        refine sd_p11_21 C sd_i100 sd_k100 sd_w1062 dX11_reads_81 rfl (n' := 84) ?_
        refine sd_goto C (tgt := 49) dX11_reads_84 rfl ?_
        refine sd_sub [1, 2] rfl ?_
        exact ih (sd_setI M 100 21 ((M.1 100 21) + (1 : Int32))) x1 hF
set_option maxRecDepth 100000 in
set_option maxHeartbeats 4000000 in
theorem tb_X11_reads_0 {K : sd_K} {E : sd_Env}   {r : (Int32 × sd_Mem)} (C : sd_C K E sd_LM RX11 cX11_reads 6 (some .int))  : ∀ (M : sd_Mem) (x1 : Int32), fn_X11_reads_0 M x1 = some r → sd_Z K rm_X11_reads E sd_LM 6 (sd_QI K E sd_LM r.1 r.2) M 0 [(0, .ref (E.2.2 100)), (1, .int x1)] [] := by
  intro M x1 hF
  unfold fn_X11_reads_0 at hF
  refine sd_aload_n C 0 dX11_reads_0 rfl rfl rfl (n' := 1) ?_
  refine sd_g11_17 C sd_i100 sd_k100 sd_w1058 dX11_reads_1 rfl (n' := 4) ?_
  refine sd_iconst C (v := 0) dX11_reads_4 rfl rfl (n' := 5) ?_
  refine sd_iconst C (v := 0) dX11_reads_5 rfl rfl (n' := 6) ?_
  obtain ⟨b6, hF⟩ := sd_ok hF
  refine sd_iast C sd_i111 sd_k111 sd_n111 b6 dX11_reads_6 rfl (n' := 7) ?_
  refine sd_aload_n C 0 dX11_reads_7 rfl rfl rfl (n' := 8) ?_
  refine sd_g11_17 C sd_i100 sd_k100 sd_w1058 dX11_reads_8 rfl (n' := 11) ?_
  refine sd_iconst C (v := 1) dX11_reads_11 rfl rfl (n' := 12) ?_
  refine sd_iconst C (v := 0) dX11_reads_12 rfl rfl (n' := 13) ?_
  obtain ⟨b13, hF⟩ := sd_ok hF
  refine sd_iast C sd_i111 sd_k111 sd_n111 b13 dX11_reads_13 rfl (n' := 14) ?_
  refine sd_aload_n C 0 dX11_reads_14 rfl rfl rfl (n' := 15) ?_
  refine sd_g11_20 C sd_i100 sd_k100 sd_w1061 dX11_reads_15 rfl (n' := 18) ?_
  refine sd_iconst C (v := 0) dX11_reads_18 rfl rfl (n' := 19) ?_
  refine sd_bipush C (v := 10) dX11_reads_19 rfl rfl (n' := 21) ?_
  obtain ⟨b21, hF⟩ := sd_ok hF
  refine sd_iast C sd_i114 sd_k114 sd_n114 b21 dX11_reads_21 rfl (n' := 22) ?_
  refine sd_aload_n C 0 dX11_reads_22 rfl rfl rfl (n' := 23) ?_
  refine sd_g11_20 C sd_i100 sd_k100 sd_w1061 dX11_reads_23 rfl (n' := 26) ?_
  refine sd_iconst C (v := 1) dX11_reads_26 rfl rfl (n' := 27) ?_
  refine sd_bipush C (v := 20) dX11_reads_27 rfl rfl (n' := 29) ?_
  obtain ⟨b29, hF⟩ := sd_ok hF
  refine sd_iast C sd_i114 sd_k114 sd_n114 b29 dX11_reads_29 rfl (n' := 30) ?_
  refine sd_aload_n C 0 dX11_reads_30 rfl rfl rfl (n' := 31) ?_
  refine sd_g11_20 C sd_i100 sd_k100 sd_w1061 dX11_reads_31 rfl (n' := 34) ?_
  refine sd_iconst C (v := 2) dX11_reads_34 rfl rfl (n' := 35) ?_
  refine sd_iconst C (v := 5) dX11_reads_35 rfl rfl (n' := 36) ?_
  obtain ⟨b36, hF⟩ := sd_ok hF
  refine sd_iast C sd_i114 sd_k114 sd_n114 b36 dX11_reads_36 rfl (n' := 37) ?_
  refine sd_aload_n C 0 dX11_reads_37 rfl rfl rfl (n' := 38) ?_
  refine sd_g11_20 C sd_i100 sd_k100 sd_w1061 dX11_reads_38 rfl (n' := 41) ?_
  refine sd_iconst C (v := 3) dX11_reads_41 rfl rfl (n' := 42) ?_
  refine sd_iconst C (v := 5) dX11_reads_42 rfl rfl (n' := 43) ?_
  obtain ⟨b43, hF⟩ := sd_ok hF
  refine sd_iast C sd_i114 sd_k114 sd_n114 b43 dX11_reads_43 rfl (n' := 44) ?_
  refine sd_aload_n C 0 dX11_reads_44 rfl rfl rfl (n' := 45) ?_
  refine sd_iconst C (v := 0) dX11_reads_45 rfl rfl (n' := 46) ?_
  refine sd_p11_21 C sd_i100 sd_k100 sd_w1062 dX11_reads_46 rfl (n' := 49) ?_
  exact tb_X11_reads_49 C sd_FU (sd_setI (sd_setI (sd_setI (sd_setI (sd_setI (sd_setI (sd_setI M 111 (0 : Int32).toNatClampNeg (0 : Int32)) 111 (1 : Int32).toNatClampNeg (0 : Int32)) 114 (0 : Int32).toNatClampNeg (10 : Int32)) 114 (1 : Int32).toNatClampNeg (20 : Int32)) 114 (2 : Int32).toNatClampNeg (5 : Int32)) 114 (3 : Int32).toNatClampNeg (5 : Int32)) 100 21 (0 : Int32)) x1 hF
theorem ct_X11_reads {l : Launch} {E : sd_Env} (M : sd_Mem) (x1 : Int32)  {r : (Int32 × sd_Mem)} (hF : fn_X11_reads M x1 = some r) : sd_MI l E sd_LM yX11_reads cX11_reads 6 (some .int) rm_X11_reads [.ref (E.2.2 100), .int x1] M r.1 r.2 := sd_ent0 (by decide +kernel) (Nat.le_of_ble_eq_true rfl) (fun p e s m below meth c C => tb_X11_reads_0 C M x1 hF)
theorem dX11_fault_0 : decode cX11_fault 0 = .ok (.aload_n 0, 1) := by decide +kernel
theorem dX11_fault_1 : decode cX11_fault 1 = .ok (.iload_n 1, 1) := by decide +kernel
theorem dX11_fault_2 : decode cX11_fault 2 = .ok (.invokevirtual 122, 3) := by decide +kernel
theorem dX11_fault_5 : decode cX11_fault 5 = .ok (.istore_n 2, 1) := by decide +kernel
theorem dX11_fault_6 : decode cX11_fault 6 = .ok (.iload_n 2, 1) := by decide +kernel
theorem dX11_fault_7 : decode cX11_fault 7 = .ok (.ifCond .ge 7, 3) := by decide +kernel
theorem dX11_fault_10 : decode cX11_fault 10 = .ok (.iload_n 2, 1) := by decide +kernel
theorem dX11_fault_11 : decode cX11_fault 11 = .ok (.goto 8, 3) := by decide +kernel
theorem dX11_fault_14 : decode cX11_fault 14 = .ok (.aload_n 0, 1) := by decide +kernel
theorem dX11_fault_15 : decode cX11_fault 15 = .ok (.iload_n 1, 1) := by decide +kernel
theorem dX11_fault_16 : decode cX11_fault 16 = .ok (.invokevirtual 144, 3) := by decide +kernel
theorem dX11_fault_19 : decode cX11_fault 19 = .ok (.ireturn, 1) := by decide +kernel
set_option maxRecDepth 100000 in
set_option maxHeartbeats 4000000 in
theorem tb_X11_fault_0 {K : sd_K} {E : sd_Env}   {r : (Int32 × sd_Mem)} (C : sd_C K E sd_LM RX11 cX11_fault 3 (some .int))  : ∀ (M : sd_Mem) (x1 : Int32), fn_X11_fault_0 M x1 = some r → sd_Z K rm_X11_fault E sd_LM 3 (sd_QI K E sd_LM r.1 r.2) M 0 [(0, .ref (E.2.2 100)), (1, .int x1)] [] := by
  intro M x1 hF
  unfold fn_X11_fault_0 at hF
  refine sd_aload_n C 0 dX11_fault_0 rfl rfl rfl (n' := 1) ?_
  refine sd_iload_n C 1 dX11_fault_1 rfl rfl rfl (n' := 2) ?_
  obtain ⟨q2, e2, hF⟩ := sd_bind hF
  refine sd_callVI [.int x1] [] C (ct_X11_askedText M x1  e2) sd_lX11_122 ⟨rfl, rfl, Nat.le_of_ble_eq_true rfl, Nat.le_of_ble_eq_true rfl⟩ sd_i100 (sd_e12 sd_k100) rfl rfl rfl (Nat.le_of_ble_eq_true rfl) dX11_fault_2 rfl (n' := 5) ?_
  refine sd_istore_n [(2, .int q2.1), (0, .ref (E.2.2 100)), (1, .int x1)] C dX11_fault_5 rfl (by decide) rfl rfl (n' := 6) ?_
  refine sd_iload_n C 0 dX11_fault_6 rfl rfl rfl (n' := 7) ?_
  refine sd_if_ge C (n' := 10) (tgt := 14) dX11_fault_7 rfl rfl (fun c7 => ?_) (fun c7 => ?_)
  · replace hF := sd_pos hF c7
    refine sd_aload_n C 1 dX11_fault_14 rfl rfl rfl (n' := 15) ?_
    refine sd_iload_n C 2 dX11_fault_15 rfl rfl rfl (n' := 16) ?_
    obtain ⟨q16, e16, hF⟩ := sd_bind hF
    refine sd_callVI [.int x1] [] C (ct_X11_reads q2.2 x1  e16) sd_lX11_144 ⟨rfl, rfl, Nat.le_of_ble_eq_true rfl, Nat.le_of_ble_eq_true rfl⟩ sd_i100 (sd_e12 sd_k100) rfl rfl rfl (Nat.le_of_ble_eq_true rfl) dX11_fault_16 rfl (n' := 19) ?_
    exact sd_iret C dX11_fault_19 (sd_fst hF) (sd_snd hF)
  · replace hF := sd_neg hF c7
    refine sd_iload_n C 0 dX11_fault_10 rfl rfl rfl (n' := 11) ?_
    refine sd_goto C (tgt := 19) dX11_fault_11 rfl ?_
    exact sd_iret C dX11_fault_19 (sd_fst hF) (sd_snd hF)
theorem ct_X11_fault {l : Launch} {E : sd_Env} (M : sd_Mem) (x1 : Int32)  {r : (Int32 × sd_Mem)} (hF : fn_X11_fault M x1 = some r) : sd_MI l E sd_LM yX11_fault cX11_fault 3 (some .int) rm_X11_fault [.ref (E.2.2 100), .int x1] M r.1 r.2 := sd_ent0 (by decide +kernel) (Nat.le_of_ble_eq_true rfl) (fun p e s m below meth c C => tb_X11_fault_0 C M x1 hF)
theorem dX11_quarrel_0 : decode cX11_quarrel 0 = .ok (.aload_n 0, 1) := by decide +kernel
theorem dX11_quarrel_1 : decode cX11_quarrel 1 = .ok (.iload_n 1, 1) := by decide +kernel
theorem dX11_quarrel_2 : decode cX11_quarrel 2 = .ok (.invokevirtual 122, 3) := by decide +kernel
theorem dX11_quarrel_5 : decode cX11_quarrel 5 = .ok (.istore_n 2, 1) := by decide +kernel
theorem dX11_quarrel_6 : decode cX11_quarrel 6 = .ok (.iload_n 2, 1) := by decide +kernel
theorem dX11_quarrel_7 : decode cX11_quarrel 7 = .ok (.ifCond .ge 5, 3) := by decide +kernel
theorem dX11_quarrel_10 : decode cX11_quarrel 10 = .ok (.iload_n 2, 1) := by decide +kernel
theorem dX11_quarrel_11 : decode cX11_quarrel 11 = .ok (.ireturn, 1) := by decide +kernel
theorem dX11_quarrel_12 : decode cX11_quarrel 12 = .ok (.aload_n 0, 1) := by decide +kernel
theorem dX11_quarrel_13 : decode cX11_quarrel 13 = .ok (.iload_n 1, 1) := by decide +kernel
theorem dX11_quarrel_14 : decode cX11_quarrel 14 = .ok (.invokevirtual 144, 3) := by decide +kernel
theorem dX11_quarrel_17 : decode cX11_quarrel 17 = .ok (.bipush (-9), 2) := by decide +kernel
theorem dX11_quarrel_19 : decode cX11_quarrel 19 = .ok (.if_icmp .eq 6, 3) := by decide +kernel
theorem dX11_quarrel_22 : decode cX11_quarrel 22 = .ok (.bipush (-4), 2) := by decide +kernel
theorem dX11_quarrel_24 : decode cX11_quarrel 24 = .ok (.ireturn, 1) := by decide +kernel
theorem dX11_quarrel_25 : decode cX11_quarrel 25 = .ok (.iconst 0, 1) := by decide +kernel
theorem dX11_quarrel_26 : decode cX11_quarrel 26 = .ok (.istore_n 3, 1) := by decide +kernel
theorem dX11_quarrel_27 : decode cX11_quarrel 27 = .ok (.iload_n 3, 1) := by decide +kernel
theorem dX11_quarrel_28 : decode cX11_quarrel 28 = .ok (.bipush 6, 2) := by decide +kernel
theorem dX11_quarrel_30 : decode cX11_quarrel 30 = .ok (.if_icmp .ge 33, 3) := by decide +kernel
theorem dX11_quarrel_33 : decode cX11_quarrel 33 = .ok (.aload_n 0, 1) := by decide +kernel
theorem dX11_quarrel_34 : decode cX11_quarrel 34 = .ok (.getfield 35, 3) := by decide +kernel
theorem dX11_quarrel_37 : decode cX11_quarrel 37 = .ok (.iload_n 3, 1) := by decide +kernel
theorem dX11_quarrel_38 : decode cX11_quarrel 38 = .ok (.aload_n 0, 1) := by decide +kernel
theorem dX11_quarrel_39 : decode cX11_quarrel 39 = .ok (.getfield 54, 3) := by decide +kernel
theorem dX11_quarrel_42 : decode cX11_quarrel 42 = .ok (.iload_n 3, 1) := by decide +kernel
theorem dX11_quarrel_43 : decode cX11_quarrel 43 = .ok (.iaload, 1) := by decide +kernel
theorem dX11_quarrel_44 : decode cX11_quarrel 44 = .ok (.iastore, 1) := by decide +kernel
theorem dX11_quarrel_45 : decode cX11_quarrel 45 = .ok (.aload_n 0, 1) := by decide +kernel
theorem dX11_quarrel_46 : decode cX11_quarrel 46 = .ok (.getfield 38, 3) := by decide +kernel
theorem dX11_quarrel_49 : decode cX11_quarrel 49 = .ok (.iload_n 3, 1) := by decide +kernel
theorem dX11_quarrel_50 : decode cX11_quarrel 50 = .ok (.aload_n 0, 1) := by decide +kernel
theorem dX11_quarrel_51 : decode cX11_quarrel 51 = .ok (.getfield 57, 3) := by decide +kernel
theorem dX11_quarrel_54 : decode cX11_quarrel 54 = .ok (.iload_n 3, 1) := by decide +kernel
theorem dX11_quarrel_55 : decode cX11_quarrel 55 = .ok (.iaload, 1) := by decide +kernel
theorem dX11_quarrel_56 : decode cX11_quarrel 56 = .ok (.iastore, 1) := by decide +kernel
theorem dX11_quarrel_57 : decode cX11_quarrel 57 = .ok (.iinc 3 1, 3) := by decide +kernel
theorem dX11_quarrel_60 : decode cX11_quarrel 60 = .ok (.goto (-33), 3) := by decide +kernel
theorem dX11_quarrel_63 : decode cX11_quarrel 63 = .ok (.iconst 0, 1) := by decide +kernel
theorem dX11_quarrel_64 : decode cX11_quarrel 64 = .ok (.istore_n 3, 1) := by decide +kernel
theorem dX11_quarrel_65 : decode cX11_quarrel 65 = .ok (.iload_n 3, 1) := by decide +kernel
theorem dX11_quarrel_66 : decode cX11_quarrel 66 = .ok (.iconst 4, 1) := by decide +kernel
theorem dX11_quarrel_67 : decode cX11_quarrel 67 = .ok (.if_icmp .ge 21, 3) := by decide +kernel
theorem dX11_quarrel_70 : decode cX11_quarrel 70 = .ok (.aload_n 0, 1) := by decide +kernel
theorem dX11_quarrel_71 : decode cX11_quarrel 71 = .ok (.getfield 41, 3) := by decide +kernel
theorem dX11_quarrel_74 : decode cX11_quarrel 74 = .ok (.iload_n 3, 1) := by decide +kernel
theorem dX11_quarrel_75 : decode cX11_quarrel 75 = .ok (.aload_n 0, 1) := by decide +kernel
theorem dX11_quarrel_76 : decode cX11_quarrel 76 = .ok (.getfield 60, 3) := by decide +kernel
theorem dX11_quarrel_79 : decode cX11_quarrel 79 = .ok (.iload_n 3, 1) := by decide +kernel
theorem dX11_quarrel_80 : decode cX11_quarrel 80 = .ok (.iaload, 1) := by decide +kernel
theorem dX11_quarrel_81 : decode cX11_quarrel 81 = .ok (.iastore, 1) := by decide +kernel
theorem dX11_quarrel_82 : decode cX11_quarrel 82 = .ok (.iinc 3 1, 3) := by decide +kernel
theorem dX11_quarrel_85 : decode cX11_quarrel 85 = .ok (.goto (-20), 3) := by decide +kernel
theorem dX11_quarrel_88 : decode cX11_quarrel 88 = .ok (.aload_n 0, 1) := by decide +kernel
theorem dX11_quarrel_89 : decode cX11_quarrel 89 = .ok (.getfield 32, 3) := by decide +kernel
theorem dX11_quarrel_92 : decode cX11_quarrel 92 = .ok (.iconst 0, 1) := by decide +kernel
theorem dX11_quarrel_93 : decode cX11_quarrel 93 = .ok (.aload_n 0, 1) := by decide +kernel
theorem dX11_quarrel_94 : decode cX11_quarrel 94 = .ok (.getfield 51, 3) := by decide +kernel
theorem dX11_quarrel_97 : decode cX11_quarrel 97 = .ok (.iconst 0, 1) := by decide +kernel
theorem dX11_quarrel_98 : decode cX11_quarrel 98 = .ok (.iaload, 1) := by decide +kernel
theorem dX11_quarrel_99 : decode cX11_quarrel 99 = .ok (.iastore, 1) := by decide +kernel
theorem dX11_quarrel_100 : decode cX11_quarrel 100 = .ok (.aload_n 0, 1) := by decide +kernel
theorem dX11_quarrel_101 : decode cX11_quarrel 101 = .ok (.getfield 32, 3) := by decide +kernel
theorem dX11_quarrel_104 : decode cX11_quarrel 104 = .ok (.iconst 1, 1) := by decide +kernel
theorem dX11_quarrel_105 : decode cX11_quarrel 105 = .ok (.aload_n 0, 1) := by decide +kernel
theorem dX11_quarrel_106 : decode cX11_quarrel 106 = .ok (.getfield 51, 3) := by decide +kernel
theorem dX11_quarrel_109 : decode cX11_quarrel 109 = .ok (.iconst 1, 1) := by decide +kernel
theorem dX11_quarrel_110 : decode cX11_quarrel 110 = .ok (.iaload, 1) := by decide +kernel
theorem dX11_quarrel_111 : decode cX11_quarrel 111 = .ok (.iastore, 1) := by decide +kernel
theorem dX11_quarrel_112 : decode cX11_quarrel 112 = .ok (.aload_n 0, 1) := by decide +kernel
theorem dX11_quarrel_113 : decode cX11_quarrel 113 = .ok (.getfield 32, 3) := by decide +kernel
theorem dX11_quarrel_116 : decode cX11_quarrel 116 = .ok (.iconst 0, 1) := by decide +kernel
theorem dX11_quarrel_117 : decode cX11_quarrel 117 = .ok (.iaload, 1) := by decide +kernel
theorem dX11_quarrel_118 : decode cX11_quarrel 118 = .ok (.aload_n 0, 1) := by decide +kernel
theorem dX11_quarrel_119 : decode cX11_quarrel 119 = .ok (.getfield 32, 3) := by decide +kernel
theorem dX11_quarrel_122 : decode cX11_quarrel 122 = .ok (.iconst 1, 1) := by decide +kernel
theorem dX11_quarrel_123 : decode cX11_quarrel 123 = .ok (.iaload, 1) := by decide +kernel
theorem dX11_quarrel_124 : decode cX11_quarrel 124 = .ok (.iadd, 1) := by decide +kernel
theorem dX11_quarrel_125 : decode cX11_quarrel 125 = .ok (.ireturn, 1) := by decide +kernel
set_option maxRecDepth 100000 in
set_option maxHeartbeats 4000000 in
theorem tb_X11_quarrel_88 {K : sd_K} {E : sd_Env}   {r : (Int32 × sd_Mem)} (C : sd_C K E sd_LM RX11 cX11_quarrel 4 (some .int))  : ∀ (M : sd_Mem), fn_X11_quarrel_88 M = some r → sd_Z K rm_X11_quarrel E sd_LM 4 (sd_QI K E sd_LM r.1 r.2) M 88 [(0, .ref (E.2.2 100))] [] := by
  intro M hF
  unfold fn_X11_quarrel_88 at hF
  refine sd_aload_n C 0 dX11_quarrel_88 rfl rfl rfl (n' := 89) ?_
  refine sd_g11_10 C sd_i100 sd_k100 sd_w1051 dX11_quarrel_89 rfl (n' := 92) ?_
  refine sd_iconst C (v := 0) dX11_quarrel_92 rfl rfl (n' := 93) ?_
  refine sd_aload_n C 0 dX11_quarrel_93 rfl rfl rfl (n' := 94) ?_
  refine sd_g11_17 C sd_i100 sd_k100 sd_w1058 dX11_quarrel_94 rfl (n' := 97) ?_
  refine sd_iconst C (v := 0) dX11_quarrel_97 rfl rfl (n' := 98) ?_
  obtain ⟨b98, hF⟩ := sd_ok hF
  refine sd_iald C sd_i111 sd_k111 sd_n111 b98 dX11_quarrel_98 rfl (n' := 99) ?_
  obtain ⟨b99, hF⟩ := sd_ok hF
  refine sd_iast C sd_i107 sd_k107 sd_n107 b99 dX11_quarrel_99 rfl (n' := 100) ?_
  refine sd_aload_n C 0 dX11_quarrel_100 rfl rfl rfl (n' := 101) ?_
  refine sd_g11_10 C sd_i100 sd_k100 sd_w1051 dX11_quarrel_101 rfl (n' := 104) ?_
  refine sd_iconst C (v := 1) dX11_quarrel_104 rfl rfl (n' := 105) ?_
  refine sd_aload_n C 0 dX11_quarrel_105 rfl rfl rfl (n' := 106) ?_
  refine sd_g11_17 C sd_i100 sd_k100 sd_w1058 dX11_quarrel_106 rfl (n' := 109) ?_
  refine sd_iconst C (v := 1) dX11_quarrel_109 rfl rfl (n' := 110) ?_
  obtain ⟨b110, hF⟩ := sd_ok hF
  refine sd_iald C sd_i111 sd_k111 sd_n111 b110 dX11_quarrel_110 rfl (n' := 111) ?_
  obtain ⟨b111, hF⟩ := sd_ok hF
  refine sd_iast C sd_i107 sd_k107 sd_n107 b111 dX11_quarrel_111 rfl (n' := 112) ?_
  refine sd_aload_n C 0 dX11_quarrel_112 rfl rfl rfl (n' := 113) ?_
  refine sd_g11_10 C sd_i100 sd_k100 sd_w1051 dX11_quarrel_113 rfl (n' := 116) ?_
  refine sd_iconst C (v := 0) dX11_quarrel_116 rfl rfl (n' := 117) ?_
  obtain ⟨b117, hF⟩ := sd_ok hF
  refine sd_iald C sd_i107 sd_k107 sd_n107 b117 dX11_quarrel_117 rfl (n' := 118) ?_
  refine sd_aload_n C 0 dX11_quarrel_118 rfl rfl rfl (n' := 119) ?_
  refine sd_g11_10 C sd_i100 sd_k100 sd_w1051 dX11_quarrel_119 rfl (n' := 122) ?_
  refine sd_iconst C (v := 1) dX11_quarrel_122 rfl rfl (n' := 123) ?_
  obtain ⟨b123, hF⟩ := sd_ok hF
  refine sd_iald C sd_i107 sd_k107 sd_n107 b123 dX11_quarrel_123 rfl (n' := 124) ?_
  refine sd_iadd C dX11_quarrel_124 rfl (n' := 125) ?_
  exact sd_iret C dX11_quarrel_125 (sd_fst hF) (sd_snd hF)
set_option maxRecDepth 100000 in
set_option maxHeartbeats 4000000 in
theorem tb_X11_quarrel_65 {K : sd_K} {E : sd_Env}   {r : (Int32 × sd_Mem)} (C : sd_C K E sd_LM RX11 cX11_quarrel 4 (some .int))  : ∀ (n : Nat), ∀ (M : sd_Mem) (x3 : Int32), fn_X11_quarrel_65 n M x3 = some r → sd_Z K rm_X11_quarrel E sd_LM 4 (sd_QI K E sd_LM r.1 r.2) M 65 [(0, .ref (E.2.2 100)), (3, .int x3)] [] := by
  intro n
  induction n with
  | zero => intro M x3 hF; cases hF
  | succ n ih =>
    intro M x3 hF
    unfold fn_X11_quarrel_65 at hF
    refine sd_iload_n C 1 dX11_quarrel_65 rfl rfl rfl (n' := 66) ?_
    refine sd_iconst C (v := 4) dX11_quarrel_66 rfl rfl (n' := 67) ?_
    refine sd_icmp_ge C (n' := 70) (tgt := 88) dX11_quarrel_67 rfl rfl (fun c67 => ?_) (fun c67 => ?_)
    · replace hF := sd_pos hF c67
      refine sd_sub [0] rfl ?_
      exact tb_X11_quarrel_88 C M hF
    · replace hF := sd_neg hF c67
      refine sd_aload_n C 0 dX11_quarrel_70 rfl rfl rfl (n' := 71) ?_
      refine sd_g11_13 C sd_i100 sd_k100 sd_w1054 dX11_quarrel_71 rfl (n' := 74) ?_
      refine sd_iload_n C 1 dX11_quarrel_74 rfl rfl rfl (n' := 75) ?_
      refine sd_aload_n C 0 dX11_quarrel_75 rfl rfl rfl (n' := 76) ?_
      refine sd_g11_20 C sd_i100 sd_k100 sd_w1061 dX11_quarrel_76 rfl (n' := 79) ?_
      refine sd_iload_n C 1 dX11_quarrel_79 rfl rfl rfl (n' := 80) ?_
      obtain ⟨b80, hF⟩ := sd_ok hF
      refine sd_iald C sd_i114 sd_k114 sd_n114 b80 dX11_quarrel_80 rfl (n' := 81) ?_
      obtain ⟨b81, hF⟩ := sd_ok hF
      refine sd_iast C sd_i110 sd_k110 sd_n110 b81 dX11_quarrel_81 rfl (n' := 82) ?_
      refine sd_iinc [(3, .int (x3 + (1 : Int32))), (0, .ref (E.2.2 100))] 1 C dX11_quarrel_82 rfl rfl (by decide) rfl rfl (n' := 85) ?_
      refine sd_goto C (tgt := 65) dX11_quarrel_85 rfl ?_
      refine sd_sub [1, 0] rfl ?_
      exact ih (sd_setI M 110 x3.toNatClampNeg (M.1 114 x3.toNatClampNeg)) (x3 + (1 : Int32)) hF
set_option maxRecDepth 100000 in
set_option maxHeartbeats 4000000 in
theorem tb_X11_quarrel_27 {K : sd_K} {E : sd_Env}   {r : (Int32 × sd_Mem)} (C : sd_C K E sd_LM RX11 cX11_quarrel 4 (some .int))  : ∀ (n : Nat), ∀ (M : sd_Mem) (x3 : Int32), fn_X11_quarrel_27 n M x3 = some r → sd_Z K rm_X11_quarrel E sd_LM 4 (sd_QI K E sd_LM r.1 r.2) M 27 [(0, .ref (E.2.2 100)), (3, .int x3)] [] := by
  intro n
  induction n with
  | zero => intro M x3 hF; cases hF
  | succ n ih =>
    intro M x3 hF
    unfold fn_X11_quarrel_27 at hF
    refine sd_iload_n C 1 dX11_quarrel_27 rfl rfl rfl (n' := 28) ?_
    refine sd_bipush C (v := 6) dX11_quarrel_28 rfl rfl (n' := 30) ?_
    refine sd_icmp_ge C (n' := 33) (tgt := 63) dX11_quarrel_30 rfl rfl (fun c30 => ?_) (fun c30 => ?_)
    · replace hF := sd_pos hF c30
      refine sd_iconst C (v := 0) dX11_quarrel_63 rfl rfl (n' := 64) ?_
      refine sd_istore_n [(3, .int (0 : Int32)), (0, .ref (E.2.2 100))] C dX11_quarrel_64 rfl (by decide) rfl rfl (n' := 65) ?_
      refine sd_sub [1, 0] rfl ?_
      exact tb_X11_quarrel_65 C sd_FU M (0 : Int32) hF
    · replace hF := sd_neg hF c30
      refine sd_aload_n C 0 dX11_quarrel_33 rfl rfl rfl (n' := 34) ?_
      refine sd_g11_11 C sd_i100 sd_k100 sd_w1052 dX11_quarrel_34 rfl (n' := 37) ?_
      refine sd_iload_n C 1 dX11_quarrel_37 rfl rfl rfl (n' := 38) ?_
      refine sd_aload_n C 0 dX11_quarrel_38 rfl rfl rfl (n' := 39) ?_
      refine sd_g11_18 C sd_i100 sd_k100 sd_w1059 dX11_quarrel_39 rfl (n' := 42) ?_
      refine sd_iload_n C 1 dX11_quarrel_42 rfl rfl rfl (n' := 43) ?_
      obtain ⟨b43, hF⟩ := sd_ok hF
      refine sd_iald C sd_i112 sd_k112 sd_n112 b43 dX11_quarrel_43 rfl (n' := 44) ?_
      obtain ⟨b44, hF⟩ := sd_ok hF
      refine sd_iast C sd_i108 sd_k108 sd_n108 b44 dX11_quarrel_44 rfl (n' := 45) ?_
      refine sd_aload_n C 0 dX11_quarrel_45 rfl rfl rfl (n' := 46) ?_
      refine sd_g11_12 C sd_i100 sd_k100 sd_w1053 dX11_quarrel_46 rfl (n' := 49) ?_
      refine sd_iload_n C 1 dX11_quarrel_49 rfl rfl rfl (n' := 50) ?_
      refine sd_aload_n C 0 dX11_quarrel_50 rfl rfl rfl (n' := 51) ?_
      refine sd_g11_19 C sd_i100 sd_k100 sd_w1060 dX11_quarrel_51 rfl (n' := 54) ?_
      refine sd_iload_n C 1 dX11_quarrel_54 rfl rfl rfl (n' := 55) ?_
      obtain ⟨b55, hF⟩ := sd_ok hF
      refine sd_iald C sd_i113 sd_k113 sd_n113 b55 dX11_quarrel_55 rfl (n' := 56) ?_
      obtain ⟨b56, hF⟩ := sd_ok hF
      refine sd_iast C sd_i109 sd_k109 sd_n109 b56 dX11_quarrel_56 rfl (n' := 57) ?_
      refine sd_iinc [(3, .int (x3 + (1 : Int32))), (0, .ref (E.2.2 100))] 1 C dX11_quarrel_57 rfl rfl (by decide) rfl rfl (n' := 60) ?_
      refine sd_goto C (tgt := 27) dX11_quarrel_60 rfl ?_
      refine sd_sub [1, 0] rfl ?_
      exact ih (sd_setI (sd_setI M 108 x3.toNatClampNeg (M.1 112 x3.toNatClampNeg)) 109 x3.toNatClampNeg ((sd_setI M 108 x3.toNatClampNeg (M.1 112 x3.toNatClampNeg)).1 113 x3.toNatClampNeg)) (x3 + (1 : Int32)) hF
set_option maxRecDepth 100000 in
set_option maxHeartbeats 4000000 in
theorem tb_X11_quarrel_0 {K : sd_K} {E : sd_Env}   {r : (Int32 × sd_Mem)} (C : sd_C K E sd_LM RX11 cX11_quarrel 4 (some .int))  : ∀ (M : sd_Mem) (x1 : Int32), fn_X11_quarrel_0 M x1 = some r → sd_Z K rm_X11_quarrel E sd_LM 4 (sd_QI K E sd_LM r.1 r.2) M 0 [(0, .ref (E.2.2 100)), (1, .int x1)] [] := by
  intro M x1 hF
  unfold fn_X11_quarrel_0 at hF
  refine sd_aload_n C 0 dX11_quarrel_0 rfl rfl rfl (n' := 1) ?_
  refine sd_iload_n C 1 dX11_quarrel_1 rfl rfl rfl (n' := 2) ?_
  obtain ⟨q2, e2, hF⟩ := sd_bind hF
  refine sd_callVI [.int x1] [] C (ct_X11_askedText M x1  e2) sd_lX11_122 ⟨rfl, rfl, Nat.le_of_ble_eq_true rfl, Nat.le_of_ble_eq_true rfl⟩ sd_i100 (sd_e12 sd_k100) rfl rfl rfl (Nat.le_of_ble_eq_true rfl) dX11_quarrel_2 rfl (n' := 5) ?_
  refine sd_istore_n [(2, .int q2.1), (0, .ref (E.2.2 100)), (1, .int x1)] C dX11_quarrel_5 rfl (by decide) rfl rfl (n' := 6) ?_
  refine sd_iload_n C 0 dX11_quarrel_6 rfl rfl rfl (n' := 7) ?_
  refine sd_if_ge C (n' := 10) (tgt := 12) dX11_quarrel_7 rfl rfl (fun c7 => ?_) (fun c7 => ?_)
  · replace hF := sd_pos hF c7
    refine sd_aload_n C 1 dX11_quarrel_12 rfl rfl rfl (n' := 13) ?_
    refine sd_iload_n C 2 dX11_quarrel_13 rfl rfl rfl (n' := 14) ?_
    obtain ⟨q14, e14, hF⟩ := sd_bind hF
    refine sd_callVI [.int x1] [] C (ct_X11_reads q2.2 x1  e14) sd_lX11_144 ⟨rfl, rfl, Nat.le_of_ble_eq_true rfl, Nat.le_of_ble_eq_true rfl⟩ sd_i100 (sd_e12 sd_k100) rfl rfl rfl (Nat.le_of_ble_eq_true rfl) dX11_quarrel_14 rfl (n' := 17) ?_
    refine sd_bipush C (v := -9) dX11_quarrel_17 rfl rfl (n' := 19) ?_
    refine sd_icmp_eq C (n' := 22) (tgt := 25) dX11_quarrel_19 rfl rfl (fun c19 => ?_) (fun c19 => ?_)
    · replace hF := sd_pos hF c19
      refine sd_iconst C (v := 0) dX11_quarrel_25 rfl rfl (n' := 26) ?_
      refine sd_istore_n [(3, .int (0 : Int32)), (2, .int q2.1), (0, .ref (E.2.2 100)), (1, .int x1)] C dX11_quarrel_26 rfl (by decide) rfl rfl (n' := 27) ?_
      refine sd_sub [2, 0] rfl ?_
      exact tb_X11_quarrel_27 C sd_FU q14.2 (0 : Int32) hF
    · replace hF := sd_neg hF c19
      refine sd_bipush C (v := -4) dX11_quarrel_22 rfl rfl (n' := 24) ?_
      exact sd_iret C dX11_quarrel_24 (sd_fst hF) (sd_snd hF)
  · replace hF := sd_neg hF c7
    refine sd_iload_n C 0 dX11_quarrel_10 rfl rfl rfl (n' := 11) ?_
    exact sd_iret C dX11_quarrel_11 (sd_fst hF) (sd_snd hF)
theorem ct_X11_quarrel {l : Launch} {E : sd_Env} (M : sd_Mem) (x1 : Int32)  {r : (Int32 × sd_Mem)} (hF : fn_X11_quarrel M x1 = some r) : sd_MI l E sd_LM yX11_quarrel cX11_quarrel 4 (some .int) rm_X11_quarrel [.ref (E.2.2 100), .int x1] M r.1 r.2 := sd_ent0 (by decide +kernel) (Nat.le_of_ble_eq_true rfl) (fun p e s m below meth c C => tb_X11_quarrel_0 C M x1 hF)
theorem dX11_tells_0 : decode cX11_tells 0 = .ok (.iload_n 1, 1) := by decide +kernel
theorem dX11_tells_1 : decode cX11_tells 1 = .ok (.tableswitch 73 0 8 #[51, 51, 73, 73, 73, 73, 58, 63, 68], 51) := by decide +kernel
theorem dX11_tells_52 : decode cX11_tells 52 = .ok (.aload_n 0, 1) := by decide +kernel
theorem dX11_tells_53 : decode cX11_tells 53 = .ok (.getfield 32, 3) := by decide +kernel
theorem dX11_tells_56 : decode cX11_tells 56 = .ok (.iload_n 1, 1) := by decide +kernel
theorem dX11_tells_57 : decode cX11_tells 57 = .ok (.iaload, 1) := by decide +kernel
theorem dX11_tells_58 : decode cX11_tells 58 = .ok (.ireturn, 1) := by decide +kernel
theorem dX11_tells_59 : decode cX11_tells 59 = .ok (.aload_n 0, 1) := by decide +kernel
theorem dX11_tells_60 : decode cX11_tells 60 = .ok (.getfield 44, 3) := by decide +kernel
theorem dX11_tells_63 : decode cX11_tells 63 = .ok (.ireturn, 1) := by decide +kernel
theorem dX11_tells_64 : decode cX11_tells 64 = .ok (.aload_n 0, 1) := by decide +kernel
theorem dX11_tells_65 : decode cX11_tells 65 = .ok (.getfield 147, 3) := by decide +kernel
theorem dX11_tells_68 : decode cX11_tells 68 = .ok (.ireturn, 1) := by decide +kernel
theorem dX11_tells_69 : decode cX11_tells 69 = .ok (.aload_n 0, 1) := by decide +kernel
theorem dX11_tells_70 : decode cX11_tells 70 = .ok (.getfield 48, 3) := by decide +kernel
theorem dX11_tells_73 : decode cX11_tells 73 = .ok (.ireturn, 1) := by decide +kernel
theorem dX11_tells_74 : decode cX11_tells 74 = .ok (.aload_n 0, 1) := by decide +kernel
theorem dX11_tells_75 : decode cX11_tells 75 = .ok (.getfield 41, 3) := by decide +kernel
theorem dX11_tells_78 : decode cX11_tells 78 = .ok (.iload_n 1, 1) := by decide +kernel
theorem dX11_tells_79 : decode cX11_tells 79 = .ok (.iconst 2, 1) := by decide +kernel
theorem dX11_tells_80 : decode cX11_tells 80 = .ok (.isub, 1) := by decide +kernel
theorem dX11_tells_81 : decode cX11_tells 81 = .ok (.iaload, 1) := by decide +kernel
theorem dX11_tells_82 : decode cX11_tells 82 = .ok (.ireturn, 1) := by decide +kernel
set_option maxRecDepth 100000 in
set_option maxHeartbeats 4000000 in
theorem tb_X11_tells_0 {K : sd_K} {E : sd_Env} {M : sd_Mem}  {r : Int32} (C : sd_C K E sd_LM RX11 cX11_tells 2 (some .int))  : ∀ (x1 : Int32), fn_X11_tells_0 M x1 = some r → sd_Z K rm_X11_tells E sd_LM 2 (sd_QI K E sd_LM r M) M 0 [(0, .ref (E.2.2 100)), (1, .int x1)] [] := by
  intro x1 hF
  unfold fn_X11_tells_0 at hF
  refine sd_iload_n C 1 dX11_tells_0 rfl rfl rfl (n' := 1) ?_
  by_cases c1 : x1.toInt < 0 ∨ 8 < x1.toInt
  · replace hF := sd_pos hF c1
    refine sd_tabOut C (tgt := 74) dX11_tells_1 c1 rfl ?_
    refine sd_aload_n C 0 dX11_tells_74 rfl rfl rfl (n' := 75) ?_
    refine sd_g11_13 C sd_i100 sd_k100 sd_w1054 dX11_tells_75 rfl (n' := 78) ?_
    refine sd_iload_n C 1 dX11_tells_78 rfl rfl rfl (n' := 79) ?_
    refine sd_iconst C (v := 2) dX11_tells_79 rfl rfl (n' := 80) ?_
    refine sd_isub C dX11_tells_80 rfl (n' := 81) ?_
    obtain ⟨b81, hF⟩ := sd_ok hF
    refine sd_iald C sd_i110 sd_k110 sd_n110 b81 dX11_tells_81 rfl (n' := 82) ?_
    exact sd_iret C dX11_tells_82 (Option.some.inj hF) rfl
  replace hF := sd_neg hF c1
  by_cases c1_0 : x1 = 0
  · replace hF := sd_pos hF c1_0
    refine sd_tabIn C (v := 0) (tgt := 52) c1_0 dX11_tells_1 (by decide) (by decide) rfl rfl ?_
    refine sd_aload_n C 0 dX11_tells_52 rfl rfl rfl (n' := 53) ?_
    refine sd_g11_10 C sd_i100 sd_k100 sd_w1051 dX11_tells_53 rfl (n' := 56) ?_
    refine sd_iload_n C 1 dX11_tells_56 rfl rfl rfl (n' := 57) ?_
    obtain ⟨b57, hF⟩ := sd_ok hF
    refine sd_iald C sd_i107 sd_k107 sd_n107 b57 dX11_tells_57 rfl (n' := 58) ?_
    exact sd_iret C dX11_tells_58 (Option.some.inj hF) rfl
  replace hF := sd_neg hF c1_0
  by_cases c1_1 : x1 = 1
  · replace hF := sd_pos hF c1_1
    refine sd_tabIn C (v := 1) (tgt := 52) c1_1 dX11_tells_1 (by decide) (by decide) rfl rfl ?_
    refine sd_aload_n C 0 dX11_tells_52 rfl rfl rfl (n' := 53) ?_
    refine sd_g11_10 C sd_i100 sd_k100 sd_w1051 dX11_tells_53 rfl (n' := 56) ?_
    refine sd_iload_n C 1 dX11_tells_56 rfl rfl rfl (n' := 57) ?_
    obtain ⟨b57, hF⟩ := sd_ok hF
    refine sd_iald C sd_i107 sd_k107 sd_n107 b57 dX11_tells_57 rfl (n' := 58) ?_
    exact sd_iret C dX11_tells_58 (Option.some.inj hF) rfl
  replace hF := sd_neg hF c1_1
  by_cases c1_2 : x1 = 2
  · replace hF := sd_pos hF c1_2
    refine sd_tabIn C (v := 2) (tgt := 74) c1_2 dX11_tells_1 (by decide) (by decide) rfl rfl ?_
    refine sd_aload_n C 0 dX11_tells_74 rfl rfl rfl (n' := 75) ?_
    refine sd_g11_13 C sd_i100 sd_k100 sd_w1054 dX11_tells_75 rfl (n' := 78) ?_
    refine sd_iload_n C 1 dX11_tells_78 rfl rfl rfl (n' := 79) ?_
    refine sd_iconst C (v := 2) dX11_tells_79 rfl rfl (n' := 80) ?_
    refine sd_isub C dX11_tells_80 rfl (n' := 81) ?_
    obtain ⟨b81, hF⟩ := sd_ok hF
    refine sd_iald C sd_i110 sd_k110 sd_n110 b81 dX11_tells_81 rfl (n' := 82) ?_
    exact sd_iret C dX11_tells_82 (Option.some.inj hF) rfl
  replace hF := sd_neg hF c1_2
  by_cases c1_3 : x1 = 3
  · replace hF := sd_pos hF c1_3
    refine sd_tabIn C (v := 3) (tgt := 74) c1_3 dX11_tells_1 (by decide) (by decide) rfl rfl ?_
    refine sd_aload_n C 0 dX11_tells_74 rfl rfl rfl (n' := 75) ?_
    refine sd_g11_13 C sd_i100 sd_k100 sd_w1054 dX11_tells_75 rfl (n' := 78) ?_
    refine sd_iload_n C 1 dX11_tells_78 rfl rfl rfl (n' := 79) ?_
    refine sd_iconst C (v := 2) dX11_tells_79 rfl rfl (n' := 80) ?_
    refine sd_isub C dX11_tells_80 rfl (n' := 81) ?_
    obtain ⟨b81, hF⟩ := sd_ok hF
    refine sd_iald C sd_i110 sd_k110 sd_n110 b81 dX11_tells_81 rfl (n' := 82) ?_
    exact sd_iret C dX11_tells_82 (Option.some.inj hF) rfl
  replace hF := sd_neg hF c1_3
  by_cases c1_4 : x1 = 4
  · replace hF := sd_pos hF c1_4
    refine sd_tabIn C (v := 4) (tgt := 74) c1_4 dX11_tells_1 (by decide) (by decide) rfl rfl ?_
    refine sd_aload_n C 0 dX11_tells_74 rfl rfl rfl (n' := 75) ?_
    refine sd_g11_13 C sd_i100 sd_k100 sd_w1054 dX11_tells_75 rfl (n' := 78) ?_
    refine sd_iload_n C 1 dX11_tells_78 rfl rfl rfl (n' := 79) ?_
    refine sd_iconst C (v := 2) dX11_tells_79 rfl rfl (n' := 80) ?_
    refine sd_isub C dX11_tells_80 rfl (n' := 81) ?_
    obtain ⟨b81, hF⟩ := sd_ok hF
    refine sd_iald C sd_i110 sd_k110 sd_n110 b81 dX11_tells_81 rfl (n' := 82) ?_
    exact sd_iret C dX11_tells_82 (Option.some.inj hF) rfl
  replace hF := sd_neg hF c1_4
  by_cases c1_5 : x1 = 5
  · replace hF := sd_pos hF c1_5
    refine sd_tabIn C (v := 5) (tgt := 74) c1_5 dX11_tells_1 (by decide) (by decide) rfl rfl ?_
    refine sd_aload_n C 0 dX11_tells_74 rfl rfl rfl (n' := 75) ?_
    refine sd_g11_13 C sd_i100 sd_k100 sd_w1054 dX11_tells_75 rfl (n' := 78) ?_
    refine sd_iload_n C 1 dX11_tells_78 rfl rfl rfl (n' := 79) ?_
    refine sd_iconst C (v := 2) dX11_tells_79 rfl rfl (n' := 80) ?_
    refine sd_isub C dX11_tells_80 rfl (n' := 81) ?_
    obtain ⟨b81, hF⟩ := sd_ok hF
    refine sd_iald C sd_i110 sd_k110 sd_n110 b81 dX11_tells_81 rfl (n' := 82) ?_
    exact sd_iret C dX11_tells_82 (Option.some.inj hF) rfl
  replace hF := sd_neg hF c1_5
  by_cases c1_6 : x1 = 6
  · replace hF := sd_pos hF c1_6
    refine sd_tabIn C (v := 6) (tgt := 59) c1_6 dX11_tells_1 (by decide) (by decide) rfl rfl ?_
    refine sd_aload_n C 0 dX11_tells_59 rfl rfl rfl (n' := 60) ?_
    refine sd_g11_14 C sd_i100 sd_k100 sd_w1055 dX11_tells_60 rfl (n' := 63) ?_
    exact sd_iret C dX11_tells_63 (Option.some.inj hF) rfl
  replace hF := sd_neg hF c1_6
  by_cases c1_7 : x1 = 7
  · replace hF := sd_pos hF c1_7
    refine sd_tabIn C (v := 7) (tgt := 64) c1_7 dX11_tells_1 (by decide) (by decide) rfl rfl ?_
    refine sd_aload_n C 0 dX11_tells_64 rfl rfl rfl (n' := 65) ?_
    refine sd_g11_15 C sd_i100 sd_k100 sd_w1056 dX11_tells_65 rfl (n' := 68) ?_
    exact sd_iret C dX11_tells_68 (Option.some.inj hF) rfl
  replace hF := sd_neg hF c1_7
  by_cases c1_8 : x1 = 8
  · replace hF := sd_pos hF c1_8
    refine sd_tabIn C (v := 8) (tgt := 69) c1_8 dX11_tells_1 (by decide) (by decide) rfl rfl ?_
    refine sd_aload_n C 0 dX11_tells_69 rfl rfl rfl (n' := 70) ?_
    refine sd_g11_16 C sd_i100 sd_k100 sd_w1057 dX11_tells_70 rfl (n' := 73) ?_
    exact sd_iret C dX11_tells_73 (Option.some.inj hF) rfl
  replace hF := sd_neg hF c1_8
  cases hF
theorem ct_X11_tells {l : Launch} {E : sd_Env} (M : sd_Mem) (x1 : Int32)  {r : Int32} (hF : fn_X11_tells M x1 = some r) : sd_MI l E sd_LM yX11_tells cX11_tells 2 (some .int) rm_X11_tells [.ref (E.2.2 100), .int x1] M r M := sd_ent0 (by decide +kernel) (Nat.le_of_ble_eq_true rfl) (fun p e s m below meth c C => tb_X11_tells_0 C x1 hF)
