theorem dX10_morning_0 : decode cX10_morning 0 = .ok (.aload_n 0, 1) := by decide +kernel
theorem dX10_morning_1 : decode cX10_morning 1 = .ok (.getfield 27, 3) := by decide +kernel
theorem dX10_morning_4 : decode cX10_morning 4 = .ok (.iconst 1, 1) := by decide +kernel
theorem dX10_morning_5 : decode cX10_morning 5 = .ok (.iload_n 3, 1) := by decide +kernel
theorem dX10_morning_6 : decode cX10_morning 6 = .ok (.invokevirtual 159, 3) := by decide +kernel
theorem dX10_morning_9 : decode cX10_morning 9 = .ok (.ifCond .eq 16, 3) := by decide +kernel
theorem dX10_morning_12 : decode cX10_morning 12 = .ok (.aload_n 0, 1) := by decide +kernel
theorem dX10_morning_13 : decode cX10_morning 13 = .ok (.getfield 27, 3) := by decide +kernel
theorem dX10_morning_16 : decode cX10_morning 16 = .ok (.iconst 0, 1) := by decide +kernel
theorem dX10_morning_17 : decode cX10_morning 17 = .ok (.iload 4, 2) := by decide +kernel
theorem dX10_morning_19 : decode cX10_morning 19 = .ok (.invokevirtual 159, 3) := by decide +kernel
theorem dX10_morning_22 : decode cX10_morning 22 = .ok (.ifCond .ne 5, 3) := by decide +kernel
theorem dX10_morning_25 : decode cX10_morning 25 = .ok (.iconst (-1), 1) := by decide +kernel
theorem dX10_morning_26 : decode cX10_morning 26 = .ok (.ireturn, 1) := by decide +kernel
theorem dX10_morning_27 : decode cX10_morning 27 = .ok (.aload_n 0, 1) := by decide +kernel
theorem dX10_morning_28 : decode cX10_morning 28 = .ok (.iload_n 1, 1) := by decide +kernel
theorem dX10_morning_29 : decode cX10_morning 29 = .ok (.iload_n 2, 1) := by decide +kernel
theorem dX10_morning_30 : decode cX10_morning 30 = .ok (.iconst 1, 1) := by decide +kernel
theorem dX10_morning_31 : decode cX10_morning 31 = .ok (.invokevirtual 216, 3) := by decide +kernel
theorem dX10_morning_34 : decode cX10_morning 34 = .ok (.istore 5, 2) := by decide +kernel
theorem dX10_morning_36 : decode cX10_morning 36 = .ok (.iload 5, 2) := by decide +kernel
theorem dX10_morning_38 : decode cX10_morning 38 = .ok (.ifCond .eq 6, 3) := by decide +kernel
theorem dX10_morning_41 : decode cX10_morning 41 = .ok (.iload 5, 2) := by decide +kernel
theorem dX10_morning_43 : decode cX10_morning 43 = .ok (.ireturn, 1) := by decide +kernel
theorem dX10_morning_44 : decode cX10_morning 44 = .ok (.aload_n 0, 1) := by decide +kernel
theorem dX10_morning_45 : decode cX10_morning 45 = .ok (.getfield 53, 3) := by decide +kernel
theorem dX10_morning_48 : decode cX10_morning 48 = .ok (.aload_n 0, 1) := by decide +kernel
theorem dX10_morning_49 : decode cX10_morning 49 = .ok (.getfield 20, 3) := by decide +kernel
theorem dX10_morning_52 : decode cX10_morning 52 = .ok (.iload_n 1, 1) := by decide +kernel
theorem dX10_morning_53 : decode cX10_morning 53 = .ok (.aaload, 1) := by decide +kernel
theorem dX10_morning_54 : decode cX10_morning 54 = .ok (.aload_n 0, 1) := by decide +kernel
theorem dX10_morning_55 : decode cX10_morning 55 = .ok (.getfield 20, 3) := by decide +kernel
theorem dX10_morning_58 : decode cX10_morning 58 = .ok (.iload_n 2, 1) := by decide +kernel
theorem dX10_morning_59 : decode cX10_morning 59 = .ok (.aaload, 1) := by decide +kernel
theorem dX10_morning_60 : decode cX10_morning 60 = .ok (.iload_n 3, 1) := by decide +kernel
theorem dX10_morning_61 : decode cX10_morning 61 = .ok (.iload 4, 2) := by decide +kernel
theorem dX10_morning_63 : decode cX10_morning 63 = .ok (.invokevirtual 220, 3) := by decide +kernel
theorem dX10_morning_66 : decode cX10_morning 66 = .ok (.istore 6, 2) := by decide +kernel
theorem dX10_morning_68 : decode cX10_morning 68 = .ok (.aload_n 0, 1) := by decide +kernel
theorem dX10_morning_69 : decode cX10_morning 69 = .ok (.getfield 53, 3) := by decide +kernel
theorem dX10_morning_72 : decode cX10_morning 72 = .ok (.aload_n 0, 1) := by decide +kernel
theorem dX10_morning_73 : decode cX10_morning 73 = .ok (.getfield 20, 3) := by decide +kernel
theorem dX10_morning_76 : decode cX10_morning 76 = .ok (.iload_n 1, 1) := by decide +kernel
theorem dX10_morning_77 : decode cX10_morning 77 = .ok (.aaload, 1) := by decide +kernel
theorem dX10_morning_78 : decode cX10_morning 78 = .ok (.iload_n 3, 1) := by decide +kernel
theorem dX10_morning_79 : decode cX10_morning 79 = .ok (.iload 6, 2) := by decide +kernel
theorem dX10_morning_81 : decode cX10_morning 81 = .ok (.invokevirtual 224, 3) := by decide +kernel
theorem dX10_morning_84 : decode cX10_morning 84 = .ok (.istore 7, 2) := by decide +kernel
theorem dX10_morning_86 : decode cX10_morning 86 = .ok (.iconst 0, 1) := by decide +kernel
theorem dX10_morning_87 : decode cX10_morning 87 = .ok (.istore 8, 2) := by decide +kernel
theorem dX10_morning_89 : decode cX10_morning 89 = .ok (.iconst 0, 1) := by decide +kernel
theorem dX10_morning_90 : decode cX10_morning 90 = .ok (.istore 9, 2) := by decide +kernel
theorem dX10_morning_92 : decode cX10_morning 92 = .ok (.iload 9, 2) := by decide +kernel
theorem dX10_morning_94 : decode cX10_morning 94 = .ok (.bipush 12, 2) := by decide +kernel
theorem dX10_morning_96 : decode cX10_morning 96 = .ok (.if_icmp .gt 100, 3) := by decide +kernel
theorem dX10_morning_99 : decode cX10_morning 99 = .ok (.aload_n 0, 1) := by decide +kernel
theorem dX10_morning_100 : decode cX10_morning 100 = .ok (.getfield 27, 3) := by decide +kernel
theorem dX10_morning_103 : decode cX10_morning 103 = .ok (.iconst 0, 1) := by decide +kernel
theorem dX10_morning_104 : decode cX10_morning 104 = .ok (.iload 4, 2) := by decide +kernel
theorem dX10_morning_106 : decode cX10_morning 106 = .ok (.iconst 1, 1) := by decide +kernel
theorem dX10_morning_107 : decode cX10_morning 107 = .ok (.iload 9, 2) := by decide +kernel
theorem dX10_morning_109 : decode cX10_morning 109 = .ok (.invokevirtual 290, 3) := by decide +kernel
theorem dX10_morning_112 : decode cX10_morning 112 = .ok (.aload_n 0, 1) := by decide +kernel
theorem dX10_morning_113 : decode cX10_morning 113 = .ok (.getfield 27, 3) := by decide +kernel
theorem dX10_morning_116 : decode cX10_morning 116 = .ok (.iconst 0, 1) := by decide +kernel
theorem dX10_morning_117 : decode cX10_morning 117 = .ok (.iload 4, 2) := by decide +kernel
theorem dX10_morning_119 : decode cX10_morning 119 = .ok (.iload 6, 2) := by decide +kernel
theorem dX10_morning_121 : decode cX10_morning 121 = .ok (.iload 7, 2) := by decide +kernel
theorem dX10_morning_123 : decode cX10_morning 123 = .ok (.invokevirtual 290, 3) := by decide +kernel
theorem dX10_morning_126 : decode cX10_morning 126 = .ok (.lsub, 1) := by decide +kernel
theorem dX10_morning_127 : decode cX10_morning 127 = .ok (.lstore 10, 2) := by decide +kernel
theorem dX10_morning_129 : decode cX10_morning 129 = .ok (.aload_n 0, 1) := by decide +kernel
theorem dX10_morning_130 : decode cX10_morning 130 = .ok (.getfield 27, 3) := by decide +kernel
theorem dX10_morning_133 : decode cX10_morning 133 = .ok (.iconst 1, 1) := by decide +kernel
theorem dX10_morning_134 : decode cX10_morning 134 = .ok (.iload_n 3, 1) := by decide +kernel
theorem dX10_morning_135 : decode cX10_morning 135 = .ok (.iconst 1, 1) := by decide +kernel
theorem dX10_morning_136 : decode cX10_morning 136 = .ok (.iload 9, 2) := by decide +kernel
theorem dX10_morning_138 : decode cX10_morning 138 = .ok (.invokevirtual 290, 3) := by decide +kernel
theorem dX10_morning_141 : decode cX10_morning 141 = .ok (.aload_n 0, 1) := by decide +kernel
theorem dX10_morning_142 : decode cX10_morning 142 = .ok (.getfield 27, 3) := by decide +kernel
theorem dX10_morning_145 : decode cX10_morning 145 = .ok (.iconst 1, 1) := by decide +kernel
theorem dX10_morning_146 : decode cX10_morning 146 = .ok (.iload_n 3, 1) := by decide +kernel
theorem dX10_morning_147 : decode cX10_morning 147 = .ok (.iload 6, 2) := by decide +kernel
theorem dX10_morning_149 : decode cX10_morning 149 = .ok (.iload 7, 2) := by decide +kernel
theorem dX10_morning_151 : decode cX10_morning 151 = .ok (.invokevirtual 290, 3) := by decide +kernel
theorem dX10_morning_154 : decode cX10_morning 154 = .ok (.lsub, 1) := by decide +kernel
theorem dX10_morning_155 : decode cX10_morning 155 = .ok (.lstore 12, 2) := by decide +kernel
theorem dX10_morning_157 : decode cX10_morning 157 = .ok (.lload 10, 2) := by decide +kernel
theorem dX10_morning_159 : decode cX10_morning 159 = .ok (.lconst 0, 1) := by decide +kernel
theorem dX10_morning_160 : decode cX10_morning 160 = .ok (.lcmp, 1) := by decide +kernel
theorem dX10_morning_161 : decode cX10_morning 161 = .ok (.ifCond .lt 29, 3) := by decide +kernel
theorem dX10_morning_164 : decode cX10_morning 164 = .ok (.lload 12, 2) := by decide +kernel
theorem dX10_morning_166 : decode cX10_morning 166 = .ok (.lconst 0, 1) := by decide +kernel
theorem dX10_morning_167 : decode cX10_morning 167 = .ok (.lcmp, 1) := by decide +kernel
theorem dX10_morning_168 : decode cX10_morning 168 = .ok (.ifCond .lt 22, 3) := by decide +kernel
theorem dX10_morning_171 : decode cX10_morning 171 = .ok (.lload 10, 2) := by decide +kernel
theorem dX10_morning_173 : decode cX10_morning 173 = .ok (.lload 12, 2) := by decide +kernel
theorem dX10_morning_175 : decode cX10_morning 175 = .ok (.ladd, 1) := by decide +kernel
theorem dX10_morning_176 : decode cX10_morning 176 = .ok (.lconst 0, 1) := by decide +kernel
theorem dX10_morning_177 : decode cX10_morning 177 = .ok (.lcmp, 1) := by decide +kernel
theorem dX10_morning_178 : decode cX10_morning 178 = .ok (.ifCond .le 12, 3) := by decide +kernel
theorem dX10_morning_181 : decode cX10_morning 181 = .ok (.iload 8, 2) := by decide +kernel
theorem dX10_morning_183 : decode cX10_morning 183 = .ok (.iconst 1, 1) := by decide +kernel
theorem dX10_morning_184 : decode cX10_morning 184 = .ok (.iload 9, 2) := by decide +kernel
theorem dX10_morning_186 : decode cX10_morning 186 = .ok (.ishl, 1) := by decide +kernel
theorem dX10_morning_187 : decode cX10_morning 187 = .ok (.ior, 1) := by decide +kernel
theorem dX10_morning_188 : decode cX10_morning 188 = .ok (.istore 8, 2) := by decide +kernel
theorem dX10_morning_190 : decode cX10_morning 190 = .ok (.iinc 9 1, 3) := by decide +kernel
theorem dX10_morning_193 : decode cX10_morning 193 = .ok (.goto (-101), 3) := by decide +kernel
theorem dX10_morning_196 : decode cX10_morning 196 = .ok (.iload 8, 2) := by decide +kernel
theorem dX10_morning_198 : decode cX10_morning 198 = .ok (.ireturn, 1) := by decide +kernel
set_option maxRecDepth 100000 in
set_option maxHeartbeats 4000000 in
theorem tb_X10_morning_92 {K : sd_K} {E : sd_Env}   {r : (Int32 × sd_Mem)} (C : sd_C K E sd_LC RX10 cX10_morning 14 (some .int))  : ∀ (n : Nat), ∀ (M : sd_Mem) (x3 : Int32) (x4 : Int32) (x6 : Int32) (x7 : Int32) (x8 : Int32) (x9 : Int32), fn_X10_morning_92 n M x3 x4 x6 x7 x8 x9 = some r → sd_Z K rm_X10_morning E sd_LC 14 (sd_QI K E sd_LC r.1 r.2) M 92 [(0, .ref (E.2.2 0)), (3, .int x3), (4, .int x4), (6, .int x6), (7, .int x7), (8, .int x8), (9, .int x9)] [] := by
  intro n
  induction n with
  | zero => intro M x3 x4 x6 x7 x8 x9 hF; cases hF
  | succ n ih =>
    intro M x3 x4 x6 x7 x8 x9 hF
    unfold fn_X10_morning_92 at hF
    refine sd_iload C 6 dX10_morning_92 rfl rfl (n' := 94) ?_
    refine sd_bipush C (v := 12) dX10_morning_94 rfl rfl (n' := 96) ?_
    refine sd_icmp_gt C (n' := 99) (tgt := 196) dX10_morning_96 rfl rfl (fun c96 => ?_) (fun c96 => ?_)
    · replace hF := sd_pos hF c96
      refine sd_iload C 5 dX10_morning_196 rfl rfl (n' := 198) ?_
      exact sd_iret C dX10_morning_198 (sd_fst hF) (sd_snd hF)
    · replace hF := sd_neg hF c96
      refine sd_aload_n C 0 dX10_morning_99 rfl rfl rfl (n' := 100) ?_
      refine sd_g10_3 C sd_i0 sd_k0 sd_w331 dX10_morning_100 rfl (n' := 103) ?_
      refine sd_iconst C (v := 0) dX10_morning_103 rfl rfl (n' := 104) ?_
      refine sd_iload C 2 dX10_morning_104 rfl rfl (n' := 106) ?_
      refine sd_iconst C (v := 1) dX10_morning_106 rfl rfl (n' := 107) ?_
      refine sd_iload C 6 dX10_morning_107 rfl rfl (n' := 109) ?_
      obtain ⟨q109, e109, hF⟩ := sd_bind hF
      refine sd_callVL [.int (0 : Int32), .int x4, .int (1 : Int32), .int x9] [] C (ct_X5_pay M 40 (0 : Int32) x4 (1 : Int32) x9 sd_k40 e109) sd_lX10_290 ⟨rfl, rfl, Nat.le_of_ble_eq_true rfl, Nat.le_of_ble_eq_true rfl⟩ sd_i40 (sd_e6 sd_k40) rfl rfl rfl (Nat.le_of_ble_eq_true rfl) dX10_morning_109 rfl (n' := 112) ?_
      refine sd_aload_n C 0 dX10_morning_112 rfl rfl rfl (n' := 113) ?_
      refine sd_g10_3 C sd_i0 sd_k0 sd_w331 dX10_morning_113 rfl (n' := 116) ?_
      refine sd_iconst C (v := 0) dX10_morning_116 rfl rfl (n' := 117) ?_
      refine sd_iload C 2 dX10_morning_117 rfl rfl (n' := 119) ?_
      refine sd_iload C 3 dX10_morning_119 rfl rfl (n' := 121) ?_
      refine sd_iload C 4 dX10_morning_121 rfl rfl (n' := 123) ?_
      obtain ⟨q123, e123, hF⟩ := sd_bind hF
      refine sd_callVL [.int (0 : Int32), .int x4, .int x6, .int x7] [.long q109] C (ct_X5_pay M 40 (0 : Int32) x4 x6 x7 sd_k40 e123) sd_lX10_290 ⟨rfl, rfl, Nat.le_of_ble_eq_true rfl, Nat.le_of_ble_eq_true rfl⟩ sd_i40 (sd_e6 sd_k40) rfl rfl rfl (Nat.le_of_ble_eq_true rfl) dX10_morning_123 rfl (n' := 126) ?_
      refine sd_lsub C dX10_morning_126 rfl (n' := 127) ?_
      refine sd_lstore [(10, .long (q109 - q123)), (0, .ref (E.2.2 0)), (3, .int x3), (4, .int x4), (6, .int x6), (7, .int x7), (8, .int x8), (9, .int x9)] C dX10_morning_127 (by decide) rfl rfl (n' := 129) ?_
      refine sd_aload_n C 1 dX10_morning_129 rfl rfl rfl (n' := 130) ?_
      refine sd_g10_3 C sd_i0 sd_k0 sd_w331 dX10_morning_130 rfl (n' := 133) ?_
      refine sd_iconst C (v := 1) dX10_morning_133 rfl rfl (n' := 134) ?_
      refine sd_iload_n C 2 dX10_morning_134 rfl rfl rfl (n' := 135) ?_
      refine sd_iconst C (v := 1) dX10_morning_135 rfl rfl (n' := 136) ?_
      refine sd_iload C 7 dX10_morning_136 rfl rfl (n' := 138) ?_
      obtain ⟨q138, e138, hF⟩ := sd_bind hF
      refine sd_callVL [.int (1 : Int32), .int x3, .int (1 : Int32), .int x9] [] C (ct_X5_pay M 40 (1 : Int32) x3 (1 : Int32) x9 sd_k40 e138) sd_lX10_290 ⟨rfl, rfl, Nat.le_of_ble_eq_true rfl, Nat.le_of_ble_eq_true rfl⟩ sd_i40 (sd_e6 sd_k40) rfl rfl rfl (Nat.le_of_ble_eq_true rfl) dX10_morning_138 rfl (n' := 141) ?_
      refine sd_aload_n C 1 dX10_morning_141 rfl rfl rfl (n' := 142) ?_
      refine sd_g10_3 C sd_i0 sd_k0 sd_w331 dX10_morning_142 rfl (n' := 145) ?_
      refine sd_iconst C (v := 1) dX10_morning_145 rfl rfl (n' := 146) ?_
      refine sd_iload_n C 2 dX10_morning_146 rfl rfl rfl (n' := 147) ?_
      refine sd_iload C 4 dX10_morning_147 rfl rfl (n' := 149) ?_
      refine sd_iload C 5 dX10_morning_149 rfl rfl (n' := 151) ?_
      obtain ⟨q151, e151, hF⟩ := sd_bind hF
      refine sd_callVL [.int (1 : Int32), .int x3, .int x6, .int x7] [.long q138] C (ct_X5_pay M 40 (1 : Int32) x3 x6 x7 sd_k40 e151) sd_lX10_290 ⟨rfl, rfl, Nat.le_of_ble_eq_true rfl, Nat.le_of_ble_eq_true rfl⟩ sd_i40 (sd_e6 sd_k40) rfl rfl rfl (Nat.le_of_ble_eq_true rfl) dX10_morning_151 rfl (n' := 154) ?_
      refine sd_lsub C dX10_morning_154 rfl (n' := 155) ?_
      refine sd_lstore [(12, .long (q138 - q151)), (10, .long (q109 - q123)), (0, .ref (E.2.2 0)), (3, .int x3), (4, .int x4), (6, .int x6), (7, .int x7), (8, .int x8), (9, .int x9)] C dX10_morning_155 (by decide) rfl rfl (n' := 157) ?_
      refine sd_lload C 1 dX10_morning_157 rfl rfl (n' := 159) ?_
      refine sd_lconst C (v := 0) dX10_morning_159 rfl rfl (n' := 160) ?_
      refine sd_lcmp C dX10_morning_160 rfl (n' := 161) ?_
      refine sd_if_lt C (n' := 164) (tgt := 190) dX10_morning_161 rfl rfl (fun c161 => ?_) (fun c161 => ?_)
      · replace hF := sd_pos hF c161
        refine sd_iinc [(9, .int (x9 + (1 : Int32))), (12, .long (q138 - q151)), (10, .long (q109 - q123)), (0, .ref (E.2.2 0)), (3, .int x3), (4, .int x4), (6, .int x6), (7, .int x7), (8, .int x8)] 8 C dX10_morning_190 rfl rfl (by decide) rfl rfl (n' := 193) ?_
        refine sd_goto C (tgt := 92) dX10_morning_193 rfl ?_
        refine sd_sub [3, 4, 5, 6, 7, 8, 0] rfl ?_
        exact ih M x3 x4 x6 x7 x8 (x9 + (1 : Int32)) hF
      · replace hF := sd_neg hF c161
        refine sd_lload C 0 dX10_morning_164 rfl rfl (n' := 166) ?_
        refine sd_lconst C (v := 0) dX10_morning_166 rfl rfl (n' := 167) ?_
        refine sd_lcmp C dX10_morning_167 rfl (n' := 168) ?_
        refine sd_if_lt C (n' := 171) (tgt := 190) dX10_morning_168 rfl rfl (fun c168 => ?_) (fun c168 => ?_)
        · replace hF := sd_pos hF c168
          refine sd_iinc [(9, .int (x9 + (1 : Int32))), (12, .long (q138 - q151)), (10, .long (q109 - q123)), (0, .ref (E.2.2 0)), (3, .int x3), (4, .int x4), (6, .int x6), (7, .int x7), (8, .int x8)] 8 C dX10_morning_190 rfl rfl (by decide) rfl rfl (n' := 193) ?_
          refine sd_goto C (tgt := 92) dX10_morning_193 rfl ?_
          refine sd_sub [3, 4, 5, 6, 7, 8, 0] rfl ?_
          exact ih M x3 x4 x6 x7 x8 (x9 + (1 : Int32)) hF
        · replace hF := sd_neg hF c168
          refine sd_lload C 1 dX10_morning_171 rfl rfl (n' := 173) ?_
          refine sd_lload C 0 dX10_morning_173 rfl rfl (n' := 175) ?_
          refine sd_ladd C dX10_morning_175 rfl (n' := 176) ?_
          refine sd_lconst C (v := 0) dX10_morning_176 rfl rfl (n' := 177) ?_
          refine sd_lcmp C dX10_morning_177 rfl (n' := 178) ?_
          refine sd_if_le C (n' := 181) (tgt := 190) dX10_morning_178 rfl rfl (fun c178 => ?_) (fun c178 => ?_)
          · replace hF := sd_pos hF c178
            refine sd_iinc [(9, .int (x9 + (1 : Int32))), (12, .long (q138 - q151)), (10, .long (q109 - q123)), (0, .ref (E.2.2 0)), (3, .int x3), (4, .int x4), (6, .int x6), (7, .int x7), (8, .int x8)] 8 C dX10_morning_190 rfl rfl (by decide) rfl rfl (n' := 193) ?_
            refine sd_goto C (tgt := 92) dX10_morning_193 rfl ?_
            refine sd_sub [3, 4, 5, 6, 7, 8, 0] rfl ?_
            exact ih M x3 x4 x6 x7 x8 (x9 + (1 : Int32)) hF
          · replace hF := sd_neg hF c178
            refine sd_iload C 7 dX10_morning_181 rfl rfl (n' := 183) ?_
            refine sd_iconst C (v := 1) dX10_morning_183 rfl rfl (n' := 184) ?_
            refine sd_iload C 8 dX10_morning_184 rfl rfl (n' := 186) ?_
            refine sd_ishl C dX10_morning_186 rfl (n' := 187) ?_
            refine sd_ior C dX10_morning_187 rfl (n' := 188) ?_
            refine sd_istore [(8, .int (x8 ||| ((1 : Int32) <<< (x9 &&& 31)))), (12, .long (q138 - q151)), (10, .long (q109 - q123)), (0, .ref (E.2.2 0)), (3, .int x3), (4, .int x4), (6, .int x6), (7, .int x7), (9, .int x9)] C dX10_morning_188 (by decide) rfl rfl (n' := 190) ?_
            refine sd_iinc [(9, .int (x9 + (1 : Int32))), (8, .int (x8 ||| ((1 : Int32) <<< (x9 &&& 31)))), (12, .long (q138 - q151)), (10, .long (q109 - q123)), (0, .ref (E.2.2 0)), (3, .int x3), (4, .int x4), (6, .int x6), (7, .int x7)] 8 C dX10_morning_190 rfl rfl (by decide) rfl rfl (n' := 193) ?_
            refine sd_goto C (tgt := 92) dX10_morning_193 rfl ?_
            refine sd_sub [4, 5, 6, 7, 8, 1, 0] rfl ?_
            exact ih M x3 x4 x6 x7 (x8 ||| ((1 : Int32) <<< (x9 &&& 31))) (x9 + (1 : Int32)) hF
set_option maxRecDepth 100000 in
set_option maxHeartbeats 4000000 in
theorem tb_X10_morning_0 {K : sd_K} {E : sd_Env}   {r : (Int32 × sd_Mem)} (C : sd_C K E sd_LC RX10 cX10_morning 14 (some .int))  : ∀ (M : sd_Mem) (x1 : Int32) (x2 : Int32) (x3 : Int32) (x4 : Int32), fn_X10_morning_0 M x1 x2 x3 x4 = some r → sd_Z K rm_X10_morning E sd_LC 14 (sd_QI K E sd_LC r.1 r.2) M 0 [(0, .ref (E.2.2 0)), (1, .int x1), (2, .int x2), (3, .int x3), (4, .int x4)] [] := by
  intro M x1 x2 x3 x4 hF
  unfold fn_X10_morning_0 at hF
  refine sd_aload_n C 0 dX10_morning_0 rfl rfl rfl (n' := 1) ?_
  refine sd_g10_3 C sd_i0 sd_k0 sd_w331 dX10_morning_1 rfl (n' := 4) ?_
  refine sd_iconst C (v := 1) dX10_morning_4 rfl rfl (n' := 5) ?_
  refine sd_iload_n C 3 dX10_morning_5 rfl rfl rfl (n' := 6) ?_
  obtain ⟨q6, e6, hF⟩ := sd_bind hF
  refine sd_callVI [.int (1 : Int32), .int x3] [] C (ct_X5_hasSort M 40 (1 : Int32) x3 sd_k40 e6) sd_lX10_159 ⟨rfl, rfl, Nat.le_of_ble_eq_true rfl, Nat.le_of_ble_eq_true rfl⟩ sd_i40 (sd_e6 sd_k40) rfl rfl rfl (Nat.le_of_ble_eq_true rfl) dX10_morning_6 rfl (n' := 9) ?_
  refine sd_if_eq C (n' := 12) (tgt := 25) dX10_morning_9 rfl rfl (fun c9 => ?_) (fun c9 => ?_)
  · replace hF := sd_pos hF c9
    refine sd_iconst C (v := -1) dX10_morning_25 rfl rfl (n' := 26) ?_
    exact sd_iret C dX10_morning_26 (sd_fst hF) (sd_snd hF)
  · replace hF := sd_neg hF c9
    refine sd_aload_n C 0 dX10_morning_12 rfl rfl rfl (n' := 13) ?_
    refine sd_g10_3 C sd_i0 sd_k0 sd_w331 dX10_morning_13 rfl (n' := 16) ?_
    refine sd_iconst C (v := 0) dX10_morning_16 rfl rfl (n' := 17) ?_
    refine sd_iload C 4 dX10_morning_17 rfl rfl (n' := 19) ?_
    obtain ⟨q19, e19, hF⟩ := sd_bind hF
    refine sd_callVI [.int (0 : Int32), .int x4] [] C (ct_X5_hasSort M 40 (0 : Int32) x4 sd_k40 e19) sd_lX10_159 ⟨rfl, rfl, Nat.le_of_ble_eq_true rfl, Nat.le_of_ble_eq_true rfl⟩ sd_i40 (sd_e6 sd_k40) rfl rfl rfl (Nat.le_of_ble_eq_true rfl) dX10_morning_19 rfl (n' := 22) ?_
    refine sd_if_ne C (n' := 25) (tgt := 27) dX10_morning_22 rfl rfl (fun c22 => ?_) (fun c22 => ?_)
    · replace hF := sd_neg hF c22
      refine sd_aload_n C 0 dX10_morning_27 rfl rfl rfl (n' := 28) ?_
      refine sd_iload_n C 1 dX10_morning_28 rfl rfl rfl (n' := 29) ?_
      refine sd_iload_n C 2 dX10_morning_29 rfl rfl rfl (n' := 30) ?_
      refine sd_iconst C (v := 1) dX10_morning_30 rfl rfl (n' := 31) ?_
      obtain ⟨q31, e31, hF⟩ := sd_bind hF
      refine sd_callVI [.int x1, .int x2, .int (1 : Int32)] [] C (ct_X10_refusePair M x1 x2 (1 : Int32)  e31) sd_lX10_216 ⟨rfl, rfl, Nat.le_of_ble_eq_true rfl, Nat.le_of_ble_eq_true rfl⟩ sd_i0 (sd_e11 sd_k0) rfl rfl rfl (Nat.le_of_ble_eq_true rfl) dX10_morning_31 rfl (n' := 34) ?_
      refine sd_istore [(5, .int q31.1), (0, .ref (E.2.2 0)), (1, .int x1), (2, .int x2), (3, .int x3), (4, .int x4)] C dX10_morning_34 (by decide) rfl rfl (n' := 36) ?_
      refine sd_iload C 0 dX10_morning_36 rfl rfl (n' := 38) ?_
      refine sd_if_eq C (n' := 41) (tgt := 44) dX10_morning_38 rfl rfl (fun c38 => ?_) (fun c38 => ?_)
      · replace hF := sd_pos hF c38
        refine sd_aload_n C 1 dX10_morning_44 rfl rfl rfl (n' := 45) ?_
        refine sd_g10_7 C sd_i0 sd_k0 sd_w335 dX10_morning_45 rfl (n' := 48) ?_
        refine sd_aload_n C 1 dX10_morning_48 rfl rfl rfl (n' := 49) ?_
        refine sd_g10_2 C sd_i0 sd_k0 sd_w330 dX10_morning_49 rfl (n' := 52) ?_
        refine sd_iload_n C 2 dX10_morning_52 rfl rfl rfl (n' := 53) ?_
        obtain ⟨b53, hF⟩ := sd_ok hF
        refine sd_wald C sd_i23 sd_k23 sd_n23 b53 dX10_morning_53 rfl (n' := 54) ?_
        refine sd_aload_n C 1 dX10_morning_54 rfl rfl rfl (n' := 55) ?_
        refine sd_g10_2 C sd_i0 sd_k0 sd_w330 dX10_morning_55 rfl (n' := 58) ?_
        refine sd_iload_n C 3 dX10_morning_58 rfl rfl rfl (n' := 59) ?_
        obtain ⟨b59, hF⟩ := sd_ok hF
        refine sd_wald C sd_i23 sd_k23 sd_n23 b59 dX10_morning_59 rfl (n' := 60) ?_
        refine sd_iload_n C 4 dX10_morning_60 rfl rfl rfl (n' := 61) ?_
        refine sd_iload C 5 dX10_morning_61 rfl rfl (n' := 63) ?_
        obtain ⟨q63, e63, hF⟩ := sd_bind hF
        refine sd_callVI [.ref (E.2.2 (23 + 1 + 2 * x1.toNatClampNeg)), .ref (E.2.2 (23 + 1 + 2 * x2.toNatClampNeg)), .int x3, .int x4] [] C (ct_X7_settlingDay q31.2 61 (23 + 1 + 2 * x1.toNatClampNeg) (23 + 1 + 2 * x2.toNatClampNeg) x3 x4 sd_k61 ((sd_r23 _ (sd_in_lt b53)).1) ((sd_r23 _ (sd_in_lt b59)).1) e63) sd_lX10_220 ⟨rfl, rfl, Nat.le_of_ble_eq_true rfl, Nat.le_of_ble_eq_true rfl⟩ sd_i61 (sd_e8 sd_k61) rfl rfl rfl (Nat.le_of_ble_eq_true rfl) dX10_morning_63 rfl (n' := 66) ?_
        refine sd_istore [(6, .int q63), (5, .int q31.1), (0, .ref (E.2.2 0)), (1, .int x1), (2, .int x2), (3, .int x3), (4, .int x4)] C dX10_morning_66 (by decide) rfl rfl (n' := 68) ?_
        refine sd_aload_n C 2 dX10_morning_68 rfl rfl rfl (n' := 69) ?_
        refine sd_g10_7 C sd_i0 sd_k0 sd_w335 dX10_morning_69 rfl (n' := 72) ?_
        refine sd_aload_n C 2 dX10_morning_72 rfl rfl rfl (n' := 73) ?_
        refine sd_g10_2 C sd_i0 sd_k0 sd_w330 dX10_morning_73 rfl (n' := 76) ?_
        refine sd_iload_n C 3 dX10_morning_76 rfl rfl rfl (n' := 77) ?_
        obtain ⟨b77, hF⟩ := sd_ok hF
        refine sd_wald C sd_i23 sd_k23 sd_n23 b77 dX10_morning_77 rfl (n' := 78) ?_
        refine sd_iload_n C 5 dX10_morning_78 rfl rfl rfl (n' := 79) ?_
        refine sd_iload C 0 dX10_morning_79 rfl rfl (n' := 81) ?_
        obtain ⟨q81, e81, hF⟩ := sd_bind hF
        refine sd_callVI [.ref (E.2.2 (23 + 1 + 2 * x1.toNatClampNeg)), .int x3, .int q63] [] C (ct_X7_wageOn q31.2 61 (23 + 1 + 2 * x1.toNatClampNeg) x3 q63 sd_k61 ((sd_r23 _ (sd_in_lt b77)).1) e81) sd_lX10_224 ⟨rfl, rfl, Nat.le_of_ble_eq_true rfl, Nat.le_of_ble_eq_true rfl⟩ sd_i61 (sd_e8 sd_k61) rfl rfl rfl (Nat.le_of_ble_eq_true rfl) dX10_morning_81 rfl (n' := 84) ?_
        refine sd_istore [(7, .int q81), (6, .int q63), (5, .int q31.1), (0, .ref (E.2.2 0)), (1, .int x1), (2, .int x2), (3, .int x3), (4, .int x4)] C dX10_morning_84 (by decide) rfl rfl (n' := 86) ?_
        refine sd_iconst C (v := 0) dX10_morning_86 rfl rfl (n' := 87) ?_
        refine sd_istore [(8, .int (0 : Int32)), (7, .int q81), (6, .int q63), (5, .int q31.1), (0, .ref (E.2.2 0)), (1, .int x1), (2, .int x2), (3, .int x3), (4, .int x4)] C dX10_morning_87 (by decide) rfl rfl (n' := 89) ?_
        refine sd_iconst C (v := 0) dX10_morning_89 rfl rfl (n' := 90) ?_
        refine sd_istore [(9, .int (0 : Int32)), (8, .int (0 : Int32)), (7, .int q81), (6, .int q63), (5, .int q31.1), (0, .ref (E.2.2 0)), (1, .int x1), (2, .int x2), (3, .int x3), (4, .int x4)] C dX10_morning_90 (by decide) rfl rfl (n' := 92) ?_
        refine sd_sub [5, 8, 9, 3, 2, 1, 0] rfl ?_
        exact tb_X10_morning_92 C sd_FU q31.2 x3 x4 q63 q81 (0 : Int32) (0 : Int32) hF
      · replace hF := sd_neg hF c38
        refine sd_iload C 0 dX10_morning_41 rfl rfl (n' := 43) ?_
        exact sd_iret C dX10_morning_43 (sd_fst hF) (sd_snd hF)
    · replace hF := sd_pos hF c22
      refine sd_iconst C (v := -1) dX10_morning_25 rfl rfl (n' := 26) ?_
      exact sd_iret C dX10_morning_26 (sd_fst hF) (sd_snd hF)
theorem ct_X10_morning {l : Launch} {E : sd_Env} (M : sd_Mem) (x1 : Int32) (x2 : Int32) (x3 : Int32) (x4 : Int32)  {r : (Int32 × sd_Mem)} (hF : fn_X10_morning M x1 x2 x3 x4 = some r) : sd_MI l E sd_LC yX10_morning cX10_morning 14 (some .int) rm_X10_morning [.ref (E.2.2 0), .int x1, .int x2, .int x3, .int x4] M r.1 r.2 := sd_ent0 (by decide +kernel) (Nat.le_of_ble_eq_true rfl) (fun p e s m below meth c C => tb_X10_morning_0 C M x1 x2 x3 x4 hF)
theorem dX7_daysJudged_0 : decode cX7_daysJudged 0 = .ok (.iload_n 1, 1) := by decide +kernel
theorem dX7_daysJudged_1 : decode cX7_daysJudged 1 = .ok (.aload_n 0, 1) := by decide +kernel
theorem dX7_daysJudged_2 : decode cX7_daysJudged 2 = .ok (.getfield 9, 3) := by decide +kernel
theorem dX7_daysJudged_5 : decode cX7_daysJudged 5 = .ok (.getfield 25, 3) := by decide +kernel
theorem dX7_daysJudged_8 : decode cX7_daysJudged 8 = .ok (.invokestatic 80, 3) := by decide +kernel
theorem dX7_daysJudged_11 : decode cX7_daysJudged 11 = .ok (.istore_n 2, 1) := by decide +kernel
theorem dX7_daysJudged_12 : decode cX7_daysJudged 12 = .ok (.iload_n 1, 1) := by decide +kernel
theorem dX7_daysJudged_13 : decode cX7_daysJudged 13 = .ok (.iconst 1, 1) := by decide +kernel
theorem dX7_daysJudged_14 : decode cX7_daysJudged 14 = .ok (.isub, 1) := by decide +kernel
theorem dX7_daysJudged_15 : decode cX7_daysJudged 15 = .ok (.i2l, 1) := by decide +kernel
theorem dX7_daysJudged_16 : decode cX7_daysJudged 16 = .ok (.lstore_n 3, 1) := by decide +kernel
theorem dX7_daysJudged_17 : decode cX7_daysJudged 17 = .ok (.iload_n 2, 1) := by decide +kernel
theorem dX7_daysJudged_18 : decode cX7_daysJudged 18 = .ok (.istore 5, 2) := by decide +kernel
theorem dX7_daysJudged_20 : decode cX7_daysJudged 20 = .ok (.iload 5, 2) := by decide +kernel
theorem dX7_daysJudged_22 : decode cX7_daysJudged 22 = .ok (.iconst 1, 1) := by decide +kernel
theorem dX7_daysJudged_23 : decode cX7_daysJudged 23 = .ok (.if_icmp .lt 50, 3) := by decide +kernel
theorem dX7_daysJudged_26 : decode cX7_daysJudged 26 = .ok (.iload 5, 2) := by decide +kernel
theorem dX7_daysJudged_28 : decode cX7_daysJudged 28 = .ok (.iconst 1, 1) := by decide +kernel
theorem dX7_daysJudged_29 : decode cX7_daysJudged 29 = .ok (.isub, 1) := by decide +kernel
theorem dX7_daysJudged_30 : decode cX7_daysJudged 30 = .ok (.i2l, 1) := by decide +kernel
theorem dX7_daysJudged_31 : decode cX7_daysJudged 31 = .ok (.iload_n 2, 1) := by decide +kernel
theorem dX7_daysJudged_32 : decode cX7_daysJudged 32 = .ok (.iload 5, 2) := by decide +kernel
theorem dX7_daysJudged_34 : decode cX7_daysJudged 34 = .ok (.isub, 1) := by decide +kernel
theorem dX7_daysJudged_35 : decode cX7_daysJudged 35 = .ok (.invokestatic 89, 3) := by decide +kernel
theorem dX7_daysJudged_38 : decode cX7_daysJudged 38 = .ok (.lmul, 1) := by decide +kernel
theorem dX7_daysJudged_39 : decode cX7_daysJudged 39 = .ok (.lstore 6, 2) := by decide +kernel
theorem dX7_daysJudged_41 : decode cX7_daysJudged 41 = .ok (.aload_n 0, 1) := by decide +kernel
theorem dX7_daysJudged_42 : decode cX7_daysJudged 42 = .ok (.getfield 15, 3) := by decide +kernel
theorem dX7_daysJudged_45 : decode cX7_daysJudged 45 = .ok (.getfield 93, 3) := by decide +kernel
theorem dX7_daysJudged_48 : decode cX7_daysJudged 48 = .ok (.i2l, 1) := by decide +kernel
theorem dX7_daysJudged_49 : decode cX7_daysJudged 49 = .ok (.lload 6, 2) := by decide +kernel
theorem dX7_daysJudged_51 : decode cX7_daysJudged 51 = .ok (.lmul, 1) := by decide +kernel
theorem dX7_daysJudged_52 : decode cX7_daysJudged 52 = .ok (.bipush 12, 2) := by decide +kernel
theorem dX7_daysJudged_54 : decode cX7_daysJudged 54 = .ok (.aload_n 0, 1) := by decide +kernel
theorem dX7_daysJudged_55 : decode cX7_daysJudged 55 = .ok (.getfield 15, 3) := by decide +kernel
theorem dX7_daysJudged_58 : decode cX7_daysJudged 58 = .ok (.getfield 93, 3) := by decide +kernel
theorem dX7_daysJudged_61 : decode cX7_daysJudged 61 = .ok (.isub, 1) := by decide +kernel
theorem dX7_daysJudged_62 : decode cX7_daysJudged 62 = .ok (.i2l, 1) := by decide +kernel
theorem dX7_daysJudged_63 : decode cX7_daysJudged 63 = .ok (.lload_n 3, 1) := by decide +kernel
theorem dX7_daysJudged_64 : decode cX7_daysJudged 64 = .ok (.lmul, 1) := by decide +kernel
theorem dX7_daysJudged_65 : decode cX7_daysJudged 65 = .ok (.ladd, 1) := by decide +kernel
theorem dX7_daysJudged_66 : decode cX7_daysJudged 66 = .ok (.lstore_n 3, 1) := by decide +kernel
theorem dX7_daysJudged_67 : decode cX7_daysJudged 67 = .ok (.iinc 5 (-1), 3) := by decide +kernel
theorem dX7_daysJudged_70 : decode cX7_daysJudged 70 = .ok (.goto (-50), 3) := by decide +kernel
theorem dX7_daysJudged_73 : decode cX7_daysJudged 73 = .ok (.lload_n 3, 1) := by decide +kernel
theorem dX7_daysJudged_74 : decode cX7_daysJudged 74 = .ok (.aload_n 0, 1) := by decide +kernel
theorem dX7_daysJudged_75 : decode cX7_daysJudged 75 = .ok (.getfield 9, 3) := by decide +kernel
theorem dX7_daysJudged_78 : decode cX7_daysJudged 78 = .ok (.getfield 25, 3) := by decide +kernel
theorem dX7_daysJudged_81 : decode cX7_daysJudged 81 = .ok (.iload_n 2, 1) := by decide +kernel
theorem dX7_daysJudged_82 : decode cX7_daysJudged 82 = .ok (.isub, 1) := by decide +kernel
theorem dX7_daysJudged_83 : decode cX7_daysJudged 83 = .ok (.invokestatic 89, 3) := by decide +kernel
theorem dX7_daysJudged_86 : decode cX7_daysJudged 86 = .ok (.lmul, 1) := by decide +kernel
theorem dX7_daysJudged_87 : decode cX7_daysJudged 87 = .ok (.lreturn, 1) := by decide +kernel
set_option maxRecDepth 100000 in
set_option maxHeartbeats 4000000 in
theorem tb_X7_daysJudged_73 {K : sd_K} {E : sd_Env} {M : sd_Mem} {h0 : Nat} {r : Int64} (C : sd_C K E sd_LC RX7 cX7_daysJudged 8 (some .long)) (k0 : sd_kd h0 = 8) : ∀ (x2 : Int32) (l3 : Int64), fn_X7_daysJudged_73 M h0 x2 l3 = some r → sd_Z K rm_X7_daysJudged E sd_LC 8 (sd_QL K E sd_LC r M) M 73 [(0, .ref (E.2.2 h0)), (2, .int x2), (3, .long l3)] [] := by
  intro x2 l3 hF
  unfold fn_X7_daysJudged_73 at hF
  refine sd_lload_n C 2 dX7_daysJudged_73 rfl rfl rfl (n' := 74) ?_
  refine sd_aload_n C 0 dX7_daysJudged_74 rfl rfl rfl (n' := 75) ?_
  refine sd_g7_0 C (sd_mC (sd_m8 k0)) k0 sd_w214 dX7_daysJudged_75 rfl (n' := 78) ?_
  refine sd_gN5_6 C sd_i40 sd_k40 sd_w141 dX7_daysJudged_78 rfl (n' := 81) ?_
  refine sd_iload_n C 1 dX7_daysJudged_81 rfl rfl rfl (n' := 82) ?_
  refine sd_isub C dX7_daysJudged_82 rfl (n' := 83) ?_
  obtain ⟨q83, e83, hF⟩ := sd_bind hF
  refine sd_callSL [.int ((M.1 40 6) - x2)] [.long l3] C (ct_X5_power M ((M.1 40 6) - x2)  e83) sd_lX7_89 ⟨rfl, rfl, Nat.le_of_ble_eq_true rfl, Nat.le_of_ble_eq_true rfl⟩ rfl (Nat.le_of_ble_eq_true rfl) dX7_daysJudged_83 rfl (n' := 86) ?_
  refine sd_lmul C dX7_daysJudged_86 rfl (n' := 87) ?_
  exact sd_lret C dX7_daysJudged_87 (Option.some.inj hF) rfl
set_option maxRecDepth 100000 in
set_option maxHeartbeats 4000000 in
theorem tb_X7_daysJudged_20 {K : sd_K} {E : sd_Env} {M : sd_Mem} {h0 : Nat} {r : Int64} (C : sd_C K E sd_LC RX7 cX7_daysJudged 8 (some .long)) (k0 : sd_kd h0 = 8) : ∀ (n : Nat), ∀ (x2 : Int32) (l3 : Int64) (x5 : Int32), fn_X7_daysJudged_20 M h0 n x2 l3 x5 = some r → sd_Z K rm_X7_daysJudged E sd_LC 8 (sd_QL K E sd_LC r M) M 20 [(0, .ref (E.2.2 h0)), (2, .int x2), (3, .long l3), (5, .int x5)] [] := by
  intro n
  induction n with
  | zero => intro x2 l3 x5 hF; cases hF
  | succ n ih =>
    intro x2 l3 x5 hF
    unfold fn_X7_daysJudged_20 at hF
    refine sd_iload C 3 dX7_daysJudged_20 rfl rfl (n' := 22) ?_
    refine sd_iconst C (v := 1) dX7_daysJudged_22 rfl rfl (n' := 23) ?_
    refine sd_icmp_lt C (n' := 26) (tgt := 73) dX7_daysJudged_23 rfl rfl (fun c23 => ?_) (fun c23 => ?_)
    · replace hF := sd_pos hF c23
      refine sd_sub [0, 1, 2] rfl ?_
      exact tb_X7_daysJudged_73 C k0 x2 l3 hF
    · replace hF := sd_neg hF c23
      refine sd_iload C 3 dX7_daysJudged_26 rfl rfl (n' := 28) ?_
      refine sd_iconst C (v := 1) dX7_daysJudged_28 rfl rfl (n' := 29) ?_
      refine sd_isub C dX7_daysJudged_29 rfl (n' := 30) ?_
      refine sd_i2l C dX7_daysJudged_30 rfl (n' := 31) ?_
      refine sd_iload_n C 1 dX7_daysJudged_31 rfl rfl rfl (n' := 32) ?_
      refine sd_iload C 3 dX7_daysJudged_32 rfl rfl (n' := 34) ?_
      refine sd_isub C dX7_daysJudged_34 rfl (n' := 35) ?_
      obtain ⟨q35, e35, hF⟩ := sd_bind hF
      refine sd_callSL [.int (x2 - x5)] [.long ((x5 - (1 : Int32)).toInt64)] C (ct_X5_power M (x2 - x5)  e35) sd_lX7_89 ⟨rfl, rfl, Nat.le_of_ble_eq_true rfl, Nat.le_of_ble_eq_true rfl⟩ rfl (Nat.le_of_ble_eq_true rfl) dX7_daysJudged_35 rfl (n' := 38) ?_
      refine sd_lmul C dX7_daysJudged_38 rfl (n' := 39) ?_
      refine sd_lstore [(6, .long (((x5 - (1 : Int32)).toInt64) * q35)), (0, .ref (E.2.2 h0)), (2, .int x2), (3, .long l3), (5, .int x5)] C dX7_daysJudged_39 (by decide) rfl rfl (n' := 41) ?_
      refine sd_aload_n C 1 dX7_daysJudged_41 rfl rfl rfl (n' := 42) ?_
      refine sd_g7_1 C (sd_mC (sd_m8 k0)) k0 sd_w215 dX7_daysJudged_42 rfl (n' := 45) ?_
      refine sd_gN4_1 C (sd_mC (sd_c8 k0).2) ((sd_c8 k0).1) sd_w179 dX7_daysJudged_45 rfl (n' := 48) ?_
      refine sd_i2l C dX7_daysJudged_48 rfl (n' := 49) ?_
      refine sd_lload C 0 dX7_daysJudged_49 rfl rfl (n' := 51) ?_
      refine sd_lmul C dX7_daysJudged_51 rfl (n' := 52) ?_
      refine sd_bipush C (v := 12) dX7_daysJudged_52 rfl rfl (n' := 54) ?_
      refine sd_aload_n C 1 dX7_daysJudged_54 rfl rfl rfl (n' := 55) ?_
      refine sd_g7_1 C (sd_mC (sd_m8 k0)) k0 sd_w215 dX7_daysJudged_55 rfl (n' := 58) ?_
      refine sd_gN4_1 C (sd_mC (sd_c8 k0).2) ((sd_c8 k0).1) sd_w179 dX7_daysJudged_58 rfl (n' := 61) ?_
      refine sd_isub C dX7_daysJudged_61 rfl (n' := 62) ?_
      refine sd_i2l C dX7_daysJudged_62 rfl (n' := 63) ?_
      refine sd_lload_n C 3 dX7_daysJudged_63 rfl rfl rfl (n' := 64) ?_
      refine sd_lmul C dX7_daysJudged_64 rfl (n' := 65) ?_
      refine sd_ladd C dX7_daysJudged_65 rfl (n' := 66) ?_
      refine sd_lstore_n [(3, .long ((((M.1 (h0 - 3) 1).toInt64) * (((x5 - (1 : Int32)).toInt64) * q35)) + ((((12 : Int32) - (M.1 (h0 - 3) 1)).toInt64) * l3))), (6, .long (((x5 - (1 : Int32)).toInt64) * q35)), (0, .ref (E.2.2 h0)), (2, .int x2), (5, .int x5)] C dX7_daysJudged_66 rfl (by decide) rfl rfl (n' := 67) ?_
      refine sd_iinc [(5, .int (x5 + (-1 : Int32))), (3, .long ((((M.1 (h0 - 3) 1).toInt64) * (((x5 - (1 : Int32)).toInt64) * q35)) + ((((12 : Int32) - (M.1 (h0 - 3) 1)).toInt64) * l3))), (6, .long (((x5 - (1 : Int32)).toInt64) * q35)), (0, .ref (E.2.2 h0)), (2, .int x2)] 4 C dX7_daysJudged_67 rfl rfl (by decide) rfl rfl (n' := 70) ?_
      refine sd_goto C (tgt := 20) dX7_daysJudged_70 rfl ?_
      refine sd_sub [3, 4, 1, 0] rfl ?_
      exact ih x2 ((((M.1 (h0 - 3) 1).toInt64) * (((x5 - (1 : Int32)).toInt64) * q35)) + ((((12 : Int32) - (M.1 (h0 - 3) 1)).toInt64) * l3)) (x5 + (-1 : Int32)) hF
set_option maxRecDepth 100000 in
set_option maxHeartbeats 4000000 in
theorem tb_X7_daysJudged_0 {K : sd_K} {E : sd_Env} {M : sd_Mem} {h0 : Nat} {r : Int64} (C : sd_C K E sd_LC RX7 cX7_daysJudged 8 (some .long)) (k0 : sd_kd h0 = 8) : ∀ (x1 : Int32), fn_X7_daysJudged_0 M h0 x1 = some r → sd_Z K rm_X7_daysJudged E sd_LC 8 (sd_QL K E sd_LC r M) M 0 [(0, .ref (E.2.2 h0)), (1, .int x1)] [] := by
  intro x1 hF
  unfold fn_X7_daysJudged_0 at hF
  refine sd_iload_n C 1 dX7_daysJudged_0 rfl rfl rfl (n' := 1) ?_
  refine sd_aload_n C 0 dX7_daysJudged_1 rfl rfl rfl (n' := 2) ?_
  refine sd_g7_0 C (sd_mC (sd_m8 k0)) k0 sd_w214 dX7_daysJudged_2 rfl (n' := 5) ?_
  refine sd_gN5_6 C sd_i40 sd_k40 sd_w141 dX7_daysJudged_5 rfl (n' := 8) ?_
  refine sd_mmin C sd_w698 sd_wm_mmin_s sd_w87 sd_wm_mmin_c (Nat.le_of_ble_eq_true rfl) (Nat.le_of_ble_eq_true rfl) dX7_daysJudged_8 rfl (n' := 11) ?_
  refine sd_istore_n [(2, .int (if (M.1 40 6) < x1 then (M.1 40 6) else x1)), (0, .ref (E.2.2 h0)), (1, .int x1)] C dX7_daysJudged_11 rfl (by decide) rfl rfl (n' := 12) ?_
  refine sd_iload_n C 2 dX7_daysJudged_12 rfl rfl rfl (n' := 13) ?_
  refine sd_iconst C (v := 1) dX7_daysJudged_13 rfl rfl (n' := 14) ?_
  refine sd_isub C dX7_daysJudged_14 rfl (n' := 15) ?_
  refine sd_i2l C dX7_daysJudged_15 rfl (n' := 16) ?_
  refine sd_lstore_n [(3, .long ((x1 - (1 : Int32)).toInt64)), (2, .int (if (M.1 40 6) < x1 then (M.1 40 6) else x1)), (0, .ref (E.2.2 h0)), (1, .int x1)] C dX7_daysJudged_16 rfl (by decide) rfl rfl (n' := 17) ?_
  refine sd_iload_n C 1 dX7_daysJudged_17 rfl rfl rfl (n' := 18) ?_
  refine sd_istore [(5, .int (if (M.1 40 6) < x1 then (M.1 40 6) else x1)), (3, .long ((x1 - (1 : Int32)).toInt64)), (2, .int (if (M.1 40 6) < x1 then (M.1 40 6) else x1)), (0, .ref (E.2.2 h0)), (1, .int x1)] C dX7_daysJudged_18 (by decide) rfl rfl (n' := 20) ?_
  refine sd_sub [3, 2, 1, 0] rfl ?_
  exact tb_X7_daysJudged_20 C k0 sd_FU (if (M.1 40 6) < x1 then (M.1 40 6) else x1) ((x1 - (1 : Int32)).toInt64) (if (M.1 40 6) < x1 then (M.1 40 6) else x1) hF
theorem ct_X7_daysJudged {l : Launch} {E : sd_Env} (M : sd_Mem) (h0 : Nat) (x1 : Int32) (k0 : sd_kd h0 = 8) {r : Int64} (hF : fn_X7_daysJudged M h0 x1 = some r) : sd_ML l E sd_LC yX7_daysJudged cX7_daysJudged 8 (some .long) rm_X7_daysJudged [.ref (E.2.2 h0), .int x1] M r M := sd_ent0 (by decide +kernel) (Nat.le_of_ble_eq_true rfl) (fun p e s m below meth c C => tb_X7_daysJudged_0 C k0 x1 hF)
theorem dX7_lostDaysJudged_0 : decode cX7_lostDaysJudged 0 = .ok (.lconst 0, 1) := by decide +kernel
theorem dX7_lostDaysJudged_1 : decode cX7_lostDaysJudged 1 = .ok (.lstore_n 3, 1) := by decide +kernel
theorem dX7_lostDaysJudged_2 : decode cX7_lostDaysJudged 2 = .ok (.iconst 1, 1) := by decide +kernel
theorem dX7_lostDaysJudged_3 : decode cX7_lostDaysJudged 3 = .ok (.istore 5, 2) := by decide +kernel
theorem dX7_lostDaysJudged_5 : decode cX7_lostDaysJudged 5 = .ok (.iload 5, 2) := by decide +kernel
theorem dX7_lostDaysJudged_7 : decode cX7_lostDaysJudged 7 = .ok (.aload_n 0, 1) := by decide +kernel
theorem dX7_lostDaysJudged_8 : decode cX7_lostDaysJudged 8 = .ok (.getfield 9, 3) := by decide +kernel
theorem dX7_lostDaysJudged_11 : decode cX7_lostDaysJudged 11 = .ok (.getfield 25, 3) := by decide +kernel
theorem dX7_lostDaysJudged_14 : decode cX7_lostDaysJudged 14 = .ok (.iconst 1, 1) := by decide +kernel
theorem dX7_lostDaysJudged_15 : decode cX7_lostDaysJudged 15 = .ok (.iadd, 1) := by decide +kernel
theorem dX7_lostDaysJudged_16 : decode cX7_lostDaysJudged 16 = .ok (.if_icmp .gt 27, 3) := by decide +kernel
theorem dX7_lostDaysJudged_19 : decode cX7_lostDaysJudged 19 = .ok (.lload_n 3, 1) := by decide +kernel
theorem dX7_lostDaysJudged_20 : decode cX7_lostDaysJudged 20 = .ok (.aload_n 0, 1) := by decide +kernel
theorem dX7_lostDaysJudged_21 : decode cX7_lostDaysJudged 21 = .ok (.iload 5, 2) := by decide +kernel
theorem dX7_lostDaysJudged_23 : decode cX7_lostDaysJudged 23 = .ok (.invokevirtual 104, 3) := by decide +kernel
theorem dX7_lostDaysJudged_26 : decode cX7_lostDaysJudged 26 = .ok (.aload_n 0, 1) := by decide +kernel
theorem dX7_lostDaysJudged_27 : decode cX7_lostDaysJudged 27 = .ok (.aload_n 1, 1) := by decide +kernel
theorem dX7_lostDaysJudged_28 : decode cX7_lostDaysJudged 28 = .ok (.aload_n 2, 1) := by decide +kernel
theorem dX7_lostDaysJudged_29 : decode cX7_lostDaysJudged 29 = .ok (.iload 5, 2) := by decide +kernel
theorem dX7_lostDaysJudged_31 : decode cX7_lostDaysJudged 31 = .ok (.invokevirtual 100, 3) := by decide +kernel
theorem dX7_lostDaysJudged_34 : decode cX7_lostDaysJudged 34 = .ok (.lmul, 1) := by decide +kernel
theorem dX7_lostDaysJudged_35 : decode cX7_lostDaysJudged 35 = .ok (.ladd, 1) := by decide +kernel
theorem dX7_lostDaysJudged_36 : decode cX7_lostDaysJudged 36 = .ok (.lstore_n 3, 1) := by decide +kernel
theorem dX7_lostDaysJudged_37 : decode cX7_lostDaysJudged 37 = .ok (.iinc 5 1, 3) := by decide +kernel
theorem dX7_lostDaysJudged_40 : decode cX7_lostDaysJudged 40 = .ok (.goto (-35), 3) := by decide +kernel
theorem dX7_lostDaysJudged_43 : decode cX7_lostDaysJudged 43 = .ok (.lload_n 3, 1) := by decide +kernel
theorem dX7_lostDaysJudged_44 : decode cX7_lostDaysJudged 44 = .ok (.lreturn, 1) := by decide +kernel
set_option maxRecDepth 100000 in
set_option maxHeartbeats 4000000 in
theorem tb_X7_lostDaysJudged_5 {K : sd_K} {E : sd_Env} {M : sd_Mem} {h0 h1 h2 : Nat} {r : Int64} (C : sd_C K E sd_LC RX7 cX7_lostDaysJudged 6 (some .long)) (k0 : sd_kd h0 = 8) (k1 : sd_kd h1 = 10) (k2 : sd_kd h2 = 10) : ∀ (n : Nat), ∀ (l3 : Int64) (x5 : Int32), fn_X7_lostDaysJudged_5 M h0 h1 h2 n l3 x5 = some r → sd_Z K rm_X7_lostDaysJudged E sd_LC 6 (sd_QL K E sd_LC r M) M 5 [(0, .ref (E.2.2 h0)), (1, .ref (E.2.2 h1)), (2, .ref (E.2.2 h2)), (3, .long l3), (5, .int x5)] [] := by
  intro n
  induction n with
  | zero => intro l3 x5 hF; cases hF
  | succ n ih =>
    intro l3 x5 hF
    unfold fn_X7_lostDaysJudged_5 at hF
    refine sd_iload C 4 dX7_lostDaysJudged_5 rfl rfl (n' := 7) ?_
    refine sd_aload_n C 0 dX7_lostDaysJudged_7 rfl rfl rfl (n' := 8) ?_
    refine sd_g7_0 C (sd_mC (sd_m8 k0)) k0 sd_w214 dX7_lostDaysJudged_8 rfl (n' := 11) ?_
    refine sd_gN5_6 C sd_i40 sd_k40 sd_w141 dX7_lostDaysJudged_11 rfl (n' := 14) ?_
    refine sd_iconst C (v := 1) dX7_lostDaysJudged_14 rfl rfl (n' := 15) ?_
    refine sd_iadd C dX7_lostDaysJudged_15 rfl (n' := 16) ?_
    refine sd_icmp_gt C (n' := 19) (tgt := 43) dX7_lostDaysJudged_16 rfl rfl (fun c16 => ?_) (fun c16 => ?_)
    · replace hF := sd_pos hF c16
      refine sd_lload_n C 3 dX7_lostDaysJudged_43 rfl rfl rfl (n' := 44) ?_
      exact sd_lret C dX7_lostDaysJudged_44 (Option.some.inj hF) rfl
    · replace hF := sd_neg hF c16
      refine sd_lload_n C 3 dX7_lostDaysJudged_19 rfl rfl rfl (n' := 20) ?_
      refine sd_aload_n C 0 dX7_lostDaysJudged_20 rfl rfl rfl (n' := 21) ?_
      refine sd_iload C 4 dX7_lostDaysJudged_21 rfl rfl (n' := 23) ?_
      obtain ⟨q23, e23, hF⟩ := sd_bind hF
      refine sd_callVL [.int x5] [.long l3] C (ct_X7_daysJudged M h0 x5 k0 e23) sd_lX7_104 ⟨rfl, rfl, Nat.le_of_ble_eq_true rfl, Nat.le_of_ble_eq_true rfl⟩ (sd_mC (sd_m8 k0)) (sd_e8 k0) rfl rfl rfl (Nat.le_of_ble_eq_true rfl) dX7_lostDaysJudged_23 rfl (n' := 26) ?_
      refine sd_aload_n C 0 dX7_lostDaysJudged_26 rfl rfl rfl (n' := 27) ?_
      refine sd_aload_n C 1 dX7_lostDaysJudged_27 rfl rfl rfl (n' := 28) ?_
      refine sd_aload_n C 2 dX7_lostDaysJudged_28 rfl rfl rfl (n' := 29) ?_
      refine sd_iload C 4 dX7_lostDaysJudged_29 rfl rfl (n' := 31) ?_
      obtain ⟨q31, e31, hF⟩ := sd_bind hF
      refine sd_callVL [.ref (E.2.2 h1), .ref (E.2.2 h2), .int x5] [.long q23, .long l3] C (ct_X7_endingWeight M h0 h1 h2 x5 k0 k1 k2 e31) sd_lX7_100 ⟨rfl, rfl, Nat.le_of_ble_eq_true rfl, Nat.le_of_ble_eq_true rfl⟩ (sd_mC (sd_m8 k0)) (sd_e8 k0) rfl rfl rfl (Nat.le_of_ble_eq_true rfl) dX7_lostDaysJudged_31 rfl (n' := 34) ?_
      refine sd_lmul C dX7_lostDaysJudged_34 rfl (n' := 35) ?_
      refine sd_ladd C dX7_lostDaysJudged_35 rfl (n' := 36) ?_
      refine sd_lstore_n [(3, .long (l3 + (q23 * q31))), (0, .ref (E.2.2 h0)), (1, .ref (E.2.2 h1)), (2, .ref (E.2.2 h2)), (5, .int x5)] C dX7_lostDaysJudged_36 rfl (by decide) rfl rfl (n' := 37) ?_
      refine sd_iinc [(5, .int (x5 + (1 : Int32))), (3, .long (l3 + (q23 * q31))), (0, .ref (E.2.2 h0)), (1, .ref (E.2.2 h1)), (2, .ref (E.2.2 h2))] 4 C dX7_lostDaysJudged_37 rfl rfl (by decide) rfl rfl (n' := 40) ?_
      refine sd_goto C (tgt := 5) dX7_lostDaysJudged_40 rfl ?_
      refine sd_sub [2, 3, 4, 1, 0] rfl ?_
      exact ih (l3 + (q23 * q31)) (x5 + (1 : Int32)) hF
set_option maxRecDepth 100000 in
set_option maxHeartbeats 4000000 in
theorem tb_X7_lostDaysJudged_0 {K : sd_K} {E : sd_Env} {M : sd_Mem} {h0 h1 h2 : Nat} {r : Int64} (C : sd_C K E sd_LC RX7 cX7_lostDaysJudged 6 (some .long)) (k0 : sd_kd h0 = 8) (k1 : sd_kd h1 = 10) (k2 : sd_kd h2 = 10) : fn_X7_lostDaysJudged_0 M h0 h1 h2 = some r → sd_Z K rm_X7_lostDaysJudged E sd_LC 6 (sd_QL K E sd_LC r M) M 0 [(0, .ref (E.2.2 h0)), (1, .ref (E.2.2 h1)), (2, .ref (E.2.2 h2))] [] := by
  intro hF
  unfold fn_X7_lostDaysJudged_0 at hF
  refine sd_lconst C (v := 0) dX7_lostDaysJudged_0 rfl rfl (n' := 1) ?_
  refine sd_lstore_n [(3, .long (0 : Int64)), (0, .ref (E.2.2 h0)), (1, .ref (E.2.2 h1)), (2, .ref (E.2.2 h2))] C dX7_lostDaysJudged_1 rfl (by decide) rfl rfl (n' := 2) ?_
  refine sd_iconst C (v := 1) dX7_lostDaysJudged_2 rfl rfl (n' := 3) ?_
  refine sd_istore [(5, .int (1 : Int32)), (3, .long (0 : Int64)), (0, .ref (E.2.2 h0)), (1, .ref (E.2.2 h1)), (2, .ref (E.2.2 h2))] C dX7_lostDaysJudged_3 (by decide) rfl rfl (n' := 5) ?_
  refine sd_sub [2, 3, 4, 1, 0] rfl ?_
  exact tb_X7_lostDaysJudged_5 C k0 k1 k2 sd_FU (0 : Int64) (1 : Int32) hF
theorem ct_X7_lostDaysJudged {l : Launch} {E : sd_Env} (M : sd_Mem) (h0 : Nat) (h1 : Nat) (h2 : Nat) (k0 : sd_kd h0 = 8) (k1 : sd_kd h1 = 10) (k2 : sd_kd h2 = 10) {r : Int64} (hF : fn_X7_lostDaysJudged M h0 h1 h2 = some r) : sd_ML l E sd_LC yX7_lostDaysJudged cX7_lostDaysJudged 6 (some .long) rm_X7_lostDaysJudged [.ref (E.2.2 h0), .ref (E.2.2 h1), .ref (E.2.2 h2)] M r M := sd_ent0 (by decide +kernel) (Nat.le_of_ble_eq_true rfl) (fun p e s m below meth c C => tb_X7_lostDaysJudged_0 C k0 k1 k2 hF)
theorem dX10_law_0 : decode cX10_law 0 = .ok (.aload_n 0, 1) := by decide +kernel
theorem dX10_law_1 : decode cX10_law 1 = .ok (.iload_n 1, 1) := by decide +kernel
theorem dX10_law_2 : decode cX10_law 2 = .ok (.iload_n 2, 1) := by decide +kernel
theorem dX10_law_3 : decode cX10_law 3 = .ok (.iconst 1, 1) := by decide +kernel
theorem dX10_law_4 : decode cX10_law 4 = .ok (.invokevirtual 216, 3) := by decide +kernel
theorem dX10_law_7 : decode cX10_law 7 = .ok (.istore_n 3, 1) := by decide +kernel
theorem dX10_law_8 : decode cX10_law 8 = .ok (.iload_n 3, 1) := by decide +kernel
theorem dX10_law_9 : decode cX10_law 9 = .ok (.ifCond .eq 5, 3) := by decide +kernel
theorem dX10_law_12 : decode cX10_law 12 = .ok (.iload_n 3, 1) := by decide +kernel
theorem dX10_law_13 : decode cX10_law 13 = .ok (.ireturn, 1) := by decide +kernel
theorem dX10_law_14 : decode cX10_law 14 = .ok (.bipush (-9), 2) := by decide +kernel
theorem dX10_law_16 : decode cX10_law 16 = .ok (.istore 4, 2) := by decide +kernel
theorem dX10_law_18 : decode cX10_law 18 = .ok (.lconst 0, 1) := by decide +kernel
theorem dX10_law_19 : decode cX10_law 19 = .ok (.lstore 5, 2) := by decide +kernel
theorem dX10_law_21 : decode cX10_law 21 = .ok (.iconst 1, 1) := by decide +kernel
theorem dX10_law_22 : decode cX10_law 22 = .ok (.istore 7, 2) := by decide +kernel
theorem dX10_law_24 : decode cX10_law 24 = .ok (.iload 7, 2) := by decide +kernel
theorem dX10_law_26 : decode cX10_law 26 = .ok (.iconst 4, 1) := by decide +kernel
theorem dX10_law_27 : decode cX10_law 27 = .ok (.if_icmp .gt 92, 3) := by decide +kernel
theorem dX10_law_30 : decode cX10_law 30 = .ok (.iconst 0, 1) := by decide +kernel
theorem dX10_law_31 : decode cX10_law 31 = .ok (.istore 8, 2) := by decide +kernel
theorem dX10_law_33 : decode cX10_law 33 = .ok (.iload 8, 2) := by decide +kernel
theorem dX10_law_35 : decode cX10_law 35 = .ok (.iconst 3, 1) := by decide +kernel
theorem dX10_law_36 : decode cX10_law 36 = .ok (.if_icmp .gt 77, 3) := by decide +kernel
theorem dX10_law_39 : decode cX10_law 39 = .ok (.aload_n 0, 1) := by decide +kernel
theorem dX10_law_40 : decode cX10_law 40 = .ok (.getfield 38, 3) := by decide +kernel
theorem dX10_law_43 : decode cX10_law 43 = .ok (.iload 7, 2) := by decide +kernel
theorem dX10_law_45 : decode cX10_law 45 = .ok (.putfield 168, 3) := by decide +kernel
theorem dX10_law_48 : decode cX10_law 48 = .ok (.aload_n 0, 1) := by decide +kernel
theorem dX10_law_49 : decode cX10_law 49 = .ok (.getfield 38, 3) := by decide +kernel
theorem dX10_law_52 : decode cX10_law 52 = .ok (.iload 8, 2) := by decide +kernel
theorem dX10_law_54 : decode cX10_law 54 = .ok (.putfield 171, 3) := by decide +kernel
theorem dX10_law_57 : decode cX10_law 57 = .ok (.aload_n 0, 1) := by decide +kernel
theorem dX10_law_58 : decode cX10_law 58 = .ok (.getfield 57, 3) := by decide +kernel
theorem dX10_law_61 : decode cX10_law 61 = .ok (.aload_n 0, 1) := by decide +kernel
theorem dX10_law_62 : decode cX10_law 62 = .ok (.getfield 20, 3) := by decide +kernel
theorem dX10_law_65 : decode cX10_law 65 = .ok (.iload_n 1, 1) := by decide +kernel
theorem dX10_law_66 : decode cX10_law 66 = .ok (.aaload, 1) := by decide +kernel
theorem dX10_law_67 : decode cX10_law 67 = .ok (.aload_n 0, 1) := by decide +kernel
theorem dX10_law_68 : decode cX10_law 68 = .ok (.getfield 20, 3) := by decide +kernel
theorem dX10_law_71 : decode cX10_law 71 = .ok (.iload_n 2, 1) := by decide +kernel
theorem dX10_law_72 : decode cX10_law 72 = .ok (.aaload, 1) := by decide +kernel
theorem dX10_law_73 : decode cX10_law 73 = .ok (.invokevirtual 294, 3) := by decide +kernel
theorem dX10_law_76 : decode cX10_law 76 = .ok (.lstore 9, 2) := by decide +kernel
theorem dX10_law_78 : decode cX10_law 78 = .ok (.iload 4, 2) := by decide +kernel
theorem dX10_law_80 : decode cX10_law 80 = .ok (.bipush (-9), 2) := by decide +kernel
theorem dX10_law_82 : decode cX10_law 82 = .ok (.if_icmp .eq 11, 3) := by decide +kernel
theorem dX10_law_85 : decode cX10_law 85 = .ok (.lload 9, 2) := by decide +kernel
theorem dX10_law_87 : decode cX10_law 87 = .ok (.lload 5, 2) := by decide +kernel
theorem dX10_law_89 : decode cX10_law 89 = .ok (.lcmp, 1) := by decide +kernel
theorem dX10_law_90 : decode cX10_law 90 = .ok (.ifCond .ge 17, 3) := by decide +kernel
theorem dX10_law_93 : decode cX10_law 93 = .ok (.bipush 10, 2) := by decide +kernel
theorem dX10_law_95 : decode cX10_law 95 = .ok (.iload 7, 2) := by decide +kernel
theorem dX10_law_97 : decode cX10_law 97 = .ok (.imul, 1) := by decide +kernel
theorem dX10_law_98 : decode cX10_law 98 = .ok (.iload 8, 2) := by decide +kernel
theorem dX10_law_100 : decode cX10_law 100 = .ok (.iadd, 1) := by decide +kernel
theorem dX10_law_101 : decode cX10_law 101 = .ok (.istore 4, 2) := by decide +kernel
theorem dX10_law_103 : decode cX10_law 103 = .ok (.lload 9, 2) := by decide +kernel
theorem dX10_law_105 : decode cX10_law 105 = .ok (.lstore 5, 2) := by decide +kernel
theorem dX10_law_107 : decode cX10_law 107 = .ok (.iinc 8 3, 3) := by decide +kernel
theorem dX10_law_110 : decode cX10_law 110 = .ok (.goto (-77), 3) := by decide +kernel
theorem dX10_law_113 : decode cX10_law 113 = .ok (.iinc 7 1, 3) := by decide +kernel
theorem dX10_law_116 : decode cX10_law 116 = .ok (.goto (-92), 3) := by decide +kernel
theorem dX10_law_119 : decode cX10_law 119 = .ok (.aload_n 0, 1) := by decide +kernel
theorem dX10_law_120 : decode cX10_law 120 = .ok (.getfield 77, 3) := by decide +kernel
theorem dX10_law_123 : decode cX10_law 123 = .ok (.lload 5, 2) := by decide +kernel
theorem dX10_law_125 : decode cX10_law 125 = .ok (.aload_n 0, 1) := by decide +kernel
theorem dX10_law_126 : decode cX10_law 126 = .ok (.getfield 27, 3) := by decide +kernel
theorem dX10_law_129 : decode cX10_law 129 = .ok (.invokevirtual 261, 3) := by decide +kernel
theorem dX10_law_132 : decode cX10_law 132 = .ok (.aload_n 0, 1) := by decide +kernel
theorem dX10_law_133 : decode cX10_law 133 = .ok (.getfield 27, 3) := by decide +kernel
theorem dX10_law_136 : decode cX10_law 136 = .ok (.invokevirtual 297, 3) := by decide +kernel
theorem dX10_law_139 : decode cX10_law 139 = .ok (.lmul, 1) := by decide +kernel
theorem dX10_law_140 : decode cX10_law 140 = .ok (.invokevirtual 236, 3) := by decide +kernel
theorem dX10_law_143 : decode cX10_law 143 = .ok (.iload 4, 2) := by decide +kernel
theorem dX10_law_145 : decode cX10_law 145 = .ok (.ireturn, 1) := by decide +kernel
set_option maxRecDepth 100000 in
set_option maxHeartbeats 4000000 in
theorem tb_X10_law_93 {K : sd_K} {E : sd_Env}   {r : (Int32 × sd_Mem)} (C : sd_C K E sd_LC RX10 cX10_law 11 (some .int))  {k24 : sd_Mem → Int32 → Int32 → Int32 → Int64 → Int32 → Option (Int32 × sd_Mem)} (hk24 : ∀ (M : sd_Mem) (x1 : Int32) (x2 : Int32) (x4 : Int32) (l5 : Int64) (x7 : Int32), k24 M x1 x2 x4 l5 x7 = some r → sd_Z K rm_X10_law E sd_LC 11 (sd_QI K E sd_LC r.1 r.2) M 24 [(0, .ref (E.2.2 0)), (1, .int x1), (2, .int x2), (4, .int x4), (5, .long l5), (7, .int x7)] []) {k33 : sd_Mem → Int32 → Int32 → Int32 → Int64 → Int32 → Int32 → Option (Int32 × sd_Mem)} (hk33 : ∀ (M : sd_Mem) (x1 : Int32) (x2 : Int32) (x4 : Int32) (l5 : Int64) (x7 : Int32) (x8 : Int32), k33 M x1 x2 x4 l5 x7 x8 = some r → sd_Z K rm_X10_law E sd_LC 11 (sd_QI K E sd_LC r.1 r.2) M 33 [(0, .ref (E.2.2 0)), (1, .int x1), (2, .int x2), (4, .int x4), (5, .long l5), (7, .int x7), (8, .int x8)] []) : ∀ (M : sd_Mem) (x1 : Int32) (x2 : Int32) (x7 : Int32) (x8 : Int32) (l9 : Int64), fn_X10_law_93 k24 k33 M x1 x2 x7 x8 l9 = some r → sd_Z K rm_X10_law E sd_LC 11 (sd_QI K E sd_LC r.1 r.2) M 93 [(0, .ref (E.2.2 0)), (1, .int x1), (2, .int x2), (7, .int x7), (8, .int x8), (9, .long l9)] [] := by
  intro M x1 x2 x7 x8 l9 hF
  unfold fn_X10_law_93 at hF
  refine sd_bipush C (v := 10) dX10_law_93 rfl rfl (n' := 95) ?_
  refine sd_iload C 3 dX10_law_95 rfl rfl (n' := 97) ?_
  refine sd_imul C dX10_law_97 rfl (n' := 98) ?_
  refine sd_iload C 4 dX10_law_98 rfl rfl (n' := 100) ?_
  refine sd_iadd C dX10_law_100 rfl (n' := 101) ?_
  refine sd_istore [(4, .int (((10 : Int32) * x7) + x8)), (0, .ref (E.2.2 0)), (1, .int x1), (2, .int x2), (7, .int x7), (8, .int x8), (9, .long l9)] C dX10_law_101 (by decide) rfl rfl (n' := 103) ?_
  refine sd_lload C 6 dX10_law_103 rfl rfl (n' := 105) ?_
  refine sd_lstore [(5, .long l9), (4, .int (((10 : Int32) * x7) + x8)), (0, .ref (E.2.2 0)), (1, .int x1), (2, .int x2), (7, .int x7), (8, .int x8), (9, .long l9)] C dX10_law_105 (by decide) rfl rfl (n' := 107) ?_
  refine sd_iinc [(8, .int (x8 + (3 : Int32))), (5, .long l9), (4, .int (((10 : Int32) * x7) + x8)), (0, .ref (E.2.2 0)), (1, .int x1), (2, .int x2), (7, .int x7), (9, .long l9)] 6 C dX10_law_107 rfl rfl (by decide) rfl rfl (n' := 110) ?_
  refine sd_goto C (tgt := 33) dX10_law_110 rfl ?_
  refine sd_sub [3, 4, 5, 2, 1, 6, 0] rfl ?_
  exact hk33 M x1 x2 (((10 : Int32) * x7) + x8) l9 x7 (x8 + (3 : Int32)) hF
set_option maxRecDepth 100000 in
set_option maxHeartbeats 4000000 in
theorem tb_X10_law_33 {K : sd_K} {E : sd_Env}   {r : (Int32 × sd_Mem)} (C : sd_C K E sd_LC RX10 cX10_law 11 (some .int))  {k24 : sd_Mem → Int32 → Int32 → Int32 → Int64 → Int32 → Option (Int32 × sd_Mem)} (hk24 : ∀ (M : sd_Mem) (x1 : Int32) (x2 : Int32) (x4 : Int32) (l5 : Int64) (x7 : Int32), k24 M x1 x2 x4 l5 x7 = some r → sd_Z K rm_X10_law E sd_LC 11 (sd_QI K E sd_LC r.1 r.2) M 24 [(0, .ref (E.2.2 0)), (1, .int x1), (2, .int x2), (4, .int x4), (5, .long l5), (7, .int x7)] []) : ∀ (n : Nat), ∀ (M : sd_Mem) (x1 : Int32) (x2 : Int32) (x4 : Int32) (l5 : Int64) (x7 : Int32) (x8 : Int32), fn_X10_law_33 k24 n M x1 x2 x4 l5 x7 x8 = some r → sd_Z K rm_X10_law E sd_LC 11 (sd_QI K E sd_LC r.1 r.2) M 33 [(0, .ref (E.2.2 0)), (1, .int x1), (2, .int x2), (4, .int x4), (5, .long l5), (7, .int x7), (8, .int x8)] [] := by
  intro n
  induction n with
  | zero => intro M x1 x2 x4 l5 x7 x8 hF; cases hF
  | succ n ih =>
    intro M x1 x2 x4 l5 x7 x8 hF
    unfold fn_X10_law_33 at hF
    refine sd_iload C 6 dX10_law_33 rfl rfl (n' := 35) ?_
    refine sd_iconst C (v := 3) dX10_law_35 rfl rfl (n' := 36) ?_
    refine sd_icmp_gt C (n' := 39) (tgt := 113) dX10_law_36 rfl rfl (fun c36 => ?_) (fun c36 => ?_)
    · replace hF := sd_pos hF c36
      refine sd_iinc [(7, .int (x7 + (1 : Int32))), (0, .ref (E.2.2 0)), (1, .int x1), (2, .int x2), (4, .int x4), (5, .long l5), (8, .int x8)] 5 C dX10_law_113 rfl rfl (by decide) rfl rfl (n' := 116) ?_
      refine sd_goto C (tgt := 24) dX10_law_116 rfl ?_
      refine sd_sub [1, 2, 3, 4, 5, 0] rfl ?_
      exact hk24 M x1 x2 x4 l5 (x7 + (1 : Int32)) hF
    · replace hF := sd_neg hF c36
      refine sd_aload_n C 0 dX10_law_39 rfl rfl rfl (n' := 40) ?_
      refine sd_g10_5 C sd_i0 sd_k0 sd_w333 dX10_law_40 rfl (n' := 43) ?_
      refine sd_iload C 5 dX10_law_43 rfl rfl (n' := 45) ?_
      refine sd_pN4_0 C sd_i59 sd_k59 sd_w177 dX10_law_45 rfl (n' := 48) ?_
      refine sd_aload_n C 0 dX10_law_48 rfl rfl rfl (n' := 49) ?_
      refine sd_g10_5 C sd_i0 sd_k0 sd_w333 dX10_law_49 rfl (n' := 52) ?_
      refine sd_iload C 6 dX10_law_52 rfl rfl (n' := 54) ?_
      refine sd_pN4_1 C sd_i59 sd_k59 sd_w181 dX10_law_54 rfl (n' := 57) ?_
      refine sd_aload_n C 0 dX10_law_57 rfl rfl rfl (n' := 58) ?_
      refine sd_g10_8 C sd_i0 sd_k0 sd_w336 dX10_law_58 rfl (n' := 61) ?_
      refine sd_aload_n C 0 dX10_law_61 rfl rfl rfl (n' := 62) ?_
      refine sd_g10_2 C sd_i0 sd_k0 sd_w330 dX10_law_62 rfl (n' := 65) ?_
      refine sd_iload_n C 1 dX10_law_65 rfl rfl rfl (n' := 66) ?_
      obtain ⟨b66, hF⟩ := sd_ok hF
      refine sd_wald C sd_i23 sd_k23 sd_n23 b66 dX10_law_66 rfl (n' := 67) ?_
      refine sd_aload_n C 0 dX10_law_67 rfl rfl rfl (n' := 68) ?_
      refine sd_g10_2 C sd_i0 sd_k0 sd_w330 dX10_law_68 rfl (n' := 71) ?_
      refine sd_iload_n C 2 dX10_law_71 rfl rfl rfl (n' := 72) ?_
      obtain ⟨b72, hF⟩ := sd_ok hF
      refine sd_wald C sd_i23 sd_k23 sd_n23 b72 dX10_law_72 rfl (n' := 73) ?_
      obtain ⟨q73, e73, hF⟩ := sd_bind hF
      refine sd_callVL [.ref (E.2.2 (23 + 1 + 2 * x1.toNatClampNeg)), .ref (E.2.2 (23 + 1 + 2 * x2.toNatClampNeg))] [] C (ct_X7_lostDaysJudged (sd_setI (sd_setI M 59 0 x7) 59 1 x8) 62 (23 + 1 + 2 * x1.toNatClampNeg) (23 + 1 + 2 * x2.toNatClampNeg) sd_k62 ((sd_r23 _ (sd_in_lt b66)).1) ((sd_r23 _ (sd_in_lt b72)).1) e73) sd_lX10_294 ⟨rfl, rfl, Nat.le_of_ble_eq_true rfl, Nat.le_of_ble_eq_true rfl⟩ sd_i62 (sd_e8 sd_k62) rfl rfl rfl (Nat.le_of_ble_eq_true rfl) dX10_law_73 rfl (n' := 76) ?_
      refine sd_lstore [(9, .long q73), (0, .ref (E.2.2 0)), (1, .int x1), (2, .int x2), (4, .int x4), (5, .long l5), (7, .int x7), (8, .int x8)] C dX10_law_76 (by decide) rfl rfl (n' := 78) ?_
      refine sd_iload C 4 dX10_law_78 rfl rfl (n' := 80) ?_
      refine sd_bipush C (v := -9) dX10_law_80 rfl rfl (n' := 82) ?_
      refine sd_icmp_eq C (n' := 85) (tgt := 93) dX10_law_82 rfl rfl (fun c82 => ?_) (fun c82 => ?_)
      · replace hF := sd_pos hF c82
        refine sd_sub [1, 2, 3, 6, 7, 0] rfl ?_
        exact tb_X10_law_93 C hk24 ih (sd_setI (sd_setI M 59 0 x7) 59 1 x8) x1 x2 x7 x8 q73 hF
      · replace hF := sd_neg hF c82
        refine sd_lload C 0 dX10_law_85 rfl rfl (n' := 87) ?_
        refine sd_lload C 5 dX10_law_87 rfl rfl (n' := 89) ?_
        refine sd_lcmp C dX10_law_89 rfl (n' := 90) ?_
        refine sd_if_ge C (n' := 93) (tgt := 107) dX10_law_90 rfl rfl (fun c90 => ?_) (fun c90 => ?_)
        · replace hF := sd_pos hF c90
          refine sd_iinc [(8, .int (x8 + (3 : Int32))), (9, .long q73), (0, .ref (E.2.2 0)), (1, .int x1), (2, .int x2), (4, .int x4), (5, .long l5), (7, .int x7)] 7 C dX10_law_107 rfl rfl (by decide) rfl rfl (n' := 110) ?_
          refine sd_goto C (tgt := 33) dX10_law_110 rfl ?_
          refine sd_sub [2, 3, 4, 5, 6, 7, 0] rfl ?_
          exact ih (sd_setI (sd_setI M 59 0 x7) 59 1 x8) x1 x2 x4 l5 x7 (x8 + (3 : Int32)) hF
        · replace hF := sd_neg hF c90
          refine sd_sub [1, 2, 3, 6, 7, 0] rfl ?_
          exact tb_X10_law_93 C hk24 ih (sd_setI (sd_setI M 59 0 x7) 59 1 x8) x1 x2 x7 x8 q73 hF
set_option maxRecDepth 100000 in
set_option maxHeartbeats 4000000 in
theorem tb_X10_law_119 {K : sd_K} {E : sd_Env}   {r : (Int32 × sd_Mem)} (C : sd_C K E sd_LC RX10 cX10_law 11 (some .int))  : ∀ (M : sd_Mem) (x4 : Int32) (l5 : Int64), fn_X10_law_119 M x4 l5 = some r → sd_Z K rm_X10_law E sd_LC 11 (sd_QI K E sd_LC r.1 r.2) M 119 [(0, .ref (E.2.2 0)), (4, .int x4), (5, .long l5)] [] := by
  intro M x4 l5 hF
  unfold fn_X10_law_119 at hF
  refine sd_aload_n C 0 dX10_law_119 rfl rfl rfl (n' := 120) ?_
  refine sd_g10_11 C sd_i0 sd_k0 sd_w339 dX10_law_120 rfl (n' := 123) ?_
  refine sd_lload C 2 dX10_law_123 rfl rfl (n' := 125) ?_
  refine sd_aload_n C 0 dX10_law_125 rfl rfl rfl (n' := 126) ?_
  refine sd_g10_3 C sd_i0 sd_k0 sd_w331 dX10_law_126 rfl (n' := 129) ?_
  obtain ⟨q129, e129, hF⟩ := sd_bind hF
  refine sd_callVL [] [.long l5, .ref (E.2.2 96)] C (ct_X5_pairs M 40 sd_k40 e129) sd_lX10_261 ⟨rfl, rfl, Nat.le_of_ble_eq_true rfl, Nat.le_of_ble_eq_true rfl⟩ sd_i40 (sd_e6 sd_k40) rfl rfl rfl (Nat.le_of_ble_eq_true rfl) dX10_law_129 rfl (n' := 132) ?_
  refine sd_aload_n C 0 dX10_law_132 rfl rfl rfl (n' := 133) ?_
  refine sd_g10_3 C sd_i0 sd_k0 sd_w331 dX10_law_133 rfl (n' := 136) ?_
  obtain ⟨q136, e136, hF⟩ := sd_bind hF
  refine sd_callVL [] [.long q129, .long l5, .ref (E.2.2 96)] C (ct_X5_judgings M 40 sd_k40 e136) sd_lX10_297 ⟨rfl, rfl, Nat.le_of_ble_eq_true rfl, Nat.le_of_ble_eq_true rfl⟩ sd_i40 (sd_e6 sd_k40) rfl rfl rfl (Nat.le_of_ble_eq_true rfl) dX10_law_136 rfl (n' := 139) ?_
  refine sd_lmul C dX10_law_139 rfl (n' := 140) ?_
  obtain ⟨q140, e140, hF⟩ := sd_bind hF
  refine sd_callVV [.long l5, .long (q129 * q136)] [] C (ct_X3_tell M l5 (q129 * q136)  e140) sd_lX10_236 ⟨rfl, rfl, Nat.le_of_ble_eq_true rfl, Nat.le_of_ble_eq_true rfl⟩ sd_i96 (sd_e4 sd_k96) rfl rfl rfl (Nat.le_of_ble_eq_true rfl) dX10_law_140 rfl (n' := 143) ?_
  refine sd_iload C 1 dX10_law_143 rfl rfl (n' := 145) ?_
  exact sd_iret C dX10_law_145 (sd_fst hF) (sd_snd hF)
set_option maxRecDepth 100000 in
set_option maxHeartbeats 4000000 in
theorem tb_X10_law_24 {K : sd_K} {E : sd_Env}   {r : (Int32 × sd_Mem)} (C : sd_C K E sd_LC RX10 cX10_law 11 (some .int))  : ∀ (n : Nat), ∀ (M : sd_Mem) (x1 : Int32) (x2 : Int32) (x4 : Int32) (l5 : Int64) (x7 : Int32), fn_X10_law_24 n M x1 x2 x4 l5 x7 = some r → sd_Z K rm_X10_law E sd_LC 11 (sd_QI K E sd_LC r.1 r.2) M 24 [(0, .ref (E.2.2 0)), (1, .int x1), (2, .int x2), (4, .int x4), (5, .long l5), (7, .int x7)] [] := by
  intro n
  induction n with
  | zero => intro M x1 x2 x4 l5 x7 hF; cases hF
  | succ n ih =>
    intro M x1 x2 x4 l5 x7 hF
    unfold fn_X10_law_24 at hF
    refine sd_iload C 5 dX10_law_24 rfl rfl (n' := 26) ?_
    refine sd_iconst C (v := 4) dX10_law_26 rfl rfl (n' := 27) ?_
    refine sd_icmp_gt C (n' := 30) (tgt := 119) dX10_law_27 rfl rfl (fun c27 => ?_) (fun c27 => ?_)
    · replace hF := sd_pos hF c27
      refine sd_sub [0, 3, 4] rfl ?_
      exact tb_X10_law_119 C M x4 l5 hF
    · replace hF := sd_neg hF c27
      refine sd_iconst C (v := 0) dX10_law_30 rfl rfl (n' := 31) ?_
      refine sd_istore [(8, .int (0 : Int32)), (0, .ref (E.2.2 0)), (1, .int x1), (2, .int x2), (4, .int x4), (5, .long l5), (7, .int x7)] C dX10_law_31 (by decide) rfl rfl (n' := 33) ?_
      refine sd_sub [1, 2, 3, 4, 5, 6, 0] rfl ?_
      exact tb_X10_law_33 C ih sd_FU M x1 x2 x4 l5 x7 (0 : Int32) hF
set_option maxRecDepth 100000 in
set_option maxHeartbeats 4000000 in
theorem tb_X10_law_0 {K : sd_K} {E : sd_Env}   {r : (Int32 × sd_Mem)} (C : sd_C K E sd_LC RX10 cX10_law 11 (some .int))  : ∀ (M : sd_Mem) (x1 : Int32) (x2 : Int32), fn_X10_law_0 M x1 x2 = some r → sd_Z K rm_X10_law E sd_LC 11 (sd_QI K E sd_LC r.1 r.2) M 0 [(0, .ref (E.2.2 0)), (1, .int x1), (2, .int x2)] [] := by
  intro M x1 x2 hF
  unfold fn_X10_law_0 at hF
  refine sd_aload_n C 0 dX10_law_0 rfl rfl rfl (n' := 1) ?_
  refine sd_iload_n C 1 dX10_law_1 rfl rfl rfl (n' := 2) ?_
  refine sd_iload_n C 2 dX10_law_2 rfl rfl rfl (n' := 3) ?_
  refine sd_iconst C (v := 1) dX10_law_3 rfl rfl (n' := 4) ?_
  obtain ⟨q4, e4, hF⟩ := sd_bind hF
  refine sd_callVI [.int x1, .int x2, .int (1 : Int32)] [] C (ct_X10_refusePair M x1 x2 (1 : Int32)  e4) sd_lX10_216 ⟨rfl, rfl, Nat.le_of_ble_eq_true rfl, Nat.le_of_ble_eq_true rfl⟩ sd_i0 (sd_e11 sd_k0) rfl rfl rfl (Nat.le_of_ble_eq_true rfl) dX10_law_4 rfl (n' := 7) ?_
  refine sd_istore_n [(3, .int q4.1), (0, .ref (E.2.2 0)), (1, .int x1), (2, .int x2)] C dX10_law_7 rfl (by decide) rfl rfl (n' := 8) ?_
  refine sd_iload_n C 0 dX10_law_8 rfl rfl rfl (n' := 9) ?_
  refine sd_if_eq C (n' := 12) (tgt := 14) dX10_law_9 rfl rfl (fun c9 => ?_) (fun c9 => ?_)
  · replace hF := sd_pos hF c9
    refine sd_bipush C (v := -9) dX10_law_14 rfl rfl (n' := 16) ?_
    refine sd_istore [(4, .int (-9 : Int32)), (3, .int q4.1), (0, .ref (E.2.2 0)), (1, .int x1), (2, .int x2)] C dX10_law_16 (by decide) rfl rfl (n' := 18) ?_
    refine sd_lconst C (v := 0) dX10_law_18 rfl rfl (n' := 19) ?_
    refine sd_lstore [(5, .long (0 : Int64)), (4, .int (-9 : Int32)), (3, .int q4.1), (0, .ref (E.2.2 0)), (1, .int x1), (2, .int x2)] C dX10_law_19 (by decide) rfl rfl (n' := 21) ?_
    refine sd_iconst C (v := 1) dX10_law_21 rfl rfl (n' := 22) ?_
    refine sd_istore [(7, .int (1 : Int32)), (5, .long (0 : Int64)), (4, .int (-9 : Int32)), (3, .int q4.1), (0, .ref (E.2.2 0)), (1, .int x1), (2, .int x2)] C dX10_law_22 (by decide) rfl rfl (n' := 24) ?_
    refine sd_sub [4, 5, 6, 2, 1, 0] rfl ?_
    exact tb_X10_law_24 C sd_FU q4.2 x1 x2 (-9 : Int32) (0 : Int64) (1 : Int32) hF
  · replace hF := sd_neg hF c9
    refine sd_iload_n C 0 dX10_law_12 rfl rfl rfl (n' := 13) ?_
    exact sd_iret C dX10_law_13 (sd_fst hF) (sd_snd hF)
theorem ct_X10_law {l : Launch} {E : sd_Env} (M : sd_Mem) (x1 : Int32) (x2 : Int32)  {r : (Int32 × sd_Mem)} (hF : fn_X10_law M x1 x2 = some r) : sd_MI l E sd_LC yX10_law cX10_law 11 (some .int) rm_X10_law [.ref (E.2.2 0), .int x1, .int x2] M r.1 r.2 := sd_ent0 (by decide +kernel) (Nat.le_of_ble_eq_true rfl) (fun p e s m below meth c C => tb_X10_law_0 C M x1 x2 hF)
theorem dX10_isKindOfMen_0 : decode cX10_isKindOfMen 0 = .ok (.iload_n 0, 1) := by decide +kernel
theorem dX10_isKindOfMen_1 : decode cX10_isKindOfMen 1 = .ok (.iconst 0, 1) := by decide +kernel
theorem dX10_isKindOfMen_2 : decode cX10_isKindOfMen 2 = .ok (.iconst 5, 1) := by decide +kernel
theorem dX10_isKindOfMen_3 : decode cX10_isKindOfMen 3 = .ok (.invokestatic 152, 3) := by decide +kernel
theorem dX10_isKindOfMen_6 : decode cX10_isKindOfMen 6 = .ok (.ireturn, 1) := by decide +kernel
set_option maxRecDepth 100000 in
set_option maxHeartbeats 4000000 in
theorem tb_X10_isKindOfMen_0 {K : sd_K} {E : sd_Env} {M : sd_Mem}  {r : Int32} (C : sd_C K E sd_LC RX10 cX10_isKindOfMen 1 (some .boolean))  : ∀ (x0 : Int32), fn_X10_isKindOfMen_0 x0 = some r → sd_Z K rm_X10_isKindOfMen E sd_LC 1 (sd_QI K E sd_LC r M) M 0 [(0, .int x0)] [] := by
  intro x0 hF
  unfold fn_X10_isKindOfMen_0 at hF
  refine sd_iload_n C 0 dX10_isKindOfMen_0 rfl rfl rfl (n' := 1) ?_
  refine sd_iconst C (v := 0) dX10_isKindOfMen_1 rfl rfl (n' := 2) ?_
  refine sd_iconst C (v := 5) dX10_isKindOfMen_2 rfl rfl (n' := 3) ?_
  obtain ⟨q3, e3, hF⟩ := sd_bind hF
  refine sd_callSI [.int x0, .int (0 : Int32), .int (5 : Int32)] [] C (ct_X10_within M x0 (0 : Int32) (5 : Int32)  e3) sd_lX10_152 ⟨rfl, rfl, Nat.le_of_ble_eq_true rfl, Nat.le_of_ble_eq_true rfl⟩ rfl (Nat.le_of_ble_eq_true rfl) dX10_isKindOfMen_3 rfl (n' := 6) ?_
  obtain ⟨b6, hF⟩ := sd_ok hF
  exact sd_zret C dX10_isKindOfMen_6 (Decidable.of_not_not b6) (Option.some.inj hF) rfl
theorem ct_X10_isKindOfMen {l : Launch} {E : sd_Env} (M : sd_Mem) (x0 : Int32)  {r : Int32} (hF : fn_X10_isKindOfMen x0 = some r) : sd_MI l E sd_LC yX10_isKindOfMen cX10_isKindOfMen 1 (some .boolean) rm_X10_isKindOfMen [.int x0] M r M := sd_ent0 (by decide +kernel) (Nat.le_of_ble_eq_true rfl) (fun p e s m below meth c C => tb_X10_isKindOfMen_0 C x0 hF)
theorem dX10_men_0 : decode cX10_men 0 = .ok (.iload_n 1, 1) := by decide +kernel
theorem dX10_men_1 : decode cX10_men 1 = .ok (.invokestatic 300, 3) := by decide +kernel
theorem dX10_men_4 : decode cX10_men 4 = .ok (.ifCond .eq 34, 3) := by decide +kernel
theorem dX10_men_7 : decode cX10_men 7 = .ok (.iload_n 2, 1) := by decide +kernel
theorem dX10_men_8 : decode cX10_men 8 = .ok (.iconst 0, 1) := by decide +kernel
theorem dX10_men_9 : decode cX10_men 9 = .ok (.bipush 99, 2) := by decide +kernel
theorem dX10_men_11 : decode cX10_men 11 = .ok (.invokestatic 152, 3) := by decide +kernel
theorem dX10_men_14 : decode cX10_men 14 = .ok (.ifCond .eq 24, 3) := by decide +kernel
theorem dX10_men_17 : decode cX10_men 17 = .ok (.iload_n 3, 1) := by decide +kernel
theorem dX10_men_18 : decode cX10_men 18 = .ok (.iconst 0, 1) := by decide +kernel
theorem dX10_men_19 : decode cX10_men 19 = .ok (.bipush 99, 2) := by decide +kernel
theorem dX10_men_21 : decode cX10_men 21 = .ok (.invokestatic 152, 3) := by decide +kernel
theorem dX10_men_24 : decode cX10_men 24 = .ok (.ifCond .eq 14, 3) := by decide +kernel
theorem dX10_men_27 : decode cX10_men 27 = .ok (.iload 4, 2) := by decide +kernel
theorem dX10_men_29 : decode cX10_men 29 = .ok (.iconst 0, 1) := by decide +kernel
theorem dX10_men_30 : decode cX10_men 30 = .ok (.bipush 100, 2) := by decide +kernel
theorem dX10_men_32 : decode cX10_men 32 = .ok (.invokestatic 152, 3) := by decide +kernel
theorem dX10_men_35 : decode cX10_men 35 = .ok (.ifCond .ne 5, 3) := by decide +kernel
theorem dX10_men_38 : decode cX10_men 38 = .ok (.iconst (-1), 1) := by decide +kernel
theorem dX10_men_39 : decode cX10_men 39 = .ok (.ireturn, 1) := by decide +kernel
theorem dX10_men_40 : decode cX10_men 40 = .ok (.aload_n 0, 1) := by decide +kernel
theorem dX10_men_41 : decode cX10_men 41 = .ok (.getfield 70, 3) := by decide +kernel
theorem dX10_men_44 : decode cX10_men 44 = .ok (.getfield 303, 3) := by decide +kernel
theorem dX10_men_47 : decode cX10_men 47 = .ok (.iload_n 1, 1) := by decide +kernel
theorem dX10_men_48 : decode cX10_men 48 = .ok (.iload_n 2, 1) := by decide +kernel
theorem dX10_men_49 : decode cX10_men 49 = .ok (.iastore, 1) := by decide +kernel
theorem dX10_men_50 : decode cX10_men 50 = .ok (.aload_n 0, 1) := by decide +kernel
theorem dX10_men_51 : decode cX10_men 51 = .ok (.getfield 70, 3) := by decide +kernel
theorem dX10_men_54 : decode cX10_men 54 = .ok (.getfield 307, 3) := by decide +kernel
theorem dX10_men_57 : decode cX10_men 57 = .ok (.iload_n 1, 1) := by decide +kernel
theorem dX10_men_58 : decode cX10_men 58 = .ok (.iload_n 3, 1) := by decide +kernel
theorem dX10_men_59 : decode cX10_men 59 = .ok (.iastore, 1) := by decide +kernel
theorem dX10_men_60 : decode cX10_men 60 = .ok (.aload_n 0, 1) := by decide +kernel
theorem dX10_men_61 : decode cX10_men 61 = .ok (.getfield 70, 3) := by decide +kernel
theorem dX10_men_64 : decode cX10_men 64 = .ok (.getfield 310, 3) := by decide +kernel
theorem dX10_men_67 : decode cX10_men 67 = .ok (.iload_n 1, 1) := by decide +kernel
theorem dX10_men_68 : decode cX10_men 68 = .ok (.iload 4, 2) := by decide +kernel
theorem dX10_men_70 : decode cX10_men 70 = .ok (.iastore, 1) := by decide +kernel
theorem dX10_men_71 : decode cX10_men 71 = .ok (.iconst 1, 1) := by decide +kernel
theorem dX10_men_72 : decode cX10_men 72 = .ok (.ireturn, 1) := by decide +kernel
set_option maxRecDepth 100000 in
set_option maxHeartbeats 4000000 in
theorem tb_X10_men_0 {K : sd_K} {E : sd_Env}   {r : (Int32 × sd_Mem)} (C : sd_C K E sd_LC RX10 cX10_men 5 (some .int))  : ∀ (M : sd_Mem) (x1 : Int32) (x2 : Int32) (x3 : Int32) (x4 : Int32), fn_X10_men_0 M x1 x2 x3 x4 = some r → sd_Z K rm_X10_men E sd_LC 5 (sd_QI K E sd_LC r.1 r.2) M 0 [(0, .ref (E.2.2 0)), (1, .int x1), (2, .int x2), (3, .int x3), (4, .int x4)] [] := by
  intro M x1 x2 x3 x4 hF
  unfold fn_X10_men_0 at hF
  refine sd_iload_n C 1 dX10_men_0 rfl rfl rfl (n' := 1) ?_
  obtain ⟨q1, e1, hF⟩ := sd_bind hF
  refine sd_callSI [.int x1] [] C (ct_X10_isKindOfMen M x1  e1) sd_lX10_300 ⟨rfl, rfl, Nat.le_of_ble_eq_true rfl, Nat.le_of_ble_eq_true rfl⟩ rfl (Nat.le_of_ble_eq_true rfl) dX10_men_1 rfl (n' := 4) ?_
  refine sd_if_eq C (n' := 7) (tgt := 38) dX10_men_4 rfl rfl (fun c4 => ?_) (fun c4 => ?_)
  · replace hF := sd_pos hF c4
    refine sd_iconst C (v := -1) dX10_men_38 rfl rfl (n' := 39) ?_
    exact sd_iret C dX10_men_39 (sd_fst hF) (sd_snd hF)
  · replace hF := sd_neg hF c4
    refine sd_iload_n C 2 dX10_men_7 rfl rfl rfl (n' := 8) ?_
    refine sd_iconst C (v := 0) dX10_men_8 rfl rfl (n' := 9) ?_
    refine sd_bipush C (v := 99) dX10_men_9 rfl rfl (n' := 11) ?_
    obtain ⟨q11, e11, hF⟩ := sd_bind hF
    refine sd_callSI [.int x2, .int (0 : Int32), .int (99 : Int32)] [] C (ct_X10_within M x2 (0 : Int32) (99 : Int32)  e11) sd_lX10_152 ⟨rfl, rfl, Nat.le_of_ble_eq_true rfl, Nat.le_of_ble_eq_true rfl⟩ rfl (Nat.le_of_ble_eq_true rfl) dX10_men_11 rfl (n' := 14) ?_
    refine sd_if_eq C (n' := 17) (tgt := 38) dX10_men_14 rfl rfl (fun c14 => ?_) (fun c14 => ?_)
    · replace hF := sd_pos hF c14
      refine sd_iconst C (v := -1) dX10_men_38 rfl rfl (n' := 39) ?_
      exact sd_iret C dX10_men_39 (sd_fst hF) (sd_snd hF)
    · replace hF := sd_neg hF c14
      refine sd_iload_n C 3 dX10_men_17 rfl rfl rfl (n' := 18) ?_
      refine sd_iconst C (v := 0) dX10_men_18 rfl rfl (n' := 19) ?_
      refine sd_bipush C (v := 99) dX10_men_19 rfl rfl (n' := 21) ?_
      obtain ⟨q21, e21, hF⟩ := sd_bind hF
      refine sd_callSI [.int x3, .int (0 : Int32), .int (99 : Int32)] [] C (ct_X10_within M x3 (0 : Int32) (99 : Int32)  e21) sd_lX10_152 ⟨rfl, rfl, Nat.le_of_ble_eq_true rfl, Nat.le_of_ble_eq_true rfl⟩ rfl (Nat.le_of_ble_eq_true rfl) dX10_men_21 rfl (n' := 24) ?_
      refine sd_if_eq C (n' := 27) (tgt := 38) dX10_men_24 rfl rfl (fun c24 => ?_) (fun c24 => ?_)
      · replace hF := sd_pos hF c24
        refine sd_iconst C (v := -1) dX10_men_38 rfl rfl (n' := 39) ?_
        exact sd_iret C dX10_men_39 (sd_fst hF) (sd_snd hF)
      · replace hF := sd_neg hF c24
        refine sd_iload C 4 dX10_men_27 rfl rfl (n' := 29) ?_
        refine sd_iconst C (v := 0) dX10_men_29 rfl rfl (n' := 30) ?_
        refine sd_bipush C (v := 100) dX10_men_30 rfl rfl (n' := 32) ?_
        obtain ⟨q32, e32, hF⟩ := sd_bind hF
        refine sd_callSI [.int x4, .int (0 : Int32), .int (100 : Int32)] [] C (ct_X10_within M x4 (0 : Int32) (100 : Int32)  e32) sd_lX10_152 ⟨rfl, rfl, Nat.le_of_ble_eq_true rfl, Nat.le_of_ble_eq_true rfl⟩ rfl (Nat.le_of_ble_eq_true rfl) dX10_men_32 rfl (n' := 35) ?_
        refine sd_if_ne C (n' := 38) (tgt := 40) dX10_men_35 rfl rfl (fun c35 => ?_) (fun c35 => ?_)
        · replace hF := sd_neg hF c35
          refine sd_aload_n C 0 dX10_men_40 rfl rfl rfl (n' := 41) ?_
          refine sd_g10_10 C sd_i0 sd_k0 sd_w338 dX10_men_41 rfl (n' := 44) ?_
          refine sd_gN8_0 C sd_i90 sd_k90 sd_w251 dX10_men_44 rfl (n' := 47) ?_
          refine sd_iload_n C 1 dX10_men_47 rfl rfl rfl (n' := 48) ?_
          refine sd_iload_n C 2 dX10_men_48 rfl rfl rfl (n' := 49) ?_
          obtain ⟨b49, hF⟩ := sd_ok hF
          refine sd_iast C sd_i91 sd_k91 sd_n91 b49 dX10_men_49 rfl (n' := 50) ?_
          refine sd_aload_n C 0 dX10_men_50 rfl rfl rfl (n' := 51) ?_
          refine sd_g10_10 C sd_i0 sd_k0 sd_w338 dX10_men_51 rfl (n' := 54) ?_
          refine sd_gN8_1 C sd_i90 sd_k90 sd_w253 dX10_men_54 rfl (n' := 57) ?_
          refine sd_iload_n C 1 dX10_men_57 rfl rfl rfl (n' := 58) ?_
          refine sd_iload_n C 3 dX10_men_58 rfl rfl rfl (n' := 59) ?_
          obtain ⟨b59, hF⟩ := sd_ok hF
          refine sd_iast C sd_i92 sd_k92 sd_n92 b59 dX10_men_59 rfl (n' := 60) ?_
          refine sd_aload_n C 0 dX10_men_60 rfl rfl rfl (n' := 61) ?_
          refine sd_g10_10 C sd_i0 sd_k0 sd_w338 dX10_men_61 rfl (n' := 64) ?_
          refine sd_gN8_2 C sd_i90 sd_k90 sd_w255 dX10_men_64 rfl (n' := 67) ?_
          refine sd_iload_n C 1 dX10_men_67 rfl rfl rfl (n' := 68) ?_
          refine sd_iload C 4 dX10_men_68 rfl rfl (n' := 70) ?_
          obtain ⟨b70, hF⟩ := sd_ok hF
          refine sd_iast C sd_i93 sd_k93 sd_n93 b70 dX10_men_70 rfl (n' := 71) ?_
          refine sd_iconst C (v := 1) dX10_men_71 rfl rfl (n' := 72) ?_
          exact sd_iret C dX10_men_72 (sd_fst hF) (sd_snd hF)
        · replace hF := sd_pos hF c35
          refine sd_iconst C (v := -1) dX10_men_38 rfl rfl (n' := 39) ?_
          exact sd_iret C dX10_men_39 (sd_fst hF) (sd_snd hF)
theorem ct_X10_men {l : Launch} {E : sd_Env} (M : sd_Mem) (x1 : Int32) (x2 : Int32) (x3 : Int32) (x4 : Int32)  {r : (Int32 × sd_Mem)} (hF : fn_X10_men M x1 x2 x3 x4 = some r) : sd_MI l E sd_LC yX10_men cX10_men 5 (some .int) rm_X10_men [.ref (E.2.2 0), .int x1, .int x2, .int x3, .int x4] M r.1 r.2 := sd_ent0 (by decide +kernel) (Nat.le_of_ble_eq_true rfl) (fun p e s m below meth c C => tb_X10_men_0 C M x1 x2 x3 x4 hF)
theorem dX10_leftBy_0 : decode cX10_leftBy 0 = .ok (.iload_n 1, 1) := by decide +kernel
theorem dX10_leftBy_1 : decode cX10_leftBy 1 = .ok (.invokestatic 300, 3) := by decide +kernel
theorem dX10_leftBy_4 : decode cX10_leftBy 4 = .ok (.ifCond .eq 19, 3) := by decide +kernel
theorem dX10_leftBy_7 : decode cX10_leftBy 7 = .ok (.iload_n 2, 1) := by decide +kernel
theorem dX10_leftBy_8 : decode cX10_leftBy 8 = .ok (.invokestatic 177, 3) := by decide +kernel
theorem dX10_leftBy_11 : decode cX10_leftBy 11 = .ok (.ifCond .eq 12, 3) := by decide +kernel
theorem dX10_leftBy_14 : decode cX10_leftBy 14 = .ok (.iload_n 3, 1) := by decide +kernel
theorem dX10_leftBy_15 : decode cX10_leftBy 15 = .ok (.iload 4, 2) := by decide +kernel
theorem dX10_leftBy_17 : decode cX10_leftBy 17 = .ok (.invokestatic 182, 3) := by decide +kernel
theorem dX10_leftBy_20 : decode cX10_leftBy 20 = .ok (.ifCond .ne 5, 3) := by decide +kernel
theorem dX10_leftBy_23 : decode cX10_leftBy 23 = .ok (.iconst (-1), 1) := by decide +kernel
theorem dX10_leftBy_24 : decode cX10_leftBy 24 = .ok (.ireturn, 1) := by decide +kernel
theorem dX10_leftBy_25 : decode cX10_leftBy 25 = .ok (.aload_n 0, 1) := by decide +kernel
theorem dX10_leftBy_26 : decode cX10_leftBy 26 = .ok (.getfield 20, 3) := by decide +kernel
theorem dX10_leftBy_29 : decode cX10_leftBy 29 = .ok (.iload_n 2, 1) := by decide +kernel
theorem dX10_leftBy_30 : decode cX10_leftBy 30 = .ok (.aaload, 1) := by decide +kernel
theorem dX10_leftBy_31 : decode cX10_leftBy 31 = .ok (.invokevirtual 185, 3) := by decide +kernel
theorem dX10_leftBy_34 : decode cX10_leftBy 34 = .ok (.ifCond .eq 12, 3) := by decide +kernel
theorem dX10_leftBy_37 : decode cX10_leftBy 37 = .ok (.aload_n 0, 1) := by decide +kernel
theorem dX10_leftBy_38 : decode cX10_leftBy 38 = .ok (.getfield 84, 3) := by decide +kernel
theorem dX10_leftBy_41 : decode cX10_leftBy 41 = .ok (.iconst 1, 1) := by decide +kernel
theorem dX10_leftBy_42 : decode cX10_leftBy 42 = .ok (.invokevirtual 100, 3) := by decide +kernel
theorem dX10_leftBy_45 : decode cX10_leftBy 45 = .ok (.ireturn, 1) := by decide +kernel
theorem dX10_leftBy_46 : decode cX10_leftBy 46 = .ok (.aload_n 0, 1) := by decide +kernel
theorem dX10_leftBy_47 : decode cX10_leftBy 47 = .ok (.getfield 20, 3) := by decide +kernel
theorem dX10_leftBy_50 : decode cX10_leftBy 50 = .ok (.iload_n 2, 1) := by decide +kernel
theorem dX10_leftBy_51 : decode cX10_leftBy 51 = .ok (.aaload, 1) := by decide +kernel
theorem dX10_leftBy_52 : decode cX10_leftBy 52 = .ok (.iconst 4, 1) := by decide +kernel
theorem dX10_leftBy_53 : decode cX10_leftBy 53 = .ok (.invokevirtual 201, 3) := by decide +kernel
theorem dX10_leftBy_56 : decode cX10_leftBy 56 = .ok (.ifCond .ne 12, 3) := by decide +kernel
theorem dX10_leftBy_59 : decode cX10_leftBy 59 = .ok (.aload_n 0, 1) := by decide +kernel
theorem dX10_leftBy_60 : decode cX10_leftBy 60 = .ok (.getfield 84, 3) := by decide +kernel
theorem dX10_leftBy_63 : decode cX10_leftBy 63 = .ok (.iconst 3, 1) := by decide +kernel
theorem dX10_leftBy_64 : decode cX10_leftBy 64 = .ok (.invokevirtual 100, 3) := by decide +kernel
theorem dX10_leftBy_67 : decode cX10_leftBy 67 = .ok (.ireturn, 1) := by decide +kernel
theorem dX10_leftBy_68 : decode cX10_leftBy 68 = .ok (.aload_n 0, 1) := by decide +kernel
theorem dX10_leftBy_69 : decode cX10_leftBy 69 = .ok (.getfield 70, 3) := by decide +kernel
theorem dX10_leftBy_72 : decode cX10_leftBy 72 = .ok (.getfield 307, 3) := by decide +kernel
theorem dX10_leftBy_75 : decode cX10_leftBy 75 = .ok (.iload_n 1, 1) := by decide +kernel
theorem dX10_leftBy_76 : decode cX10_leftBy 76 = .ok (.aload_n 0, 1) := by decide +kernel
theorem dX10_leftBy_77 : decode cX10_leftBy 77 = .ok (.getfield 20, 3) := by decide +kernel
theorem dX10_leftBy_80 : decode cX10_leftBy 80 = .ok (.iload_n 2, 1) := by decide +kernel
theorem dX10_leftBy_81 : decode cX10_leftBy 81 = .ok (.aaload, 1) := by decide +kernel
theorem dX10_leftBy_82 : decode cX10_leftBy 82 = .ok (.iload_n 3, 1) := by decide +kernel
theorem dX10_leftBy_83 : decode cX10_leftBy 83 = .ok (.iload 4, 2) := by decide +kernel
theorem dX10_leftBy_85 : decode cX10_leftBy 85 = .ok (.invokevirtual 195, 3) := by decide +kernel
theorem dX10_leftBy_88 : decode cX10_leftBy 88 = .ok (.iastore, 1) := by decide +kernel
theorem dX10_leftBy_89 : decode cX10_leftBy 89 = .ok (.aload_n 0, 1) := by decide +kernel
theorem dX10_leftBy_90 : decode cX10_leftBy 90 = .ok (.getfield 70, 3) := by decide +kernel
theorem dX10_leftBy_93 : decode cX10_leftBy 93 = .ok (.getfield 307, 3) := by decide +kernel
theorem dX10_leftBy_96 : decode cX10_leftBy 96 = .ok (.iload_n 1, 1) := by decide +kernel
theorem dX10_leftBy_97 : decode cX10_leftBy 97 = .ok (.iaload, 1) := by decide +kernel
theorem dX10_leftBy_98 : decode cX10_leftBy 98 = .ok (.ireturn, 1) := by decide +kernel
set_option maxRecDepth 100000 in
set_option maxHeartbeats 4000000 in
theorem tb_X10_leftBy_0 {K : sd_K} {E : sd_Env}   {r : (Int32 × sd_Mem)} (C : sd_C K E sd_LC RX10 cX10_leftBy 5 (some .int))  : ∀ (M : sd_Mem) (x1 : Int32) (x2 : Int32) (x3 : Int32) (x4 : Int32), fn_X10_leftBy_0 M x1 x2 x3 x4 = some r → sd_Z K rm_X10_leftBy E sd_LC 5 (sd_QI K E sd_LC r.1 r.2) M 0 [(0, .ref (E.2.2 0)), (1, .int x1), (2, .int x2), (3, .int x3), (4, .int x4)] [] := by
  intro M x1 x2 x3 x4 hF
  unfold fn_X10_leftBy_0 at hF
  refine sd_iload_n C 1 dX10_leftBy_0 rfl rfl rfl (n' := 1) ?_
  obtain ⟨q1, e1, hF⟩ := sd_bind hF
  refine sd_callSI [.int x1] [] C (ct_X10_isKindOfMen M x1  e1) sd_lX10_300 ⟨rfl, rfl, Nat.le_of_ble_eq_true rfl, Nat.le_of_ble_eq_true rfl⟩ rfl (Nat.le_of_ble_eq_true rfl) dX10_leftBy_1 rfl (n' := 4) ?_
  refine sd_if_eq C (n' := 7) (tgt := 23) dX10_leftBy_4 rfl rfl (fun c4 => ?_) (fun c4 => ?_)
  · replace hF := sd_pos hF c4
    refine sd_iconst C (v := -1) dX10_leftBy_23 rfl rfl (n' := 24) ?_
    exact sd_iret C dX10_leftBy_24 (sd_fst hF) (sd_snd hF)
  · replace hF := sd_neg hF c4
    refine sd_iload_n C 2 dX10_leftBy_7 rfl rfl rfl (n' := 8) ?_
    obtain ⟨q8, e8, hF⟩ := sd_bind hF
    refine sd_callSI [.int x2] [] C (ct_X10_isWay M x2  e8) sd_lX10_177 ⟨rfl, rfl, Nat.le_of_ble_eq_true rfl, Nat.le_of_ble_eq_true rfl⟩ rfl (Nat.le_of_ble_eq_true rfl) dX10_leftBy_8 rfl (n' := 11) ?_
    refine sd_if_eq C (n' := 14) (tgt := 23) dX10_leftBy_11 rfl rfl (fun c11 => ?_) (fun c11 => ?_)
    · replace hF := sd_pos hF c11
      refine sd_iconst C (v := -1) dX10_leftBy_23 rfl rfl (n' := 24) ?_
      exact sd_iret C dX10_leftBy_24 (sd_fst hF) (sd_snd hF)
    · replace hF := sd_neg hF c11
      refine sd_iload_n C 3 dX10_leftBy_14 rfl rfl rfl (n' := 15) ?_
      refine sd_iload C 4 dX10_leftBy_15 rfl rfl (n' := 17) ?_
      obtain ⟨q17, e17, hF⟩ := sd_bind hF
      refine sd_callSI [.int x3, .int x4] [] C (ct_X10_isPlace M x3 x4  e17) sd_lX10_182 ⟨rfl, rfl, Nat.le_of_ble_eq_true rfl, Nat.le_of_ble_eq_true rfl⟩ rfl (Nat.le_of_ble_eq_true rfl) dX10_leftBy_17 rfl (n' := 20) ?_
      refine sd_if_ne C (n' := 23) (tgt := 25) dX10_leftBy_20 rfl rfl (fun c20 => ?_) (fun c20 => ?_)
      · replace hF := sd_neg hF c20
        refine sd_aload_n C 0 dX10_leftBy_25 rfl rfl rfl (n' := 26) ?_
        refine sd_g10_2 C sd_i0 sd_k0 sd_w330 dX10_leftBy_26 rfl (n' := 29) ?_
        refine sd_iload_n C 2 dX10_leftBy_29 rfl rfl rfl (n' := 30) ?_
        obtain ⟨b30, hF⟩ := sd_ok hF
        refine sd_wald C sd_i23 sd_k23 sd_n23 b30 dX10_leftBy_30 rfl (n' := 31) ?_
        obtain ⟨q31, e31, hF⟩ := sd_bind hF
        refine sd_callVI [] [] C (ct_X9_isMissing M (23 + 1 + 2 * x2.toNatClampNeg) ((sd_r23 _ (sd_in_lt b30)).1) e31) sd_lX10_185 ⟨rfl, rfl, Nat.le_of_ble_eq_true rfl, Nat.le_of_ble_eq_true rfl⟩ (sd_mC (sd_r23 _ (sd_in_lt b30)).2) (sd_e10 ((sd_r23 _ (sd_in_lt b30)).1)) rfl rfl rfl (Nat.le_of_ble_eq_true rfl) dX10_leftBy_31 rfl (n' := 34) ?_
        refine sd_if_eq C (n' := 37) (tgt := 46) dX10_leftBy_34 rfl rfl (fun c34 => ?_) (fun c34 => ?_)
        · replace hF := sd_pos hF c34
          refine sd_aload_n C 0 dX10_leftBy_46 rfl rfl rfl (n' := 47) ?_
          refine sd_g10_2 C sd_i0 sd_k0 sd_w330 dX10_leftBy_47 rfl (n' := 50) ?_
          refine sd_iload_n C 2 dX10_leftBy_50 rfl rfl rfl (n' := 51) ?_
          obtain ⟨b51, hF⟩ := sd_ok hF
          refine sd_wald C sd_i23 sd_k23 sd_n23 b51 dX10_leftBy_51 rfl (n' := 52) ?_
          refine sd_iconst C (v := 4) dX10_leftBy_52 rfl rfl (n' := 53) ?_
          obtain ⟨q53, e53, hF⟩ := sd_bind hF
          refine sd_callVI [.int (4 : Int32)] [] C (ct_X9_is M (23 + 1 + 2 * x2.toNatClampNeg) (4 : Int32) ((sd_r23 _ (sd_in_lt b51)).1) e53) sd_lX10_201 ⟨rfl, rfl, Nat.le_of_ble_eq_true rfl, Nat.le_of_ble_eq_true rfl⟩ (sd_mC (sd_r23 _ (sd_in_lt b51)).2) (sd_e10 ((sd_r23 _ (sd_in_lt b51)).1)) rfl rfl rfl (Nat.le_of_ble_eq_true rfl) dX10_leftBy_53 rfl (n' := 56) ?_
          refine sd_if_ne C (n' := 59) (tgt := 68) dX10_leftBy_56 rfl rfl (fun c56 => ?_) (fun c56 => ?_)
          · replace hF := sd_neg hF c56
            refine sd_aload_n C 0 dX10_leftBy_68 rfl rfl rfl (n' := 69) ?_
            refine sd_g10_10 C sd_i0 sd_k0 sd_w338 dX10_leftBy_69 rfl (n' := 72) ?_
            refine sd_gN8_1 C sd_i90 sd_k90 sd_w253 dX10_leftBy_72 rfl (n' := 75) ?_
            refine sd_iload_n C 1 dX10_leftBy_75 rfl rfl rfl (n' := 76) ?_
            refine sd_aload_n C 0 dX10_leftBy_76 rfl rfl rfl (n' := 77) ?_
            refine sd_g10_2 C sd_i0 sd_k0 sd_w330 dX10_leftBy_77 rfl (n' := 80) ?_
            refine sd_iload_n C 2 dX10_leftBy_80 rfl rfl rfl (n' := 81) ?_
            obtain ⟨b81, hF⟩ := sd_ok hF
            refine sd_wald C sd_i23 sd_k23 sd_n23 b81 dX10_leftBy_81 rfl (n' := 82) ?_
            refine sd_iload_n C 3 dX10_leftBy_82 rfl rfl rfl (n' := 83) ?_
            refine sd_iload C 4 dX10_leftBy_83 rfl rfl (n' := 85) ?_
            obtain ⟨q85, e85, hF⟩ := sd_bind hF
            refine sd_callVI [.int x3, .int x4] [.int x1, .ref (E.2.2 92)] C (ct_X9_number M (23 + 1 + 2 * x2.toNatClampNeg) x3 x4 ((sd_r23 _ (sd_in_lt b81)).1) e85) sd_lX10_195 ⟨rfl, rfl, Nat.le_of_ble_eq_true rfl, Nat.le_of_ble_eq_true rfl⟩ (sd_mC (sd_r23 _ (sd_in_lt b81)).2) (sd_e10 ((sd_r23 _ (sd_in_lt b81)).1)) rfl rfl rfl (Nat.le_of_ble_eq_true rfl) dX10_leftBy_85 rfl (n' := 88) ?_
            obtain ⟨b88, hF⟩ := sd_ok hF
            refine sd_iast C sd_i92 sd_k92 sd_n92 b88 dX10_leftBy_88 rfl (n' := 89) ?_
            refine sd_aload_n C 0 dX10_leftBy_89 rfl rfl rfl (n' := 90) ?_
            refine sd_g10_10 C sd_i0 sd_k0 sd_w338 dX10_leftBy_90 rfl (n' := 93) ?_
            refine sd_gN8_1 C sd_i90 sd_k90 sd_w253 dX10_leftBy_93 rfl (n' := 96) ?_
            refine sd_iload_n C 1 dX10_leftBy_96 rfl rfl rfl (n' := 97) ?_
            obtain ⟨b97, hF⟩ := sd_ok hF
            refine sd_iald C sd_i92 sd_k92 sd_n92 b97 dX10_leftBy_97 rfl (n' := 98) ?_
            exact sd_iret C dX10_leftBy_98 (sd_fst hF) (sd_snd hF)
          · replace hF := sd_pos hF c56
            refine sd_aload_n C 0 dX10_leftBy_59 rfl rfl rfl (n' := 60) ?_
            refine sd_g10_12 C sd_i0 sd_k0 sd_w340 dX10_leftBy_60 rfl (n' := 63) ?_
            refine sd_iconst C (v := 3) dX10_leftBy_63 rfl rfl (n' := 64) ?_
            obtain ⟨q64, e64, hF⟩ := sd_bind hF
            refine sd_callVI [.int (3 : Int32)] [] C (ct_X2_tell M (3 : Int32)  e64) sd_lX10_100 ⟨rfl, rfl, Nat.le_of_ble_eq_true rfl, Nat.le_of_ble_eq_true rfl⟩ sd_i97 (sd_e3 sd_k97) rfl rfl rfl (Nat.le_of_ble_eq_true rfl) dX10_leftBy_64 rfl (n' := 67) ?_
            exact sd_iret C dX10_leftBy_67 (sd_fst hF) (sd_snd hF)
        · replace hF := sd_neg hF c34
          refine sd_aload_n C 0 dX10_leftBy_37 rfl rfl rfl (n' := 38) ?_
          refine sd_g10_12 C sd_i0 sd_k0 sd_w340 dX10_leftBy_38 rfl (n' := 41) ?_
          refine sd_iconst C (v := 1) dX10_leftBy_41 rfl rfl (n' := 42) ?_
          obtain ⟨q42, e42, hF⟩ := sd_bind hF
          refine sd_callVI [.int (1 : Int32)] [] C (ct_X2_tell M (1 : Int32)  e42) sd_lX10_100 ⟨rfl, rfl, Nat.le_of_ble_eq_true rfl, Nat.le_of_ble_eq_true rfl⟩ sd_i97 (sd_e3 sd_k97) rfl rfl rfl (Nat.le_of_ble_eq_true rfl) dX10_leftBy_42 rfl (n' := 45) ?_
          exact sd_iret C dX10_leftBy_45 (sd_fst hF) (sd_snd hF)
      · replace hF := sd_pos hF c20
        refine sd_iconst C (v := -1) dX10_leftBy_23 rfl rfl (n' := 24) ?_
        exact sd_iret C dX10_leftBy_24 (sd_fst hF) (sd_snd hF)
theorem ct_X10_leftBy {l : Launch} {E : sd_Env} (M : sd_Mem) (x1 : Int32) (x2 : Int32) (x3 : Int32) (x4 : Int32)  {r : (Int32 × sd_Mem)} (hF : fn_X10_leftBy M x1 x2 x3 x4 = some r) : sd_MI l E sd_LC yX10_leftBy cX10_leftBy 5 (some .int) rm_X10_leftBy [.ref (E.2.2 0), .int x1, .int x2, .int x3, .int x4] M r.1 r.2 := sd_ent0 (by decide +kernel) (Nat.le_of_ble_eq_true rfl) (fun p e s m below meth c C => tb_X10_leftBy_0 C M x1 x2 x3 x4 hF)
theorem dX10_isFund_0 : decode cX10_isFund 0 = .ok (.iload_n 0, 1) := by decide +kernel
theorem dX10_isFund_1 : decode cX10_isFund 1 = .ok (.iconst 0, 1) := by decide +kernel
theorem dX10_isFund_2 : decode cX10_isFund 2 = .ok (.sipush 9999, 3) := by decide +kernel
theorem dX10_isFund_5 : decode cX10_isFund 5 = .ok (.invokestatic 152, 3) := by decide +kernel
theorem dX10_isFund_8 : decode cX10_isFund 8 = .ok (.ifCond .eq 18, 3) := by decide +kernel
theorem dX10_isFund_11 : decode cX10_isFund 11 = .ok (.iload_n 1, 1) := by decide +kernel
theorem dX10_isFund_12 : decode cX10_isFund 12 = .ok (.iconst 0, 1) := by decide +kernel
theorem dX10_isFund_13 : decode cX10_isFund 13 = .ok (.sipush 999, 3) := by decide +kernel
theorem dX10_isFund_16 : decode cX10_isFund 16 = .ok (.invokestatic 152, 3) := by decide +kernel
theorem dX10_isFund_19 : decode cX10_isFund 19 = .ok (.ifCond .eq 7, 3) := by decide +kernel
theorem dX10_isFund_22 : decode cX10_isFund 22 = .ok (.iconst 1, 1) := by decide +kernel
theorem dX10_isFund_23 : decode cX10_isFund 23 = .ok (.goto 4, 3) := by decide +kernel
theorem dX10_isFund_26 : decode cX10_isFund 26 = .ok (.iconst 0, 1) := by decide +kernel
theorem dX10_isFund_27 : decode cX10_isFund 27 = .ok (.ireturn, 1) := by decide +kernel
set_option maxRecDepth 100000 in
set_option maxHeartbeats 4000000 in
theorem tb_X10_isFund_0 {K : sd_K} {E : sd_Env} {M : sd_Mem}  {r : Int32} (C : sd_C K E sd_LC RX10 cX10_isFund 2 (some .boolean))  : ∀ (x0 : Int32) (x1 : Int32), fn_X10_isFund_0 x0 x1 = some r → sd_Z K rm_X10_isFund E sd_LC 2 (sd_QI K E sd_LC r M) M 0 [(0, .int x0), (1, .int x1)] [] := by
  intro x0 x1 hF
  unfold fn_X10_isFund_0 at hF
  refine sd_iload_n C 0 dX10_isFund_0 rfl rfl rfl (n' := 1) ?_
  refine sd_iconst C (v := 0) dX10_isFund_1 rfl rfl (n' := 2) ?_
  refine sd_sipush C (v := 9999) dX10_isFund_2 rfl rfl (n' := 5) ?_
  obtain ⟨q5, e5, hF⟩ := sd_bind hF
  refine sd_callSI [.int x0, .int (0 : Int32), .int (9999 : Int32)] [] C (ct_X10_within M x0 (0 : Int32) (9999 : Int32)  e5) sd_lX10_152 ⟨rfl, rfl, Nat.le_of_ble_eq_true rfl, Nat.le_of_ble_eq_true rfl⟩ rfl (Nat.le_of_ble_eq_true rfl) dX10_isFund_5 rfl (n' := 8) ?_
  refine sd_if_eq C (n' := 11) (tgt := 26) dX10_isFund_8 rfl rfl (fun c8 => ?_) (fun c8 => ?_)
  · replace hF := sd_pos hF c8
    refine sd_iconst C (v := 0) dX10_isFund_26 rfl rfl (n' := 27) ?_
    exact sd_zret C dX10_isFund_27 rfl (Option.some.inj hF) rfl
  · replace hF := sd_neg hF c8
    refine sd_iload_n C 1 dX10_isFund_11 rfl rfl rfl (n' := 12) ?_
    refine sd_iconst C (v := 0) dX10_isFund_12 rfl rfl (n' := 13) ?_
    refine sd_sipush C (v := 999) dX10_isFund_13 rfl rfl (n' := 16) ?_
    obtain ⟨q16, e16, hF⟩ := sd_bind hF
    refine sd_callSI [.int x1, .int (0 : Int32), .int (999 : Int32)] [] C (ct_X10_within M x1 (0 : Int32) (999 : Int32)  e16) sd_lX10_152 ⟨rfl, rfl, Nat.le_of_ble_eq_true rfl, Nat.le_of_ble_eq_true rfl⟩ rfl (Nat.le_of_ble_eq_true rfl) dX10_isFund_16 rfl (n' := 19) ?_
    refine sd_if_eq C (n' := 22) (tgt := 26) dX10_isFund_19 rfl rfl (fun c19 => ?_) (fun c19 => ?_)
    · replace hF := sd_pos hF c19
      refine sd_iconst C (v := 0) dX10_isFund_26 rfl rfl (n' := 27) ?_
      exact sd_zret C dX10_isFund_27 rfl (Option.some.inj hF) rfl
    · replace hF := sd_neg hF c19
      refine sd_iconst C (v := 1) dX10_isFund_22 rfl rfl (n' := 23) ?_
      refine sd_goto C (tgt := 27) dX10_isFund_23 rfl ?_
      exact sd_zret C dX10_isFund_27 rfl (Option.some.inj hF) rfl
theorem ct_X10_isFund {l : Launch} {E : sd_Env} (M : sd_Mem) (x0 : Int32) (x1 : Int32)  {r : Int32} (hF : fn_X10_isFund x0 x1 = some r) : sd_MI l E sd_LC yX10_isFund cX10_isFund 2 (some .boolean) rm_X10_isFund [.int x0, .int x1] M r M := sd_ent0 (by decide +kernel) (Nat.le_of_ble_eq_true rfl) (fun p e s m below meth c C => tb_X10_isFund_0 C x0 x1 hF)
theorem dX8_begin_0 : decode cX8_begin 0 = .ok (.iconst 0, 1) := by decide +kernel
theorem dX8_begin_1 : decode cX8_begin 1 = .ok (.istore_n 3, 1) := by decide +kernel
theorem dX8_begin_2 : decode cX8_begin 2 = .ok (.iload_n 3, 1) := by decide +kernel
theorem dX8_begin_3 : decode cX8_begin 3 = .ok (.bipush 6, 2) := by decide +kernel
theorem dX8_begin_5 : decode cX8_begin 5 = .ok (.if_icmp .ge 37, 3) := by decide +kernel
theorem dX8_begin_8 : decode cX8_begin 8 = .ok (.aload_n 0, 1) := by decide +kernel
theorem dX8_begin_9 : decode cX8_begin 9 = .ok (.getfield 21, 3) := by decide +kernel
theorem dX8_begin_12 : decode cX8_begin 12 = .ok (.iload_n 3, 1) := by decide +kernel
theorem dX8_begin_13 : decode cX8_begin 13 = .ok (.iload_n 3, 1) := by decide +kernel
theorem dX8_begin_14 : decode cX8_begin 14 = .ok (.iload_n 2, 1) := by decide +kernel
theorem dX8_begin_15 : decode cX8_begin 15 = .ok (.if_icmp .ne 7, 3) := by decide +kernel
theorem dX8_begin_18 : decode cX8_begin 18 = .ok (.iconst 0, 1) := by decide +kernel
theorem dX8_begin_19 : decode cX8_begin 19 = .ok (.goto 9, 3) := by decide +kernel
theorem dX8_begin_22 : decode cX8_begin 22 = .ok (.aload_n 0, 1) := by decide +kernel
theorem dX8_begin_23 : decode cX8_begin 23 = .ok (.getfield 15, 3) := by decide +kernel
theorem dX8_begin_26 : decode cX8_begin 26 = .ok (.iload_n 3, 1) := by decide +kernel
theorem dX8_begin_27 : decode cX8_begin 27 = .ok (.iaload, 1) := by decide +kernel
theorem dX8_begin_28 : decode cX8_begin 28 = .ok (.iastore, 1) := by decide +kernel
theorem dX8_begin_29 : decode cX8_begin 29 = .ok (.aload_n 0, 1) := by decide +kernel
theorem dX8_begin_30 : decode cX8_begin 30 = .ok (.getfield 24, 3) := by decide +kernel
theorem dX8_begin_33 : decode cX8_begin 33 = .ok (.iload_n 3, 1) := by decide +kernel
theorem dX8_begin_34 : decode cX8_begin 34 = .ok (.iconst 0, 1) := by decide +kernel
theorem dX8_begin_35 : decode cX8_begin 35 = .ok (.bastore, 1) := by decide +kernel
theorem dX8_begin_36 : decode cX8_begin 36 = .ok (.iinc 3 1, 3) := by decide +kernel
theorem dX8_begin_39 : decode cX8_begin 39 = .ok (.goto (-37), 3) := by decide +kernel
theorem dX8_begin_42 : decode cX8_begin 42 = .ok (.aload_n 0, 1) := by decide +kernel
theorem dX8_begin_43 : decode cX8_begin 43 = .ok (.iload_n 1, 1) := by decide +kernel
theorem dX8_begin_44 : decode cX8_begin 44 = .ok (.putfield 28, 3) := by decide +kernel
theorem dX8_begin_47 : decode cX8_begin 47 = .ok (.return_, 1) := by decide +kernel
set_option maxRecDepth 100000 in
set_option maxHeartbeats 4000000 in
theorem tb_X8_begin_28 {K : sd_K} {E : sd_Env}   {r : sd_Mem} (C : sd_C K E sd_LC RX8 cX8_begin 4 none)  {k2 : sd_Mem → Int32 → Int32 → Int32 → Option sd_Mem} (hk2 : ∀ (M : sd_Mem) (x1 : Int32) (x2 : Int32) (x3 : Int32), k2 M x1 x2 x3 = some r → sd_Z K rm_X8_begin E sd_LC 4 (sd_QV K E sd_LC r) M 2 [(0, .ref (E.2.2 90)), (1, .int x1), (2, .int x2), (3, .int x3)] []) : ∀ (M : sd_Mem) (x1 : Int32) (x2 : Int32) (x3 : Int32) (xs0 : Int32) (xs1 : Int32), fn_X8_begin_28 k2 M x1 x2 x3 xs0 xs1 = some r → sd_Z K rm_X8_begin E sd_LC 4 (sd_QV K E sd_LC r) M 28 [(0, .ref (E.2.2 90)), (1, .int x1), (2, .int x2), (3, .int x3)] [.int xs0, .int xs1, .ref (E.2.2 94)] := by
  intro M x1 x2 x3 xs0 xs1 hF
  unfold fn_X8_begin_28 at hF
  obtain ⟨b28, hF⟩ := sd_ok hF
  refine sd_iast C sd_i94 sd_k94 sd_n94 b28 dX8_begin_28 rfl (n' := 29) ?_
  refine sd_aload_n C 0 dX8_begin_29 rfl rfl rfl (n' := 30) ?_
  refine sd_g8_4 C sd_i90 sd_k90 sd_w257 dX8_begin_30 rfl (n' := 33) ?_
  refine sd_iload_n C 3 dX8_begin_33 rfl rfl rfl (n' := 34) ?_
  refine sd_iconst C (v := 0) dX8_begin_34 rfl rfl (n' := 35) ?_
  obtain ⟨b35, hF⟩ := sd_ok hF
  refine sd_zast C sd_i95 sd_k95 sd_n95 b35 dX8_begin_35 rfl (n' := 36) ?_
  refine sd_iinc [(3, .int (x3 + (1 : Int32))), (0, .ref (E.2.2 90)), (1, .int x1), (2, .int x2)] 3 C dX8_begin_36 rfl rfl (by decide) rfl rfl (n' := 39) ?_
  refine sd_goto C (tgt := 2) dX8_begin_39 rfl ?_
  refine sd_sub [1, 2, 3, 0] rfl ?_
  exact hk2 (sd_setI (sd_setI M 94 xs1.toNatClampNeg xs0) 95 x3.toNatClampNeg ((0 : Int32) &&& 1)) x1 x2 (x3 + (1 : Int32)) hF
set_option maxRecDepth 100000 in
set_option maxHeartbeats 4000000 in
theorem tb_X8_begin_2 {K : sd_K} {E : sd_Env}   {r : sd_Mem} (C : sd_C K E sd_LC RX8 cX8_begin 4 none)  : ∀ (n : Nat), ∀ (M : sd_Mem) (x1 : Int32) (x2 : Int32) (x3 : Int32), fn_X8_begin_2 n M x1 x2 x3 = some r → sd_Z K rm_X8_begin E sd_LC 4 (sd_QV K E sd_LC r) M 2 [(0, .ref (E.2.2 90)), (1, .int x1), (2, .int x2), (3, .int x3)] [] := by
  intro n
  induction n with
  | zero => intro M x1 x2 x3 hF; cases hF
  | succ n ih =>
    intro M x1 x2 x3 hF
    unfold fn_X8_begin_2 at hF
    refine sd_iload_n C 3 dX8_begin_2 rfl rfl rfl (n' := 3) ?_
    refine sd_bipush C (v := 6) dX8_begin_3 rfl rfl (n' := 5) ?_
    refine sd_icmp_ge C (n' := 8) (tgt := 42) dX8_begin_5 rfl rfl (fun c5 => ?_) (fun c5 => ?_)
    · replace hF := sd_pos hF c5
      refine sd_aload_n C 0 dX8_begin_42 rfl rfl rfl (n' := 43) ?_
      refine sd_iload_n C 1 dX8_begin_43 rfl rfl rfl (n' := 44) ?_
      refine sd_p8_5 C sd_i90 sd_k90 sd_w258 dX8_begin_44 rfl (n' := 47) ?_
      exact sd_vret C dX8_begin_47 (Option.some.inj hF)
    · replace hF := sd_neg hF c5
      refine sd_aload_n C 0 dX8_begin_8 rfl rfl rfl (n' := 9) ?_
      refine sd_g8_3 C sd_i90 sd_k90 sd_w256 dX8_begin_9 rfl (n' := 12) ?_
      refine sd_iload_n C 3 dX8_begin_12 rfl rfl rfl (n' := 13) ?_
      refine sd_iload_n C 3 dX8_begin_13 rfl rfl rfl (n' := 14) ?_
      refine sd_iload_n C 2 dX8_begin_14 rfl rfl rfl (n' := 15) ?_
      refine sd_icmp_ne C (n' := 18) (tgt := 22) dX8_begin_15 rfl rfl (fun c15 => ?_) (fun c15 => ?_)
      · replace hF := sd_neg hF c15
        refine sd_aload_n C 0 dX8_begin_22 rfl rfl rfl (n' := 23) ?_
        refine sd_g8_1 C sd_i90 sd_k90 sd_w252 dX8_begin_23 rfl (n' := 26) ?_
        refine sd_iload_n C 3 dX8_begin_26 rfl rfl rfl (n' := 27) ?_
        obtain ⟨b27, hF⟩ := sd_ok hF
        refine sd_iald C sd_i92 sd_k92 sd_n92 b27 dX8_begin_27 rfl (n' := 28) ?_
        exact tb_X8_begin_28 C ih M x1 x2 x3 (M.1 92 x3.toNatClampNeg) x3 hF
      · replace hF := sd_pos hF c15
        refine sd_iconst C (v := 0) dX8_begin_18 rfl rfl (n' := 19) ?_
        refine sd_goto C (tgt := 28) dX8_begin_19 rfl ?_
        exact tb_X8_begin_28 C ih M x1 x2 x3 (0 : Int32) x3 hF
set_option maxRecDepth 100000 in
set_option maxHeartbeats 4000000 in
theorem tb_X8_begin_0 {K : sd_K} {E : sd_Env}   {r : sd_Mem} (C : sd_C K E sd_LC RX8 cX8_begin 4 none)  : ∀ (M : sd_Mem) (x1 : Int32) (x2 : Int32), fn_X8_begin_0 M x1 x2 = some r → sd_Z K rm_X8_begin E sd_LC 4 (sd_QV K E sd_LC r) M 0 [(0, .ref (E.2.2 90)), (1, .int x1), (2, .int x2)] [] := by
  intro M x1 x2 hF
  unfold fn_X8_begin_0 at hF
  refine sd_iconst C (v := 0) dX8_begin_0 rfl rfl (n' := 1) ?_
  refine sd_istore_n [(3, .int (0 : Int32)), (0, .ref (E.2.2 90)), (1, .int x1), (2, .int x2)] C dX8_begin_1 rfl (by decide) rfl rfl (n' := 2) ?_
  refine sd_sub [1, 2, 3, 0] rfl ?_
  exact tb_X8_begin_2 C sd_FU M x1 x2 (0 : Int32) hF
theorem ct_X8_begin {l : Launch} {E : sd_Env} (M : sd_Mem) (x1 : Int32) (x2 : Int32)  {r : sd_Mem} (hF : fn_X8_begin M x1 x2 = some r) : sd_MV l E sd_LC yX8_begin cX8_begin 4 none rm_X8_begin [.ref (E.2.2 90), .int x1, .int x2] M r := sd_ent0 (by decide +kernel) (Nat.le_of_ble_eq_true rfl) (fun p e s m below meth c C => tb_X8_begin_0 C M x1 x2 hF)
theorem dX8_menBack_0 : decode cX8_menBack 0 = .ok (.iconst 0, 1) := by decide +kernel
theorem dX8_menBack_1 : decode cX8_menBack 1 = .ok (.istore_n 1, 1) := by decide +kernel
theorem dX8_menBack_2 : decode cX8_menBack 2 = .ok (.iconst 0, 1) := by decide +kernel
theorem dX8_menBack_3 : decode cX8_menBack 3 = .ok (.istore_n 2, 1) := by decide +kernel
theorem dX8_menBack_4 : decode cX8_menBack 4 = .ok (.iload_n 2, 1) := by decide +kernel
theorem dX8_menBack_5 : decode cX8_menBack 5 = .ok (.bipush 6, 2) := by decide +kernel
theorem dX8_menBack_7 : decode cX8_menBack 7 = .ok (.if_icmp .ge 31, 3) := by decide +kernel
theorem dX8_menBack_10 : decode cX8_menBack 10 = .ok (.iload_n 1, 1) := by decide +kernel
theorem dX8_menBack_11 : decode cX8_menBack 11 = .ok (.aload_n 0, 1) := by decide +kernel
theorem dX8_menBack_12 : decode cX8_menBack 12 = .ok (.getfield 24, 3) := by decide +kernel
theorem dX8_menBack_15 : decode cX8_menBack 15 = .ok (.iload_n 2, 1) := by decide +kernel
theorem dX8_menBack_16 : decode cX8_menBack 16 = .ok (.baload, 1) := by decide +kernel
theorem dX8_menBack_17 : decode cX8_menBack 17 = .ok (.ifCond .eq 12, 3) := by decide +kernel
theorem dX8_menBack_20 : decode cX8_menBack 20 = .ok (.aload_n 0, 1) := by decide +kernel
theorem dX8_menBack_21 : decode cX8_menBack 21 = .ok (.getfield 9, 3) := by decide +kernel
theorem dX8_menBack_24 : decode cX8_menBack 24 = .ok (.iload_n 2, 1) := by decide +kernel
theorem dX8_menBack_25 : decode cX8_menBack 25 = .ok (.iaload, 1) := by decide +kernel
theorem dX8_menBack_26 : decode cX8_menBack 26 = .ok (.goto 4, 3) := by decide +kernel
theorem dX8_menBack_29 : decode cX8_menBack 29 = .ok (.iconst 0, 1) := by decide +kernel
theorem dX8_menBack_30 : decode cX8_menBack 30 = .ok (.iadd, 1) := by decide +kernel
theorem dX8_menBack_31 : decode cX8_menBack 31 = .ok (.istore_n 1, 1) := by decide +kernel
theorem dX8_menBack_32 : decode cX8_menBack 32 = .ok (.iinc 2 1, 3) := by decide +kernel
theorem dX8_menBack_35 : decode cX8_menBack 35 = .ok (.goto (-31), 3) := by decide +kernel
theorem dX8_menBack_38 : decode cX8_menBack 38 = .ok (.iload_n 1, 1) := by decide +kernel
theorem dX8_menBack_39 : decode cX8_menBack 39 = .ok (.ireturn, 1) := by decide +kernel
set_option maxRecDepth 100000 in
set_option maxHeartbeats 4000000 in
theorem tb_X8_menBack_4 {K : sd_K} {E : sd_Env} {M : sd_Mem}  {r : Int32} (C : sd_C K E sd_LC RX8 cX8_menBack 3 (some .int))  : ∀ (n : Nat), ∀ (x1 : Int32) (x2 : Int32), fn_X8_menBack_4 M n x1 x2 = some r → sd_Z K rm_X8_menBack E sd_LC 3 (sd_QI K E sd_LC r M) M 4 [(0, .ref (E.2.2 90)), (1, .int x1), (2, .int x2)] [] := by
  intro n
  induction n with
  | zero => intro x1 x2 hF; cases hF
  | succ n ih =>
    intro x1 x2 hF
    unfold fn_X8_menBack_4 at hF
    refine sd_iload_n C 2 dX8_menBack_4 rfl rfl rfl (n' := 5) ?_
    refine sd_bipush C (v := 6) dX8_menBack_5 rfl rfl (n' := 7) ?_
    refine sd_icmp_ge C (n' := 10) (tgt := 38) dX8_menBack_7 rfl rfl (fun c7 => ?_) (fun c7 => ?_)
    · replace hF := sd_pos hF c7
      refine sd_iload_n C 1 dX8_menBack_38 rfl rfl rfl (n' := 39) ?_
      exact sd_iret C dX8_menBack_39 (Option.some.inj hF) rfl
    · replace hF := sd_neg hF c7
      refine sd_iload_n C 1 dX8_menBack_10 rfl rfl rfl (n' := 11) ?_
      refine sd_aload_n C 0 dX8_menBack_11 rfl rfl rfl (n' := 12) ?_
      refine sd_g8_4 C sd_i90 sd_k90 sd_w257 dX8_menBack_12 rfl (n' := 15) ?_
      refine sd_iload_n C 2 dX8_menBack_15 rfl rfl rfl (n' := 16) ?_
      obtain ⟨b16, hF⟩ := sd_ok hF
      refine sd_zald C sd_i95 sd_k95 sd_n95 b16 dX8_menBack_16 rfl (n' := 17) ?_
      refine sd_if_eq C (n' := 20) (tgt := 29) dX8_menBack_17 rfl rfl (fun c17 => ?_) (fun c17 => ?_)
      · replace hF := sd_pos hF c17
        refine sd_iconst C (v := 0) dX8_menBack_29 rfl rfl (n' := 30) ?_
        refine sd_iadd C dX8_menBack_30 rfl (n' := 31) ?_
        refine sd_istore_n [(1, .int (x1 + (0 : Int32))), (0, .ref (E.2.2 90)), (2, .int x2)] C dX8_menBack_31 rfl (by decide) rfl rfl (n' := 32) ?_
        refine sd_iinc [(2, .int (x2 + (1 : Int32))), (1, .int (x1 + (0 : Int32))), (0, .ref (E.2.2 90))] 2 C dX8_menBack_32 rfl rfl (by decide) rfl rfl (n' := 35) ?_
        refine sd_goto C (tgt := 4) dX8_menBack_35 rfl ?_
        refine sd_sub [2, 1, 0] rfl ?_
        exact ih (x1 + (0 : Int32)) (x2 + (1 : Int32)) hF
      · replace hF := sd_neg hF c17
        refine sd_aload_n C 0 dX8_menBack_20 rfl rfl rfl (n' := 21) ?_
        refine sd_g8_0 C sd_i90 sd_k90 sd_w250 dX8_menBack_21 rfl (n' := 24) ?_
        refine sd_iload_n C 2 dX8_menBack_24 rfl rfl rfl (n' := 25) ?_
        obtain ⟨b25, hF⟩ := sd_ok hF
        refine sd_iald C sd_i91 sd_k91 sd_n91 b25 dX8_menBack_25 rfl (n' := 26) ?_
        refine sd_goto C (tgt := 30) dX8_menBack_26 rfl ?_
        refine sd_iadd C dX8_menBack_30 rfl (n' := 31) ?_
        refine sd_istore_n [(1, .int (x1 + (M.1 91 x2.toNatClampNeg))), (0, .ref (E.2.2 90)), (2, .int x2)] C dX8_menBack_31 rfl (by decide) rfl rfl (n' := 32) ?_
        refine sd_iinc [(2, .int (x2 + (1 : Int32))), (1, .int (x1 + (M.1 91 x2.toNatClampNeg))), (0, .ref (E.2.2 90))] 2 C dX8_menBack_32 rfl rfl (by decide) rfl rfl (n' := 35) ?_
        refine sd_goto C (tgt := 4) dX8_menBack_35 rfl ?_
        refine sd_sub [2, 1, 0] rfl ?_
        exact ih (x1 + (M.1 91 x2.toNatClampNeg)) (x2 + (1 : Int32)) hF
set_option maxRecDepth 100000 in
set_option maxHeartbeats 4000000 in
theorem tb_X8_menBack_0 {K : sd_K} {E : sd_Env} {M : sd_Mem}  {r : Int32} (C : sd_C K E sd_LC RX8 cX8_menBack 3 (some .int))  : fn_X8_menBack_0 M = some r → sd_Z K rm_X8_menBack E sd_LC 3 (sd_QI K E sd_LC r M) M 0 [(0, .ref (E.2.2 90))] [] := by
  intro hF
  unfold fn_X8_menBack_0 at hF
  refine sd_iconst C (v := 0) dX8_menBack_0 rfl rfl (n' := 1) ?_
  refine sd_istore_n [(1, .int (0 : Int32)), (0, .ref (E.2.2 90))] C dX8_menBack_1 rfl (by decide) rfl rfl (n' := 2) ?_
  refine sd_iconst C (v := 0) dX8_menBack_2 rfl rfl (n' := 3) ?_
  refine sd_istore_n [(2, .int (0 : Int32)), (1, .int (0 : Int32)), (0, .ref (E.2.2 90))] C dX8_menBack_3 rfl (by decide) rfl rfl (n' := 4) ?_
  refine sd_sub [2, 1, 0] rfl ?_
  exact tb_X8_menBack_4 C sd_FU (0 : Int32) (0 : Int32) hF
theorem ct_X8_menBack {l : Launch} {E : sd_Env} (M : sd_Mem)   {r : Int32} (hF : fn_X8_menBack M = some r) : sd_MI l E sd_LC yX8_menBack cX8_menBack 3 (some .int) rm_X8_menBack [.ref (E.2.2 90)] M r M := sd_ent0 (by decide +kernel) (Nat.le_of_ble_eq_true rfl) (fun p e s m below meth c C => tb_X8_menBack_0 C hF)
theorem dX8_menInAll_0 : decode cX8_menInAll 0 = .ok (.iconst 0, 1) := by decide +kernel
theorem dX8_menInAll_1 : decode cX8_menInAll 1 = .ok (.istore_n 1, 1) := by decide +kernel
theorem dX8_menInAll_2 : decode cX8_menInAll 2 = .ok (.aload_n 0, 1) := by decide +kernel
theorem dX8_menInAll_3 : decode cX8_menInAll 3 = .ok (.getfield 9, 3) := by decide +kernel
theorem dX8_menInAll_6 : decode cX8_menInAll 6 = .ok (.astore_n 2, 1) := by decide +kernel
theorem dX8_menInAll_7 : decode cX8_menInAll 7 = .ok (.aload_n 2, 1) := by decide +kernel
theorem dX8_menInAll_8 : decode cX8_menInAll 8 = .ok (.arraylength, 1) := by decide +kernel
theorem dX8_menInAll_9 : decode cX8_menInAll 9 = .ok (.istore_n 3, 1) := by decide +kernel
theorem dX8_menInAll_10 : decode cX8_menInAll 10 = .ok (.iconst 0, 1) := by decide +kernel
theorem dX8_menInAll_11 : decode cX8_menInAll 11 = .ok (.istore 4, 2) := by decide +kernel
theorem dX8_menInAll_13 : decode cX8_menInAll 13 = .ok (.iload 4, 2) := by decide +kernel
theorem dX8_menInAll_15 : decode cX8_menInAll 15 = .ok (.iload_n 3, 1) := by decide +kernel
theorem dX8_menInAll_16 : decode cX8_menInAll 16 = .ok (.if_icmp .ge 20, 3) := by decide +kernel
theorem dX8_menInAll_19 : decode cX8_menInAll 19 = .ok (.aload_n 2, 1) := by decide +kernel
theorem dX8_menInAll_20 : decode cX8_menInAll 20 = .ok (.iload 4, 2) := by decide +kernel
theorem dX8_menInAll_22 : decode cX8_menInAll 22 = .ok (.iaload, 1) := by decide +kernel
theorem dX8_menInAll_23 : decode cX8_menInAll 23 = .ok (.istore 5, 2) := by decide +kernel
theorem dX8_menInAll_25 : decode cX8_menInAll 25 = .ok (.iload_n 1, 1) := by decide +kernel
theorem dX8_menInAll_26 : decode cX8_menInAll 26 = .ok (.iload 5, 2) := by decide +kernel
theorem dX8_menInAll_28 : decode cX8_menInAll 28 = .ok (.iadd, 1) := by decide +kernel
theorem dX8_menInAll_29 : decode cX8_menInAll 29 = .ok (.istore_n 1, 1) := by decide +kernel
theorem dX8_menInAll_30 : decode cX8_menInAll 30 = .ok (.iinc 4 1, 3) := by decide +kernel
theorem dX8_menInAll_33 : decode cX8_menInAll 33 = .ok (.goto (-20), 3) := by decide +kernel
theorem dX8_menInAll_36 : decode cX8_menInAll 36 = .ok (.iload_n 1, 1) := by decide +kernel
theorem dX8_menInAll_37 : decode cX8_menInAll 37 = .ok (.ireturn, 1) := by decide +kernel
set_option maxRecDepth 100000 in
set_option maxHeartbeats 4000000 in
theorem tb_X8_menInAll_13 {K : sd_K} {E : sd_Env} {M : sd_Mem}  {r : Int32} (C : sd_C K E sd_LC RX8 cX8_menInAll 6 (some .int))  : ∀ (n : Nat), ∀ (x1 : Int32) (x3 : Int32) (x4 : Int32), fn_X8_menInAll_13 M n x1 x3 x4 = some r → sd_Z K rm_X8_menInAll E sd_LC 6 (sd_QI K E sd_LC r M) M 13 [(1, .int x1), (2, .ref (E.2.2 91)), (3, .int x3), (4, .int x4)] [] := by
  intro n
  induction n with
  | zero => intro x1 x3 x4 hF; cases hF
  | succ n ih =>
    intro x1 x3 x4 hF
    unfold fn_X8_menInAll_13 at hF
    refine sd_iload C 3 dX8_menInAll_13 rfl rfl (n' := 15) ?_
    refine sd_iload_n C 2 dX8_menInAll_15 rfl rfl rfl (n' := 16) ?_
    refine sd_icmp_ge C (n' := 19) (tgt := 36) dX8_menInAll_16 rfl rfl (fun c16 => ?_) (fun c16 => ?_)
    · replace hF := sd_pos hF c16
      refine sd_iload_n C 0 dX8_menInAll_36 rfl rfl rfl (n' := 37) ?_
      exact sd_iret C dX8_menInAll_37 (Option.some.inj hF) rfl
    · replace hF := sd_neg hF c16
      refine sd_aload_n C 1 dX8_menInAll_19 rfl rfl rfl (n' := 20) ?_
      refine sd_iload C 3 dX8_menInAll_20 rfl rfl (n' := 22) ?_
      obtain ⟨b22, hF⟩ := sd_ok hF
      refine sd_iald C sd_i91 sd_k91 sd_n91 b22 dX8_menInAll_22 rfl (n' := 23) ?_
      refine sd_istore [(5, .int (M.1 91 x4.toNatClampNeg)), (1, .int x1), (2, .ref (E.2.2 91)), (3, .int x3), (4, .int x4)] C dX8_menInAll_23 (by decide) rfl rfl (n' := 25) ?_
      refine sd_iload_n C 1 dX8_menInAll_25 rfl rfl rfl (n' := 26) ?_
      refine sd_iload C 0 dX8_menInAll_26 rfl rfl (n' := 28) ?_
      refine sd_iadd C dX8_menInAll_28 rfl (n' := 29) ?_
      refine sd_istore_n [(1, .int (x1 + (M.1 91 x4.toNatClampNeg))), (5, .int (M.1 91 x4.toNatClampNeg)), (2, .ref (E.2.2 91)), (3, .int x3), (4, .int x4)] C dX8_menInAll_29 rfl (by decide) rfl rfl (n' := 30) ?_
      refine sd_iinc [(4, .int (x4 + (1 : Int32))), (1, .int (x1 + (M.1 91 x4.toNatClampNeg))), (5, .int (M.1 91 x4.toNatClampNeg)), (2, .ref (E.2.2 91)), (3, .int x3)] 4 C dX8_menInAll_30 rfl rfl (by decide) rfl rfl (n' := 33) ?_
      refine sd_goto C (tgt := 13) dX8_menInAll_33 rfl ?_
      refine sd_sub [1, 3, 4, 0] rfl ?_
      exact ih (x1 + (M.1 91 x4.toNatClampNeg)) x3 (x4 + (1 : Int32)) hF
set_option maxRecDepth 100000 in
set_option maxHeartbeats 4000000 in
theorem tb_X8_menInAll_0 {K : sd_K} {E : sd_Env} {M : sd_Mem}  {r : Int32} (C : sd_C K E sd_LC RX8 cX8_menInAll 6 (some .int))  : fn_X8_menInAll_0 M = some r → sd_Z K rm_X8_menInAll E sd_LC 6 (sd_QI K E sd_LC r M) M 0 [(0, .ref (E.2.2 90))] [] := by
  intro hF
  unfold fn_X8_menInAll_0 at hF
  refine sd_iconst C (v := 0) dX8_menInAll_0 rfl rfl (n' := 1) ?_
  refine sd_istore_n [(1, .int (0 : Int32)), (0, .ref (E.2.2 90))] C dX8_menInAll_1 rfl (by decide) rfl rfl (n' := 2) ?_
  refine sd_aload_n C 1 dX8_menInAll_2 rfl rfl rfl (n' := 3) ?_
  refine sd_g8_0 C sd_i90 sd_k90 sd_w250 dX8_menInAll_3 rfl (n' := 6) ?_
  refine sd_astore_n [(2, .ref (E.2.2 91)), (1, .int (0 : Int32)), (0, .ref (E.2.2 90))] C dX8_menInAll_6 rfl (by decide) rfl rfl (n' := 7) ?_
  refine sd_aload_n C 0 dX8_menInAll_7 rfl rfl rfl (n' := 8) ?_
  refine sd_alen C sd_i91 sd_k91 sd_n91 rfl dX8_menInAll_8 rfl (n' := 9) ?_
  refine sd_istore_n [(3, .int (6 : Int32)), (2, .ref (E.2.2 91)), (1, .int (0 : Int32)), (0, .ref (E.2.2 90))] C dX8_menInAll_9 rfl (by decide) rfl rfl (n' := 10) ?_
  refine sd_iconst C (v := 0) dX8_menInAll_10 rfl rfl (n' := 11) ?_
  refine sd_istore [(4, .int (0 : Int32)), (3, .int (6 : Int32)), (2, .ref (E.2.2 91)), (1, .int (0 : Int32)), (0, .ref (E.2.2 90))] C dX8_menInAll_11 (by decide) rfl rfl (n' := 13) ?_
  refine sd_sub [3, 2, 1, 0] rfl ?_
  exact tb_X8_menInAll_13 C sd_FU (0 : Int32) (6 : Int32) (0 : Int32) hF
theorem ct_X8_menInAll {l : Launch} {E : sd_Env} (M : sd_Mem)   {r : Int32} (hF : fn_X8_menInAll M = some r) : sd_MI l E sd_LC yX8_menInAll cX8_menInAll 6 (some .int) rm_X8_menInAll [.ref (E.2.2 90)] M r M := sd_ent0 (by decide +kernel) (Nat.le_of_ble_eq_true rfl) (fun p e s m below meth c C => tb_X8_menInAll_0 C hF)
theorem dX8_followThose_0 : decode cX8_followThose 0 = .ok (.iconst 0, 1) := by decide +kernel
theorem dX8_followThose_1 : decode cX8_followThose 1 = .ok (.istore_n 3, 1) := by decide +kernel
theorem dX8_followThose_2 : decode cX8_followThose 2 = .ok (.iload_n 3, 1) := by decide +kernel
theorem dX8_followThose_3 : decode cX8_followThose 3 = .ok (.bipush 6, 2) := by decide +kernel
theorem dX8_followThose_5 : decode cX8_followThose 5 = .ok (.if_icmp .ge 38, 3) := by decide +kernel
theorem dX8_followThose_8 : decode cX8_followThose 8 = .ok (.aload_n 0, 1) := by decide +kernel
theorem dX8_followThose_9 : decode cX8_followThose 9 = .ok (.getfield 24, 3) := by decide +kernel
theorem dX8_followThose_12 : decode cX8_followThose 12 = .ok (.iload_n 3, 1) := by decide +kernel
theorem dX8_followThose_13 : decode cX8_followThose 13 = .ok (.dup2, 1) := by decide +kernel
theorem dX8_followThose_14 : decode cX8_followThose 14 = .ok (.baload, 1) := by decide +kernel
theorem dX8_followThose_15 : decode cX8_followThose 15 = .ok (.bipush 100, 2) := by decide +kernel
theorem dX8_followThose_17 : decode cX8_followThose 17 = .ok (.iload_n 1, 1) := by decide +kernel
theorem dX8_followThose_18 : decode cX8_followThose 18 = .ok (.imul, 1) := by decide +kernel
theorem dX8_followThose_19 : decode cX8_followThose 19 = .ok (.aload_n 0, 1) := by decide +kernel
theorem dX8_followThose_20 : decode cX8_followThose 20 = .ok (.getfield 18, 3) := by decide +kernel
theorem dX8_followThose_23 : decode cX8_followThose 23 = .ok (.iload_n 3, 1) := by decide +kernel
theorem dX8_followThose_24 : decode cX8_followThose 24 = .ok (.iaload, 1) := by decide +kernel
theorem dX8_followThose_25 : decode cX8_followThose 25 = .ok (.iload_n 2, 1) := by decide +kernel
theorem dX8_followThose_26 : decode cX8_followThose 26 = .ok (.imul, 1) := by decide +kernel
theorem dX8_followThose_27 : decode cX8_followThose 27 = .ok (.if_icmp .lt 7, 3) := by decide +kernel
theorem dX8_followThose_30 : decode cX8_followThose 30 = .ok (.iconst 1, 1) := by decide +kernel
theorem dX8_followThose_31 : decode cX8_followThose 31 = .ok (.goto 4, 3) := by decide +kernel
theorem dX8_followThose_34 : decode cX8_followThose 34 = .ok (.iconst 0, 1) := by decide +kernel
theorem dX8_followThose_35 : decode cX8_followThose 35 = .ok (.ior, 1) := by decide +kernel
theorem dX8_followThose_36 : decode cX8_followThose 36 = .ok (.bastore, 1) := by decide +kernel
theorem dX8_followThose_37 : decode cX8_followThose 37 = .ok (.iinc 3 1, 3) := by decide +kernel
theorem dX8_followThose_40 : decode cX8_followThose 40 = .ok (.goto (-38), 3) := by decide +kernel
theorem dX8_followThose_43 : decode cX8_followThose 43 = .ok (.return_, 1) := by decide +kernel
set_option maxRecDepth 100000 in
set_option maxHeartbeats 4000000 in
theorem tb_X8_followThose_2 {K : sd_K} {E : sd_Env}   {r : sd_Mem} (C : sd_C K E sd_LC RX8 cX8_followThose 4 none)  : ∀ (n : Nat), ∀ (M : sd_Mem) (x1 : Int32) (x2 : Int32) (x3 : Int32), fn_X8_followThose_2 n M x1 x2 x3 = some r → sd_Z K rm_X8_followThose E sd_LC 4 (sd_QV K E sd_LC r) M 2 [(0, .ref (E.2.2 90)), (1, .int x1), (2, .int x2), (3, .int x3)] [] := by
  intro n
  induction n with
  | zero => intro M x1 x2 x3 hF; cases hF
  | succ n ih =>
    intro M x1 x2 x3 hF
    unfold fn_X8_followThose_2 at hF
    refine sd_iload_n C 3 dX8_followThose_2 rfl rfl rfl (n' := 3) ?_
    refine sd_bipush C (v := 6) dX8_followThose_3 rfl rfl (n' := 5) ?_
    refine sd_icmp_ge C (n' := 8) (tgt := 43) dX8_followThose_5 rfl rfl (fun c5 => ?_) (fun c5 => ?_)
    · replace hF := sd_pos hF c5
      exact sd_vret C dX8_followThose_43 (Option.some.inj hF)
    · replace hF := sd_neg hF c5
      refine sd_aload_n C 0 dX8_followThose_8 rfl rfl rfl (n' := 9) ?_
      refine sd_g8_4 C sd_i90 sd_k90 sd_w257 dX8_followThose_9 rfl (n' := 12) ?_
      refine sd_iload_n C 3 dX8_followThose_12 rfl rfl rfl (n' := 13) ?_
      refine sd_dup2 C dX8_followThose_13 rfl rfl rfl (n' := 14) ?_
      obtain ⟨b14, hF⟩ := sd_ok hF
      refine sd_zald C sd_i95 sd_k95 sd_n95 b14 dX8_followThose_14 rfl (n' := 15) ?_
      refine sd_bipush C (v := 100) dX8_followThose_15 rfl rfl (n' := 17) ?_
      refine sd_iload_n C 1 dX8_followThose_17 rfl rfl rfl (n' := 18) ?_
      refine sd_imul C dX8_followThose_18 rfl (n' := 19) ?_
      refine sd_aload_n C 0 dX8_followThose_19 rfl rfl rfl (n' := 20) ?_
      refine sd_g8_2 C sd_i90 sd_k90 sd_w254 dX8_followThose_20 rfl (n' := 23) ?_
      refine sd_iload_n C 3 dX8_followThose_23 rfl rfl rfl (n' := 24) ?_
      obtain ⟨b24, hF⟩ := sd_ok hF
      refine sd_iald C sd_i93 sd_k93 sd_n93 b24 dX8_followThose_24 rfl (n' := 25) ?_
      refine sd_iload_n C 2 dX8_followThose_25 rfl rfl rfl (n' := 26) ?_
      refine sd_imul C dX8_followThose_26 rfl (n' := 27) ?_
      refine sd_icmp_lt C (n' := 30) (tgt := 34) dX8_followThose_27 rfl rfl (fun c27 => ?_) (fun c27 => ?_)
      · replace hF := sd_pos hF c27
        refine sd_iconst C (v := 0) dX8_followThose_34 rfl rfl (n' := 35) ?_
        refine sd_ior C dX8_followThose_35 rfl (n' := 36) ?_
        obtain ⟨b36, hF⟩ := sd_ok hF
        refine sd_zast C sd_i95 sd_k95 sd_n95 b36 dX8_followThose_36 rfl (n' := 37) ?_
        refine sd_iinc [(3, .int (x3 + (1 : Int32))), (0, .ref (E.2.2 90)), (1, .int x1), (2, .int x2)] 3 C dX8_followThose_37 rfl rfl (by decide) rfl rfl (n' := 40) ?_
        refine sd_goto C (tgt := 2) dX8_followThose_40 rfl ?_
        refine sd_sub [1, 2, 3, 0] rfl ?_
        exact ih (sd_setI M 95 x3.toNatClampNeg (((M.1 95 x3.toNatClampNeg) ||| (0 : Int32)) &&& 1)) x1 x2 (x3 + (1 : Int32)) hF
      · replace hF := sd_neg hF c27
        refine sd_iconst C (v := 1) dX8_followThose_30 rfl rfl (n' := 31) ?_
        refine sd_goto C (tgt := 35) dX8_followThose_31 rfl ?_
        refine sd_ior C dX8_followThose_35 rfl (n' := 36) ?_
        obtain ⟨b36, hF⟩ := sd_ok hF
        refine sd_zast C sd_i95 sd_k95 sd_n95 b36 dX8_followThose_36 rfl (n' := 37) ?_
        refine sd_iinc [(3, .int (x3 + (1 : Int32))), (0, .ref (E.2.2 90)), (1, .int x1), (2, .int x2)] 3 C dX8_followThose_37 rfl rfl (by decide) rfl rfl (n' := 40) ?_
        refine sd_goto C (tgt := 2) dX8_followThose_40 rfl ?_
        refine sd_sub [1, 2, 3, 0] rfl ?_
        exact ih (sd_setI M 95 x3.toNatClampNeg (((M.1 95 x3.toNatClampNeg) ||| (1 : Int32)) &&& 1)) x1 x2 (x3 + (1 : Int32)) hF
set_option maxRecDepth 100000 in
set_option maxHeartbeats 4000000 in
theorem tb_X8_followThose_0 {K : sd_K} {E : sd_Env}   {r : sd_Mem} (C : sd_C K E sd_LC RX8 cX8_followThose 4 none)  : ∀ (M : sd_Mem) (x1 : Int32) (x2 : Int32), fn_X8_followThose_0 M x1 x2 = some r → sd_Z K rm_X8_followThose E sd_LC 4 (sd_QV K E sd_LC r) M 0 [(0, .ref (E.2.2 90)), (1, .int x1), (2, .int x2)] [] := by
  intro M x1 x2 hF
  unfold fn_X8_followThose_0 at hF
  refine sd_iconst C (v := 0) dX8_followThose_0 rfl rfl (n' := 1) ?_
  refine sd_istore_n [(3, .int (0 : Int32)), (0, .ref (E.2.2 90)), (1, .int x1), (2, .int x2)] C dX8_followThose_1 rfl (by decide) rfl rfl (n' := 2) ?_
  refine sd_sub [1, 2, 3, 0] rfl ?_
  exact tb_X8_followThose_2 C sd_FU M x1 x2 (0 : Int32) hF
theorem ct_X8_followThose {l : Launch} {E : sd_Env} (M : sd_Mem) (x1 : Int32) (x2 : Int32)  {r : sd_Mem} (hF : fn_X8_followThose M x1 x2 = some r) : sd_MV l E sd_LC yX8_followThose cX8_followThose 4 none rm_X8_followThose [.ref (E.2.2 90), .int x1, .int x2] M r := sd_ent0 (by decide +kernel) (Nat.le_of_ble_eq_true rfl) (fun p e s m below meth c C => tb_X8_followThose_0 C M x1 x2 hF)
theorem dX8_goBack_0 : decode cX8_goBack 0 = .ok (.iconst 0, 1) := by decide +kernel
theorem dX8_goBack_1 : decode cX8_goBack 1 = .ok (.istore_n 1, 1) := by decide +kernel
theorem dX8_goBack_2 : decode cX8_goBack 2 = .ok (.iload_n 1, 1) := by decide +kernel
theorem dX8_goBack_3 : decode cX8_goBack 3 = .ok (.bipush 6, 2) := by decide +kernel
theorem dX8_goBack_5 : decode cX8_goBack 5 = .ok (.if_icmp .ge 32, 3) := by decide +kernel
theorem dX8_goBack_8 : decode cX8_goBack 8 = .ok (.aload_n 0, 1) := by decide +kernel
theorem dX8_goBack_9 : decode cX8_goBack 9 = .ok (.getfield 24, 3) := by decide +kernel
theorem dX8_goBack_12 : decode cX8_goBack 12 = .ok (.iload_n 1, 1) := by decide +kernel
theorem dX8_goBack_13 : decode cX8_goBack 13 = .ok (.dup2, 1) := by decide +kernel
theorem dX8_goBack_14 : decode cX8_goBack 14 = .ok (.baload, 1) := by decide +kernel
theorem dX8_goBack_15 : decode cX8_goBack 15 = .ok (.aload_n 0, 1) := by decide +kernel
theorem dX8_goBack_16 : decode cX8_goBack 16 = .ok (.getfield 21, 3) := by decide +kernel
theorem dX8_goBack_19 : decode cX8_goBack 19 = .ok (.iload_n 1, 1) := by decide +kernel
theorem dX8_goBack_20 : decode cX8_goBack 20 = .ok (.iaload, 1) := by decide +kernel
theorem dX8_goBack_21 : decode cX8_goBack 21 = .ok (.ifCond .ne 7, 3) := by decide +kernel
theorem dX8_goBack_24 : decode cX8_goBack 24 = .ok (.iconst 1, 1) := by decide +kernel
theorem dX8_goBack_25 : decode cX8_goBack 25 = .ok (.goto 4, 3) := by decide +kernel
theorem dX8_goBack_28 : decode cX8_goBack 28 = .ok (.iconst 0, 1) := by decide +kernel
theorem dX8_goBack_29 : decode cX8_goBack 29 = .ok (.ior, 1) := by decide +kernel
theorem dX8_goBack_30 : decode cX8_goBack 30 = .ok (.bastore, 1) := by decide +kernel
theorem dX8_goBack_31 : decode cX8_goBack 31 = .ok (.iinc 1 1, 3) := by decide +kernel
theorem dX8_goBack_34 : decode cX8_goBack 34 = .ok (.goto (-32), 3) := by decide +kernel
theorem dX8_goBack_37 : decode cX8_goBack 37 = .ok (.iconst (-1), 1) := by decide +kernel
theorem dX8_goBack_38 : decode cX8_goBack 38 = .ok (.istore_n 1, 1) := by decide +kernel
theorem dX8_goBack_39 : decode cX8_goBack 39 = .ok (.iconst 0, 1) := by decide +kernel
theorem dX8_goBack_40 : decode cX8_goBack 40 = .ok (.istore_n 2, 1) := by decide +kernel
theorem dX8_goBack_41 : decode cX8_goBack 41 = .ok (.iload_n 2, 1) := by decide +kernel
theorem dX8_goBack_42 : decode cX8_goBack 42 = .ok (.bipush 6, 2) := by decide +kernel
theorem dX8_goBack_44 : decode cX8_goBack 44 = .ok (.if_icmp .gt 31, 3) := by decide +kernel
theorem dX8_goBack_47 : decode cX8_goBack 47 = .ok (.aload_n 0, 1) := by decide +kernel
theorem dX8_goBack_48 : decode cX8_goBack 48 = .ok (.invokevirtual 32, 3) := by decide +kernel
theorem dX8_goBack_51 : decode cX8_goBack 51 = .ok (.iload_n 1, 1) := by decide +kernel
theorem dX8_goBack_52 : decode cX8_goBack 52 = .ok (.if_icmp .eq 23, 3) := by decide +kernel
theorem dX8_goBack_55 : decode cX8_goBack 55 = .ok (.aload_n 0, 1) := by decide +kernel
theorem dX8_goBack_56 : decode cX8_goBack 56 = .ok (.invokevirtual 32, 3) := by decide +kernel
theorem dX8_goBack_59 : decode cX8_goBack 59 = .ok (.istore_n 1, 1) := by decide +kernel
theorem dX8_goBack_60 : decode cX8_goBack 60 = .ok (.aload_n 0, 1) := by decide +kernel
theorem dX8_goBack_61 : decode cX8_goBack 61 = .ok (.iload_n 1, 1) := by decide +kernel
theorem dX8_goBack_62 : decode cX8_goBack 62 = .ok (.aload_n 0, 1) := by decide +kernel
theorem dX8_goBack_63 : decode cX8_goBack 63 = .ok (.invokevirtual 36, 3) := by decide +kernel
theorem dX8_goBack_66 : decode cX8_goBack 66 = .ok (.invokevirtual 39, 3) := by decide +kernel
theorem dX8_goBack_69 : decode cX8_goBack 69 = .ok (.iinc 2 1, 3) := by decide +kernel
theorem dX8_goBack_72 : decode cX8_goBack 72 = .ok (.goto (-31), 3) := by decide +kernel
theorem dX8_goBack_75 : decode cX8_goBack 75 = .ok (.return_, 1) := by decide +kernel
set_option maxRecDepth 100000 in
set_option maxHeartbeats 4000000 in
theorem tb_X8_goBack_41 {K : sd_K} {E : sd_Env}   {r : sd_Mem} (C : sd_C K E sd_LC RX8 cX8_goBack 3 none)  : ∀ (n : Nat), ∀ (M : sd_Mem) (x1 : Int32) (x2 : Int32), fn_X8_goBack_41 n M x1 x2 = some r → sd_Z K rm_X8_goBack E sd_LC 3 (sd_QV K E sd_LC r) M 41 [(0, .ref (E.2.2 90)), (1, .int x1), (2, .int x2)] [] := by
  intro n
  induction n with
  | zero => intro M x1 x2 hF; cases hF
  | succ n ih =>
    intro M x1 x2 hF
    unfold fn_X8_goBack_41 at hF
    refine sd_iload_n C 2 dX8_goBack_41 rfl rfl rfl (n' := 42) ?_
    refine sd_bipush C (v := 6) dX8_goBack_42 rfl rfl (n' := 44) ?_
    refine sd_icmp_gt C (n' := 47) (tgt := 75) dX8_goBack_44 rfl rfl (fun c44 => ?_) (fun c44 => ?_)
    · replace hF := sd_pos hF c44
      exact sd_vret C dX8_goBack_75 (Option.some.inj hF)
    · replace hF := sd_neg hF c44
      refine sd_aload_n C 0 dX8_goBack_47 rfl rfl rfl (n' := 48) ?_
      obtain ⟨q48, e48, hF⟩ := sd_bind hF
      refine sd_callVI [] [] C (ct_X8_menBack M   e48) sd_lX8_32 ⟨rfl, rfl, Nat.le_of_ble_eq_true rfl, Nat.le_of_ble_eq_true rfl⟩ sd_i90 (sd_e9 sd_k90) rfl rfl rfl (Nat.le_of_ble_eq_true rfl) dX8_goBack_48 rfl (n' := 51) ?_
      refine sd_iload_n C 1 dX8_goBack_51 rfl rfl rfl (n' := 52) ?_
      refine sd_icmp_eq C (n' := 55) (tgt := 75) dX8_goBack_52 rfl rfl (fun c52 => ?_) (fun c52 => ?_)
      · replace hF := sd_pos hF c52
        exact sd_vret C dX8_goBack_75 (Option.some.inj hF)
      · replace hF := sd_neg hF c52
        refine sd_aload_n C 0 dX8_goBack_55 rfl rfl rfl (n' := 56) ?_
        obtain ⟨q56, e56, hF⟩ := sd_bind hF
        refine sd_callVI [] [] C (ct_X8_menBack M   e56) sd_lX8_32 ⟨rfl, rfl, Nat.le_of_ble_eq_true rfl, Nat.le_of_ble_eq_true rfl⟩ sd_i90 (sd_e9 sd_k90) rfl rfl rfl (Nat.le_of_ble_eq_true rfl) dX8_goBack_56 rfl (n' := 59) ?_
        refine sd_istore_n [(1, .int q56), (0, .ref (E.2.2 90)), (2, .int x2)] C dX8_goBack_59 rfl (by decide) rfl rfl (n' := 60) ?_
        refine sd_aload_n C 1 dX8_goBack_60 rfl rfl rfl (n' := 61) ?_
        refine sd_iload_n C 0 dX8_goBack_61 rfl rfl rfl (n' := 62) ?_
        refine sd_aload_n C 1 dX8_goBack_62 rfl rfl rfl (n' := 63) ?_
        obtain ⟨q63, e63, hF⟩ := sd_bind hF
        refine sd_callVI [] [.int q56, .ref (E.2.2 90)] C (ct_X8_menInAll M   e63) sd_lX8_36 ⟨rfl, rfl, Nat.le_of_ble_eq_true rfl, Nat.le_of_ble_eq_true rfl⟩ sd_i90 (sd_e9 sd_k90) rfl rfl rfl (Nat.le_of_ble_eq_true rfl) dX8_goBack_63 rfl (n' := 66) ?_
        obtain ⟨q66, e66, hF⟩ := sd_bind hF
        refine sd_callVV [.int q56, .int q63] [] C (ct_X8_followThose M q56 q63  e66) sd_lX8_39 ⟨rfl, rfl, Nat.le_of_ble_eq_true rfl, Nat.le_of_ble_eq_true rfl⟩ sd_i90 (sd_e9 sd_k90) rfl rfl rfl (Nat.le_of_ble_eq_true rfl) dX8_goBack_66 rfl (n' := 69) ?_
        refine sd_iinc [(2, .int (x2 + (1 : Int32))), (1, .int q56), (0, .ref (E.2.2 90))] 2 C dX8_goBack_69 rfl rfl (by decide) rfl rfl (n' := 72) ?_
        refine sd_goto C (tgt := 41) dX8_goBack_72 rfl ?_
        refine sd_sub [2, 1, 0] rfl ?_
        exact ih q66 q56 (x2 + (1 : Int32)) hF
set_option maxRecDepth 100000 in
set_option maxHeartbeats 4000000 in
theorem tb_X8_goBack_2 {K : sd_K} {E : sd_Env}   {r : sd_Mem} (C : sd_C K E sd_LC RX8 cX8_goBack 3 none)  : ∀ (n : Nat), ∀ (M : sd_Mem) (x1 : Int32), fn_X8_goBack_2 n M x1 = some r → sd_Z K rm_X8_goBack E sd_LC 3 (sd_QV K E sd_LC r) M 2 [(0, .ref (E.2.2 90)), (1, .int x1)] [] := by
  intro n
  induction n with
  | zero => intro M x1 hF; cases hF
  | succ n ih =>
    intro M x1 hF
    unfold fn_X8_goBack_2 at hF
    refine sd_iload_n C 1 dX8_goBack_2 rfl rfl rfl (n' := 3) ?_
    refine sd_bipush C (v := 6) dX8_goBack_3 rfl rfl (n' := 5) ?_
    refine sd_icmp_ge C (n' := 8) (tgt := 37) dX8_goBack_5 rfl rfl (fun c5 => ?_) (fun c5 => ?_)
    · replace hF := sd_pos hF c5
      refine sd_iconst C (v := -1) dX8_goBack_37 rfl rfl (n' := 38) ?_
      refine sd_istore_n [(1, .int (-1 : Int32)), (0, .ref (E.2.2 90))] C dX8_goBack_38 rfl (by decide) rfl rfl (n' := 39) ?_
      refine sd_iconst C (v := 0) dX8_goBack_39 rfl rfl (n' := 40) ?_
      refine sd_istore_n [(2, .int (0 : Int32)), (1, .int (-1 : Int32)), (0, .ref (E.2.2 90))] C dX8_goBack_40 rfl (by decide) rfl rfl (n' := 41) ?_
      refine sd_sub [2, 1, 0] rfl ?_
      exact tb_X8_goBack_41 C sd_FU M (-1 : Int32) (0 : Int32) hF
    · replace hF := sd_neg hF c5
      refine sd_aload_n C 0 dX8_goBack_8 rfl rfl rfl (n' := 9) ?_
      refine sd_g8_4 C sd_i90 sd_k90 sd_w257 dX8_goBack_9 rfl (n' := 12) ?_
      refine sd_iload_n C 1 dX8_goBack_12 rfl rfl rfl (n' := 13) ?_
      refine sd_dup2 C dX8_goBack_13 rfl rfl rfl (n' := 14) ?_
      obtain ⟨b14, hF⟩ := sd_ok hF
      refine sd_zald C sd_i95 sd_k95 sd_n95 b14 dX8_goBack_14 rfl (n' := 15) ?_
      refine sd_aload_n C 0 dX8_goBack_15 rfl rfl rfl (n' := 16) ?_
      refine sd_g8_3 C sd_i90 sd_k90 sd_w256 dX8_goBack_16 rfl (n' := 19) ?_
      refine sd_iload_n C 1 dX8_goBack_19 rfl rfl rfl (n' := 20) ?_
      obtain ⟨b20, hF⟩ := sd_ok hF
      refine sd_iald C sd_i94 sd_k94 sd_n94 b20 dX8_goBack_20 rfl (n' := 21) ?_
      refine sd_if_ne C (n' := 24) (tgt := 28) dX8_goBack_21 rfl rfl (fun c21 => ?_) (fun c21 => ?_)
      · replace hF := sd_neg hF c21
        refine sd_iconst C (v := 0) dX8_goBack_28 rfl rfl (n' := 29) ?_
        refine sd_ior C dX8_goBack_29 rfl (n' := 30) ?_
        obtain ⟨b30, hF⟩ := sd_ok hF
        refine sd_zast C sd_i95 sd_k95 sd_n95 b30 dX8_goBack_30 rfl (n' := 31) ?_
        refine sd_iinc [(1, .int (x1 + (1 : Int32))), (0, .ref (E.2.2 90))] 1 C dX8_goBack_31 rfl rfl (by decide) rfl rfl (n' := 34) ?_
        refine sd_goto C (tgt := 2) dX8_goBack_34 rfl ?_
        refine sd_sub [1, 0] rfl ?_
        exact ih (sd_setI M 95 x1.toNatClampNeg (((M.1 95 x1.toNatClampNeg) ||| (0 : Int32)) &&& 1)) (x1 + (1 : Int32)) hF
      · replace hF := sd_pos hF c21
        refine sd_iconst C (v := 1) dX8_goBack_24 rfl rfl (n' := 25) ?_
        refine sd_goto C (tgt := 29) dX8_goBack_25 rfl ?_
        refine sd_ior C dX8_goBack_29 rfl (n' := 30) ?_
        obtain ⟨b30, hF⟩ := sd_ok hF
        refine sd_zast C sd_i95 sd_k95 sd_n95 b30 dX8_goBack_30 rfl (n' := 31) ?_
        refine sd_iinc [(1, .int (x1 + (1 : Int32))), (0, .ref (E.2.2 90))] 1 C dX8_goBack_31 rfl rfl (by decide) rfl rfl (n' := 34) ?_
        refine sd_goto C (tgt := 2) dX8_goBack_34 rfl ?_
        refine sd_sub [1, 0] rfl ?_
        exact ih (sd_setI M 95 x1.toNatClampNeg (((M.1 95 x1.toNatClampNeg) ||| (1 : Int32)) &&& 1)) (x1 + (1 : Int32)) hF
set_option maxRecDepth 100000 in
set_option maxHeartbeats 4000000 in
theorem tb_X8_goBack_0 {K : sd_K} {E : sd_Env}   {r : sd_Mem} (C : sd_C K E sd_LC RX8 cX8_goBack 3 none)  : ∀ (M : sd_Mem), fn_X8_goBack_0 M = some r → sd_Z K rm_X8_goBack E sd_LC 3 (sd_QV K E sd_LC r) M 0 [(0, .ref (E.2.2 90))] [] := by
  intro M hF
  unfold fn_X8_goBack_0 at hF
  refine sd_iconst C (v := 0) dX8_goBack_0 rfl rfl (n' := 1) ?_
  refine sd_istore_n [(1, .int (0 : Int32)), (0, .ref (E.2.2 90))] C dX8_goBack_1 rfl (by decide) rfl rfl (n' := 2) ?_
  refine sd_sub [1, 0] rfl ?_
  exact tb_X8_goBack_2 C sd_FU M (0 : Int32) hF
theorem ct_X8_goBack {l : Launch} {E : sd_Env} (M : sd_Mem)   {r : sd_Mem} (hF : fn_X8_goBack M = some r) : sd_MV l E sd_LC yX8_goBack cX8_goBack 3 none rm_X8_goBack [.ref (E.2.2 90)] M r := sd_ent0 (by decide +kernel) (Nat.le_of_ble_eq_true rfl) (fun p e s m below meth c C => tb_X8_goBack_0 C M hF)
theorem dX8_payOut_0 : decode cX8_payOut 0 = .ok (.aload_n 0, 1) := by decide +kernel
theorem dX8_payOut_1 : decode cX8_payOut 1 = .ok (.dup, 1) := by decide +kernel
theorem dX8_payOut_2 : decode cX8_payOut 2 = .ok (.getfield 28, 3) := by decide +kernel
theorem dX8_payOut_5 : decode cX8_payOut 5 = .ok (.iload_n 1, 1) := by decide +kernel
theorem dX8_payOut_6 : decode cX8_payOut 6 = .ok (.iadd, 1) := by decide +kernel
theorem dX8_payOut_7 : decode cX8_payOut 7 = .ok (.putfield 28, 3) := by decide +kernel
theorem dX8_payOut_10 : decode cX8_payOut 10 = .ok (.aload_n 0, 1) := by decide +kernel
theorem dX8_payOut_11 : decode cX8_payOut 11 = .ok (.invokevirtual 36, 3) := by decide +kernel
theorem dX8_payOut_14 : decode cX8_payOut 14 = .ok (.aload_n 0, 1) := by decide +kernel
theorem dX8_payOut_15 : decode cX8_payOut 15 = .ok (.invokevirtual 32, 3) := by decide +kernel
theorem dX8_payOut_18 : decode cX8_payOut 18 = .ok (.isub, 1) := by decide +kernel
theorem dX8_payOut_19 : decode cX8_payOut 19 = .ok (.istore_n 2, 1) := by decide +kernel
theorem dX8_payOut_20 : decode cX8_payOut 20 = .ok (.aload_n 0, 1) := by decide +kernel
theorem dX8_payOut_21 : decode cX8_payOut 21 = .ok (.getfield 28, 3) := by decide +kernel
theorem dX8_payOut_24 : decode cX8_payOut 24 = .ok (.iload_n 2, 1) := by decide +kernel
theorem dX8_payOut_25 : decode cX8_payOut 25 = .ok (.if_icmp .lt 15, 3) := by decide +kernel
theorem dX8_payOut_28 : decode cX8_payOut 28 = .ok (.aload_n 0, 1) := by decide +kernel
theorem dX8_payOut_29 : decode cX8_payOut 29 = .ok (.dup, 1) := by decide +kernel
theorem dX8_payOut_30 : decode cX8_payOut 30 = .ok (.getfield 28, 3) := by decide +kernel
theorem dX8_payOut_33 : decode cX8_payOut 33 = .ok (.iload_n 2, 1) := by decide +kernel
theorem dX8_payOut_34 : decode cX8_payOut 34 = .ok (.isub, 1) := by decide +kernel
theorem dX8_payOut_35 : decode cX8_payOut 35 = .ok (.putfield 28, 3) := by decide +kernel
theorem dX8_payOut_38 : decode cX8_payOut 38 = .ok (.iconst 1, 1) := by decide +kernel
theorem dX8_payOut_39 : decode cX8_payOut 39 = .ok (.ireturn, 1) := by decide +kernel
theorem dX8_payOut_40 : decode cX8_payOut 40 = .ok (.iconst 0, 1) := by decide +kernel
theorem dX8_payOut_41 : decode cX8_payOut 41 = .ok (.istore_n 3, 1) := by decide +kernel
theorem dX8_payOut_42 : decode cX8_payOut 42 = .ok (.iload_n 3, 1) := by decide +kernel
theorem dX8_payOut_43 : decode cX8_payOut 43 = .ok (.bipush 6, 2) := by decide +kernel
theorem dX8_payOut_45 : decode cX8_payOut 45 = .ok (.if_icmp .ge 32, 3) := by decide +kernel
theorem dX8_payOut_48 : decode cX8_payOut 48 = .ok (.aload_n 0, 1) := by decide +kernel
theorem dX8_payOut_49 : decode cX8_payOut 49 = .ok (.getfield 21, 3) := by decide +kernel
theorem dX8_payOut_52 : decode cX8_payOut 52 = .ok (.iload_n 3, 1) := by decide +kernel
theorem dX8_payOut_53 : decode cX8_payOut 53 = .ok (.dup2, 1) := by decide +kernel
theorem dX8_payOut_54 : decode cX8_payOut 54 = .ok (.iaload, 1) := by decide +kernel
theorem dX8_payOut_55 : decode cX8_payOut 55 = .ok (.aload_n 0, 1) := by decide +kernel
theorem dX8_payOut_56 : decode cX8_payOut 56 = .ok (.getfield 24, 3) := by decide +kernel
theorem dX8_payOut_59 : decode cX8_payOut 59 = .ok (.iload_n 3, 1) := by decide +kernel
theorem dX8_payOut_60 : decode cX8_payOut 60 = .ok (.baload, 1) := by decide +kernel
theorem dX8_payOut_61 : decode cX8_payOut 61 = .ok (.ifCond .eq 7, 3) := by decide +kernel
theorem dX8_payOut_64 : decode cX8_payOut 64 = .ok (.iconst 0, 1) := by decide +kernel
theorem dX8_payOut_65 : decode cX8_payOut 65 = .ok (.goto 4, 3) := by decide +kernel
theorem dX8_payOut_68 : decode cX8_payOut 68 = .ok (.iconst 1, 1) := by decide +kernel
theorem dX8_payOut_69 : decode cX8_payOut 69 = .ok (.isub, 1) := by decide +kernel
theorem dX8_payOut_70 : decode cX8_payOut 70 = .ok (.iastore, 1) := by decide +kernel
theorem dX8_payOut_71 : decode cX8_payOut 71 = .ok (.iinc 3 1, 3) := by decide +kernel
theorem dX8_payOut_74 : decode cX8_payOut 74 = .ok (.goto (-32), 3) := by decide +kernel
theorem dX8_payOut_77 : decode cX8_payOut 77 = .ok (.iconst 0, 1) := by decide +kernel
theorem dX8_payOut_78 : decode cX8_payOut 78 = .ok (.ireturn, 1) := by decide +kernel
set_option maxRecDepth 100000 in
set_option maxHeartbeats 4000000 in
theorem tb_X8_payOut_42 {K : sd_K} {E : sd_Env}   {r : (Int32 × sd_Mem)} (C : sd_C K E sd_LC RX8 cX8_payOut 4 (some .boolean))  : ∀ (n : Nat), ∀ (M : sd_Mem) (x3 : Int32), fn_X8_payOut_42 n M x3 = some r → sd_Z K rm_X8_payOut E sd_LC 4 (sd_QI K E sd_LC r.1 r.2) M 42 [(0, .ref (E.2.2 90)), (3, .int x3)] [] := by
  intro n
  induction n with
  | zero => intro M x3 hF; cases hF
  | succ n ih =>
    intro M x3 hF
    unfold fn_X8_payOut_42 at hF
    refine sd_iload_n C 1 dX8_payOut_42 rfl rfl rfl (n' := 43) ?_
    refine sd_bipush C (v := 6) dX8_payOut_43 rfl rfl (n' := 45) ?_
    refine sd_icmp_ge C (n' := 48) (tgt := 77) dX8_payOut_45 rfl rfl (fun c45 => ?_) (fun c45 => ?_)
    · replace hF := sd_pos hF c45
      refine sd_iconst C (v := 0) dX8_payOut_77 rfl rfl (n' := 78) ?_
      exact sd_zret C dX8_payOut_78 rfl (sd_fst hF) (sd_snd hF)
    · replace hF := sd_neg hF c45
      refine sd_aload_n C 0 dX8_payOut_48 rfl rfl rfl (n' := 49) ?_
      refine sd_g8_3 C sd_i90 sd_k90 sd_w256 dX8_payOut_49 rfl (n' := 52) ?_
      refine sd_iload_n C 1 dX8_payOut_52 rfl rfl rfl (n' := 53) ?_
      refine sd_dup2 C dX8_payOut_53 rfl rfl rfl (n' := 54) ?_
      obtain ⟨b54, hF⟩ := sd_ok hF
      refine sd_iald C sd_i94 sd_k94 sd_n94 b54 dX8_payOut_54 rfl (n' := 55) ?_
      refine sd_aload_n C 0 dX8_payOut_55 rfl rfl rfl (n' := 56) ?_
      refine sd_g8_4 C sd_i90 sd_k90 sd_w257 dX8_payOut_56 rfl (n' := 59) ?_
      refine sd_iload_n C 1 dX8_payOut_59 rfl rfl rfl (n' := 60) ?_
      obtain ⟨b60, hF⟩ := sd_ok hF
      refine sd_zald C sd_i95 sd_k95 sd_n95 b60 dX8_payOut_60 rfl (n' := 61) ?_
      refine sd_if_eq C (n' := 64) (tgt := 68) dX8_payOut_61 rfl rfl (fun c61 => ?_) (fun c61 => ?_)
      · replace hF := sd_pos hF c61
        refine sd_iconst C (v := 1) dX8_payOut_68 rfl rfl (n' := 69) ?_
        refine sd_isub C dX8_payOut_69 rfl (n' := 70) ?_
        obtain ⟨b70, hF⟩ := sd_ok hF
        refine sd_iast C sd_i94 sd_k94 sd_n94 b70 dX8_payOut_70 rfl (n' := 71) ?_
        refine sd_iinc [(3, .int (x3 + (1 : Int32))), (0, .ref (E.2.2 90))] 1 C dX8_payOut_71 rfl rfl (by decide) rfl rfl (n' := 74) ?_
        refine sd_goto C (tgt := 42) dX8_payOut_74 rfl ?_
        refine sd_sub [1, 0] rfl ?_
        exact ih (sd_setI M 94 x3.toNatClampNeg ((M.1 94 x3.toNatClampNeg) - (1 : Int32))) (x3 + (1 : Int32)) hF
      · replace hF := sd_neg hF c61
        refine sd_iconst C (v := 0) dX8_payOut_64 rfl rfl (n' := 65) ?_
        refine sd_goto C (tgt := 69) dX8_payOut_65 rfl ?_
        refine sd_isub C dX8_payOut_69 rfl (n' := 70) ?_
        obtain ⟨b70, hF⟩ := sd_ok hF
        refine sd_iast C sd_i94 sd_k94 sd_n94 b70 dX8_payOut_70 rfl (n' := 71) ?_
        refine sd_iinc [(3, .int (x3 + (1 : Int32))), (0, .ref (E.2.2 90))] 1 C dX8_payOut_71 rfl rfl (by decide) rfl rfl (n' := 74) ?_
        refine sd_goto C (tgt := 42) dX8_payOut_74 rfl ?_
        refine sd_sub [1, 0] rfl ?_
        exact ih (sd_setI M 94 x3.toNatClampNeg ((M.1 94 x3.toNatClampNeg) - (0 : Int32))) (x3 + (1 : Int32)) hF
set_option maxRecDepth 100000 in
set_option maxHeartbeats 4000000 in
theorem tb_X8_payOut_0 {K : sd_K} {E : sd_Env}   {r : (Int32 × sd_Mem)} (C : sd_C K E sd_LC RX8 cX8_payOut 4 (some .boolean))  : ∀ (M : sd_Mem) (x1 : Int32), fn_X8_payOut_0 M x1 = some r → sd_Z K rm_X8_payOut E sd_LC 4 (sd_QI K E sd_LC r.1 r.2) M 0 [(0, .ref (E.2.2 90)), (1, .int x1)] [] := by
  intro M x1 hF
  unfold fn_X8_payOut_0 at hF
  refine sd_aload_n C 0 dX8_payOut_0 rfl rfl rfl (n' := 1) ?_
  refine sd_dup C dX8_payOut_1 rfl rfl (n' := 2) ?_
  refine sd_g8_5 C sd_i90 sd_k90 sd_w258 dX8_payOut_2 rfl (n' := 5) ?_
  refine sd_iload_n C 1 dX8_payOut_5 rfl rfl rfl (n' := 6) ?_
  refine sd_iadd C dX8_payOut_6 rfl (n' := 7) ?_
  refine sd_p8_5 C sd_i90 sd_k90 sd_w258 dX8_payOut_7 rfl (n' := 10) ?_
  refine sd_aload_n C 0 dX8_payOut_10 rfl rfl rfl (n' := 11) ?_
  obtain ⟨q11, e11, hF⟩ := sd_bind hF
  refine sd_callVI [] [] C (ct_X8_menInAll (sd_setI M 90 5 ((M.1 90 5) + x1))   e11) sd_lX8_36 ⟨rfl, rfl, Nat.le_of_ble_eq_true rfl, Nat.le_of_ble_eq_true rfl⟩ sd_i90 (sd_e9 sd_k90) rfl rfl rfl (Nat.le_of_ble_eq_true rfl) dX8_payOut_11 rfl (n' := 14) ?_
  refine sd_aload_n C 0 dX8_payOut_14 rfl rfl rfl (n' := 15) ?_
  obtain ⟨q15, e15, hF⟩ := sd_bind hF
  refine sd_callVI [] [.int q11] C (ct_X8_menBack (sd_setI M 90 5 ((M.1 90 5) + x1))   e15) sd_lX8_32 ⟨rfl, rfl, Nat.le_of_ble_eq_true rfl, Nat.le_of_ble_eq_true rfl⟩ sd_i90 (sd_e9 sd_k90) rfl rfl rfl (Nat.le_of_ble_eq_true rfl) dX8_payOut_15 rfl (n' := 18) ?_
  refine sd_isub C dX8_payOut_18 rfl (n' := 19) ?_
  refine sd_istore_n [(2, .int (q11 - q15)), (0, .ref (E.2.2 90)), (1, .int x1)] C dX8_payOut_19 rfl (by decide) rfl rfl (n' := 20) ?_
  refine sd_aload_n C 1 dX8_payOut_20 rfl rfl rfl (n' := 21) ?_
  refine sd_g8_5 C sd_i90 sd_k90 sd_w258 dX8_payOut_21 rfl (n' := 24) ?_
  refine sd_iload_n C 0 dX8_payOut_24 rfl rfl rfl (n' := 25) ?_
  refine sd_icmp_lt C (n' := 28) (tgt := 40) dX8_payOut_25 rfl rfl (fun c25 => ?_) (fun c25 => ?_)
  · replace hF := sd_pos hF c25
    refine sd_iconst C (v := 0) dX8_payOut_40 rfl rfl (n' := 41) ?_
    refine sd_istore_n [(3, .int (0 : Int32)), (2, .int (q11 - q15)), (0, .ref (E.2.2 90)), (1, .int x1)] C dX8_payOut_41 rfl (by decide) rfl rfl (n' := 42) ?_
    refine sd_sub [2, 0] rfl ?_
    exact tb_X8_payOut_42 C sd_FU (sd_setI M 90 5 ((M.1 90 5) + x1)) (0 : Int32) hF
  · replace hF := sd_neg hF c25
    refine sd_aload_n C 1 dX8_payOut_28 rfl rfl rfl (n' := 29) ?_
    refine sd_dup C dX8_payOut_29 rfl rfl (n' := 30) ?_
    refine sd_g8_5 C sd_i90 sd_k90 sd_w258 dX8_payOut_30 rfl (n' := 33) ?_
    refine sd_iload_n C 0 dX8_payOut_33 rfl rfl rfl (n' := 34) ?_
    refine sd_isub C dX8_payOut_34 rfl (n' := 35) ?_
    refine sd_p8_5 C sd_i90 sd_k90 sd_w258 dX8_payOut_35 rfl (n' := 38) ?_
    refine sd_iconst C (v := 1) dX8_payOut_38 rfl rfl (n' := 39) ?_
    exact sd_zret C dX8_payOut_39 rfl (sd_fst hF) (sd_snd hF)
theorem ct_X8_payOut {l : Launch} {E : sd_Env} (M : sd_Mem) (x1 : Int32)  {r : (Int32 × sd_Mem)} (hF : fn_X8_payOut M x1 = some r) : sd_MI l E sd_LC yX8_payOut cX8_payOut 4 (some .boolean) rm_X8_payOut [.ref (E.2.2 90), .int x1] M r.1 r.2 := sd_ent0 (by decide +kernel) (Nat.le_of_ble_eq_true rfl) (fun p e s m below meth c C => tb_X8_payOut_0 C M x1 hF)
theorem dX8_liveTill_0 : decode cX8_liveTill 0 = .ok (.aload_n 0, 1) := by decide +kernel
theorem dX8_liveTill_1 : decode cX8_liveTill 1 = .ok (.iload_n 2, 1) := by decide +kernel
theorem dX8_liveTill_2 : decode cX8_liveTill 2 = .ok (.bipush (-9), 2) := by decide +kernel
theorem dX8_liveTill_4 : decode cX8_liveTill 4 = .ok (.invokevirtual 43, 3) := by decide +kernel
theorem dX8_liveTill_7 : decode cX8_liveTill 7 = .ok (.iconst 1, 1) := by decide +kernel
theorem dX8_liveTill_8 : decode cX8_liveTill 8 = .ok (.istore 4, 2) := by decide +kernel
theorem dX8_liveTill_10 : decode cX8_liveTill 10 = .ok (.iload 4, 2) := by decide +kernel
theorem dX8_liveTill_12 : decode cX8_liveTill 12 = .ok (.iload_n 1, 1) := by decide +kernel
theorem dX8_liveTill_13 : decode cX8_liveTill 13 = .ok (.if_icmp .gt 19, 3) := by decide +kernel
theorem dX8_liveTill_16 : decode cX8_liveTill 16 = .ok (.aload_n 0, 1) := by decide +kernel
theorem dX8_liveTill_17 : decode cX8_liveTill 17 = .ok (.invokevirtual 46, 3) := by decide +kernel
theorem dX8_liveTill_20 : decode cX8_liveTill 20 = .ok (.aload_n 0, 1) := by decide +kernel
theorem dX8_liveTill_21 : decode cX8_liveTill 21 = .ok (.iload_n 3, 1) := by decide +kernel
theorem dX8_liveTill_22 : decode cX8_liveTill 22 = .ok (.invokevirtual 49, 3) := by decide +kernel
theorem dX8_liveTill_25 : decode cX8_liveTill 25 = .ok (.pop, 1) := by decide +kernel
theorem dX8_liveTill_26 : decode cX8_liveTill 26 = .ok (.iinc 4 1, 3) := by decide +kernel
theorem dX8_liveTill_29 : decode cX8_liveTill 29 = .ok (.goto (-19), 3) := by decide +kernel
theorem dX8_liveTill_32 : decode cX8_liveTill 32 = .ok (.return_, 1) := by decide +kernel
set_option maxRecDepth 100000 in
set_option maxHeartbeats 4000000 in
theorem tb_X8_liveTill_10 {K : sd_K} {E : sd_Env}   {r : sd_Mem} (C : sd_C K E sd_LC RX8 cX8_liveTill 5 none)  : ∀ (n : Nat), ∀ (M : sd_Mem) (x1 : Int32) (x3 : Int32) (x4 : Int32), fn_X8_liveTill_10 n M x1 x3 x4 = some r → sd_Z K rm_X8_liveTill E sd_LC 5 (sd_QV K E sd_LC r) M 10 [(0, .ref (E.2.2 90)), (1, .int x1), (3, .int x3), (4, .int x4)] [] := by
  intro n
  induction n with
  | zero => intro M x1 x3 x4 hF; cases hF
  | succ n ih =>
    intro M x1 x3 x4 hF
    unfold fn_X8_liveTill_10 at hF
    refine sd_iload C 3 dX8_liveTill_10 rfl rfl (n' := 12) ?_
    refine sd_iload_n C 1 dX8_liveTill_12 rfl rfl rfl (n' := 13) ?_
    refine sd_icmp_gt C (n' := 16) (tgt := 32) dX8_liveTill_13 rfl rfl (fun c13 => ?_) (fun c13 => ?_)
    · replace hF := sd_pos hF c13
      exact sd_vret C dX8_liveTill_32 (Option.some.inj hF)
    · replace hF := sd_neg hF c13
      refine sd_aload_n C 0 dX8_liveTill_16 rfl rfl rfl (n' := 17) ?_
      obtain ⟨q17, e17, hF⟩ := sd_bind hF
      refine sd_callVV [] [] C (ct_X8_goBack M   e17) sd_lX8_46 ⟨rfl, rfl, Nat.le_of_ble_eq_true rfl, Nat.le_of_ble_eq_true rfl⟩ sd_i90 (sd_e9 sd_k90) rfl rfl rfl (Nat.le_of_ble_eq_true rfl) dX8_liveTill_17 rfl (n' := 20) ?_
      refine sd_aload_n C 0 dX8_liveTill_20 rfl rfl rfl (n' := 21) ?_
      refine sd_iload_n C 2 dX8_liveTill_21 rfl rfl rfl (n' := 22) ?_
      obtain ⟨q22, e22, hF⟩ := sd_bind hF
      refine sd_callVI [.int x3] [] C (ct_X8_payOut q17 x3  e22) sd_lX8_49 ⟨rfl, rfl, Nat.le_of_ble_eq_true rfl, Nat.le_of_ble_eq_true rfl⟩ sd_i90 (sd_e9 sd_k90) rfl rfl rfl (Nat.le_of_ble_eq_true rfl) dX8_liveTill_22 rfl (n' := 25) ?_
      refine sd_pop C dX8_liveTill_25 rfl rfl (n' := 26) ?_
      refine sd_iinc [(4, .int (x4 + (1 : Int32))), (0, .ref (E.2.2 90)), (1, .int x1), (3, .int x3)] 3 C dX8_liveTill_26 rfl rfl (by decide) rfl rfl (n' := 29) ?_
      refine sd_goto C (tgt := 10) dX8_liveTill_29 rfl ?_
      refine sd_sub [1, 2, 3, 0] rfl ?_
      exact ih q22.2 x1 x3 (x4 + (1 : Int32)) hF
set_option maxRecDepth 100000 in
set_option maxHeartbeats 4000000 in
theorem tb_X8_liveTill_0 {K : sd_K} {E : sd_Env}   {r : sd_Mem} (C : sd_C K E sd_LC RX8 cX8_liveTill 5 none)  : ∀ (M : sd_Mem) (x1 : Int32) (x2 : Int32) (x3 : Int32), fn_X8_liveTill_0 M x1 x2 x3 = some r → sd_Z K rm_X8_liveTill E sd_LC 5 (sd_QV K E sd_LC r) M 0 [(0, .ref (E.2.2 90)), (1, .int x1), (2, .int x2), (3, .int x3)] [] := by
  intro M x1 x2 x3 hF
  unfold fn_X8_liveTill_0 at hF
  refine sd_aload_n C 0 dX8_liveTill_0 rfl rfl rfl (n' := 1) ?_
  refine sd_iload_n C 2 dX8_liveTill_1 rfl rfl rfl (n' := 2) ?_
  refine sd_bipush C (v := -9) dX8_liveTill_2 rfl rfl (n' := 4) ?_
  obtain ⟨q4, e4, hF⟩ := sd_bind hF
  refine sd_callVV [.int x2, .int (-9 : Int32)] [] C (ct_X8_begin M x2 (-9 : Int32)  e4) sd_lX8_43 ⟨rfl, rfl, Nat.le_of_ble_eq_true rfl, Nat.le_of_ble_eq_true rfl⟩ sd_i90 (sd_e9 sd_k90) rfl rfl rfl (Nat.le_of_ble_eq_true rfl) dX8_liveTill_4 rfl (n' := 7) ?_
  refine sd_iconst C (v := 1) dX8_liveTill_7 rfl rfl (n' := 8) ?_
  refine sd_istore [(4, .int (1 : Int32)), (0, .ref (E.2.2 90)), (1, .int x1), (2, .int x2), (3, .int x3)] C dX8_liveTill_8 (by decide) rfl rfl (n' := 10) ?_
  refine sd_sub [1, 2, 4, 0] rfl ?_
  exact tb_X8_liveTill_10 C sd_FU q4 x1 x3 (1 : Int32) hF
theorem ct_X8_liveTill {l : Launch} {E : sd_Env} (M : sd_Mem) (x1 : Int32) (x2 : Int32) (x3 : Int32)  {r : sd_Mem} (hF : fn_X8_liveTill M x1 x2 x3 = some r) : sd_MV l E sd_LC yX8_liveTill cX8_liveTill 5 none rm_X8_liveTill [.ref (E.2.2 90), .int x1, .int x2, .int x3] M r := sd_ent0 (by decide +kernel) (Nat.le_of_ble_eq_true rfl) (fun p e s m below meth c C => tb_X8_liveTill_0 C M x1 x2 x3 hF)
theorem dX8_kindsBack_0 : decode cX8_kindsBack 0 = .ok (.iconst 0, 1) := by decide +kernel
theorem dX8_kindsBack_1 : decode cX8_kindsBack 1 = .ok (.istore_n 1, 1) := by decide +kernel
theorem dX8_kindsBack_2 : decode cX8_kindsBack 2 = .ok (.iconst 0, 1) := by decide +kernel
theorem dX8_kindsBack_3 : decode cX8_kindsBack 3 = .ok (.istore_n 2, 1) := by decide +kernel
theorem dX8_kindsBack_4 : decode cX8_kindsBack 4 = .ok (.iload_n 2, 1) := by decide +kernel
theorem dX8_kindsBack_5 : decode cX8_kindsBack 5 = .ok (.bipush 6, 2) := by decide +kernel
theorem dX8_kindsBack_7 : decode cX8_kindsBack 7 = .ok (.if_icmp .ge 37, 3) := by decide +kernel
theorem dX8_kindsBack_10 : decode cX8_kindsBack 10 = .ok (.iload_n 1, 1) := by decide +kernel
theorem dX8_kindsBack_11 : decode cX8_kindsBack 11 = .ok (.aload_n 0, 1) := by decide +kernel
theorem dX8_kindsBack_12 : decode cX8_kindsBack 12 = .ok (.getfield 24, 3) := by decide +kernel
theorem dX8_kindsBack_15 : decode cX8_kindsBack 15 = .ok (.iload_n 2, 1) := by decide +kernel
theorem dX8_kindsBack_16 : decode cX8_kindsBack 16 = .ok (.baload, 1) := by decide +kernel
theorem dX8_kindsBack_17 : decode cX8_kindsBack 17 = .ok (.ifCond .eq 18, 3) := by decide +kernel
theorem dX8_kindsBack_20 : decode cX8_kindsBack 20 = .ok (.aload_n 0, 1) := by decide +kernel
theorem dX8_kindsBack_21 : decode cX8_kindsBack 21 = .ok (.getfield 9, 3) := by decide +kernel
theorem dX8_kindsBack_24 : decode cX8_kindsBack 24 = .ok (.iload_n 2, 1) := by decide +kernel
theorem dX8_kindsBack_25 : decode cX8_kindsBack 25 = .ok (.iaload, 1) := by decide +kernel
theorem dX8_kindsBack_26 : decode cX8_kindsBack 26 = .ok (.ifCond .le 9, 3) := by decide +kernel
theorem dX8_kindsBack_29 : decode cX8_kindsBack 29 = .ok (.iconst 1, 1) := by decide +kernel
theorem dX8_kindsBack_30 : decode cX8_kindsBack 30 = .ok (.iload_n 2, 1) := by decide +kernel
theorem dX8_kindsBack_31 : decode cX8_kindsBack 31 = .ok (.ishl, 1) := by decide +kernel
theorem dX8_kindsBack_32 : decode cX8_kindsBack 32 = .ok (.goto 4, 3) := by decide +kernel
theorem dX8_kindsBack_35 : decode cX8_kindsBack 35 = .ok (.iconst 0, 1) := by decide +kernel
theorem dX8_kindsBack_36 : decode cX8_kindsBack 36 = .ok (.ior, 1) := by decide +kernel
theorem dX8_kindsBack_37 : decode cX8_kindsBack 37 = .ok (.istore_n 1, 1) := by decide +kernel
theorem dX8_kindsBack_38 : decode cX8_kindsBack 38 = .ok (.iinc 2 1, 3) := by decide +kernel
theorem dX8_kindsBack_41 : decode cX8_kindsBack 41 = .ok (.goto (-37), 3) := by decide +kernel
theorem dX8_kindsBack_44 : decode cX8_kindsBack 44 = .ok (.iload_n 1, 1) := by decide +kernel
theorem dX8_kindsBack_45 : decode cX8_kindsBack 45 = .ok (.ireturn, 1) := by decide +kernel
set_option maxRecDepth 100000 in
set_option maxHeartbeats 4000000 in
theorem tb_X8_kindsBack_4 {K : sd_K} {E : sd_Env} {M : sd_Mem}  {r : Int32} (C : sd_C K E sd_LC RX8 cX8_kindsBack 3 (some .int))  : ∀ (n : Nat), ∀ (x1 : Int32) (x2 : Int32), fn_X8_kindsBack_4 M n x1 x2 = some r → sd_Z K rm_X8_kindsBack E sd_LC 3 (sd_QI K E sd_LC r M) M 4 [(0, .ref (E.2.2 90)), (1, .int x1), (2, .int x2)] [] := by
  intro n
  induction n with
  | zero => intro x1 x2 hF; cases hF
  | succ n ih =>
    intro x1 x2 hF
    unfold fn_X8_kindsBack_4 at hF
    refine sd_iload_n C 2 dX8_kindsBack_4 rfl rfl rfl (n' := 5) ?_
    refine sd_bipush C (v := 6) dX8_kindsBack_5 rfl rfl (n' := 7) ?_
    refine sd_icmp_ge C (n' := 10) (tgt := 44) dX8_kindsBack_7 rfl rfl (fun c7 => ?_) (fun c7 => ?_)
    · replace hF := sd_pos hF c7
      refine sd_iload_n C 1 dX8_kindsBack_44 rfl rfl rfl (n' := 45) ?_
      exact sd_iret C dX8_kindsBack_45 (Option.some.inj hF) rfl
    · replace hF := sd_neg hF c7
      refine sd_iload_n C 1 dX8_kindsBack_10 rfl rfl rfl (n' := 11) ?_
      refine sd_aload_n C 0 dX8_kindsBack_11 rfl rfl rfl (n' := 12) ?_
      refine sd_g8_4 C sd_i90 sd_k90 sd_w257 dX8_kindsBack_12 rfl (n' := 15) ?_
      refine sd_iload_n C 2 dX8_kindsBack_15 rfl rfl rfl (n' := 16) ?_
      obtain ⟨b16, hF⟩ := sd_ok hF
      refine sd_zald C sd_i95 sd_k95 sd_n95 b16 dX8_kindsBack_16 rfl (n' := 17) ?_
      refine sd_if_eq C (n' := 20) (tgt := 35) dX8_kindsBack_17 rfl rfl (fun c17 => ?_) (fun c17 => ?_)
      · replace hF := sd_pos hF c17
        refine sd_iconst C (v := 0) dX8_kindsBack_35 rfl rfl (n' := 36) ?_
        refine sd_ior C dX8_kindsBack_36 rfl (n' := 37) ?_
        refine sd_istore_n [(1, .int (x1 ||| (0 : Int32))), (0, .ref (E.2.2 90)), (2, .int x2)] C dX8_kindsBack_37 rfl (by decide) rfl rfl (n' := 38) ?_
        refine sd_iinc [(2, .int (x2 + (1 : Int32))), (1, .int (x1 ||| (0 : Int32))), (0, .ref (E.2.2 90))] 2 C dX8_kindsBack_38 rfl rfl (by decide) rfl rfl (n' := 41) ?_
        refine sd_goto C (tgt := 4) dX8_kindsBack_41 rfl ?_
        refine sd_sub [2, 1, 0] rfl ?_
        exact ih (x1 ||| (0 : Int32)) (x2 + (1 : Int32)) hF
      · replace hF := sd_neg hF c17
        refine sd_aload_n C 0 dX8_kindsBack_20 rfl rfl rfl (n' := 21) ?_
        refine sd_g8_0 C sd_i90 sd_k90 sd_w250 dX8_kindsBack_21 rfl (n' := 24) ?_
        refine sd_iload_n C 2 dX8_kindsBack_24 rfl rfl rfl (n' := 25) ?_
        obtain ⟨b25, hF⟩ := sd_ok hF
        refine sd_iald C sd_i91 sd_k91 sd_n91 b25 dX8_kindsBack_25 rfl (n' := 26) ?_
        refine sd_if_le C (n' := 29) (tgt := 35) dX8_kindsBack_26 rfl rfl (fun c26 => ?_) (fun c26 => ?_)
        · replace hF := sd_pos hF c26
          refine sd_iconst C (v := 0) dX8_kindsBack_35 rfl rfl (n' := 36) ?_
          refine sd_ior C dX8_kindsBack_36 rfl (n' := 37) ?_
          refine sd_istore_n [(1, .int (x1 ||| (0 : Int32))), (0, .ref (E.2.2 90)), (2, .int x2)] C dX8_kindsBack_37 rfl (by decide) rfl rfl (n' := 38) ?_
          refine sd_iinc [(2, .int (x2 + (1 : Int32))), (1, .int (x1 ||| (0 : Int32))), (0, .ref (E.2.2 90))] 2 C dX8_kindsBack_38 rfl rfl (by decide) rfl rfl (n' := 41) ?_
          refine sd_goto C (tgt := 4) dX8_kindsBack_41 rfl ?_
          refine sd_sub [2, 1, 0] rfl ?_
          exact ih (x1 ||| (0 : Int32)) (x2 + (1 : Int32)) hF
        · replace hF := sd_neg hF c26
          refine sd_iconst C (v := 1) dX8_kindsBack_29 rfl rfl (n' := 30) ?_
          refine sd_iload_n C 2 dX8_kindsBack_30 rfl rfl rfl (n' := 31) ?_
          refine sd_ishl C dX8_kindsBack_31 rfl (n' := 32) ?_
          refine sd_goto C (tgt := 36) dX8_kindsBack_32 rfl ?_
          refine sd_ior C dX8_kindsBack_36 rfl (n' := 37) ?_
          refine sd_istore_n [(1, .int (x1 ||| ((1 : Int32) <<< (x2 &&& 31)))), (0, .ref (E.2.2 90)), (2, .int x2)] C dX8_kindsBack_37 rfl (by decide) rfl rfl (n' := 38) ?_
          refine sd_iinc [(2, .int (x2 + (1 : Int32))), (1, .int (x1 ||| ((1 : Int32) <<< (x2 &&& 31)))), (0, .ref (E.2.2 90))] 2 C dX8_kindsBack_38 rfl rfl (by decide) rfl rfl (n' := 41) ?_
          refine sd_goto C (tgt := 4) dX8_kindsBack_41 rfl ?_
          refine sd_sub [2, 1, 0] rfl ?_
          exact ih (x1 ||| ((1 : Int32) <<< (x2 &&& 31))) (x2 + (1 : Int32)) hF
set_option maxRecDepth 100000 in
set_option maxHeartbeats 4000000 in
theorem tb_X8_kindsBack_0 {K : sd_K} {E : sd_Env} {M : sd_Mem}  {r : Int32} (C : sd_C K E sd_LC RX8 cX8_kindsBack 3 (some .int))  : fn_X8_kindsBack_0 M = some r → sd_Z K rm_X8_kindsBack E sd_LC 3 (sd_QI K E sd_LC r M) M 0 [(0, .ref (E.2.2 90))] [] := by
  intro hF
  unfold fn_X8_kindsBack_0 at hF
  refine sd_iconst C (v := 0) dX8_kindsBack_0 rfl rfl (n' := 1) ?_
  refine sd_istore_n [(1, .int (0 : Int32)), (0, .ref (E.2.2 90))] C dX8_kindsBack_1 rfl (by decide) rfl rfl (n' := 2) ?_
  refine sd_iconst C (v := 0) dX8_kindsBack_2 rfl rfl (n' := 3) ?_
  refine sd_istore_n [(2, .int (0 : Int32)), (1, .int (0 : Int32)), (0, .ref (E.2.2 90))] C dX8_kindsBack_3 rfl (by decide) rfl rfl (n' := 4) ?_
  refine sd_sub [2, 1, 0] rfl ?_
  exact tb_X8_kindsBack_4 C sd_FU (0 : Int32) (0 : Int32) hF
theorem ct_X8_kindsBack {l : Launch} {E : sd_Env} (M : sd_Mem)   {r : Int32} (hF : fn_X8_kindsBack M = some r) : sd_MI l E sd_LC yX8_kindsBack cX8_kindsBack 3 (some .int) rm_X8_kindsBack [.ref (E.2.2 90)] M r M := sd_ent0 (by decide +kernel) (Nat.le_of_ble_eq_true rfl) (fun p e s m below meth c C => tb_X8_kindsBack_0 C hF)
theorem dX10_gone_0 : decode cX10_gone 0 = .ok (.iload_n 1, 1) := by decide +kernel
theorem dX10_gone_1 : decode cX10_gone 1 = .ok (.iconst 1, 1) := by decide +kernel
theorem dX10_gone_2 : decode cX10_gone 2 = .ok (.bipush 99, 2) := by decide +kernel
theorem dX10_gone_4 : decode cX10_gone 4 = .ok (.invokestatic 152, 3) := by decide +kernel
theorem dX10_gone_7 : decode cX10_gone 7 = .ok (.ifCond .eq 11, 3) := by decide +kernel
theorem dX10_gone_10 : decode cX10_gone 10 = .ok (.iload_n 2, 1) := by decide +kernel
theorem dX10_gone_11 : decode cX10_gone 11 = .ok (.iload_n 3, 1) := by decide +kernel
theorem dX10_gone_12 : decode cX10_gone 12 = .ok (.invokestatic 313, 3) := by decide +kernel
theorem dX10_gone_15 : decode cX10_gone 15 = .ok (.ifCond .ne 5, 3) := by decide +kernel
theorem dX10_gone_18 : decode cX10_gone 18 = .ok (.iconst (-1), 1) := by decide +kernel
theorem dX10_gone_19 : decode cX10_gone 19 = .ok (.ireturn, 1) := by decide +kernel
theorem dX10_gone_20 : decode cX10_gone 20 = .ok (.aload_n 0, 1) := by decide +kernel
theorem dX10_gone_21 : decode cX10_gone 21 = .ok (.getfield 70, 3) := by decide +kernel
theorem dX10_gone_24 : decode cX10_gone 24 = .ok (.iload_n 1, 1) := by decide +kernel
theorem dX10_gone_25 : decode cX10_gone 25 = .ok (.iload_n 2, 1) := by decide +kernel
theorem dX10_gone_26 : decode cX10_gone 26 = .ok (.iload_n 3, 1) := by decide +kernel
theorem dX10_gone_27 : decode cX10_gone 27 = .ok (.invokevirtual 316, 3) := by decide +kernel
theorem dX10_gone_30 : decode cX10_gone 30 = .ok (.aload_n 0, 1) := by decide +kernel
theorem dX10_gone_31 : decode cX10_gone 31 = .ok (.aload_n 0, 1) := by decide +kernel
theorem dX10_gone_32 : decode cX10_gone 32 = .ok (.getfield 70, 3) := by decide +kernel
theorem dX10_gone_35 : decode cX10_gone 35 = .ok (.invokevirtual 320, 3) := by decide +kernel
theorem dX10_gone_38 : decode cX10_gone 38 = .ok (.putfield 88, 3) := by decide +kernel
theorem dX10_gone_41 : decode cX10_gone 41 = .ok (.aload_n 0, 1) := by decide +kernel
theorem dX10_gone_42 : decode cX10_gone 42 = .ok (.getfield 70, 3) := by decide +kernel
theorem dX10_gone_45 : decode cX10_gone 45 = .ok (.invokevirtual 323, 3) := by decide +kernel
theorem dX10_gone_48 : decode cX10_gone 48 = .ok (.ireturn, 1) := by decide +kernel
set_option maxRecDepth 100000 in
set_option maxHeartbeats 4000000 in
theorem tb_X10_gone_0 {K : sd_K} {E : sd_Env}   {r : (Int32 × sd_Mem)} (C : sd_C K E sd_LC RX10 cX10_gone 4 (some .int))  : ∀ (M : sd_Mem) (x1 : Int32) (x2 : Int32) (x3 : Int32), fn_X10_gone_0 M x1 x2 x3 = some r → sd_Z K rm_X10_gone E sd_LC 4 (sd_QI K E sd_LC r.1 r.2) M 0 [(0, .ref (E.2.2 0)), (1, .int x1), (2, .int x2), (3, .int x3)] [] := by
  intro M x1 x2 x3 hF
  unfold fn_X10_gone_0 at hF
  refine sd_iload_n C 1 dX10_gone_0 rfl rfl rfl (n' := 1) ?_
  refine sd_iconst C (v := 1) dX10_gone_1 rfl rfl (n' := 2) ?_
  refine sd_bipush C (v := 99) dX10_gone_2 rfl rfl (n' := 4) ?_
  obtain ⟨q4, e4, hF⟩ := sd_bind hF
  refine sd_callSI [.int x1, .int (1 : Int32), .int (99 : Int32)] [] C (ct_X10_within M x1 (1 : Int32) (99 : Int32)  e4) sd_lX10_152 ⟨rfl, rfl, Nat.le_of_ble_eq_true rfl, Nat.le_of_ble_eq_true rfl⟩ rfl (Nat.le_of_ble_eq_true rfl) dX10_gone_4 rfl (n' := 7) ?_
  refine sd_if_eq C (n' := 10) (tgt := 18) dX10_gone_7 rfl rfl (fun c7 => ?_) (fun c7 => ?_)
  · replace hF := sd_pos hF c7
    refine sd_iconst C (v := -1) dX10_gone_18 rfl rfl (n' := 19) ?_
    exact sd_iret C dX10_gone_19 (sd_fst hF) (sd_snd hF)
  · replace hF := sd_neg hF c7
    refine sd_iload_n C 2 dX10_gone_10 rfl rfl rfl (n' := 11) ?_
    refine sd_iload_n C 3 dX10_gone_11 rfl rfl rfl (n' := 12) ?_
    obtain ⟨q12, e12, hF⟩ := sd_bind hF
    refine sd_callSI [.int x2, .int x3] [] C (ct_X10_isFund M x2 x3  e12) sd_lX10_313 ⟨rfl, rfl, Nat.le_of_ble_eq_true rfl, Nat.le_of_ble_eq_true rfl⟩ rfl (Nat.le_of_ble_eq_true rfl) dX10_gone_12 rfl (n' := 15) ?_
    refine sd_if_ne C (n' := 18) (tgt := 20) dX10_gone_15 rfl rfl (fun c15 => ?_) (fun c15 => ?_)
    · replace hF := sd_neg hF c15
      refine sd_aload_n C 0 dX10_gone_20 rfl rfl rfl (n' := 21) ?_
      refine sd_g10_10 C sd_i0 sd_k0 sd_w338 dX10_gone_21 rfl (n' := 24) ?_
      refine sd_iload_n C 1 dX10_gone_24 rfl rfl rfl (n' := 25) ?_
      refine sd_iload_n C 2 dX10_gone_25 rfl rfl rfl (n' := 26) ?_
      refine sd_iload_n C 3 dX10_gone_26 rfl rfl rfl (n' := 27) ?_
      obtain ⟨q27, e27, hF⟩ := sd_bind hF
      refine sd_callVV [.int x1, .int x2, .int x3] [] C (ct_X8_liveTill M x1 x2 x3  e27) sd_lX10_316 ⟨rfl, rfl, Nat.le_of_ble_eq_true rfl, Nat.le_of_ble_eq_true rfl⟩ sd_i90 (sd_e9 sd_k90) rfl rfl rfl (Nat.le_of_ble_eq_true rfl) dX10_gone_27 rfl (n' := 30) ?_
      refine sd_aload_n C 0 dX10_gone_30 rfl rfl rfl (n' := 31) ?_
      refine sd_aload_n C 0 dX10_gone_31 rfl rfl rfl (n' := 32) ?_
      refine sd_g10_10 C sd_i0 sd_k0 sd_w338 dX10_gone_32 rfl (n' := 35) ?_
      obtain ⟨q35, e35, hF⟩ := sd_bind hF
      refine sd_callVI [] [.ref (E.2.2 0)] C (ct_X8_kindsBack q27   e35) sd_lX10_320 ⟨rfl, rfl, Nat.le_of_ble_eq_true rfl, Nat.le_of_ble_eq_true rfl⟩ sd_i90 (sd_e9 sd_k90) rfl rfl rfl (Nat.le_of_ble_eq_true rfl) dX10_gone_35 rfl (n' := 38) ?_
      refine sd_p10_13 C sd_i0 sd_k0 sd_w341 dX10_gone_38 rfl (n' := 41) ?_
      refine sd_aload_n C 0 dX10_gone_41 rfl rfl rfl (n' := 42) ?_
      refine sd_g10_10 C sd_i0 sd_k0 sd_w338 dX10_gone_42 rfl (n' := 45) ?_
      obtain ⟨q45, e45, hF⟩ := sd_bind hF
      refine sd_callVI [] [] C (ct_X8_menBack (sd_setI q27 0 13 q35)   e45) sd_lX10_323 ⟨rfl, rfl, Nat.le_of_ble_eq_true rfl, Nat.le_of_ble_eq_true rfl⟩ sd_i90 (sd_e9 sd_k90) rfl rfl rfl (Nat.le_of_ble_eq_true rfl) dX10_gone_45 rfl (n' := 48) ?_
      exact sd_iret C dX10_gone_48 (sd_fst hF) (sd_snd hF)
    · replace hF := sd_pos hF c15
      refine sd_iconst C (v := -1) dX10_gone_18 rfl rfl (n' := 19) ?_
      exact sd_iret C dX10_gone_19 (sd_fst hF) (sd_snd hF)
theorem ct_X10_gone {l : Launch} {E : sd_Env} (M : sd_Mem) (x1 : Int32) (x2 : Int32) (x3 : Int32)  {r : (Int32 × sd_Mem)} (hF : fn_X10_gone M x1 x2 x3 = some r) : sd_MI l E sd_LC yX10_gone cX10_gone 4 (some .int) rm_X10_gone [.ref (E.2.2 0), .int x1, .int x2, .int x3] M r.1 r.2 := sd_ent0 (by decide +kernel) (Nat.le_of_ble_eq_true rfl) (fun p e s m below meth c C => tb_X10_gone_0 C M x1 x2 x3 hF)
theorem dX8_dayAllBack_0 : decode cX8_dayAllBack 0 = .ok (.aload_n 0, 1) := by decide +kernel
theorem dX8_dayAllBack_1 : decode cX8_dayAllBack 1 = .ok (.iload_n 2, 1) := by decide +kernel
theorem dX8_dayAllBack_2 : decode cX8_dayAllBack 2 = .ok (.iload 4, 2) := by decide +kernel
theorem dX8_dayAllBack_4 : decode cX8_dayAllBack 4 = .ok (.invokevirtual 43, 3) := by decide +kernel
theorem dX8_dayAllBack_7 : decode cX8_dayAllBack 7 = .ok (.iconst 1, 1) := by decide +kernel
theorem dX8_dayAllBack_8 : decode cX8_dayAllBack 8 = .ok (.istore 5, 2) := by decide +kernel
theorem dX8_dayAllBack_10 : decode cX8_dayAllBack 10 = .ok (.iload 5, 2) := by decide +kernel
theorem dX8_dayAllBack_12 : decode cX8_dayAllBack 12 = .ok (.iload_n 1, 1) := by decide +kernel
theorem dX8_dayAllBack_13 : decode cX8_dayAllBack 13 = .ok (.if_icmp .gt 33, 3) := by decide +kernel
theorem dX8_dayAllBack_16 : decode cX8_dayAllBack 16 = .ok (.aload_n 0, 1) := by decide +kernel
theorem dX8_dayAllBack_17 : decode cX8_dayAllBack 17 = .ok (.invokevirtual 46, 3) := by decide +kernel
theorem dX8_dayAllBack_20 : decode cX8_dayAllBack 20 = .ok (.aload_n 0, 1) := by decide +kernel
theorem dX8_dayAllBack_21 : decode cX8_dayAllBack 21 = .ok (.invokevirtual 32, 3) := by decide +kernel
theorem dX8_dayAllBack_24 : decode cX8_dayAllBack 24 = .ok (.aload_n 0, 1) := by decide +kernel
theorem dX8_dayAllBack_25 : decode cX8_dayAllBack 25 = .ok (.invokevirtual 36, 3) := by decide +kernel
theorem dX8_dayAllBack_28 : decode cX8_dayAllBack 28 = .ok (.if_icmp .ne 6, 3) := by decide +kernel
theorem dX8_dayAllBack_31 : decode cX8_dayAllBack 31 = .ok (.iload 5, 2) := by decide +kernel
theorem dX8_dayAllBack_33 : decode cX8_dayAllBack 33 = .ok (.ireturn, 1) := by decide +kernel
theorem dX8_dayAllBack_34 : decode cX8_dayAllBack 34 = .ok (.aload_n 0, 1) := by decide +kernel
theorem dX8_dayAllBack_35 : decode cX8_dayAllBack 35 = .ok (.iload_n 3, 1) := by decide +kernel
theorem dX8_dayAllBack_36 : decode cX8_dayAllBack 36 = .ok (.invokevirtual 49, 3) := by decide +kernel
theorem dX8_dayAllBack_39 : decode cX8_dayAllBack 39 = .ok (.pop, 1) := by decide +kernel
theorem dX8_dayAllBack_40 : decode cX8_dayAllBack 40 = .ok (.iinc 5 1, 3) := by decide +kernel
theorem dX8_dayAllBack_43 : decode cX8_dayAllBack 43 = .ok (.goto (-33), 3) := by decide +kernel
theorem dX8_dayAllBack_46 : decode cX8_dayAllBack 46 = .ok (.bipush (-9), 2) := by decide +kernel
theorem dX8_dayAllBack_48 : decode cX8_dayAllBack 48 = .ok (.ireturn, 1) := by decide +kernel
set_option maxRecDepth 100000 in
set_option maxHeartbeats 4000000 in
theorem tb_X8_dayAllBack_10 {K : sd_K} {E : sd_Env}   {r : (Int32 × sd_Mem)} (C : sd_C K E sd_LC RX8 cX8_dayAllBack 6 (some .int))  : ∀ (n : Nat), ∀ (M : sd_Mem) (x1 : Int32) (x3 : Int32) (x5 : Int32), fn_X8_dayAllBack_10 n M x1 x3 x5 = some r → sd_Z K rm_X8_dayAllBack E sd_LC 6 (sd_QI K E sd_LC r.1 r.2) M 10 [(0, .ref (E.2.2 90)), (1, .int x1), (3, .int x3), (5, .int x5)] [] := by
  intro n
  induction n with
  | zero => intro M x1 x3 x5 hF; cases hF
  | succ n ih =>
    intro M x1 x3 x5 hF
    unfold fn_X8_dayAllBack_10 at hF
    refine sd_iload C 3 dX8_dayAllBack_10 rfl rfl (n' := 12) ?_
    refine sd_iload_n C 1 dX8_dayAllBack_12 rfl rfl rfl (n' := 13) ?_
    refine sd_icmp_gt C (n' := 16) (tgt := 46) dX8_dayAllBack_13 rfl rfl (fun c13 => ?_) (fun c13 => ?_)
    · replace hF := sd_pos hF c13
      refine sd_bipush C (v := -9) dX8_dayAllBack_46 rfl rfl (n' := 48) ?_
      exact sd_iret C dX8_dayAllBack_48 (sd_fst hF) (sd_snd hF)
    · replace hF := sd_neg hF c13
      refine sd_aload_n C 0 dX8_dayAllBack_16 rfl rfl rfl (n' := 17) ?_
      obtain ⟨q17, e17, hF⟩ := sd_bind hF
      refine sd_callVV [] [] C (ct_X8_goBack M   e17) sd_lX8_46 ⟨rfl, rfl, Nat.le_of_ble_eq_true rfl, Nat.le_of_ble_eq_true rfl⟩ sd_i90 (sd_e9 sd_k90) rfl rfl rfl (Nat.le_of_ble_eq_true rfl) dX8_dayAllBack_17 rfl (n' := 20) ?_
      refine sd_aload_n C 0 dX8_dayAllBack_20 rfl rfl rfl (n' := 21) ?_
      obtain ⟨q21, e21, hF⟩ := sd_bind hF
      refine sd_callVI [] [] C (ct_X8_menBack q17   e21) sd_lX8_32 ⟨rfl, rfl, Nat.le_of_ble_eq_true rfl, Nat.le_of_ble_eq_true rfl⟩ sd_i90 (sd_e9 sd_k90) rfl rfl rfl (Nat.le_of_ble_eq_true rfl) dX8_dayAllBack_21 rfl (n' := 24) ?_
      refine sd_aload_n C 0 dX8_dayAllBack_24 rfl rfl rfl (n' := 25) ?_
      obtain ⟨q25, e25, hF⟩ := sd_bind hF
      refine sd_callVI [] [.int q21] C (ct_X8_menInAll q17   e25) sd_lX8_36 ⟨rfl, rfl, Nat.le_of_ble_eq_true rfl, Nat.le_of_ble_eq_true rfl⟩ sd_i90 (sd_e9 sd_k90) rfl rfl rfl (Nat.le_of_ble_eq_true rfl) dX8_dayAllBack_25 rfl (n' := 28) ?_
      refine sd_icmp_ne C (n' := 31) (tgt := 34) dX8_dayAllBack_28 rfl rfl (fun c28 => ?_) (fun c28 => ?_)
      · replace hF := sd_neg hF c28
        refine sd_aload_n C 0 dX8_dayAllBack_34 rfl rfl rfl (n' := 35) ?_
        refine sd_iload_n C 2 dX8_dayAllBack_35 rfl rfl rfl (n' := 36) ?_
        obtain ⟨q36, e36, hF⟩ := sd_bind hF
        refine sd_callVI [.int x3] [] C (ct_X8_payOut q17 x3  e36) sd_lX8_49 ⟨rfl, rfl, Nat.le_of_ble_eq_true rfl, Nat.le_of_ble_eq_true rfl⟩ sd_i90 (sd_e9 sd_k90) rfl rfl rfl (Nat.le_of_ble_eq_true rfl) dX8_dayAllBack_36 rfl (n' := 39) ?_
        refine sd_pop C dX8_dayAllBack_39 rfl rfl (n' := 40) ?_
        refine sd_iinc [(5, .int (x5 + (1 : Int32))), (0, .ref (E.2.2 90)), (1, .int x1), (3, .int x3)] 3 C dX8_dayAllBack_40 rfl rfl (by decide) rfl rfl (n' := 43) ?_
        refine sd_goto C (tgt := 10) dX8_dayAllBack_43 rfl ?_
        refine sd_sub [1, 2, 3, 0] rfl ?_
        exact ih q36.2 x1 x3 (x5 + (1 : Int32)) hF
      · replace hF := sd_pos hF c28
        refine sd_iload C 3 dX8_dayAllBack_31 rfl rfl (n' := 33) ?_
        exact sd_iret C dX8_dayAllBack_33 (sd_fst hF) (sd_snd hF)
set_option maxRecDepth 100000 in
set_option maxHeartbeats 4000000 in
theorem tb_X8_dayAllBack_0 {K : sd_K} {E : sd_Env}   {r : (Int32 × sd_Mem)} (C : sd_C K E sd_LC RX8 cX8_dayAllBack 6 (some .int))  : ∀ (M : sd_Mem) (x1 : Int32) (x2 : Int32) (x3 : Int32) (x4 : Int32), fn_X8_dayAllBack_0 M x1 x2 x3 x4 = some r → sd_Z K rm_X8_dayAllBack E sd_LC 6 (sd_QI K E sd_LC r.1 r.2) M 0 [(0, .ref (E.2.2 90)), (1, .int x1), (2, .int x2), (3, .int x3), (4, .int x4)] [] := by
  intro M x1 x2 x3 x4 hF
  unfold fn_X8_dayAllBack_0 at hF
  refine sd_aload_n C 0 dX8_dayAllBack_0 rfl rfl rfl (n' := 1) ?_
  refine sd_iload_n C 2 dX8_dayAllBack_1 rfl rfl rfl (n' := 2) ?_
  refine sd_iload C 4 dX8_dayAllBack_2 rfl rfl (n' := 4) ?_
  obtain ⟨q4, e4, hF⟩ := sd_bind hF
  refine sd_callVV [.int x2, .int x4] [] C (ct_X8_begin M x2 x4  e4) sd_lX8_43 ⟨rfl, rfl, Nat.le_of_ble_eq_true rfl, Nat.le_of_ble_eq_true rfl⟩ sd_i90 (sd_e9 sd_k90) rfl rfl rfl (Nat.le_of_ble_eq_true rfl) dX8_dayAllBack_4 rfl (n' := 7) ?_
  refine sd_iconst C (v := 1) dX8_dayAllBack_7 rfl rfl (n' := 8) ?_
  refine sd_istore [(5, .int (1 : Int32)), (0, .ref (E.2.2 90)), (1, .int x1), (2, .int x2), (3, .int x3), (4, .int x4)] C dX8_dayAllBack_8 (by decide) rfl rfl (n' := 10) ?_
  refine sd_sub [1, 2, 4, 0] rfl ?_
  exact tb_X8_dayAllBack_10 C sd_FU q4 x1 x3 (1 : Int32) hF
theorem ct_X8_dayAllBack {l : Launch} {E : sd_Env} (M : sd_Mem) (x1 : Int32) (x2 : Int32) (x3 : Int32) (x4 : Int32)  {r : (Int32 × sd_Mem)} (hF : fn_X8_dayAllBack M x1 x2 x3 x4 = some r) : sd_MI l E sd_LC yX8_dayAllBack cX8_dayAllBack 6 (some .int) rm_X8_dayAllBack [.ref (E.2.2 90), .int x1, .int x2, .int x3, .int x4] M r.1 r.2 := sd_ent0 (by decide +kernel) (Nat.le_of_ble_eq_true rfl) (fun p e s m below meth c C => tb_X8_dayAllBack_0 C M x1 x2 x3 x4 hF)
theorem dX10_all_0 : decode cX10_all 0 = .ok (.iload_n 1, 1) := by decide +kernel
theorem dX10_all_1 : decode cX10_all 1 = .ok (.iload_n 2, 1) := by decide +kernel
theorem dX10_all_2 : decode cX10_all 2 = .ok (.invokestatic 313, 3) := by decide +kernel
theorem dX10_all_5 : decode cX10_all 5 = .ok (.ifCond .ne 5, 3) := by decide +kernel
theorem dX10_all_8 : decode cX10_all 8 = .ok (.iconst (-1), 1) := by decide +kernel
theorem dX10_all_9 : decode cX10_all 9 = .ok (.ireturn, 1) := by decide +kernel
theorem dX10_all_10 : decode cX10_all 10 = .ok (.aload_n 0, 1) := by decide +kernel
theorem dX10_all_11 : decode cX10_all 11 = .ok (.getfield 70, 3) := by decide +kernel
theorem dX10_all_14 : decode cX10_all 14 = .ok (.bipush 99, 2) := by decide +kernel
theorem dX10_all_16 : decode cX10_all 16 = .ok (.iload_n 1, 1) := by decide +kernel
theorem dX10_all_17 : decode cX10_all 17 = .ok (.iload_n 2, 1) := by decide +kernel
theorem dX10_all_18 : decode cX10_all 18 = .ok (.bipush (-9), 2) := by decide +kernel
theorem dX10_all_20 : decode cX10_all 20 = .ok (.invokevirtual 326, 3) := by decide +kernel
theorem dX10_all_23 : decode cX10_all 23 = .ok (.ireturn, 1) := by decide +kernel
set_option maxRecDepth 100000 in
set_option maxHeartbeats 4000000 in
theorem tb_X10_all_0 {K : sd_K} {E : sd_Env}   {r : (Int32 × sd_Mem)} (C : sd_C K E sd_LC RX10 cX10_all 3 (some .int))  : ∀ (M : sd_Mem) (x1 : Int32) (x2 : Int32), fn_X10_all_0 M x1 x2 = some r → sd_Z K rm_X10_all E sd_LC 3 (sd_QI K E sd_LC r.1 r.2) M 0 [(0, .ref (E.2.2 0)), (1, .int x1), (2, .int x2)] [] := by
  intro M x1 x2 hF
  unfold fn_X10_all_0 at hF
  refine sd_iload_n C 1 dX10_all_0 rfl rfl rfl (n' := 1) ?_
  refine sd_iload_n C 2 dX10_all_1 rfl rfl rfl (n' := 2) ?_
  obtain ⟨q2, e2, hF⟩ := sd_bind hF
  refine sd_callSI [.int x1, .int x2] [] C (ct_X10_isFund M x1 x2  e2) sd_lX10_313 ⟨rfl, rfl, Nat.le_of_ble_eq_true rfl, Nat.le_of_ble_eq_true rfl⟩ rfl (Nat.le_of_ble_eq_true rfl) dX10_all_2 rfl (n' := 5) ?_
  refine sd_if_ne C (n' := 8) (tgt := 10) dX10_all_5 rfl rfl (fun c5 => ?_) (fun c5 => ?_)
  · replace hF := sd_neg hF c5
    refine sd_aload_n C 0 dX10_all_10 rfl rfl rfl (n' := 11) ?_
    refine sd_g10_10 C sd_i0 sd_k0 sd_w338 dX10_all_11 rfl (n' := 14) ?_
    refine sd_bipush C (v := 99) dX10_all_14 rfl rfl (n' := 16) ?_
    refine sd_iload_n C 1 dX10_all_16 rfl rfl rfl (n' := 17) ?_
    refine sd_iload_n C 2 dX10_all_17 rfl rfl rfl (n' := 18) ?_
    refine sd_bipush C (v := -9) dX10_all_18 rfl rfl (n' := 20) ?_
    obtain ⟨q20, e20, hF⟩ := sd_bind hF
    refine sd_callVI [.int (99 : Int32), .int x1, .int x2, .int (-9 : Int32)] [] C (ct_X8_dayAllBack M (99 : Int32) x1 x2 (-9 : Int32)  e20) sd_lX10_326 ⟨rfl, rfl, Nat.le_of_ble_eq_true rfl, Nat.le_of_ble_eq_true rfl⟩ sd_i90 (sd_e9 sd_k90) rfl rfl rfl (Nat.le_of_ble_eq_true rfl) dX10_all_20 rfl (n' := 23) ?_
    exact sd_iret C dX10_all_23 (sd_fst hF) (sd_snd hF)
  · replace hF := sd_pos hF c5
    refine sd_iconst C (v := -1) dX10_all_8 rfl rfl (n' := 9) ?_
    exact sd_iret C dX10_all_9 (sd_fst hF) (sd_snd hF)
theorem ct_X10_all {l : Launch} {E : sd_Env} (M : sd_Mem) (x1 : Int32) (x2 : Int32)  {r : (Int32 × sd_Mem)} (hF : fn_X10_all M x1 x2 = some r) : sd_MI l E sd_LC yX10_all cX10_all 3 (some .int) rm_X10_all [.ref (E.2.2 0), .int x1, .int x2] M r.1 r.2 := sd_ent0 (by decide +kernel) (Nat.le_of_ble_eq_true rfl) (fun p e s m below meth c C => tb_X10_all_0 C M x1 x2 hF)
