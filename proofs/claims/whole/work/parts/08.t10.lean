theorem dX11_byJudge_0 : decode cX11_byJudge 0 = .ok (.aload_n 0, 1) := by decide +kernel
theorem dX11_byJudge_1 : decode cX11_byJudge 1 = .ok (.getfield 147, 3) := by decide +kernel
theorem dX11_byJudge_4 : decode cX11_byJudge 4 = .ok (.i2l, 1) := by decide +kernel
theorem dX11_byJudge_5 : decode cX11_byJudge 5 = .ok (.aload_n 0, 1) := by decide +kernel
theorem dX11_byJudge_6 : decode cX11_byJudge 6 = .ok (.iload_n 1, 1) := by decide +kernel
theorem dX11_byJudge_7 : decode cX11_byJudge 7 = .ok (.iload_n 2, 1) := by decide +kernel
theorem dX11_byJudge_8 : decode cX11_byJudge 8 = .ok (.iload_n 3, 1) := by decide +kernel
theorem dX11_byJudge_9 : decode cX11_byJudge 9 = .ok (.aload_n 0, 1) := by decide +kernel
theorem dX11_byJudge_10 : decode cX11_byJudge 10 = .ok (.getfield 48, 3) := by decide +kernel
theorem dX11_byJudge_13 : decode cX11_byJudge 13 = .ok (.invokevirtual 208, 3) := by decide +kernel
theorem dX11_byJudge_16 : decode cX11_byJudge 16 = .ok (.lmul, 1) := by decide +kernel
theorem dX11_byJudge_17 : decode cX11_byJudge 17 = .ok (.aload_n 0, 1) := by decide +kernel
theorem dX11_byJudge_18 : decode cX11_byJudge 18 = .ok (.iconst 1, 1) := by decide +kernel
theorem dX11_byJudge_19 : decode cX11_byJudge 19 = .ok (.iload_n 1, 1) := by decide +kernel
theorem dX11_byJudge_20 : decode cX11_byJudge 20 = .ok (.isub, 1) := by decide +kernel
theorem dX11_byJudge_21 : decode cX11_byJudge 21 = .ok (.iload 4, 2) := by decide +kernel
theorem dX11_byJudge_23 : decode cX11_byJudge 23 = .ok (.invokevirtual 181, 3) := by decide +kernel
theorem dX11_byJudge_26 : decode cX11_byJudge 26 = .ok (.i2l, 1) := by decide +kernel
theorem dX11_byJudge_27 : decode cX11_byJudge 27 = .ok (.lmul, 1) := by decide +kernel
theorem dX11_byJudge_28 : decode cX11_byJudge 28 = .ok (.aload_n 0, 1) := by decide +kernel
theorem dX11_byJudge_29 : decode cX11_byJudge 29 = .ok (.invokevirtual 188, 3) := by decide +kernel
theorem dX11_byJudge_32 : decode cX11_byJudge 32 = .ok (.iload_n 3, 1) := by decide +kernel
theorem dX11_byJudge_33 : decode cX11_byJudge 33 = .ok (.isub, 1) := by decide +kernel
theorem dX11_byJudge_34 : decode cX11_byJudge 34 = .ok (.invokestatic 212, 3) := by decide +kernel
theorem dX11_byJudge_37 : decode cX11_byJudge 37 = .ok (.lmul, 1) := by decide +kernel
theorem dX11_byJudge_38 : decode cX11_byJudge 38 = .ok (.lreturn, 1) := by decide +kernel
set_option maxRecDepth 100000 in
set_option maxHeartbeats 4000000 in
theorem tb_X11_byJudge_0 {K : sd_K} {E : sd_Env} {M : sd_Mem}  {r : Int64} (C : sd_C K E sd_LM RX11 cX11_byJudge 5 (some .long))  : ∀ (x1 : Int32) (x2 : Int32) (x3 : Int32) (x4 : Int32), fn_X11_byJudge_0 M x1 x2 x3 x4 = some r → sd_Z K rm_X11_byJudge E sd_LM 5 (sd_QL K E sd_LM r M) M 0 [(0, .ref (E.2.2 100)), (1, .int x1), (2, .int x2), (3, .int x3), (4, .int x4)] [] := by
  intro x1 x2 x3 x4 hF
  unfold fn_X11_byJudge_0 at hF
  refine sd_aload_n C 0 dX11_byJudge_0 rfl rfl rfl (n' := 1) ?_
  refine sd_g11_15 C sd_i100 sd_k100 sd_w1056 dX11_byJudge_1 rfl (n' := 4) ?_
  refine sd_i2l C dX11_byJudge_4 rfl (n' := 5) ?_
  refine sd_aload_n C 0 dX11_byJudge_5 rfl rfl rfl (n' := 6) ?_
  refine sd_iload_n C 1 dX11_byJudge_6 rfl rfl rfl (n' := 7) ?_
  refine sd_iload_n C 2 dX11_byJudge_7 rfl rfl rfl (n' := 8) ?_
  refine sd_iload_n C 3 dX11_byJudge_8 rfl rfl rfl (n' := 9) ?_
  refine sd_aload_n C 0 dX11_byJudge_9 rfl rfl rfl (n' := 10) ?_
  refine sd_g11_16 C sd_i100 sd_k100 sd_w1057 dX11_byJudge_10 rfl (n' := 13) ?_
  obtain ⟨q13, e13, hF⟩ := sd_bind hF
  refine sd_callVL [.int x1, .int x2, .int x3, .int (M.1 100 16)] [.long ((M.1 100 15).toInt64)] C (ct_X11_worthOf M x1 x2 x3 (M.1 100 16)  e13) sd_lX11_208 ⟨rfl, rfl, Nat.le_of_ble_eq_true rfl, Nat.le_of_ble_eq_true rfl⟩ sd_i100 (sd_e12 sd_k100) rfl rfl rfl (Nat.le_of_ble_eq_true rfl) dX11_byJudge_13 rfl (n' := 16) ?_
  refine sd_lmul C dX11_byJudge_16 rfl (n' := 17) ?_
  refine sd_aload_n C 0 dX11_byJudge_17 rfl rfl rfl (n' := 18) ?_
  refine sd_iconst C (v := 1) dX11_byJudge_18 rfl rfl (n' := 19) ?_
  refine sd_iload_n C 1 dX11_byJudge_19 rfl rfl rfl (n' := 20) ?_
  refine sd_isub C dX11_byJudge_20 rfl (n' := 21) ?_
  refine sd_iload C 4 dX11_byJudge_21 rfl rfl (n' := 23) ?_
  obtain ⟨q23, e23, hF⟩ := sd_bind hF
  refine sd_callVI [.int ((1 : Int32) - x1), .int x4] [.long (((M.1 100 15).toInt64) * q13)] C (ct_X11_chances M ((1 : Int32) - x1) x4  e23) sd_lX11_181 ⟨rfl, rfl, Nat.le_of_ble_eq_true rfl, Nat.le_of_ble_eq_true rfl⟩ sd_i100 (sd_e12 sd_k100) rfl rfl rfl (Nat.le_of_ble_eq_true rfl) dX11_byJudge_23 rfl (n' := 26) ?_
  refine sd_i2l C dX11_byJudge_26 rfl (n' := 27) ?_
  refine sd_lmul C dX11_byJudge_27 rfl (n' := 28) ?_
  refine sd_aload_n C 0 dX11_byJudge_28 rfl rfl rfl (n' := 29) ?_
  obtain ⟨q29, e29, hF⟩ := sd_bind hF
  refine sd_callVI [] [.long ((((M.1 100 15).toInt64) * q13) * q23.toInt64)] C (ct_X11_last M   e29) sd_lX11_188 ⟨rfl, rfl, Nat.le_of_ble_eq_true rfl, Nat.le_of_ble_eq_true rfl⟩ sd_i100 (sd_e12 sd_k100) rfl rfl rfl (Nat.le_of_ble_eq_true rfl) dX11_byJudge_29 rfl (n' := 32) ?_
  refine sd_iload_n C 3 dX11_byJudge_32 rfl rfl rfl (n' := 33) ?_
  refine sd_isub C dX11_byJudge_33 rfl (n' := 34) ?_
  obtain ⟨q34, e34, hF⟩ := sd_bind hF
  refine sd_callSL [.int (q29 - x3)] [.long ((((M.1 100 15).toInt64) * q13) * q23.toInt64)] C (ct_X11_twelve M (q29 - x3)  e34) sd_lX11_212 ⟨rfl, rfl, Nat.le_of_ble_eq_true rfl, Nat.le_of_ble_eq_true rfl⟩ rfl (Nat.le_of_ble_eq_true rfl) dX11_byJudge_34 rfl (n' := 37) ?_
  refine sd_lmul C dX11_byJudge_37 rfl (n' := 38) ?_
  exact sd_lret C dX11_byJudge_38 (Option.some.inj hF) rfl
theorem ct_X11_byJudge {l : Launch} {E : sd_Env} (M : sd_Mem) (x1 : Int32) (x2 : Int32) (x3 : Int32) (x4 : Int32)  {r : Int64} (hF : fn_X11_byJudge M x1 x2 x3 x4 = some r) : sd_ML l E sd_LM yX11_byJudge cX11_byJudge 5 (some .long) rm_X11_byJudge [.ref (E.2.2 100), .int x1, .int x2, .int x3, .int x4] M r M := sd_ent0 (by decide +kernel) (Nat.le_of_ble_eq_true rfl) (fun p e s m below meth c C => tb_X11_byJudge_0 C x1 x2 x3 x4 hF)
theorem dX11_setBestOfMen_0 : decode cX11_setBestOfMen 0 = .ok (.iconst 0, 1) := by decide +kernel
theorem dX11_setBestOfMen_1 : decode cX11_setBestOfMen 1 = .ok (.istore_n 3, 1) := by decide +kernel
theorem dX11_setBestOfMen_2 : decode cX11_setBestOfMen 2 = .ok (.iload_n 3, 1) := by decide +kernel
theorem dX11_setBestOfMen_3 : decode cX11_setBestOfMen 3 = .ok (.bipush 8, 2) := by decide +kernel
theorem dX11_setBestOfMen_5 : decode cX11_setBestOfMen 5 = .ok (.if_icmp .ge 51, 3) := by decide +kernel
theorem dX11_setBestOfMen_8 : decode cX11_setBestOfMen 8 = .ok (.aload_n 0, 1) := by decide +kernel
theorem dX11_setBestOfMen_9 : decode cX11_setBestOfMen 9 = .ok (.getfield 69, 3) := by decide +kernel
theorem dX11_setBestOfMen_12 : decode cX11_setBestOfMen 12 = .ok (.bipush 8, 2) := by decide +kernel
theorem dX11_setBestOfMen_14 : decode cX11_setBestOfMen 14 = .ok (.aload_n 0, 1) := by decide +kernel
theorem dX11_setBestOfMen_15 : decode cX11_setBestOfMen 15 = .ok (.invokevirtual 188, 3) := by decide +kernel
theorem dX11_setBestOfMen_18 : decode cX11_setBestOfMen 18 = .ok (.iconst 1, 1) := by decide +kernel
theorem dX11_setBestOfMen_19 : decode cX11_setBestOfMen 19 = .ok (.iadd, 1) := by decide +kernel
theorem dX11_setBestOfMen_20 : decode cX11_setBestOfMen 20 = .ok (.imul, 1) := by decide +kernel
theorem dX11_setBestOfMen_21 : decode cX11_setBestOfMen 21 = .ok (.iload_n 3, 1) := by decide +kernel
theorem dX11_setBestOfMen_22 : decode cX11_setBestOfMen 22 = .ok (.iadd, 1) := by decide +kernel
theorem dX11_setBestOfMen_23 : decode cX11_setBestOfMen 23 = .ok (.aload_n 0, 1) := by decide +kernel
theorem dX11_setBestOfMen_24 : decode cX11_setBestOfMen 24 = .ok (.iconst 0, 1) := by decide +kernel
theorem dX11_setBestOfMen_25 : decode cX11_setBestOfMen 25 = .ok (.iload_n 2, 1) := by decide +kernel
theorem dX11_setBestOfMen_26 : decode cX11_setBestOfMen 26 = .ok (.aload_n 0, 1) := by decide +kernel
theorem dX11_setBestOfMen_27 : decode cX11_setBestOfMen 27 = .ok (.invokevirtual 188, 3) := by decide +kernel
theorem dX11_setBestOfMen_30 : decode cX11_setBestOfMen 30 = .ok (.iconst 1, 1) := by decide +kernel
theorem dX11_setBestOfMen_31 : decode cX11_setBestOfMen 31 = .ok (.iadd, 1) := by decide +kernel
theorem dX11_setBestOfMen_32 : decode cX11_setBestOfMen 32 = .ok (.aload_n 0, 1) := by decide +kernel
theorem dX11_setBestOfMen_33 : decode cX11_setBestOfMen 33 = .ok (.getfield 41, 3) := by decide +kernel
theorem dX11_setBestOfMen_36 : decode cX11_setBestOfMen 36 = .ok (.iconst 3, 1) := by decide +kernel
theorem dX11_setBestOfMen_37 : decode cX11_setBestOfMen 37 = .ok (.iaload, 1) := by decide +kernel
theorem dX11_setBestOfMen_38 : decode cX11_setBestOfMen 38 = .ok (.invokevirtual 208, 3) := by decide +kernel
theorem dX11_setBestOfMen_41 : decode cX11_setBestOfMen 41 = .ok (.aload_n 0, 1) := by decide +kernel
theorem dX11_setBestOfMen_42 : decode cX11_setBestOfMen 42 = .ok (.iconst 1, 1) := by decide +kernel
theorem dX11_setBestOfMen_43 : decode cX11_setBestOfMen 43 = .ok (.iload_n 3, 1) := by decide +kernel
theorem dX11_setBestOfMen_44 : decode cX11_setBestOfMen 44 = .ok (.invokevirtual 181, 3) := by decide +kernel
theorem dX11_setBestOfMen_47 : decode cX11_setBestOfMen 47 = .ok (.i2l, 1) := by decide +kernel
theorem dX11_setBestOfMen_48 : decode cX11_setBestOfMen 48 = .ok (.lmul, 1) := by decide +kernel
theorem dX11_setBestOfMen_49 : decode cX11_setBestOfMen 49 = .ok (.lastore, 1) := by decide +kernel
theorem dX11_setBestOfMen_50 : decode cX11_setBestOfMen 50 = .ok (.iinc 3 1, 3) := by decide +kernel
theorem dX11_setBestOfMen_53 : decode cX11_setBestOfMen 53 = .ok (.goto (-51), 3) := by decide +kernel
theorem dX11_setBestOfMen_56 : decode cX11_setBestOfMen 56 = .ok (.aload_n 0, 1) := by decide +kernel
theorem dX11_setBestOfMen_57 : decode cX11_setBestOfMen 57 = .ok (.invokevirtual 188, 3) := by decide +kernel
theorem dX11_setBestOfMen_60 : decode cX11_setBestOfMen 60 = .ok (.istore_n 3, 1) := by decide +kernel
theorem dX11_setBestOfMen_61 : decode cX11_setBestOfMen 61 = .ok (.iload_n 3, 1) := by decide +kernel
theorem dX11_setBestOfMen_62 : decode cX11_setBestOfMen 62 = .ok (.iconst 1, 1) := by decide +kernel
theorem dX11_setBestOfMen_63 : decode cX11_setBestOfMen 63 = .ok (.if_icmp .lt 204, 3) := by decide +kernel
theorem dX11_setBestOfMen_66 : decode cX11_setBestOfMen 66 = .ok (.iconst 0, 1) := by decide +kernel
theorem dX11_setBestOfMen_67 : decode cX11_setBestOfMen 67 = .ok (.istore 4, 2) := by decide +kernel
theorem dX11_setBestOfMen_69 : decode cX11_setBestOfMen 69 = .ok (.iload 4, 2) := by decide +kernel
theorem dX11_setBestOfMen_71 : decode cX11_setBestOfMen 71 = .ok (.aload_n 0, 1) := by decide +kernel
theorem dX11_setBestOfMen_72 : decode cX11_setBestOfMen 72 = .ok (.iconst 1, 1) := by decide +kernel
theorem dX11_setBestOfMen_73 : decode cX11_setBestOfMen 73 = .ok (.invokevirtual 178, 3) := by decide +kernel
theorem dX11_setBestOfMen_76 : decode cX11_setBestOfMen 76 = .ok (.if_icmp .gt 185, 3) := by decide +kernel
theorem dX11_setBestOfMen_79 : decode cX11_setBestOfMen 79 = .ok (.lconst 0, 1) := by decide +kernel
theorem dX11_setBestOfMen_80 : decode cX11_setBestOfMen 80 = .ok (.lstore 5, 2) := by decide +kernel
theorem dX11_setBestOfMen_82 : decode cX11_setBestOfMen 82 = .ok (.iconst 0, 1) := by decide +kernel
theorem dX11_setBestOfMen_83 : decode cX11_setBestOfMen 83 = .ok (.istore 7, 2) := by decide +kernel
theorem dX11_setBestOfMen_85 : decode cX11_setBestOfMen 85 = .ok (.iload 7, 2) := by decide +kernel
theorem dX11_setBestOfMen_87 : decode cX11_setBestOfMen 87 = .ok (.bipush 12, 2) := by decide +kernel
theorem dX11_setBestOfMen_89 : decode cX11_setBestOfMen 89 = .ok (.if_icmp .gt 104, 3) := by decide +kernel
theorem dX11_setBestOfMen_92 : decode cX11_setBestOfMen 92 = .ok (.iload_n 3, 1) := by decide +kernel
theorem dX11_setBestOfMen_93 : decode cX11_setBestOfMen 93 = .ok (.aload_n 0, 1) := by decide +kernel
theorem dX11_setBestOfMen_94 : decode cX11_setBestOfMen 94 = .ok (.getfield 44, 3) := by decide +kernel
theorem dX11_setBestOfMen_97 : decode cX11_setBestOfMen 97 = .ok (.if_icmp .lt 96, 3) := by decide +kernel
theorem dX11_setBestOfMen_100 : decode cX11_setBestOfMen 100 = .ok (.aload_n 0, 1) := by decide +kernel
theorem dX11_setBestOfMen_101 : decode cX11_setBestOfMen 101 = .ok (.iload_n 1, 1) := by decide +kernel
theorem dX11_setBestOfMen_102 : decode cX11_setBestOfMen 102 = .ok (.iload 4, 2) := by decide +kernel
theorem dX11_setBestOfMen_104 : decode cX11_setBestOfMen 104 = .ok (.iload_n 3, 1) := by decide +kernel
theorem dX11_setBestOfMen_105 : decode cX11_setBestOfMen 105 = .ok (.iload 7, 2) := by decide +kernel
theorem dX11_setBestOfMen_107 : decode cX11_setBestOfMen 107 = .ok (.invokevirtual 239, 3) := by decide +kernel
theorem dX11_setBestOfMen_110 : decode cX11_setBestOfMen 110 = .ok (.istore 8, 2) := by decide +kernel
theorem dX11_setBestOfMen_112 : decode cX11_setBestOfMen 112 = .ok (.aload_n 0, 1) := by decide +kernel
theorem dX11_setBestOfMen_113 : decode cX11_setBestOfMen 113 = .ok (.iconst 0, 1) := by decide +kernel
theorem dX11_setBestOfMen_114 : decode cX11_setBestOfMen 114 = .ok (.iload_n 2, 1) := by decide +kernel
theorem dX11_setBestOfMen_115 : decode cX11_setBestOfMen 115 = .ok (.iload_n 3, 1) := by decide +kernel
theorem dX11_setBestOfMen_116 : decode cX11_setBestOfMen 116 = .ok (.iload 7, 2) := by decide +kernel
theorem dX11_setBestOfMen_118 : decode cX11_setBestOfMen 118 = .ok (.invokevirtual 208, 3) := by decide +kernel
theorem dX11_setBestOfMen_121 : decode cX11_setBestOfMen 121 = .ok (.aload_n 0, 1) := by decide +kernel
theorem dX11_setBestOfMen_122 : decode cX11_setBestOfMen 122 = .ok (.iconst 1, 1) := by decide +kernel
theorem dX11_setBestOfMen_123 : decode cX11_setBestOfMen 123 = .ok (.iload 8, 2) := by decide +kernel
theorem dX11_setBestOfMen_125 : decode cX11_setBestOfMen 125 = .ok (.invokevirtual 181, 3) := by decide +kernel
theorem dX11_setBestOfMen_128 : decode cX11_setBestOfMen 128 = .ok (.i2l, 1) := by decide +kernel
theorem dX11_setBestOfMen_129 : decode cX11_setBestOfMen 129 = .ok (.lmul, 1) := by decide +kernel
theorem dX11_setBestOfMen_130 : decode cX11_setBestOfMen 130 = .ok (.aload_n 0, 1) := by decide +kernel
theorem dX11_setBestOfMen_131 : decode cX11_setBestOfMen 131 = .ok (.invokevirtual 188, 3) := by decide +kernel
theorem dX11_setBestOfMen_134 : decode cX11_setBestOfMen 134 = .ok (.iload_n 3, 1) := by decide +kernel
theorem dX11_setBestOfMen_135 : decode cX11_setBestOfMen 135 = .ok (.isub, 1) := by decide +kernel
theorem dX11_setBestOfMen_136 : decode cX11_setBestOfMen 136 = .ok (.invokestatic 212, 3) := by decide +kernel
theorem dX11_setBestOfMen_139 : decode cX11_setBestOfMen 139 = .ok (.lmul, 1) := by decide +kernel
theorem dX11_setBestOfMen_140 : decode cX11_setBestOfMen 140 = .ok (.lstore 9, 2) := by decide +kernel
theorem dX11_setBestOfMen_142 : decode cX11_setBestOfMen 142 = .ok (.aload_n 0, 1) := by decide +kernel
theorem dX11_setBestOfMen_143 : decode cX11_setBestOfMen 143 = .ok (.getfield 69, 3) := by decide +kernel
theorem dX11_setBestOfMen_146 : decode cX11_setBestOfMen 146 = .ok (.bipush 8, 2) := by decide +kernel
theorem dX11_setBestOfMen_148 : decode cX11_setBestOfMen 148 = .ok (.iload_n 3, 1) := by decide +kernel
theorem dX11_setBestOfMen_149 : decode cX11_setBestOfMen 149 = .ok (.iconst 1, 1) := by decide +kernel
theorem dX11_setBestOfMen_150 : decode cX11_setBestOfMen 150 = .ok (.iadd, 1) := by decide +kernel
theorem dX11_setBestOfMen_151 : decode cX11_setBestOfMen 151 = .ok (.imul, 1) := by decide +kernel
theorem dX11_setBestOfMen_152 : decode cX11_setBestOfMen 152 = .ok (.iload 8, 2) := by decide +kernel
theorem dX11_setBestOfMen_154 : decode cX11_setBestOfMen 154 = .ok (.iadd, 1) := by decide +kernel
theorem dX11_setBestOfMen_155 : decode cX11_setBestOfMen 155 = .ok (.laload, 1) := by decide +kernel
theorem dX11_setBestOfMen_156 : decode cX11_setBestOfMen 156 = .ok (.lstore 11, 2) := by decide +kernel
theorem dX11_setBestOfMen_158 : decode cX11_setBestOfMen 158 = .ok (.lload 5, 2) := by decide +kernel
theorem dX11_setBestOfMen_160 : decode cX11_setBestOfMen 160 = .ok (.iload 8, 2) := by decide +kernel
theorem dX11_setBestOfMen_162 : decode cX11_setBestOfMen 162 = .ok (.ifCond .ne 7, 3) := by decide +kernel
theorem dX11_setBestOfMen_165 : decode cX11_setBestOfMen 165 = .ok (.lconst 0, 1) := by decide +kernel
theorem dX11_setBestOfMen_166 : decode cX11_setBestOfMen 166 = .ok (.goto 18, 3) := by decide +kernel
theorem dX11_setBestOfMen_169 : decode cX11_setBestOfMen 169 = .ok (.lload 9, 2) := by decide +kernel
theorem dX11_setBestOfMen_171 : decode cX11_setBestOfMen 171 = .ok (.lload 11, 2) := by decide +kernel
theorem dX11_setBestOfMen_173 : decode cX11_setBestOfMen 173 = .ok (.lcmp, 1) := by decide +kernel
theorem dX11_setBestOfMen_174 : decode cX11_setBestOfMen 174 = .ok (.ifCond .lt 8, 3) := by decide +kernel
theorem dX11_setBestOfMen_177 : decode cX11_setBestOfMen 177 = .ok (.lload 9, 2) := by decide +kernel
theorem dX11_setBestOfMen_179 : decode cX11_setBestOfMen 179 = .ok (.goto 5, 3) := by decide +kernel
theorem dX11_setBestOfMen_182 : decode cX11_setBestOfMen 182 = .ok (.lload 11, 2) := by decide +kernel
theorem dX11_setBestOfMen_184 : decode cX11_setBestOfMen 184 = .ok (.ladd, 1) := by decide +kernel
theorem dX11_setBestOfMen_185 : decode cX11_setBestOfMen 185 = .ok (.lstore 5, 2) := by decide +kernel
theorem dX11_setBestOfMen_187 : decode cX11_setBestOfMen 187 = .ok (.iinc 7 1, 3) := by decide +kernel
theorem dX11_setBestOfMen_190 : decode cX11_setBestOfMen 190 = .ok (.goto (-105), 3) := by decide +kernel
theorem dX11_setBestOfMen_193 : decode cX11_setBestOfMen 193 = .ok (.iload_n 3, 1) := by decide +kernel
theorem dX11_setBestOfMen_194 : decode cX11_setBestOfMen 194 = .ok (.aload_n 0, 1) := by decide +kernel
theorem dX11_setBestOfMen_195 : decode cX11_setBestOfMen 195 = .ok (.getfield 44, 3) := by decide +kernel
theorem dX11_setBestOfMen_198 : decode cX11_setBestOfMen 198 = .ok (.if_icmp .ge 20, 3) := by decide +kernel
theorem dX11_setBestOfMen_201 : decode cX11_setBestOfMen 201 = .ok (.aload_n 0, 1) := by decide +kernel
theorem dX11_setBestOfMen_202 : decode cX11_setBestOfMen 202 = .ok (.getfield 69, 3) := by decide +kernel
theorem dX11_setBestOfMen_205 : decode cX11_setBestOfMen 205 = .ok (.bipush 8, 2) := by decide +kernel
theorem dX11_setBestOfMen_207 : decode cX11_setBestOfMen 207 = .ok (.iload_n 3, 1) := by decide +kernel
theorem dX11_setBestOfMen_208 : decode cX11_setBestOfMen 208 = .ok (.iconst 1, 1) := by decide +kernel
theorem dX11_setBestOfMen_209 : decode cX11_setBestOfMen 209 = .ok (.iadd, 1) := by decide +kernel
theorem dX11_setBestOfMen_210 : decode cX11_setBestOfMen 210 = .ok (.imul, 1) := by decide +kernel
theorem dX11_setBestOfMen_211 : decode cX11_setBestOfMen 211 = .ok (.iload 4, 2) := by decide +kernel
theorem dX11_setBestOfMen_213 : decode cX11_setBestOfMen 213 = .ok (.iadd, 1) := by decide +kernel
theorem dX11_setBestOfMen_214 : decode cX11_setBestOfMen 214 = .ok (.laload, 1) := by decide +kernel
theorem dX11_setBestOfMen_215 : decode cX11_setBestOfMen 215 = .ok (.goto 5, 3) := by decide +kernel
theorem dX11_setBestOfMen_218 : decode cX11_setBestOfMen 218 = .ok (.lload 5, 2) := by decide +kernel
theorem dX11_setBestOfMen_220 : decode cX11_setBestOfMen 220 = .ok (.lstore 5, 2) := by decide +kernel
theorem dX11_setBestOfMen_222 : decode cX11_setBestOfMen 222 = .ok (.aload_n 0, 1) := by decide +kernel
theorem dX11_setBestOfMen_223 : decode cX11_setBestOfMen 223 = .ok (.getfield 69, 3) := by decide +kernel
theorem dX11_setBestOfMen_226 : decode cX11_setBestOfMen 226 = .ok (.bipush 8, 2) := by decide +kernel
theorem dX11_setBestOfMen_228 : decode cX11_setBestOfMen 228 = .ok (.iload_n 3, 1) := by decide +kernel
theorem dX11_setBestOfMen_229 : decode cX11_setBestOfMen 229 = .ok (.imul, 1) := by decide +kernel
theorem dX11_setBestOfMen_230 : decode cX11_setBestOfMen 230 = .ok (.iload 4, 2) := by decide +kernel
theorem dX11_setBestOfMen_232 : decode cX11_setBestOfMen 232 = .ok (.iadd, 1) := by decide +kernel
theorem dX11_setBestOfMen_233 : decode cX11_setBestOfMen 233 = .ok (.aload_n 0, 1) := by decide +kernel
theorem dX11_setBestOfMen_234 : decode cX11_setBestOfMen 234 = .ok (.iconst 0, 1) := by decide +kernel
theorem dX11_setBestOfMen_235 : decode cX11_setBestOfMen 235 = .ok (.iload_n 2, 1) := by decide +kernel
theorem dX11_setBestOfMen_236 : decode cX11_setBestOfMen 236 = .ok (.iload_n 3, 1) := by decide +kernel
theorem dX11_setBestOfMen_237 : decode cX11_setBestOfMen 237 = .ok (.iload 4, 2) := by decide +kernel
theorem dX11_setBestOfMen_239 : decode cX11_setBestOfMen 239 = .ok (.invokevirtual 242, 3) := by decide +kernel
theorem dX11_setBestOfMen_242 : decode cX11_setBestOfMen 242 = .ok (.bipush 12, 2) := by decide +kernel
theorem dX11_setBestOfMen_244 : decode cX11_setBestOfMen 244 = .ok (.aload_n 0, 1) := by decide +kernel
theorem dX11_setBestOfMen_245 : decode cX11_setBestOfMen 245 = .ok (.getfield 147, 3) := by decide +kernel
theorem dX11_setBestOfMen_248 : decode cX11_setBestOfMen 248 = .ok (.isub, 1) := by decide +kernel
theorem dX11_setBestOfMen_249 : decode cX11_setBestOfMen 249 = .ok (.i2l, 1) := by decide +kernel
theorem dX11_setBestOfMen_250 : decode cX11_setBestOfMen 250 = .ok (.lload 5, 2) := by decide +kernel
theorem dX11_setBestOfMen_252 : decode cX11_setBestOfMen 252 = .ok (.lmul, 1) := by decide +kernel
theorem dX11_setBestOfMen_253 : decode cX11_setBestOfMen 253 = .ok (.ladd, 1) := by decide +kernel
theorem dX11_setBestOfMen_254 : decode cX11_setBestOfMen 254 = .ok (.lastore, 1) := by decide +kernel
theorem dX11_setBestOfMen_255 : decode cX11_setBestOfMen 255 = .ok (.iinc 4 1, 3) := by decide +kernel
theorem dX11_setBestOfMen_258 : decode cX11_setBestOfMen 258 = .ok (.goto (-189), 3) := by decide +kernel
theorem dX11_setBestOfMen_261 : decode cX11_setBestOfMen 261 = .ok (.iinc 3 (-1), 3) := by decide +kernel
theorem dX11_setBestOfMen_264 : decode cX11_setBestOfMen 264 = .ok (.goto (-203), 3) := by decide +kernel
theorem dX11_setBestOfMen_267 : decode cX11_setBestOfMen 267 = .ok (.return_, 1) := by decide +kernel
set_option maxRecDepth 100000 in
set_option maxHeartbeats 4000000 in
theorem tb_X11_setBestOfMen_220 {K : sd_K} {E : sd_Env}   {r : sd_Mem} (C : sd_C K E sd_LM RX11 cX11_setBestOfMen 13 none)  {k61 : sd_Mem → Int32 → Int32 → Int32 → Option sd_Mem} (hk61 : ∀ (M : sd_Mem) (x1 : Int32) (x2 : Int32) (x3 : Int32), k61 M x1 x2 x3 = some r → sd_Z K rm_X11_setBestOfMen E sd_LM 13 (sd_QV K E sd_LM r) M 61 [(0, .ref (E.2.2 100)), (1, .int x1), (2, .int x2), (3, .int x3)] []) {k69 : sd_Mem → Int32 → Int32 → Int32 → Int32 → Option sd_Mem} (hk69 : ∀ (M : sd_Mem) (x1 : Int32) (x2 : Int32) (x3 : Int32) (x4 : Int32), k69 M x1 x2 x3 x4 = some r → sd_Z K rm_X11_setBestOfMen E sd_LM 13 (sd_QV K E sd_LM r) M 69 [(0, .ref (E.2.2 100)), (1, .int x1), (2, .int x2), (3, .int x3), (4, .int x4)] []) : ∀ (M : sd_Mem) (x1 : Int32) (x2 : Int32) (x3 : Int32) (x4 : Int32) (ls0 : Int64), fn_X11_setBestOfMen_220 k61 k69 M x1 x2 x3 x4 ls0 = some r → sd_Z K rm_X11_setBestOfMen E sd_LM 13 (sd_QV K E sd_LM r) M 220 [(0, .ref (E.2.2 100)), (1, .int x1), (2, .int x2), (3, .int x3), (4, .int x4)] [.long ls0] := by
  intro M x1 x2 x3 x4 ls0 hF
  unfold fn_X11_setBestOfMen_220 at hF
  refine sd_lstore [(5, .long ls0), (0, .ref (E.2.2 100)), (1, .int x1), (2, .int x2), (3, .int x3), (4, .int x4)] C dX11_setBestOfMen_220 (by decide) rfl rfl (n' := 222) ?_
  refine sd_aload_n C 1 dX11_setBestOfMen_222 rfl rfl rfl (n' := 223) ?_
  refine sd_g11_25 C sd_i100 sd_k100 sd_w1066 dX11_setBestOfMen_223 rfl (n' := 226) ?_
  refine sd_bipush C (v := 8) dX11_setBestOfMen_226 rfl rfl (n' := 228) ?_
  refine sd_iload_n C 4 dX11_setBestOfMen_228 rfl rfl rfl (n' := 229) ?_
  refine sd_imul C dX11_setBestOfMen_229 rfl (n' := 230) ?_
  refine sd_iload C 5 dX11_setBestOfMen_230 rfl rfl (n' := 232) ?_
  refine sd_iadd C dX11_setBestOfMen_232 rfl (n' := 233) ?_
  refine sd_aload_n C 1 dX11_setBestOfMen_233 rfl rfl rfl (n' := 234) ?_
  refine sd_iconst C (v := 0) dX11_setBestOfMen_234 rfl rfl (n' := 235) ?_
  refine sd_iload_n C 3 dX11_setBestOfMen_235 rfl rfl rfl (n' := 236) ?_
  refine sd_iload_n C 4 dX11_setBestOfMen_236 rfl rfl rfl (n' := 237) ?_
  refine sd_iload C 5 dX11_setBestOfMen_237 rfl rfl (n' := 239) ?_
  obtain ⟨q239, e239, hF⟩ := sd_bind hF
  refine sd_callVL [.int (0 : Int32), .int x2, .int x3, .int x4] [.int (((8 : Int32) * x3) + x4), .ref (E.2.2 117)] C (ct_X11_byJudge M (0 : Int32) x2 x3 x4  e239) sd_lX11_242 ⟨rfl, rfl, Nat.le_of_ble_eq_true rfl, Nat.le_of_ble_eq_true rfl⟩ sd_i100 (sd_e12 sd_k100) rfl rfl rfl (Nat.le_of_ble_eq_true rfl) dX11_setBestOfMen_239 rfl (n' := 242) ?_
  refine sd_bipush C (v := 12) dX11_setBestOfMen_242 rfl rfl (n' := 244) ?_
  refine sd_aload_n C 1 dX11_setBestOfMen_244 rfl rfl rfl (n' := 245) ?_
  refine sd_g11_15 C sd_i100 sd_k100 sd_w1056 dX11_setBestOfMen_245 rfl (n' := 248) ?_
  refine sd_isub C dX11_setBestOfMen_248 rfl (n' := 249) ?_
  refine sd_i2l C dX11_setBestOfMen_249 rfl (n' := 250) ?_
  refine sd_lload C 0 dX11_setBestOfMen_250 rfl rfl (n' := 252) ?_
  refine sd_lmul C dX11_setBestOfMen_252 rfl (n' := 253) ?_
  refine sd_ladd C dX11_setBestOfMen_253 rfl (n' := 254) ?_
  obtain ⟨b254, hF⟩ := sd_ok hF
  refine sd_last C sd_i117 sd_k117 sd_n117 b254 dX11_setBestOfMen_254 rfl (n' := 255) ?_
  refine sd_iinc [(4, .int (x4 + (1 : Int32))), (5, .long ls0), (0, .ref (E.2.2 100)), (1, .int x1), (2, .int x2), (3, .int x3)] 5 C dX11_setBestOfMen_255 rfl rfl (by decide) rfl rfl (n' := 258) ?_
  refine sd_goto C (tgt := 69) dX11_setBestOfMen_258 rfl ?_
  refine sd_sub [2, 3, 4, 5, 0] rfl ?_
  exact hk69 (sd_setL M 117 (((8 : Int32) * x3) + x4).toNatClampNeg (q239 + ((((12 : Int32) - (M.1 100 15)).toInt64) * ls0))) x1 x2 x3 (x4 + (1 : Int32)) hF
set_option maxRecDepth 100000 in
set_option maxHeartbeats 4000000 in
theorem tb_X11_setBestOfMen_193 {K : sd_K} {E : sd_Env}   {r : sd_Mem} (C : sd_C K E sd_LM RX11 cX11_setBestOfMen 13 none)  {k61 : sd_Mem → Int32 → Int32 → Int32 → Option sd_Mem} (hk61 : ∀ (M : sd_Mem) (x1 : Int32) (x2 : Int32) (x3 : Int32), k61 M x1 x2 x3 = some r → sd_Z K rm_X11_setBestOfMen E sd_LM 13 (sd_QV K E sd_LM r) M 61 [(0, .ref (E.2.2 100)), (1, .int x1), (2, .int x2), (3, .int x3)] []) {k69 : sd_Mem → Int32 → Int32 → Int32 → Int32 → Option sd_Mem} (hk69 : ∀ (M : sd_Mem) (x1 : Int32) (x2 : Int32) (x3 : Int32) (x4 : Int32), k69 M x1 x2 x3 x4 = some r → sd_Z K rm_X11_setBestOfMen E sd_LM 13 (sd_QV K E sd_LM r) M 69 [(0, .ref (E.2.2 100)), (1, .int x1), (2, .int x2), (3, .int x3), (4, .int x4)] []) : ∀ (M : sd_Mem) (x1 : Int32) (x2 : Int32) (x3 : Int32) (x4 : Int32) (l5 : Int64), fn_X11_setBestOfMen_193 k61 k69 M x1 x2 x3 x4 l5 = some r → sd_Z K rm_X11_setBestOfMen E sd_LM 13 (sd_QV K E sd_LM r) M 193 [(0, .ref (E.2.2 100)), (1, .int x1), (2, .int x2), (3, .int x3), (4, .int x4), (5, .long l5)] [] := by
  intro M x1 x2 x3 x4 l5 hF
  unfold fn_X11_setBestOfMen_193 at hF
  refine sd_iload_n C 3 dX11_setBestOfMen_193 rfl rfl rfl (n' := 194) ?_
  refine sd_aload_n C 0 dX11_setBestOfMen_194 rfl rfl rfl (n' := 195) ?_
  refine sd_g11_14 C sd_i100 sd_k100 sd_w1055 dX11_setBestOfMen_195 rfl (n' := 198) ?_
  refine sd_icmp_ge C (n' := 201) (tgt := 218) dX11_setBestOfMen_198 rfl rfl (fun c198 => ?_) (fun c198 => ?_)
  · replace hF := sd_pos hF c198
    refine sd_lload C 5 dX11_setBestOfMen_218 rfl rfl (n' := 220) ?_
    refine sd_sub [0, 1, 2, 3, 4] rfl ?_
    exact tb_X11_setBestOfMen_220 C hk61 hk69 M x1 x2 x3 x4 l5 hF
  · replace hF := sd_neg hF c198
    refine sd_aload_n C 0 dX11_setBestOfMen_201 rfl rfl rfl (n' := 202) ?_
    refine sd_g11_25 C sd_i100 sd_k100 sd_w1066 dX11_setBestOfMen_202 rfl (n' := 205) ?_
    refine sd_bipush C (v := 8) dX11_setBestOfMen_205 rfl rfl (n' := 207) ?_
    refine sd_iload_n C 3 dX11_setBestOfMen_207 rfl rfl rfl (n' := 208) ?_
    refine sd_iconst C (v := 1) dX11_setBestOfMen_208 rfl rfl (n' := 209) ?_
    refine sd_iadd C dX11_setBestOfMen_209 rfl (n' := 210) ?_
    refine sd_imul C dX11_setBestOfMen_210 rfl (n' := 211) ?_
    refine sd_iload C 4 dX11_setBestOfMen_211 rfl rfl (n' := 213) ?_
    refine sd_iadd C dX11_setBestOfMen_213 rfl (n' := 214) ?_
    obtain ⟨b214, hF⟩ := sd_ok hF
    refine sd_lald C sd_i117 sd_k117 sd_n117 b214 dX11_setBestOfMen_214 rfl (n' := 215) ?_
    refine sd_goto C (tgt := 220) dX11_setBestOfMen_215 rfl ?_
    refine sd_sub [0, 1, 2, 3, 4] rfl ?_
    exact tb_X11_setBestOfMen_220 C hk61 hk69 M x1 x2 x3 x4 (M.2 117 (((8 : Int32) * (x3 + (1 : Int32))) + x4).toNatClampNeg) hF
set_option maxRecDepth 100000 in
set_option maxHeartbeats 4000000 in
theorem tb_X11_setBestOfMen_85 {K : sd_K} {E : sd_Env}   {r : sd_Mem} (C : sd_C K E sd_LM RX11 cX11_setBestOfMen 13 none)  {k61 : sd_Mem → Int32 → Int32 → Int32 → Option sd_Mem} (hk61 : ∀ (M : sd_Mem) (x1 : Int32) (x2 : Int32) (x3 : Int32), k61 M x1 x2 x3 = some r → sd_Z K rm_X11_setBestOfMen E sd_LM 13 (sd_QV K E sd_LM r) M 61 [(0, .ref (E.2.2 100)), (1, .int x1), (2, .int x2), (3, .int x3)] []) {k69 : sd_Mem → Int32 → Int32 → Int32 → Int32 → Option sd_Mem} (hk69 : ∀ (M : sd_Mem) (x1 : Int32) (x2 : Int32) (x3 : Int32) (x4 : Int32), k69 M x1 x2 x3 x4 = some r → sd_Z K rm_X11_setBestOfMen E sd_LM 13 (sd_QV K E sd_LM r) M 69 [(0, .ref (E.2.2 100)), (1, .int x1), (2, .int x2), (3, .int x3), (4, .int x4)] []) : ∀ (n : Nat), ∀ (M : sd_Mem) (x1 : Int32) (x2 : Int32) (x3 : Int32) (x4 : Int32) (l5 : Int64) (x7 : Int32), fn_X11_setBestOfMen_85 k61 k69 n M x1 x2 x3 x4 l5 x7 = some r → sd_Z K rm_X11_setBestOfMen E sd_LM 13 (sd_QV K E sd_LM r) M 85 [(0, .ref (E.2.2 100)), (1, .int x1), (2, .int x2), (3, .int x3), (4, .int x4), (5, .long l5), (7, .int x7)] [] := by
  intro n
  induction n with
  | zero => intro M x1 x2 x3 x4 l5 x7 hF; cases hF
  | succ n ih =>
    intro M x1 x2 x3 x4 l5 x7 hF
    unfold fn_X11_setBestOfMen_85 at hF
    refine sd_iload C 6 dX11_setBestOfMen_85 rfl rfl (n' := 87) ?_
    refine sd_bipush C (v := 12) dX11_setBestOfMen_87 rfl rfl (n' := 89) ?_
    refine sd_icmp_gt C (n' := 92) (tgt := 193) dX11_setBestOfMen_89 rfl rfl (fun c89 => ?_) (fun c89 => ?_)
    · replace hF := sd_pos hF c89
      refine sd_sub [0, 1, 2, 3, 4, 5] rfl ?_
      exact tb_X11_setBestOfMen_193 C hk61 hk69 M x1 x2 x3 x4 l5 hF
    · replace hF := sd_neg hF c89
      refine sd_iload_n C 3 dX11_setBestOfMen_92 rfl rfl rfl (n' := 93) ?_
      refine sd_aload_n C 0 dX11_setBestOfMen_93 rfl rfl rfl (n' := 94) ?_
      refine sd_g11_14 C sd_i100 sd_k100 sd_w1055 dX11_setBestOfMen_94 rfl (n' := 97) ?_
      refine sd_icmp_lt C (n' := 100) (tgt := 193) dX11_setBestOfMen_97 rfl rfl (fun c97 => ?_) (fun c97 => ?_)
      · replace hF := sd_pos hF c97
        refine sd_sub [0, 1, 2, 3, 4, 5] rfl ?_
        exact tb_X11_setBestOfMen_193 C hk61 hk69 M x1 x2 x3 x4 l5 hF
      · replace hF := sd_neg hF c97
        refine sd_aload_n C 0 dX11_setBestOfMen_100 rfl rfl rfl (n' := 101) ?_
        refine sd_iload_n C 1 dX11_setBestOfMen_101 rfl rfl rfl (n' := 102) ?_
        refine sd_iload C 4 dX11_setBestOfMen_102 rfl rfl (n' := 104) ?_
        refine sd_iload_n C 3 dX11_setBestOfMen_104 rfl rfl rfl (n' := 105) ?_
        refine sd_iload C 6 dX11_setBestOfMen_105 rfl rfl (n' := 107) ?_
        obtain ⟨q107, e107, hF⟩ := sd_bind hF
        refine sd_callVI [.int x1, .int x4, .int x3, .int x7] [] C (ct_X11_offering M x1 x4 x3 x7  e107) sd_lX11_239 ⟨rfl, rfl, Nat.le_of_ble_eq_true rfl, Nat.le_of_ble_eq_true rfl⟩ sd_i100 (sd_e12 sd_k100) rfl rfl rfl (Nat.le_of_ble_eq_true rfl) dX11_setBestOfMen_107 rfl (n' := 110) ?_
        refine sd_istore [(8, .int q107), (0, .ref (E.2.2 100)), (1, .int x1), (2, .int x2), (3, .int x3), (4, .int x4), (5, .long l5), (7, .int x7)] C dX11_setBestOfMen_110 (by decide) rfl rfl (n' := 112) ?_
        refine sd_aload_n C 1 dX11_setBestOfMen_112 rfl rfl rfl (n' := 113) ?_
        refine sd_iconst C (v := 0) dX11_setBestOfMen_113 rfl rfl (n' := 114) ?_
        refine sd_iload_n C 3 dX11_setBestOfMen_114 rfl rfl rfl (n' := 115) ?_
        refine sd_iload_n C 4 dX11_setBestOfMen_115 rfl rfl rfl (n' := 116) ?_
        refine sd_iload C 7 dX11_setBestOfMen_116 rfl rfl (n' := 118) ?_
        obtain ⟨q118, e118, hF⟩ := sd_bind hF
        refine sd_callVL [.int (0 : Int32), .int x2, .int x3, .int x7] [] C (ct_X11_worthOf M (0 : Int32) x2 x3 x7  e118) sd_lX11_208 ⟨rfl, rfl, Nat.le_of_ble_eq_true rfl, Nat.le_of_ble_eq_true rfl⟩ sd_i100 (sd_e12 sd_k100) rfl rfl rfl (Nat.le_of_ble_eq_true rfl) dX11_setBestOfMen_118 rfl (n' := 121) ?_
        refine sd_aload_n C 1 dX11_setBestOfMen_121 rfl rfl rfl (n' := 122) ?_
        refine sd_iconst C (v := 1) dX11_setBestOfMen_122 rfl rfl (n' := 123) ?_
        refine sd_iload C 0 dX11_setBestOfMen_123 rfl rfl (n' := 125) ?_
        obtain ⟨q125, e125, hF⟩ := sd_bind hF
        refine sd_callVI [.int (1 : Int32), .int q107] [.long q118] C (ct_X11_chances M (1 : Int32) q107  e125) sd_lX11_181 ⟨rfl, rfl, Nat.le_of_ble_eq_true rfl, Nat.le_of_ble_eq_true rfl⟩ sd_i100 (sd_e12 sd_k100) rfl rfl rfl (Nat.le_of_ble_eq_true rfl) dX11_setBestOfMen_125 rfl (n' := 128) ?_
        refine sd_i2l C dX11_setBestOfMen_128 rfl (n' := 129) ?_
        refine sd_lmul C dX11_setBestOfMen_129 rfl (n' := 130) ?_
        refine sd_aload_n C 1 dX11_setBestOfMen_130 rfl rfl rfl (n' := 131) ?_
        obtain ⟨q131, e131, hF⟩ := sd_bind hF
        refine sd_callVI [] [.long (q118 * q125.toInt64)] C (ct_X11_last M   e131) sd_lX11_188 ⟨rfl, rfl, Nat.le_of_ble_eq_true rfl, Nat.le_of_ble_eq_true rfl⟩ sd_i100 (sd_e12 sd_k100) rfl rfl rfl (Nat.le_of_ble_eq_true rfl) dX11_setBestOfMen_131 rfl (n' := 134) ?_
        refine sd_iload_n C 4 dX11_setBestOfMen_134 rfl rfl rfl (n' := 135) ?_
        refine sd_isub C dX11_setBestOfMen_135 rfl (n' := 136) ?_
        obtain ⟨q136, e136, hF⟩ := sd_bind hF
        refine sd_callSL [.int (q131 - x3)] [.long (q118 * q125.toInt64)] C (ct_X11_twelve M (q131 - x3)  e136) sd_lX11_212 ⟨rfl, rfl, Nat.le_of_ble_eq_true rfl, Nat.le_of_ble_eq_true rfl⟩ rfl (Nat.le_of_ble_eq_true rfl) dX11_setBestOfMen_136 rfl (n' := 139) ?_
        refine sd_lmul C dX11_setBestOfMen_139 rfl (n' := 140) ?_
        refine sd_lstore [(9, .long ((q118 * q125.toInt64) * q136)), (8, .int q107), (0, .ref (E.2.2 100)), (1, .int x1), (2, .int x2), (3, .int x3), (4, .int x4), (5, .long l5), (7, .int x7)] C dX11_setBestOfMen_140 (by decide) rfl rfl (n' := 142) ?_
        refine sd_aload_n C 2 dX11_setBestOfMen_142 rfl rfl rfl (n' := 143) ?_
        refine sd_g11_25 C sd_i100 sd_k100 sd_w1066 dX11_setBestOfMen_143 rfl (n' := 146) ?_
        refine sd_bipush C (v := 8) dX11_setBestOfMen_146 rfl rfl (n' := 148) ?_
        refine sd_iload_n C 5 dX11_setBestOfMen_148 rfl rfl rfl (n' := 149) ?_
        refine sd_iconst C (v := 1) dX11_setBestOfMen_149 rfl rfl (n' := 150) ?_
        refine sd_iadd C dX11_setBestOfMen_150 rfl (n' := 151) ?_
        refine sd_imul C dX11_setBestOfMen_151 rfl (n' := 152) ?_
        refine sd_iload C 1 dX11_setBestOfMen_152 rfl rfl (n' := 154) ?_
        refine sd_iadd C dX11_setBestOfMen_154 rfl (n' := 155) ?_
        obtain ⟨b155, hF⟩ := sd_ok hF
        refine sd_lald C sd_i117 sd_k117 sd_n117 b155 dX11_setBestOfMen_155 rfl (n' := 156) ?_
        refine sd_lstore [(11, .long (M.2 117 (((8 : Int32) * (x3 + (1 : Int32))) + q107).toNatClampNeg)), (9, .long ((q118 * q125.toInt64) * q136)), (8, .int q107), (0, .ref (E.2.2 100)), (1, .int x1), (2, .int x2), (3, .int x3), (4, .int x4), (5, .long l5), (7, .int x7)] C dX11_setBestOfMen_156 (by decide) rfl rfl (n' := 158) ?_
        refine sd_lload C 8 dX11_setBestOfMen_158 rfl rfl (n' := 160) ?_
        refine sd_iload C 2 dX11_setBestOfMen_160 rfl rfl (n' := 162) ?_
        refine sd_if_ne C (n' := 165) (tgt := 169) dX11_setBestOfMen_162 rfl rfl (fun c162 => ?_) (fun c162 => ?_)
        · replace hF := sd_neg hF c162
          refine sd_lload C 1 dX11_setBestOfMen_169 rfl rfl (n' := 171) ?_
          refine sd_lload C 0 dX11_setBestOfMen_171 rfl rfl (n' := 173) ?_
          refine sd_lcmp C dX11_setBestOfMen_173 rfl (n' := 174) ?_
          refine sd_if_lt C (n' := 177) (tgt := 182) dX11_setBestOfMen_174 rfl rfl (fun c174 => ?_) (fun c174 => ?_)
          · replace hF := sd_pos hF c174
            refine sd_lload C 0 dX11_setBestOfMen_182 rfl rfl (n' := 184) ?_
            refine sd_ladd C dX11_setBestOfMen_184 rfl (n' := 185) ?_
            refine sd_lstore [(5, .long (l5 + (M.2 117 (((8 : Int32) * (x3 + (1 : Int32))) + q107).toNatClampNeg))), (11, .long (M.2 117 (((8 : Int32) * (x3 + (1 : Int32))) + q107).toNatClampNeg)), (9, .long ((q118 * q125.toInt64) * q136)), (8, .int q107), (0, .ref (E.2.2 100)), (1, .int x1), (2, .int x2), (3, .int x3), (4, .int x4), (7, .int x7)] C dX11_setBestOfMen_185 (by decide) rfl rfl (n' := 187) ?_
            refine sd_iinc [(7, .int (x7 + (1 : Int32))), (5, .long (l5 + (M.2 117 (((8 : Int32) * (x3 + (1 : Int32))) + q107).toNatClampNeg))), (11, .long (M.2 117 (((8 : Int32) * (x3 + (1 : Int32))) + q107).toNatClampNeg)), (9, .long ((q118 * q125.toInt64) * q136)), (8, .int q107), (0, .ref (E.2.2 100)), (1, .int x1), (2, .int x2), (3, .int x3), (4, .int x4)] 9 C dX11_setBestOfMen_187 rfl rfl (by decide) rfl rfl (n' := 190) ?_
            refine sd_goto C (tgt := 85) dX11_setBestOfMen_190 rfl ?_
            refine sd_sub [5, 6, 7, 8, 9, 1, 0] rfl ?_
            exact ih M x1 x2 x3 x4 (l5 + (M.2 117 (((8 : Int32) * (x3 + (1 : Int32))) + q107).toNatClampNeg)) (x7 + (1 : Int32)) hF
          · replace hF := sd_neg hF c174
            refine sd_lload C 1 dX11_setBestOfMen_177 rfl rfl (n' := 179) ?_
            refine sd_goto C (tgt := 184) dX11_setBestOfMen_179 rfl ?_
            refine sd_ladd C dX11_setBestOfMen_184 rfl (n' := 185) ?_
            refine sd_lstore [(5, .long (l5 + ((q118 * q125.toInt64) * q136))), (11, .long (M.2 117 (((8 : Int32) * (x3 + (1 : Int32))) + q107).toNatClampNeg)), (9, .long ((q118 * q125.toInt64) * q136)), (8, .int q107), (0, .ref (E.2.2 100)), (1, .int x1), (2, .int x2), (3, .int x3), (4, .int x4), (7, .int x7)] C dX11_setBestOfMen_185 (by decide) rfl rfl (n' := 187) ?_
            refine sd_iinc [(7, .int (x7 + (1 : Int32))), (5, .long (l5 + ((q118 * q125.toInt64) * q136))), (11, .long (M.2 117 (((8 : Int32) * (x3 + (1 : Int32))) + q107).toNatClampNeg)), (9, .long ((q118 * q125.toInt64) * q136)), (8, .int q107), (0, .ref (E.2.2 100)), (1, .int x1), (2, .int x2), (3, .int x3), (4, .int x4)] 9 C dX11_setBestOfMen_187 rfl rfl (by decide) rfl rfl (n' := 190) ?_
            refine sd_goto C (tgt := 85) dX11_setBestOfMen_190 rfl ?_
            refine sd_sub [5, 6, 7, 8, 9, 1, 0] rfl ?_
            exact ih M x1 x2 x3 x4 (l5 + ((q118 * q125.toInt64) * q136)) (x7 + (1 : Int32)) hF
        · replace hF := sd_pos hF c162
          refine sd_lconst C (v := 0) dX11_setBestOfMen_165 rfl rfl (n' := 166) ?_
          refine sd_goto C (tgt := 184) dX11_setBestOfMen_166 rfl ?_
          refine sd_ladd C dX11_setBestOfMen_184 rfl (n' := 185) ?_
          refine sd_lstore [(5, .long (l5 + (0 : Int64))), (11, .long (M.2 117 (((8 : Int32) * (x3 + (1 : Int32))) + q107).toNatClampNeg)), (9, .long ((q118 * q125.toInt64) * q136)), (8, .int q107), (0, .ref (E.2.2 100)), (1, .int x1), (2, .int x2), (3, .int x3), (4, .int x4), (7, .int x7)] C dX11_setBestOfMen_185 (by decide) rfl rfl (n' := 187) ?_
          refine sd_iinc [(7, .int (x7 + (1 : Int32))), (5, .long (l5 + (0 : Int64))), (11, .long (M.2 117 (((8 : Int32) * (x3 + (1 : Int32))) + q107).toNatClampNeg)), (9, .long ((q118 * q125.toInt64) * q136)), (8, .int q107), (0, .ref (E.2.2 100)), (1, .int x1), (2, .int x2), (3, .int x3), (4, .int x4)] 9 C dX11_setBestOfMen_187 rfl rfl (by decide) rfl rfl (n' := 190) ?_
          refine sd_goto C (tgt := 85) dX11_setBestOfMen_190 rfl ?_
          refine sd_sub [5, 6, 7, 8, 9, 1, 0] rfl ?_
          exact ih M x1 x2 x3 x4 (l5 + (0 : Int64)) (x7 + (1 : Int32)) hF
set_option maxRecDepth 100000 in
set_option maxHeartbeats 4000000 in
theorem tb_X11_setBestOfMen_69 {K : sd_K} {E : sd_Env}   {r : sd_Mem} (C : sd_C K E sd_LM RX11 cX11_setBestOfMen 13 none)  {k61 : sd_Mem → Int32 → Int32 → Int32 → Option sd_Mem} (hk61 : ∀ (M : sd_Mem) (x1 : Int32) (x2 : Int32) (x3 : Int32), k61 M x1 x2 x3 = some r → sd_Z K rm_X11_setBestOfMen E sd_LM 13 (sd_QV K E sd_LM r) M 61 [(0, .ref (E.2.2 100)), (1, .int x1), (2, .int x2), (3, .int x3)] []) : ∀ (n : Nat), ∀ (M : sd_Mem) (x1 : Int32) (x2 : Int32) (x3 : Int32) (x4 : Int32), fn_X11_setBestOfMen_69 k61 n M x1 x2 x3 x4 = some r → sd_Z K rm_X11_setBestOfMen E sd_LM 13 (sd_QV K E sd_LM r) M 69 [(0, .ref (E.2.2 100)), (1, .int x1), (2, .int x2), (3, .int x3), (4, .int x4)] [] := by
  intro n
  induction n with
  | zero => intro M x1 x2 x3 x4 hF; cases hF
  | succ n ih =>
    intro M x1 x2 x3 x4 hF
    unfold fn_X11_setBestOfMen_69 at hF
    refine sd_iload C 4 dX11_setBestOfMen_69 rfl rfl (n' := 71) ?_
    refine sd_aload_n C 0 dX11_setBestOfMen_71 rfl rfl rfl (n' := 72) ?_
    refine sd_iconst C (v := 1) dX11_setBestOfMen_72 rfl rfl (n' := 73) ?_
    obtain ⟨q73, e73, hF⟩ := sd_bind hF
    refine sd_callVI [.int (1 : Int32)] [.int x4] C (ct_X11_whoAll M (1 : Int32)  e73) sd_lX11_178 ⟨rfl, rfl, Nat.le_of_ble_eq_true rfl, Nat.le_of_ble_eq_true rfl⟩ sd_i100 (sd_e12 sd_k100) rfl rfl rfl (Nat.le_of_ble_eq_true rfl) dX11_setBestOfMen_73 rfl (n' := 76) ?_
    refine sd_icmp_gt C (n' := 79) (tgt := 261) dX11_setBestOfMen_76 rfl rfl (fun c76 => ?_) (fun c76 => ?_)
    · replace hF := sd_pos hF c76
      refine sd_iinc [(3, .int (x3 + (-1 : Int32))), (0, .ref (E.2.2 100)), (1, .int x1), (2, .int x2), (4, .int x4)] 3 C dX11_setBestOfMen_261 rfl rfl (by decide) rfl rfl (n' := 264) ?_
      refine sd_goto C (tgt := 61) dX11_setBestOfMen_264 rfl ?_
      refine sd_sub [1, 2, 3, 0] rfl ?_
      exact hk61 M x1 x2 (x3 + (-1 : Int32)) hF
    · replace hF := sd_neg hF c76
      refine sd_lconst C (v := 0) dX11_setBestOfMen_79 rfl rfl (n' := 80) ?_
      refine sd_lstore [(5, .long (0 : Int64)), (0, .ref (E.2.2 100)), (1, .int x1), (2, .int x2), (3, .int x3), (4, .int x4)] C dX11_setBestOfMen_80 (by decide) rfl rfl (n' := 82) ?_
      refine sd_iconst C (v := 0) dX11_setBestOfMen_82 rfl rfl (n' := 83) ?_
      refine sd_istore [(7, .int (0 : Int32)), (5, .long (0 : Int64)), (0, .ref (E.2.2 100)), (1, .int x1), (2, .int x2), (3, .int x3), (4, .int x4)] C dX11_setBestOfMen_83 (by decide) rfl rfl (n' := 85) ?_
      refine sd_sub [2, 3, 4, 5, 6, 1, 0] rfl ?_
      exact tb_X11_setBestOfMen_85 C hk61 ih sd_FU M x1 x2 x3 x4 (0 : Int64) (0 : Int32) hF
set_option maxRecDepth 100000 in
set_option maxHeartbeats 4000000 in
theorem tb_X11_setBestOfMen_61 {K : sd_K} {E : sd_Env}   {r : sd_Mem} (C : sd_C K E sd_LM RX11 cX11_setBestOfMen 13 none)  : ∀ (n : Nat), ∀ (M : sd_Mem) (x1 : Int32) (x2 : Int32) (x3 : Int32), fn_X11_setBestOfMen_61 n M x1 x2 x3 = some r → sd_Z K rm_X11_setBestOfMen E sd_LM 13 (sd_QV K E sd_LM r) M 61 [(0, .ref (E.2.2 100)), (1, .int x1), (2, .int x2), (3, .int x3)] [] := by
  intro n
  induction n with
  | zero => intro M x1 x2 x3 hF; cases hF
  | succ n ih =>
    intro M x1 x2 x3 hF
    unfold fn_X11_setBestOfMen_61 at hF
    refine sd_iload_n C 3 dX11_setBestOfMen_61 rfl rfl rfl (n' := 62) ?_
    refine sd_iconst C (v := 1) dX11_setBestOfMen_62 rfl rfl (n' := 63) ?_
    refine sd_icmp_lt C (n' := 66) (tgt := 267) dX11_setBestOfMen_63 rfl rfl (fun c63 => ?_) (fun c63 => ?_)
    · replace hF := sd_pos hF c63
      exact sd_vret C dX11_setBestOfMen_267 (Option.some.inj hF)
    · replace hF := sd_neg hF c63
      refine sd_iconst C (v := 0) dX11_setBestOfMen_66 rfl rfl (n' := 67) ?_
      refine sd_istore [(4, .int (0 : Int32)), (0, .ref (E.2.2 100)), (1, .int x1), (2, .int x2), (3, .int x3)] C dX11_setBestOfMen_67 (by decide) rfl rfl (n' := 69) ?_
      refine sd_sub [1, 2, 3, 4, 0] rfl ?_
      exact tb_X11_setBestOfMen_69 C ih sd_FU M x1 x2 x3 (0 : Int32) hF
set_option maxRecDepth 100000 in
set_option maxHeartbeats 4000000 in
theorem tb_X11_setBestOfMen_2 {K : sd_K} {E : sd_Env}   {r : sd_Mem} (C : sd_C K E sd_LM RX11 cX11_setBestOfMen 13 none)  : ∀ (n : Nat), ∀ (M : sd_Mem) (x1 : Int32) (x2 : Int32) (x3 : Int32), fn_X11_setBestOfMen_2 n M x1 x2 x3 = some r → sd_Z K rm_X11_setBestOfMen E sd_LM 13 (sd_QV K E sd_LM r) M 2 [(0, .ref (E.2.2 100)), (1, .int x1), (2, .int x2), (3, .int x3)] [] := by
  intro n
  induction n with
  | zero => intro M x1 x2 x3 hF; cases hF
  | succ n ih =>
    intro M x1 x2 x3 hF
    unfold fn_X11_setBestOfMen_2 at hF
    refine sd_iload_n C 3 dX11_setBestOfMen_2 rfl rfl rfl (n' := 3) ?_
    refine sd_bipush C (v := 8) dX11_setBestOfMen_3 rfl rfl (n' := 5) ?_
    refine sd_icmp_ge C (n' := 8) (tgt := 56) dX11_setBestOfMen_5 rfl rfl (fun c5 => ?_) (fun c5 => ?_)
    · replace hF := sd_pos hF c5
      refine sd_aload_n C 0 dX11_setBestOfMen_56 rfl rfl rfl (n' := 57) ?_
      obtain ⟨q57, e57, hF⟩ := sd_bind hF
      refine sd_callVI [] [] C (ct_X11_last M   e57) sd_lX11_188 ⟨rfl, rfl, Nat.le_of_ble_eq_true rfl, Nat.le_of_ble_eq_true rfl⟩ sd_i100 (sd_e12 sd_k100) rfl rfl rfl (Nat.le_of_ble_eq_true rfl) dX11_setBestOfMen_57 rfl (n' := 60) ?_
      refine sd_istore_n [(3, .int q57), (0, .ref (E.2.2 100)), (1, .int x1), (2, .int x2)] C dX11_setBestOfMen_60 rfl (by decide) rfl rfl (n' := 61) ?_
      refine sd_sub [1, 2, 3, 0] rfl ?_
      exact tb_X11_setBestOfMen_61 C sd_FU M x1 x2 q57 hF
    · replace hF := sd_neg hF c5
      refine sd_aload_n C 0 dX11_setBestOfMen_8 rfl rfl rfl (n' := 9) ?_
      refine sd_g11_25 C sd_i100 sd_k100 sd_w1066 dX11_setBestOfMen_9 rfl (n' := 12) ?_
      refine sd_bipush C (v := 8) dX11_setBestOfMen_12 rfl rfl (n' := 14) ?_
      refine sd_aload_n C 0 dX11_setBestOfMen_14 rfl rfl rfl (n' := 15) ?_
      obtain ⟨q15, e15, hF⟩ := sd_bind hF
      refine sd_callVI [] [.int (8 : Int32), .ref (E.2.2 117)] C (ct_X11_last M   e15) sd_lX11_188 ⟨rfl, rfl, Nat.le_of_ble_eq_true rfl, Nat.le_of_ble_eq_true rfl⟩ sd_i100 (sd_e12 sd_k100) rfl rfl rfl (Nat.le_of_ble_eq_true rfl) dX11_setBestOfMen_15 rfl (n' := 18) ?_
      refine sd_iconst C (v := 1) dX11_setBestOfMen_18 rfl rfl (n' := 19) ?_
      refine sd_iadd C dX11_setBestOfMen_19 rfl (n' := 20) ?_
      refine sd_imul C dX11_setBestOfMen_20 rfl (n' := 21) ?_
      refine sd_iload_n C 3 dX11_setBestOfMen_21 rfl rfl rfl (n' := 22) ?_
      refine sd_iadd C dX11_setBestOfMen_22 rfl (n' := 23) ?_
      refine sd_aload_n C 0 dX11_setBestOfMen_23 rfl rfl rfl (n' := 24) ?_
      refine sd_iconst C (v := 0) dX11_setBestOfMen_24 rfl rfl (n' := 25) ?_
      refine sd_iload_n C 2 dX11_setBestOfMen_25 rfl rfl rfl (n' := 26) ?_
      refine sd_aload_n C 0 dX11_setBestOfMen_26 rfl rfl rfl (n' := 27) ?_
      obtain ⟨q27, e27, hF⟩ := sd_bind hF
      refine sd_callVI [] [.int x2, .int (0 : Int32), .ref (E.2.2 100), .int (((8 : Int32) * (q15 + (1 : Int32))) + x3), .ref (E.2.2 117)] C (ct_X11_last M   e27) sd_lX11_188 ⟨rfl, rfl, Nat.le_of_ble_eq_true rfl, Nat.le_of_ble_eq_true rfl⟩ sd_i100 (sd_e12 sd_k100) rfl rfl rfl (Nat.le_of_ble_eq_true rfl) dX11_setBestOfMen_27 rfl (n' := 30) ?_
      refine sd_iconst C (v := 1) dX11_setBestOfMen_30 rfl rfl (n' := 31) ?_
      refine sd_iadd C dX11_setBestOfMen_31 rfl (n' := 32) ?_
      refine sd_aload_n C 0 dX11_setBestOfMen_32 rfl rfl rfl (n' := 33) ?_
      refine sd_g11_13 C sd_i100 sd_k100 sd_w1054 dX11_setBestOfMen_33 rfl (n' := 36) ?_
      refine sd_iconst C (v := 3) dX11_setBestOfMen_36 rfl rfl (n' := 37) ?_
      obtain ⟨b37, hF⟩ := sd_ok hF
      refine sd_iald C sd_i110 sd_k110 sd_n110 b37 dX11_setBestOfMen_37 rfl (n' := 38) ?_
      obtain ⟨q38, e38, hF⟩ := sd_bind hF
      refine sd_callVL [.int (0 : Int32), .int x2, .int (q27 + (1 : Int32)), .int (M.1 110 (3 : Int32).toNatClampNeg)] [.int (((8 : Int32) * (q15 + (1 : Int32))) + x3), .ref (E.2.2 117)] C (ct_X11_worthOf M (0 : Int32) x2 (q27 + (1 : Int32)) (M.1 110 (3 : Int32).toNatClampNeg)  e38) sd_lX11_208 ⟨rfl, rfl, Nat.le_of_ble_eq_true rfl, Nat.le_of_ble_eq_true rfl⟩ sd_i100 (sd_e12 sd_k100) rfl rfl rfl (Nat.le_of_ble_eq_true rfl) dX11_setBestOfMen_38 rfl (n' := 41) ?_
      refine sd_aload_n C 0 dX11_setBestOfMen_41 rfl rfl rfl (n' := 42) ?_
      refine sd_iconst C (v := 1) dX11_setBestOfMen_42 rfl rfl (n' := 43) ?_
      refine sd_iload_n C 3 dX11_setBestOfMen_43 rfl rfl rfl (n' := 44) ?_
      obtain ⟨q44, e44, hF⟩ := sd_bind hF
      refine sd_callVI [.int (1 : Int32), .int x3] [.long q38, .int (((8 : Int32) * (q15 + (1 : Int32))) + x3), .ref (E.2.2 117)] C (ct_X11_chances M (1 : Int32) x3  e44) sd_lX11_181 ⟨rfl, rfl, Nat.le_of_ble_eq_true rfl, Nat.le_of_ble_eq_true rfl⟩ sd_i100 (sd_e12 sd_k100) rfl rfl rfl (Nat.le_of_ble_eq_true rfl) dX11_setBestOfMen_44 rfl (n' := 47) ?_
      refine sd_i2l C dX11_setBestOfMen_47 rfl (n' := 48) ?_
      refine sd_lmul C dX11_setBestOfMen_48 rfl (n' := 49) ?_
      obtain ⟨b49, hF⟩ := sd_ok hF
      refine sd_last C sd_i117 sd_k117 sd_n117 b49 dX11_setBestOfMen_49 rfl (n' := 50) ?_
      refine sd_iinc [(3, .int (x3 + (1 : Int32))), (0, .ref (E.2.2 100)), (1, .int x1), (2, .int x2)] 3 C dX11_setBestOfMen_50 rfl rfl (by decide) rfl rfl (n' := 53) ?_
      refine sd_goto C (tgt := 2) dX11_setBestOfMen_53 rfl ?_
      refine sd_sub [1, 2, 3, 0] rfl ?_
      exact ih (sd_setL M 117 (((8 : Int32) * (q15 + (1 : Int32))) + x3).toNatClampNeg (q38 * q44.toInt64)) x1 x2 (x3 + (1 : Int32)) hF
set_option maxRecDepth 100000 in
set_option maxHeartbeats 4000000 in
theorem tb_X11_setBestOfMen_0 {K : sd_K} {E : sd_Env}   {r : sd_Mem} (C : sd_C K E sd_LM RX11 cX11_setBestOfMen 13 none)  : ∀ (M : sd_Mem) (x1 : Int32) (x2 : Int32), fn_X11_setBestOfMen_0 M x1 x2 = some r → sd_Z K rm_X11_setBestOfMen E sd_LM 13 (sd_QV K E sd_LM r) M 0 [(0, .ref (E.2.2 100)), (1, .int x1), (2, .int x2)] [] := by
  intro M x1 x2 hF
  unfold fn_X11_setBestOfMen_0 at hF
  refine sd_iconst C (v := 0) dX11_setBestOfMen_0 rfl rfl (n' := 1) ?_
  refine sd_istore_n [(3, .int (0 : Int32)), (0, .ref (E.2.2 100)), (1, .int x1), (2, .int x2)] C dX11_setBestOfMen_1 rfl (by decide) rfl rfl (n' := 2) ?_
  refine sd_sub [1, 2, 3, 0] rfl ?_
  exact tb_X11_setBestOfMen_2 C sd_FU M x1 x2 (0 : Int32) hF
theorem ct_X11_setBestOfMen {l : Launch} {E : sd_Env} (M : sd_Mem) (x1 : Int32) (x2 : Int32)  {r : sd_Mem} (hF : fn_X11_setBestOfMen M x1 x2 = some r) : sd_MV l E sd_LM yX11_setBestOfMen cX11_setBestOfMen 13 none rm_X11_setBestOfMen [.ref (E.2.2 100), .int x1, .int x2] M r := sd_ent0 (by decide +kernel) (Nat.le_of_ble_eq_true rfl) (fun p e s m below meth c C => tb_X11_setBestOfMen_0 C M x1 x2 hF)
theorem dX11_taking_0 : decode cX11_taking 0 = .ok (.iconst 0, 1) := by decide +kernel
theorem dX11_taking_1 : decode cX11_taking 1 = .ok (.istore 5, 2) := by decide +kernel
theorem dX11_taking_3 : decode cX11_taking 3 = .ok (.iconst 0, 1) := by decide +kernel
theorem dX11_taking_4 : decode cX11_taking 4 = .ok (.istore 6, 2) := by decide +kernel
theorem dX11_taking_6 : decode cX11_taking 6 = .ok (.iload 6, 2) := by decide +kernel
theorem dX11_taking_8 : decode cX11_taking 8 = .ok (.aload_n 0, 1) := by decide +kernel
theorem dX11_taking_9 : decode cX11_taking 9 = .ok (.getfield 32, 3) := by decide +kernel
theorem dX11_taking_12 : decode cX11_taking 12 = .ok (.iconst 0, 1) := by decide +kernel
theorem dX11_taking_13 : decode cX11_taking 13 = .ok (.iaload, 1) := by decide +kernel
theorem dX11_taking_14 : decode cX11_taking 14 = .ok (.if_icmp .ge 44, 3) := by decide +kernel
theorem dX11_taking_17 : decode cX11_taking 17 = .ok (.iload 5, 2) := by decide +kernel
theorem dX11_taking_19 : decode cX11_taking 19 = .ok (.iload_n 2, 1) := by decide +kernel
theorem dX11_taking_20 : decode cX11_taking 20 = .ok (.iload 6, 2) := by decide +kernel
theorem dX11_taking_22 : decode cX11_taking 22 = .ok (.invokestatic 159, 3) := by decide +kernel
theorem dX11_taking_25 : decode cX11_taking 25 = .ok (.ifCond .eq 23, 3) := by decide +kernel
theorem dX11_taking_28 : decode cX11_taking 28 = .ok (.iload 4, 2) := by decide +kernel
theorem dX11_taking_30 : decode cX11_taking 30 = .ok (.aload_n 0, 1) := by decide +kernel
theorem dX11_taking_31 : decode cX11_taking 31 = .ok (.iload_n 1, 1) := by decide +kernel
theorem dX11_taking_32 : decode cX11_taking 32 = .ok (.iload 6, 2) := by decide +kernel
theorem dX11_taking_34 : decode cX11_taking 34 = .ok (.iload_n 3, 1) := by decide +kernel
theorem dX11_taking_35 : decode cX11_taking 35 = .ok (.invokevirtual 174, 3) := by decide +kernel
theorem dX11_taking_38 : decode cX11_taking 38 = .ok (.if_icmp .lt 10, 3) := by decide +kernel
theorem dX11_taking_41 : decode cX11_taking 41 = .ok (.iconst 1, 1) := by decide +kernel
theorem dX11_taking_42 : decode cX11_taking 42 = .ok (.iload 6, 2) := by decide +kernel
theorem dX11_taking_44 : decode cX11_taking 44 = .ok (.ishl, 1) := by decide +kernel
theorem dX11_taking_45 : decode cX11_taking 45 = .ok (.goto 4, 3) := by decide +kernel
theorem dX11_taking_48 : decode cX11_taking 48 = .ok (.iconst 0, 1) := by decide +kernel
theorem dX11_taking_49 : decode cX11_taking 49 = .ok (.ior, 1) := by decide +kernel
theorem dX11_taking_50 : decode cX11_taking 50 = .ok (.istore 5, 2) := by decide +kernel
theorem dX11_taking_52 : decode cX11_taking 52 = .ok (.iinc 6 1, 3) := by decide +kernel
theorem dX11_taking_55 : decode cX11_taking 55 = .ok (.goto (-49), 3) := by decide +kernel
theorem dX11_taking_58 : decode cX11_taking 58 = .ok (.iload 5, 2) := by decide +kernel
theorem dX11_taking_60 : decode cX11_taking 60 = .ok (.ireturn, 1) := by decide +kernel
set_option maxRecDepth 100000 in
set_option maxHeartbeats 4000000 in
theorem tb_X11_taking_6 {K : sd_K} {E : sd_Env} {M : sd_Mem}  {r : Int32} (C : sd_C K E sd_LM RX11 cX11_taking 7 (some .int))  : ∀ (n : Nat), ∀ (x1 : Int32) (x2 : Int32) (x3 : Int32) (x4 : Int32) (x5 : Int32) (x6 : Int32), fn_X11_taking_6 M n x1 x2 x3 x4 x5 x6 = some r → sd_Z K rm_X11_taking E sd_LM 7 (sd_QI K E sd_LM r M) M 6 [(0, .ref (E.2.2 100)), (1, .int x1), (2, .int x2), (3, .int x3), (4, .int x4), (5, .int x5), (6, .int x6)] [] := by
  intro n
  induction n with
  | zero => intro x1 x2 x3 x4 x5 x6 hF; cases hF
  | succ n ih =>
    intro x1 x2 x3 x4 x5 x6 hF
    unfold fn_X11_taking_6 at hF
    refine sd_iload C 6 dX11_taking_6 rfl rfl (n' := 8) ?_
    refine sd_aload_n C 0 dX11_taking_8 rfl rfl rfl (n' := 9) ?_
    refine sd_g11_10 C sd_i100 sd_k100 sd_w1051 dX11_taking_9 rfl (n' := 12) ?_
    refine sd_iconst C (v := 0) dX11_taking_12 rfl rfl (n' := 13) ?_
    obtain ⟨b13, hF⟩ := sd_ok hF
    refine sd_iald C sd_i107 sd_k107 sd_n107 b13 dX11_taking_13 rfl (n' := 14) ?_
    refine sd_icmp_ge C (n' := 17) (tgt := 58) dX11_taking_14 rfl rfl (fun c14 => ?_) (fun c14 => ?_)
    · replace hF := sd_pos hF c14
      refine sd_iload C 5 dX11_taking_58 rfl rfl (n' := 60) ?_
      exact sd_iret C dX11_taking_60 (Option.some.inj hF) rfl
    · replace hF := sd_neg hF c14
      refine sd_iload C 5 dX11_taking_17 rfl rfl (n' := 19) ?_
      refine sd_iload_n C 2 dX11_taking_19 rfl rfl rfl (n' := 20) ?_
      refine sd_iload C 6 dX11_taking_20 rfl rfl (n' := 22) ?_
      obtain ⟨q22, e22, hF⟩ := sd_bind hF
      refine sd_callSI [.int x2, .int x6] [.int x5] C (ct_X11_isIn M x2 x6  e22) sd_lX11_159 ⟨rfl, rfl, Nat.le_of_ble_eq_true rfl, Nat.le_of_ble_eq_true rfl⟩ rfl (Nat.le_of_ble_eq_true rfl) dX11_taking_22 rfl (n' := 25) ?_
      refine sd_if_eq C (n' := 28) (tgt := 48) dX11_taking_25 rfl rfl (fun c25 => ?_) (fun c25 => ?_)
      · replace hF := sd_pos hF c25
        refine sd_iconst C (v := 0) dX11_taking_48 rfl rfl (n' := 49) ?_
        refine sd_ior C dX11_taking_49 rfl (n' := 50) ?_
        refine sd_istore [(5, .int (x5 ||| (0 : Int32))), (0, .ref (E.2.2 100)), (1, .int x1), (2, .int x2), (3, .int x3), (4, .int x4), (6, .int x6)] C dX11_taking_50 (by decide) rfl rfl (n' := 52) ?_
        refine sd_iinc [(6, .int (x6 + (1 : Int32))), (5, .int (x5 ||| (0 : Int32))), (0, .ref (E.2.2 100)), (1, .int x1), (2, .int x2), (3, .int x3), (4, .int x4)] 6 C dX11_taking_52 rfl rfl (by decide) rfl rfl (n' := 55) ?_
        refine sd_goto C (tgt := 6) dX11_taking_55 rfl ?_
        refine sd_sub [2, 3, 4, 5, 6, 1, 0] rfl ?_
        exact ih x1 x2 x3 x4 (x5 ||| (0 : Int32)) (x6 + (1 : Int32)) hF
      · replace hF := sd_neg hF c25
        refine sd_iload C 4 dX11_taking_28 rfl rfl (n' := 30) ?_
        refine sd_aload_n C 0 dX11_taking_30 rfl rfl rfl (n' := 31) ?_
        refine sd_iload_n C 1 dX11_taking_31 rfl rfl rfl (n' := 32) ?_
        refine sd_iload C 6 dX11_taking_32 rfl rfl (n' := 34) ?_
        refine sd_iload_n C 3 dX11_taking_34 rfl rfl rfl (n' := 35) ?_
        obtain ⟨q35, e35, hF⟩ := sd_bind hF
        refine sd_callVI [.int x1, .int x6, .int x3] [.int x4, .int x5] C (ct_X11_number M x1 x6 x3  e35) sd_lX11_174 ⟨rfl, rfl, Nat.le_of_ble_eq_true rfl, Nat.le_of_ble_eq_true rfl⟩ sd_i100 (sd_e12 sd_k100) rfl rfl rfl (Nat.le_of_ble_eq_true rfl) dX11_taking_35 rfl (n' := 38) ?_
        refine sd_icmp_lt C (n' := 41) (tgt := 48) dX11_taking_38 rfl rfl (fun c38 => ?_) (fun c38 => ?_)
        · replace hF := sd_pos hF c38
          refine sd_iconst C (v := 0) dX11_taking_48 rfl rfl (n' := 49) ?_
          refine sd_ior C dX11_taking_49 rfl (n' := 50) ?_
          refine sd_istore [(5, .int (x5 ||| (0 : Int32))), (0, .ref (E.2.2 100)), (1, .int x1), (2, .int x2), (3, .int x3), (4, .int x4), (6, .int x6)] C dX11_taking_50 (by decide) rfl rfl (n' := 52) ?_
          refine sd_iinc [(6, .int (x6 + (1 : Int32))), (5, .int (x5 ||| (0 : Int32))), (0, .ref (E.2.2 100)), (1, .int x1), (2, .int x2), (3, .int x3), (4, .int x4)] 6 C dX11_taking_52 rfl rfl (by decide) rfl rfl (n' := 55) ?_
          refine sd_goto C (tgt := 6) dX11_taking_55 rfl ?_
          refine sd_sub [2, 3, 4, 5, 6, 1, 0] rfl ?_
          exact ih x1 x2 x3 x4 (x5 ||| (0 : Int32)) (x6 + (1 : Int32)) hF
        · replace hF := sd_neg hF c38
          refine sd_iconst C (v := 1) dX11_taking_41 rfl rfl (n' := 42) ?_
          refine sd_iload C 6 dX11_taking_42 rfl rfl (n' := 44) ?_
          refine sd_ishl C dX11_taking_44 rfl (n' := 45) ?_
          refine sd_goto C (tgt := 49) dX11_taking_45 rfl ?_
          refine sd_ior C dX11_taking_49 rfl (n' := 50) ?_
          refine sd_istore [(5, .int (x5 ||| ((1 : Int32) <<< (x6 &&& 31)))), (0, .ref (E.2.2 100)), (1, .int x1), (2, .int x2), (3, .int x3), (4, .int x4), (6, .int x6)] C dX11_taking_50 (by decide) rfl rfl (n' := 52) ?_
          refine sd_iinc [(6, .int (x6 + (1 : Int32))), (5, .int (x5 ||| ((1 : Int32) <<< (x6 &&& 31)))), (0, .ref (E.2.2 100)), (1, .int x1), (2, .int x2), (3, .int x3), (4, .int x4)] 6 C dX11_taking_52 rfl rfl (by decide) rfl rfl (n' := 55) ?_
          refine sd_goto C (tgt := 6) dX11_taking_55 rfl ?_
          refine sd_sub [2, 3, 4, 5, 6, 1, 0] rfl ?_
          exact ih x1 x2 x3 x4 (x5 ||| ((1 : Int32) <<< (x6 &&& 31))) (x6 + (1 : Int32)) hF
set_option maxRecDepth 100000 in
set_option maxHeartbeats 4000000 in
theorem tb_X11_taking_0 {K : sd_K} {E : sd_Env} {M : sd_Mem}  {r : Int32} (C : sd_C K E sd_LM RX11 cX11_taking 7 (some .int))  : ∀ (x1 : Int32) (x2 : Int32) (x3 : Int32) (x4 : Int32), fn_X11_taking_0 M x1 x2 x3 x4 = some r → sd_Z K rm_X11_taking E sd_LM 7 (sd_QI K E sd_LM r M) M 0 [(0, .ref (E.2.2 100)), (1, .int x1), (2, .int x2), (3, .int x3), (4, .int x4)] [] := by
  intro x1 x2 x3 x4 hF
  unfold fn_X11_taking_0 at hF
  refine sd_iconst C (v := 0) dX11_taking_0 rfl rfl (n' := 1) ?_
  refine sd_istore [(5, .int (0 : Int32)), (0, .ref (E.2.2 100)), (1, .int x1), (2, .int x2), (3, .int x3), (4, .int x4)] C dX11_taking_1 (by decide) rfl rfl (n' := 3) ?_
  refine sd_iconst C (v := 0) dX11_taking_3 rfl rfl (n' := 4) ?_
  refine sd_istore [(6, .int (0 : Int32)), (5, .int (0 : Int32)), (0, .ref (E.2.2 100)), (1, .int x1), (2, .int x2), (3, .int x3), (4, .int x4)] C dX11_taking_4 (by decide) rfl rfl (n' := 6) ?_
  refine sd_sub [2, 3, 4, 5, 6, 1, 0] rfl ?_
  exact tb_X11_taking_6 C sd_FU x1 x2 x3 x4 (0 : Int32) (0 : Int32) hF
theorem ct_X11_taking {l : Launch} {E : sd_Env} (M : sd_Mem) (x1 : Int32) (x2 : Int32) (x3 : Int32) (x4 : Int32)  {r : Int32} (hF : fn_X11_taking M x1 x2 x3 x4 = some r) : sd_MI l E sd_LM yX11_taking cX11_taking 7 (some .int) rm_X11_taking [.ref (E.2.2 100), .int x1, .int x2, .int x3, .int x4] M r M := sd_ent0 (by decide +kernel) (Nat.le_of_ble_eq_true rfl) (fun p e s m below meth c C => tb_X11_taking_0 C x1 x2 x3 x4 hF)
theorem dX11_setBestOfOwners_0 : decode cX11_setBestOfOwners 0 = .ok (.iconst 0, 1) := by decide +kernel
theorem dX11_setBestOfOwners_1 : decode cX11_setBestOfOwners 1 = .ok (.istore_n 3, 1) := by decide +kernel
theorem dX11_setBestOfOwners_2 : decode cX11_setBestOfOwners 2 = .ok (.iload_n 3, 1) := by decide +kernel
theorem dX11_setBestOfOwners_3 : decode cX11_setBestOfOwners 3 = .ok (.bipush 8, 2) := by decide +kernel
theorem dX11_setBestOfOwners_5 : decode cX11_setBestOfOwners 5 = .ok (.if_icmp .ge 51, 3) := by decide +kernel
theorem dX11_setBestOfOwners_8 : decode cX11_setBestOfOwners 8 = .ok (.aload_n 0, 1) := by decide +kernel
theorem dX11_setBestOfOwners_9 : decode cX11_setBestOfOwners 9 = .ok (.getfield 69, 3) := by decide +kernel
theorem dX11_setBestOfOwners_12 : decode cX11_setBestOfOwners 12 = .ok (.bipush 8, 2) := by decide +kernel
theorem dX11_setBestOfOwners_14 : decode cX11_setBestOfOwners 14 = .ok (.aload_n 0, 1) := by decide +kernel
theorem dX11_setBestOfOwners_15 : decode cX11_setBestOfOwners 15 = .ok (.invokevirtual 188, 3) := by decide +kernel
theorem dX11_setBestOfOwners_18 : decode cX11_setBestOfOwners 18 = .ok (.iconst 1, 1) := by decide +kernel
theorem dX11_setBestOfOwners_19 : decode cX11_setBestOfOwners 19 = .ok (.iadd, 1) := by decide +kernel
theorem dX11_setBestOfOwners_20 : decode cX11_setBestOfOwners 20 = .ok (.imul, 1) := by decide +kernel
theorem dX11_setBestOfOwners_21 : decode cX11_setBestOfOwners 21 = .ok (.iload_n 3, 1) := by decide +kernel
theorem dX11_setBestOfOwners_22 : decode cX11_setBestOfOwners 22 = .ok (.iadd, 1) := by decide +kernel
theorem dX11_setBestOfOwners_23 : decode cX11_setBestOfOwners 23 = .ok (.aload_n 0, 1) := by decide +kernel
theorem dX11_setBestOfOwners_24 : decode cX11_setBestOfOwners 24 = .ok (.iconst 1, 1) := by decide +kernel
theorem dX11_setBestOfOwners_25 : decode cX11_setBestOfOwners 25 = .ok (.iload_n 2, 1) := by decide +kernel
theorem dX11_setBestOfOwners_26 : decode cX11_setBestOfOwners 26 = .ok (.aload_n 0, 1) := by decide +kernel
theorem dX11_setBestOfOwners_27 : decode cX11_setBestOfOwners 27 = .ok (.invokevirtual 188, 3) := by decide +kernel
theorem dX11_setBestOfOwners_30 : decode cX11_setBestOfOwners 30 = .ok (.iconst 1, 1) := by decide +kernel
theorem dX11_setBestOfOwners_31 : decode cX11_setBestOfOwners 31 = .ok (.iadd, 1) := by decide +kernel
theorem dX11_setBestOfOwners_32 : decode cX11_setBestOfOwners 32 = .ok (.aload_n 0, 1) := by decide +kernel
theorem dX11_setBestOfOwners_33 : decode cX11_setBestOfOwners 33 = .ok (.getfield 41, 3) := by decide +kernel
theorem dX11_setBestOfOwners_36 : decode cX11_setBestOfOwners 36 = .ok (.iconst 3, 1) := by decide +kernel
theorem dX11_setBestOfOwners_37 : decode cX11_setBestOfOwners 37 = .ok (.iaload, 1) := by decide +kernel
theorem dX11_setBestOfOwners_38 : decode cX11_setBestOfOwners 38 = .ok (.invokevirtual 208, 3) := by decide +kernel
theorem dX11_setBestOfOwners_41 : decode cX11_setBestOfOwners 41 = .ok (.aload_n 0, 1) := by decide +kernel
theorem dX11_setBestOfOwners_42 : decode cX11_setBestOfOwners 42 = .ok (.iconst 0, 1) := by decide +kernel
theorem dX11_setBestOfOwners_43 : decode cX11_setBestOfOwners 43 = .ok (.iload_n 3, 1) := by decide +kernel
theorem dX11_setBestOfOwners_44 : decode cX11_setBestOfOwners 44 = .ok (.invokevirtual 181, 3) := by decide +kernel
theorem dX11_setBestOfOwners_47 : decode cX11_setBestOfOwners 47 = .ok (.i2l, 1) := by decide +kernel
theorem dX11_setBestOfOwners_48 : decode cX11_setBestOfOwners 48 = .ok (.lmul, 1) := by decide +kernel
theorem dX11_setBestOfOwners_49 : decode cX11_setBestOfOwners 49 = .ok (.lastore, 1) := by decide +kernel
theorem dX11_setBestOfOwners_50 : decode cX11_setBestOfOwners 50 = .ok (.iinc 3 1, 3) := by decide +kernel
theorem dX11_setBestOfOwners_53 : decode cX11_setBestOfOwners 53 = .ok (.goto (-51), 3) := by decide +kernel
theorem dX11_setBestOfOwners_56 : decode cX11_setBestOfOwners 56 = .ok (.aload_n 0, 1) := by decide +kernel
theorem dX11_setBestOfOwners_57 : decode cX11_setBestOfOwners 57 = .ok (.invokevirtual 188, 3) := by decide +kernel
theorem dX11_setBestOfOwners_60 : decode cX11_setBestOfOwners 60 = .ok (.istore_n 3, 1) := by decide +kernel
theorem dX11_setBestOfOwners_61 : decode cX11_setBestOfOwners 61 = .ok (.iload_n 3, 1) := by decide +kernel
theorem dX11_setBestOfOwners_62 : decode cX11_setBestOfOwners 62 = .ok (.iconst 1, 1) := by decide +kernel
theorem dX11_setBestOfOwners_63 : decode cX11_setBestOfOwners 63 = .ok (.if_icmp .lt 235, 3) := by decide +kernel
theorem dX11_setBestOfOwners_66 : decode cX11_setBestOfOwners 66 = .ok (.iconst 0, 1) := by decide +kernel
theorem dX11_setBestOfOwners_67 : decode cX11_setBestOfOwners 67 = .ok (.istore 4, 2) := by decide +kernel
theorem dX11_setBestOfOwners_69 : decode cX11_setBestOfOwners 69 = .ok (.iload 4, 2) := by decide +kernel
theorem dX11_setBestOfOwners_71 : decode cX11_setBestOfOwners 71 = .ok (.aload_n 0, 1) := by decide +kernel
theorem dX11_setBestOfOwners_72 : decode cX11_setBestOfOwners 72 = .ok (.iconst 0, 1) := by decide +kernel
theorem dX11_setBestOfOwners_73 : decode cX11_setBestOfOwners 73 = .ok (.invokevirtual 178, 3) := by decide +kernel
theorem dX11_setBestOfOwners_76 : decode cX11_setBestOfOwners 76 = .ok (.if_icmp .gt 216, 3) := by decide +kernel
theorem dX11_setBestOfOwners_79 : decode cX11_setBestOfOwners 79 = .ok (.lconst 0, 1) := by decide +kernel
theorem dX11_setBestOfOwners_80 : decode cX11_setBestOfOwners 80 = .ok (.lstore 5, 2) := by decide +kernel
theorem dX11_setBestOfOwners_82 : decode cX11_setBestOfOwners 82 = .ok (.bipush (-9), 2) := by decide +kernel
theorem dX11_setBestOfOwners_84 : decode cX11_setBestOfOwners 84 = .ok (.istore 7, 2) := by decide +kernel
theorem dX11_setBestOfOwners_86 : decode cX11_setBestOfOwners 86 = .ok (.iconst 0, 1) := by decide +kernel
theorem dX11_setBestOfOwners_87 : decode cX11_setBestOfOwners 87 = .ok (.istore 8, 2) := by decide +kernel
theorem dX11_setBestOfOwners_89 : decode cX11_setBestOfOwners 89 = .ok (.iload 8, 2) := by decide +kernel
theorem dX11_setBestOfOwners_91 : decode cX11_setBestOfOwners 91 = .ok (.bipush 12, 2) := by decide +kernel
theorem dX11_setBestOfOwners_93 : decode cX11_setBestOfOwners 93 = .ok (.if_icmp .gt 117, 3) := by decide +kernel
theorem dX11_setBestOfOwners_96 : decode cX11_setBestOfOwners 96 = .ok (.iload_n 3, 1) := by decide +kernel
theorem dX11_setBestOfOwners_97 : decode cX11_setBestOfOwners 97 = .ok (.aload_n 0, 1) := by decide +kernel
theorem dX11_setBestOfOwners_98 : decode cX11_setBestOfOwners 98 = .ok (.getfield 44, 3) := by decide +kernel
theorem dX11_setBestOfOwners_101 : decode cX11_setBestOfOwners 101 = .ok (.if_icmp .lt 109, 3) := by decide +kernel
theorem dX11_setBestOfOwners_104 : decode cX11_setBestOfOwners 104 = .ok (.aload_n 0, 1) := by decide +kernel
theorem dX11_setBestOfOwners_105 : decode cX11_setBestOfOwners 105 = .ok (.iload_n 1, 1) := by decide +kernel
theorem dX11_setBestOfOwners_106 : decode cX11_setBestOfOwners 106 = .ok (.iload 4, 2) := by decide +kernel
theorem dX11_setBestOfOwners_108 : decode cX11_setBestOfOwners 108 = .ok (.iload_n 3, 1) := by decide +kernel
theorem dX11_setBestOfOwners_109 : decode cX11_setBestOfOwners 109 = .ok (.iload 8, 2) := by decide +kernel
theorem dX11_setBestOfOwners_111 : decode cX11_setBestOfOwners 111 = .ok (.invokevirtual 245, 3) := by decide +kernel
theorem dX11_setBestOfOwners_114 : decode cX11_setBestOfOwners 114 = .ok (.istore 9, 2) := by decide +kernel
theorem dX11_setBestOfOwners_116 : decode cX11_setBestOfOwners 116 = .ok (.aload_n 0, 1) := by decide +kernel
theorem dX11_setBestOfOwners_117 : decode cX11_setBestOfOwners 117 = .ok (.iconst 1, 1) := by decide +kernel
theorem dX11_setBestOfOwners_118 : decode cX11_setBestOfOwners 118 = .ok (.iload_n 2, 1) := by decide +kernel
theorem dX11_setBestOfOwners_119 : decode cX11_setBestOfOwners 119 = .ok (.iload_n 3, 1) := by decide +kernel
theorem dX11_setBestOfOwners_120 : decode cX11_setBestOfOwners 120 = .ok (.iload 8, 2) := by decide +kernel
theorem dX11_setBestOfOwners_122 : decode cX11_setBestOfOwners 122 = .ok (.invokevirtual 208, 3) := by decide +kernel
theorem dX11_setBestOfOwners_125 : decode cX11_setBestOfOwners 125 = .ok (.aload_n 0, 1) := by decide +kernel
theorem dX11_setBestOfOwners_126 : decode cX11_setBestOfOwners 126 = .ok (.iconst 0, 1) := by decide +kernel
theorem dX11_setBestOfOwners_127 : decode cX11_setBestOfOwners 127 = .ok (.iload 9, 2) := by decide +kernel
theorem dX11_setBestOfOwners_129 : decode cX11_setBestOfOwners 129 = .ok (.invokevirtual 181, 3) := by decide +kernel
theorem dX11_setBestOfOwners_132 : decode cX11_setBestOfOwners 132 = .ok (.i2l, 1) := by decide +kernel
theorem dX11_setBestOfOwners_133 : decode cX11_setBestOfOwners 133 = .ok (.lmul, 1) := by decide +kernel
theorem dX11_setBestOfOwners_134 : decode cX11_setBestOfOwners 134 = .ok (.aload_n 0, 1) := by decide +kernel
theorem dX11_setBestOfOwners_135 : decode cX11_setBestOfOwners 135 = .ok (.invokevirtual 188, 3) := by decide +kernel
theorem dX11_setBestOfOwners_138 : decode cX11_setBestOfOwners 138 = .ok (.iload_n 3, 1) := by decide +kernel
theorem dX11_setBestOfOwners_139 : decode cX11_setBestOfOwners 139 = .ok (.isub, 1) := by decide +kernel
theorem dX11_setBestOfOwners_140 : decode cX11_setBestOfOwners 140 = .ok (.invokestatic 212, 3) := by decide +kernel
theorem dX11_setBestOfOwners_143 : decode cX11_setBestOfOwners 143 = .ok (.lmul, 1) := by decide +kernel
theorem dX11_setBestOfOwners_144 : decode cX11_setBestOfOwners 144 = .ok (.aload_n 0, 1) := by decide +kernel
theorem dX11_setBestOfOwners_145 : decode cX11_setBestOfOwners 145 = .ok (.getfield 69, 3) := by decide +kernel
theorem dX11_setBestOfOwners_148 : decode cX11_setBestOfOwners 148 = .ok (.bipush 8, 2) := by decide +kernel
theorem dX11_setBestOfOwners_150 : decode cX11_setBestOfOwners 150 = .ok (.iload_n 3, 1) := by decide +kernel
theorem dX11_setBestOfOwners_151 : decode cX11_setBestOfOwners 151 = .ok (.iconst 1, 1) := by decide +kernel
theorem dX11_setBestOfOwners_152 : decode cX11_setBestOfOwners 152 = .ok (.iadd, 1) := by decide +kernel
theorem dX11_setBestOfOwners_153 : decode cX11_setBestOfOwners 153 = .ok (.imul, 1) := by decide +kernel
theorem dX11_setBestOfOwners_154 : decode cX11_setBestOfOwners 154 = .ok (.iload 4, 2) := by decide +kernel
theorem dX11_setBestOfOwners_156 : decode cX11_setBestOfOwners 156 = .ok (.iload 9, 2) := by decide +kernel
theorem dX11_setBestOfOwners_158 : decode cX11_setBestOfOwners 158 = .ok (.iconst (-1), 1) := by decide +kernel
theorem dX11_setBestOfOwners_159 : decode cX11_setBestOfOwners 159 = .ok (.ixor, 1) := by decide +kernel
theorem dX11_setBestOfOwners_160 : decode cX11_setBestOfOwners 160 = .ok (.iand, 1) := by decide +kernel
theorem dX11_setBestOfOwners_161 : decode cX11_setBestOfOwners 161 = .ok (.iadd, 1) := by decide +kernel
theorem dX11_setBestOfOwners_162 : decode cX11_setBestOfOwners 162 = .ok (.laload, 1) := by decide +kernel
theorem dX11_setBestOfOwners_163 : decode cX11_setBestOfOwners 163 = .ok (.ladd, 1) := by decide +kernel
theorem dX11_setBestOfOwners_164 : decode cX11_setBestOfOwners 164 = .ok (.lstore 10, 2) := by decide +kernel
theorem dX11_setBestOfOwners_166 : decode cX11_setBestOfOwners 166 = .ok (.iload 7, 2) := by decide +kernel
theorem dX11_setBestOfOwners_168 : decode cX11_setBestOfOwners 168 = .ok (.ifCond .lt 11, 3) := by decide +kernel
theorem dX11_setBestOfOwners_171 : decode cX11_setBestOfOwners 171 = .ok (.lload 10, 2) := by decide +kernel
theorem dX11_setBestOfOwners_173 : decode cX11_setBestOfOwners 173 = .ok (.lload 5, 2) := by decide +kernel
theorem dX11_setBestOfOwners_175 : decode cX11_setBestOfOwners 175 = .ok (.lcmp, 1) := by decide +kernel
theorem dX11_setBestOfOwners_176 : decode cX11_setBestOfOwners 176 = .ok (.ifCond .le 8, 3) := by decide +kernel
theorem dX11_setBestOfOwners_179 : decode cX11_setBestOfOwners 179 = .ok (.iload 8, 2) := by decide +kernel
theorem dX11_setBestOfOwners_181 : decode cX11_setBestOfOwners 181 = .ok (.goto 5, 3) := by decide +kernel
theorem dX11_setBestOfOwners_184 : decode cX11_setBestOfOwners 184 = .ok (.iload 7, 2) := by decide +kernel
theorem dX11_setBestOfOwners_186 : decode cX11_setBestOfOwners 186 = .ok (.istore 7, 2) := by decide +kernel
theorem dX11_setBestOfOwners_188 : decode cX11_setBestOfOwners 188 = .ok (.iload 7, 2) := by decide +kernel
theorem dX11_setBestOfOwners_190 : decode cX11_setBestOfOwners 190 = .ok (.iload 8, 2) := by decide +kernel
theorem dX11_setBestOfOwners_192 : decode cX11_setBestOfOwners 192 = .ok (.if_icmp .ne 8, 3) := by decide +kernel
theorem dX11_setBestOfOwners_195 : decode cX11_setBestOfOwners 195 = .ok (.lload 10, 2) := by decide +kernel
theorem dX11_setBestOfOwners_197 : decode cX11_setBestOfOwners 197 = .ok (.goto 5, 3) := by decide +kernel
theorem dX11_setBestOfOwners_200 : decode cX11_setBestOfOwners 200 = .ok (.lload 5, 2) := by decide +kernel
theorem dX11_setBestOfOwners_202 : decode cX11_setBestOfOwners 202 = .ok (.lstore 5, 2) := by decide +kernel
theorem dX11_setBestOfOwners_204 : decode cX11_setBestOfOwners 204 = .ok (.iinc 8 1, 3) := by decide +kernel
theorem dX11_setBestOfOwners_207 : decode cX11_setBestOfOwners 207 = .ok (.goto (-118), 3) := by decide +kernel
theorem dX11_setBestOfOwners_210 : decode cX11_setBestOfOwners 210 = .ok (.iload_n 3, 1) := by decide +kernel
theorem dX11_setBestOfOwners_211 : decode cX11_setBestOfOwners 211 = .ok (.aload_n 0, 1) := by decide +kernel
theorem dX11_setBestOfOwners_212 : decode cX11_setBestOfOwners 212 = .ok (.getfield 44, 3) := by decide +kernel
theorem dX11_setBestOfOwners_215 : decode cX11_setBestOfOwners 215 = .ok (.if_icmp .ge 20, 3) := by decide +kernel
theorem dX11_setBestOfOwners_218 : decode cX11_setBestOfOwners 218 = .ok (.aload_n 0, 1) := by decide +kernel
theorem dX11_setBestOfOwners_219 : decode cX11_setBestOfOwners 219 = .ok (.getfield 69, 3) := by decide +kernel
theorem dX11_setBestOfOwners_222 : decode cX11_setBestOfOwners 222 = .ok (.bipush 8, 2) := by decide +kernel
theorem dX11_setBestOfOwners_224 : decode cX11_setBestOfOwners 224 = .ok (.iload_n 3, 1) := by decide +kernel
theorem dX11_setBestOfOwners_225 : decode cX11_setBestOfOwners 225 = .ok (.iconst 1, 1) := by decide +kernel
theorem dX11_setBestOfOwners_226 : decode cX11_setBestOfOwners 226 = .ok (.iadd, 1) := by decide +kernel
theorem dX11_setBestOfOwners_227 : decode cX11_setBestOfOwners 227 = .ok (.imul, 1) := by decide +kernel
theorem dX11_setBestOfOwners_228 : decode cX11_setBestOfOwners 228 = .ok (.iload 4, 2) := by decide +kernel
theorem dX11_setBestOfOwners_230 : decode cX11_setBestOfOwners 230 = .ok (.iadd, 1) := by decide +kernel
theorem dX11_setBestOfOwners_231 : decode cX11_setBestOfOwners 231 = .ok (.laload, 1) := by decide +kernel
theorem dX11_setBestOfOwners_232 : decode cX11_setBestOfOwners 232 = .ok (.goto 5, 3) := by decide +kernel
theorem dX11_setBestOfOwners_235 : decode cX11_setBestOfOwners 235 = .ok (.lload 5, 2) := by decide +kernel
theorem dX11_setBestOfOwners_237 : decode cX11_setBestOfOwners 237 = .ok (.lstore 5, 2) := by decide +kernel
theorem dX11_setBestOfOwners_239 : decode cX11_setBestOfOwners 239 = .ok (.aload_n 0, 1) := by decide +kernel
theorem dX11_setBestOfOwners_240 : decode cX11_setBestOfOwners 240 = .ok (.getfield 73, 3) := by decide +kernel
theorem dX11_setBestOfOwners_243 : decode cX11_setBestOfOwners 243 = .ok (.bipush 8, 2) := by decide +kernel
theorem dX11_setBestOfOwners_245 : decode cX11_setBestOfOwners 245 = .ok (.iload_n 3, 1) := by decide +kernel
theorem dX11_setBestOfOwners_246 : decode cX11_setBestOfOwners 246 = .ok (.imul, 1) := by decide +kernel
theorem dX11_setBestOfOwners_247 : decode cX11_setBestOfOwners 247 = .ok (.iload 4, 2) := by decide +kernel
theorem dX11_setBestOfOwners_249 : decode cX11_setBestOfOwners 249 = .ok (.iadd, 1) := by decide +kernel
theorem dX11_setBestOfOwners_250 : decode cX11_setBestOfOwners 250 = .ok (.iload 7, 2) := by decide +kernel
theorem dX11_setBestOfOwners_252 : decode cX11_setBestOfOwners 252 = .ok (.iastore, 1) := by decide +kernel
theorem dX11_setBestOfOwners_253 : decode cX11_setBestOfOwners 253 = .ok (.aload_n 0, 1) := by decide +kernel
theorem dX11_setBestOfOwners_254 : decode cX11_setBestOfOwners 254 = .ok (.getfield 69, 3) := by decide +kernel
theorem dX11_setBestOfOwners_257 : decode cX11_setBestOfOwners 257 = .ok (.bipush 8, 2) := by decide +kernel
theorem dX11_setBestOfOwners_259 : decode cX11_setBestOfOwners 259 = .ok (.iload_n 3, 1) := by decide +kernel
theorem dX11_setBestOfOwners_260 : decode cX11_setBestOfOwners 260 = .ok (.imul, 1) := by decide +kernel
theorem dX11_setBestOfOwners_261 : decode cX11_setBestOfOwners 261 = .ok (.iload 4, 2) := by decide +kernel
theorem dX11_setBestOfOwners_263 : decode cX11_setBestOfOwners 263 = .ok (.iadd, 1) := by decide +kernel
theorem dX11_setBestOfOwners_264 : decode cX11_setBestOfOwners 264 = .ok (.aload_n 0, 1) := by decide +kernel
theorem dX11_setBestOfOwners_265 : decode cX11_setBestOfOwners 265 = .ok (.iconst 1, 1) := by decide +kernel
theorem dX11_setBestOfOwners_266 : decode cX11_setBestOfOwners 266 = .ok (.iload_n 2, 1) := by decide +kernel
theorem dX11_setBestOfOwners_267 : decode cX11_setBestOfOwners 267 = .ok (.iload_n 3, 1) := by decide +kernel
theorem dX11_setBestOfOwners_268 : decode cX11_setBestOfOwners 268 = .ok (.iload 4, 2) := by decide +kernel
theorem dX11_setBestOfOwners_270 : decode cX11_setBestOfOwners 270 = .ok (.invokevirtual 242, 3) := by decide +kernel
theorem dX11_setBestOfOwners_273 : decode cX11_setBestOfOwners 273 = .ok (.bipush 12, 2) := by decide +kernel
theorem dX11_setBestOfOwners_275 : decode cX11_setBestOfOwners 275 = .ok (.aload_n 0, 1) := by decide +kernel
theorem dX11_setBestOfOwners_276 : decode cX11_setBestOfOwners 276 = .ok (.getfield 147, 3) := by decide +kernel
theorem dX11_setBestOfOwners_279 : decode cX11_setBestOfOwners 279 = .ok (.isub, 1) := by decide +kernel
theorem dX11_setBestOfOwners_280 : decode cX11_setBestOfOwners 280 = .ok (.i2l, 1) := by decide +kernel
theorem dX11_setBestOfOwners_281 : decode cX11_setBestOfOwners 281 = .ok (.lload 5, 2) := by decide +kernel
theorem dX11_setBestOfOwners_283 : decode cX11_setBestOfOwners 283 = .ok (.lmul, 1) := by decide +kernel
theorem dX11_setBestOfOwners_284 : decode cX11_setBestOfOwners 284 = .ok (.ladd, 1) := by decide +kernel
theorem dX11_setBestOfOwners_285 : decode cX11_setBestOfOwners 285 = .ok (.lastore, 1) := by decide +kernel
theorem dX11_setBestOfOwners_286 : decode cX11_setBestOfOwners 286 = .ok (.iinc 4 1, 3) := by decide +kernel
theorem dX11_setBestOfOwners_289 : decode cX11_setBestOfOwners 289 = .ok (.goto (-220), 3) := by decide +kernel
theorem dX11_setBestOfOwners_292 : decode cX11_setBestOfOwners 292 = .ok (.iinc 3 (-1), 3) := by decide +kernel
theorem dX11_setBestOfOwners_295 : decode cX11_setBestOfOwners 295 = .ok (.goto (-234), 3) := by decide +kernel
theorem dX11_setBestOfOwners_298 : decode cX11_setBestOfOwners 298 = .ok (.return_, 1) := by decide +kernel
set_option maxRecDepth 100000 in
set_option maxHeartbeats 4000000 in
theorem tb_X11_setBestOfOwners_186 {K : sd_K} {E : sd_Env}   {r : sd_Mem} (C : sd_C K E sd_LM RX11 cX11_setBestOfOwners 12 none)  {k61 : sd_Mem → Int32 → Int32 → Int32 → Option sd_Mem} (hk61 : ∀ (M : sd_Mem) (x1 : Int32) (x2 : Int32) (x3 : Int32), k61 M x1 x2 x3 = some r → sd_Z K rm_X11_setBestOfOwners E sd_LM 12 (sd_QV K E sd_LM r) M 61 [(0, .ref (E.2.2 100)), (1, .int x1), (2, .int x2), (3, .int x3)] []) {k69 : sd_Mem → Int32 → Int32 → Int32 → Int32 → Option sd_Mem} (hk69 : ∀ (M : sd_Mem) (x1 : Int32) (x2 : Int32) (x3 : Int32) (x4 : Int32), k69 M x1 x2 x3 x4 = some r → sd_Z K rm_X11_setBestOfOwners E sd_LM 12 (sd_QV K E sd_LM r) M 69 [(0, .ref (E.2.2 100)), (1, .int x1), (2, .int x2), (3, .int x3), (4, .int x4)] []) {k89 : sd_Mem → Int32 → Int32 → Int32 → Int32 → Int64 → Int32 → Int32 → Option sd_Mem} (hk89 : ∀ (M : sd_Mem) (x1 : Int32) (x2 : Int32) (x3 : Int32) (x4 : Int32) (l5 : Int64) (x7 : Int32) (x8 : Int32), k89 M x1 x2 x3 x4 l5 x7 x8 = some r → sd_Z K rm_X11_setBestOfOwners E sd_LM 12 (sd_QV K E sd_LM r) M 89 [(0, .ref (E.2.2 100)), (1, .int x1), (2, .int x2), (3, .int x3), (4, .int x4), (5, .long l5), (7, .int x7), (8, .int x8)] []) : ∀ (M : sd_Mem) (x1 : Int32) (x2 : Int32) (x3 : Int32) (x4 : Int32) (l5 : Int64) (x8 : Int32) (l10 : Int64) (xs0 : Int32), fn_X11_setBestOfOwners_186 k61 k69 k89 M x1 x2 x3 x4 l5 x8 l10 xs0 = some r → sd_Z K rm_X11_setBestOfOwners E sd_LM 12 (sd_QV K E sd_LM r) M 186 [(0, .ref (E.2.2 100)), (1, .int x1), (2, .int x2), (3, .int x3), (4, .int x4), (5, .long l5), (8, .int x8), (10, .long l10)] [.int xs0] := by
  intro M x1 x2 x3 x4 l5 x8 l10 xs0 hF
  unfold fn_X11_setBestOfOwners_186 at hF
  refine sd_istore [(7, .int xs0), (0, .ref (E.2.2 100)), (1, .int x1), (2, .int x2), (3, .int x3), (4, .int x4), (5, .long l5), (8, .int x8), (10, .long l10)] C dX11_setBestOfOwners_186 (by decide) rfl rfl (n' := 188) ?_
  refine sd_iload C 0 dX11_setBestOfOwners_188 rfl rfl (n' := 190) ?_
  refine sd_iload C 7 dX11_setBestOfOwners_190 rfl rfl (n' := 192) ?_
  refine sd_icmp_ne C (n' := 195) (tgt := 200) dX11_setBestOfOwners_192 rfl rfl (fun c192 => ?_) (fun c192 => ?_)
  · replace hF := sd_neg hF c192
    refine sd_lload C 6 dX11_setBestOfOwners_200 rfl rfl (n' := 202) ?_
    refine sd_lstore [(5, .long l5), (7, .int xs0), (0, .ref (E.2.2 100)), (1, .int x1), (2, .int x2), (3, .int x3), (4, .int x4), (8, .int x8), (10, .long l10)] C dX11_setBestOfOwners_202 (by decide) rfl rfl (n' := 204) ?_
    refine sd_iinc [(8, .int (x8 + (1 : Int32))), (5, .long l5), (7, .int xs0), (0, .ref (E.2.2 100)), (1, .int x1), (2, .int x2), (3, .int x3), (4, .int x4), (10, .long l10)] 7 C dX11_setBestOfOwners_204 rfl rfl (by decide) rfl rfl (n' := 207) ?_
    refine sd_goto C (tgt := 89) dX11_setBestOfOwners_207 rfl ?_
    refine sd_sub [3, 4, 5, 6, 7, 1, 2, 0] rfl ?_
    exact hk89 M x1 x2 x3 x4 l5 xs0 (x8 + (1 : Int32)) hF
  · replace hF := sd_pos hF c192
    refine sd_lload C 8 dX11_setBestOfOwners_195 rfl rfl (n' := 197) ?_
    refine sd_goto C (tgt := 202) dX11_setBestOfOwners_197 rfl ?_
    refine sd_lstore [(5, .long l10), (7, .int xs0), (0, .ref (E.2.2 100)), (1, .int x1), (2, .int x2), (3, .int x3), (4, .int x4), (8, .int x8), (10, .long l10)] C dX11_setBestOfOwners_202 (by decide) rfl rfl (n' := 204) ?_
    refine sd_iinc [(8, .int (x8 + (1 : Int32))), (5, .long l10), (7, .int xs0), (0, .ref (E.2.2 100)), (1, .int x1), (2, .int x2), (3, .int x3), (4, .int x4), (10, .long l10)] 7 C dX11_setBestOfOwners_204 rfl rfl (by decide) rfl rfl (n' := 207) ?_
    refine sd_goto C (tgt := 89) dX11_setBestOfOwners_207 rfl ?_
    refine sd_sub [3, 4, 5, 6, 7, 1, 2, 0] rfl ?_
    exact hk89 M x1 x2 x3 x4 l10 xs0 (x8 + (1 : Int32)) hF
set_option maxRecDepth 100000 in
set_option maxHeartbeats 4000000 in
theorem tb_X11_setBestOfOwners_237 {K : sd_K} {E : sd_Env}   {r : sd_Mem} (C : sd_C K E sd_LM RX11 cX11_setBestOfOwners 12 none)  {k61 : sd_Mem → Int32 → Int32 → Int32 → Option sd_Mem} (hk61 : ∀ (M : sd_Mem) (x1 : Int32) (x2 : Int32) (x3 : Int32), k61 M x1 x2 x3 = some r → sd_Z K rm_X11_setBestOfOwners E sd_LM 12 (sd_QV K E sd_LM r) M 61 [(0, .ref (E.2.2 100)), (1, .int x1), (2, .int x2), (3, .int x3)] []) {k69 : sd_Mem → Int32 → Int32 → Int32 → Int32 → Option sd_Mem} (hk69 : ∀ (M : sd_Mem) (x1 : Int32) (x2 : Int32) (x3 : Int32) (x4 : Int32), k69 M x1 x2 x3 x4 = some r → sd_Z K rm_X11_setBestOfOwners E sd_LM 12 (sd_QV K E sd_LM r) M 69 [(0, .ref (E.2.2 100)), (1, .int x1), (2, .int x2), (3, .int x3), (4, .int x4)] []) : ∀ (M : sd_Mem) (x1 : Int32) (x2 : Int32) (x3 : Int32) (x4 : Int32) (x7 : Int32) (ls0 : Int64), fn_X11_setBestOfOwners_237 k61 k69 M x1 x2 x3 x4 x7 ls0 = some r → sd_Z K rm_X11_setBestOfOwners E sd_LM 12 (sd_QV K E sd_LM r) M 237 [(0, .ref (E.2.2 100)), (1, .int x1), (2, .int x2), (3, .int x3), (4, .int x4), (7, .int x7)] [.long ls0] := by
  intro M x1 x2 x3 x4 x7 ls0 hF
  unfold fn_X11_setBestOfOwners_237 at hF
  refine sd_lstore [(5, .long ls0), (0, .ref (E.2.2 100)), (1, .int x1), (2, .int x2), (3, .int x3), (4, .int x4), (7, .int x7)] C dX11_setBestOfOwners_237 (by decide) rfl rfl (n' := 239) ?_
  refine sd_aload_n C 1 dX11_setBestOfOwners_239 rfl rfl rfl (n' := 240) ?_
  refine sd_g11_26 C sd_i100 sd_k100 sd_w1067 dX11_setBestOfOwners_240 rfl (n' := 243) ?_
  refine sd_bipush C (v := 8) dX11_setBestOfOwners_243 rfl rfl (n' := 245) ?_
  refine sd_iload_n C 4 dX11_setBestOfOwners_245 rfl rfl rfl (n' := 246) ?_
  refine sd_imul C dX11_setBestOfOwners_246 rfl (n' := 247) ?_
  refine sd_iload C 5 dX11_setBestOfOwners_247 rfl rfl (n' := 249) ?_
  refine sd_iadd C dX11_setBestOfOwners_249 rfl (n' := 250) ?_
  refine sd_iload C 6 dX11_setBestOfOwners_250 rfl rfl (n' := 252) ?_
  obtain ⟨b252, hF⟩ := sd_ok hF
  refine sd_iast C sd_i118 sd_k118 sd_n118 b252 dX11_setBestOfOwners_252 rfl (n' := 253) ?_
  refine sd_aload_n C 1 dX11_setBestOfOwners_253 rfl rfl rfl (n' := 254) ?_
  refine sd_g11_25 C sd_i100 sd_k100 sd_w1066 dX11_setBestOfOwners_254 rfl (n' := 257) ?_
  refine sd_bipush C (v := 8) dX11_setBestOfOwners_257 rfl rfl (n' := 259) ?_
  refine sd_iload_n C 4 dX11_setBestOfOwners_259 rfl rfl rfl (n' := 260) ?_
  refine sd_imul C dX11_setBestOfOwners_260 rfl (n' := 261) ?_
  refine sd_iload C 5 dX11_setBestOfOwners_261 rfl rfl (n' := 263) ?_
  refine sd_iadd C dX11_setBestOfOwners_263 rfl (n' := 264) ?_
  refine sd_aload_n C 1 dX11_setBestOfOwners_264 rfl rfl rfl (n' := 265) ?_
  refine sd_iconst C (v := 1) dX11_setBestOfOwners_265 rfl rfl (n' := 266) ?_
  refine sd_iload_n C 3 dX11_setBestOfOwners_266 rfl rfl rfl (n' := 267) ?_
  refine sd_iload_n C 4 dX11_setBestOfOwners_267 rfl rfl rfl (n' := 268) ?_
  refine sd_iload C 5 dX11_setBestOfOwners_268 rfl rfl (n' := 270) ?_
  obtain ⟨q270, e270, hF⟩ := sd_bind hF
  refine sd_callVL [.int (1 : Int32), .int x2, .int x3, .int x4] [.int (((8 : Int32) * x3) + x4), .ref (E.2.2 117)] C (ct_X11_byJudge (sd_setI M 118 (((8 : Int32) * x3) + x4).toNatClampNeg x7) (1 : Int32) x2 x3 x4  e270) sd_lX11_242 ⟨rfl, rfl, Nat.le_of_ble_eq_true rfl, Nat.le_of_ble_eq_true rfl⟩ sd_i100 (sd_e12 sd_k100) rfl rfl rfl (Nat.le_of_ble_eq_true rfl) dX11_setBestOfOwners_270 rfl (n' := 273) ?_
  refine sd_bipush C (v := 12) dX11_setBestOfOwners_273 rfl rfl (n' := 275) ?_
  refine sd_aload_n C 1 dX11_setBestOfOwners_275 rfl rfl rfl (n' := 276) ?_
  refine sd_g11_15 C sd_i100 sd_k100 sd_w1056 dX11_setBestOfOwners_276 rfl (n' := 279) ?_
  refine sd_isub C dX11_setBestOfOwners_279 rfl (n' := 280) ?_
  refine sd_i2l C dX11_setBestOfOwners_280 rfl (n' := 281) ?_
  refine sd_lload C 0 dX11_setBestOfOwners_281 rfl rfl (n' := 283) ?_
  refine sd_lmul C dX11_setBestOfOwners_283 rfl (n' := 284) ?_
  refine sd_ladd C dX11_setBestOfOwners_284 rfl (n' := 285) ?_
  obtain ⟨b285, hF⟩ := sd_ok hF
  refine sd_last C sd_i117 sd_k117 sd_n117 b285 dX11_setBestOfOwners_285 rfl (n' := 286) ?_
  refine sd_iinc [(4, .int (x4 + (1 : Int32))), (5, .long ls0), (0, .ref (E.2.2 100)), (1, .int x1), (2, .int x2), (3, .int x3), (7, .int x7)] 5 C dX11_setBestOfOwners_286 rfl rfl (by decide) rfl rfl (n' := 289) ?_
  refine sd_goto C (tgt := 69) dX11_setBestOfOwners_289 rfl ?_
  refine sd_sub [2, 3, 4, 5, 0] rfl ?_
  exact hk69 (sd_setL (sd_setI M 118 (((8 : Int32) * x3) + x4).toNatClampNeg x7) 117 (((8 : Int32) * x3) + x4).toNatClampNeg (q270 + ((((12 : Int32) - ((sd_setI M 118 (((8 : Int32) * x3) + x4).toNatClampNeg x7).1 100 15)).toInt64) * ls0))) x1 x2 x3 (x4 + (1 : Int32)) hF
set_option maxRecDepth 100000 in
set_option maxHeartbeats 4000000 in
theorem tb_X11_setBestOfOwners_210 {K : sd_K} {E : sd_Env}   {r : sd_Mem} (C : sd_C K E sd_LM RX11 cX11_setBestOfOwners 12 none)  {k61 : sd_Mem → Int32 → Int32 → Int32 → Option sd_Mem} (hk61 : ∀ (M : sd_Mem) (x1 : Int32) (x2 : Int32) (x3 : Int32), k61 M x1 x2 x3 = some r → sd_Z K rm_X11_setBestOfOwners E sd_LM 12 (sd_QV K E sd_LM r) M 61 [(0, .ref (E.2.2 100)), (1, .int x1), (2, .int x2), (3, .int x3)] []) {k69 : sd_Mem → Int32 → Int32 → Int32 → Int32 → Option sd_Mem} (hk69 : ∀ (M : sd_Mem) (x1 : Int32) (x2 : Int32) (x3 : Int32) (x4 : Int32), k69 M x1 x2 x3 x4 = some r → sd_Z K rm_X11_setBestOfOwners E sd_LM 12 (sd_QV K E sd_LM r) M 69 [(0, .ref (E.2.2 100)), (1, .int x1), (2, .int x2), (3, .int x3), (4, .int x4)] []) : ∀ (M : sd_Mem) (x1 : Int32) (x2 : Int32) (x3 : Int32) (x4 : Int32) (l5 : Int64) (x7 : Int32), fn_X11_setBestOfOwners_210 k61 k69 M x1 x2 x3 x4 l5 x7 = some r → sd_Z K rm_X11_setBestOfOwners E sd_LM 12 (sd_QV K E sd_LM r) M 210 [(0, .ref (E.2.2 100)), (1, .int x1), (2, .int x2), (3, .int x3), (4, .int x4), (5, .long l5), (7, .int x7)] [] := by
  intro M x1 x2 x3 x4 l5 x7 hF
  unfold fn_X11_setBestOfOwners_210 at hF
  refine sd_iload_n C 3 dX11_setBestOfOwners_210 rfl rfl rfl (n' := 211) ?_
  refine sd_aload_n C 0 dX11_setBestOfOwners_211 rfl rfl rfl (n' := 212) ?_
  refine sd_g11_14 C sd_i100 sd_k100 sd_w1055 dX11_setBestOfOwners_212 rfl (n' := 215) ?_
  refine sd_icmp_ge C (n' := 218) (tgt := 235) dX11_setBestOfOwners_215 rfl rfl (fun c215 => ?_) (fun c215 => ?_)
  · replace hF := sd_pos hF c215
    refine sd_lload C 5 dX11_setBestOfOwners_235 rfl rfl (n' := 237) ?_
    refine sd_sub [0, 1, 2, 3, 4, 6] rfl ?_
    exact tb_X11_setBestOfOwners_237 C hk61 hk69 M x1 x2 x3 x4 x7 l5 hF
  · replace hF := sd_neg hF c215
    refine sd_aload_n C 0 dX11_setBestOfOwners_218 rfl rfl rfl (n' := 219) ?_
    refine sd_g11_25 C sd_i100 sd_k100 sd_w1066 dX11_setBestOfOwners_219 rfl (n' := 222) ?_
    refine sd_bipush C (v := 8) dX11_setBestOfOwners_222 rfl rfl (n' := 224) ?_
    refine sd_iload_n C 3 dX11_setBestOfOwners_224 rfl rfl rfl (n' := 225) ?_
    refine sd_iconst C (v := 1) dX11_setBestOfOwners_225 rfl rfl (n' := 226) ?_
    refine sd_iadd C dX11_setBestOfOwners_226 rfl (n' := 227) ?_
    refine sd_imul C dX11_setBestOfOwners_227 rfl (n' := 228) ?_
    refine sd_iload C 4 dX11_setBestOfOwners_228 rfl rfl (n' := 230) ?_
    refine sd_iadd C dX11_setBestOfOwners_230 rfl (n' := 231) ?_
    obtain ⟨b231, hF⟩ := sd_ok hF
    refine sd_lald C sd_i117 sd_k117 sd_n117 b231 dX11_setBestOfOwners_231 rfl (n' := 232) ?_
    refine sd_goto C (tgt := 237) dX11_setBestOfOwners_232 rfl ?_
    refine sd_sub [0, 1, 2, 3, 4, 6] rfl ?_
    exact tb_X11_setBestOfOwners_237 C hk61 hk69 M x1 x2 x3 x4 x7 (M.2 117 (((8 : Int32) * (x3 + (1 : Int32))) + x4).toNatClampNeg) hF
set_option maxRecDepth 100000 in
set_option maxHeartbeats 4000000 in
theorem tb_X11_setBestOfOwners_89 {K : sd_K} {E : sd_Env}   {r : sd_Mem} (C : sd_C K E sd_LM RX11 cX11_setBestOfOwners 12 none)  {k61 : sd_Mem → Int32 → Int32 → Int32 → Option sd_Mem} (hk61 : ∀ (M : sd_Mem) (x1 : Int32) (x2 : Int32) (x3 : Int32), k61 M x1 x2 x3 = some r → sd_Z K rm_X11_setBestOfOwners E sd_LM 12 (sd_QV K E sd_LM r) M 61 [(0, .ref (E.2.2 100)), (1, .int x1), (2, .int x2), (3, .int x3)] []) {k69 : sd_Mem → Int32 → Int32 → Int32 → Int32 → Option sd_Mem} (hk69 : ∀ (M : sd_Mem) (x1 : Int32) (x2 : Int32) (x3 : Int32) (x4 : Int32), k69 M x1 x2 x3 x4 = some r → sd_Z K rm_X11_setBestOfOwners E sd_LM 12 (sd_QV K E sd_LM r) M 69 [(0, .ref (E.2.2 100)), (1, .int x1), (2, .int x2), (3, .int x3), (4, .int x4)] []) : ∀ (n : Nat), ∀ (M : sd_Mem) (x1 : Int32) (x2 : Int32) (x3 : Int32) (x4 : Int32) (l5 : Int64) (x7 : Int32) (x8 : Int32), fn_X11_setBestOfOwners_89 k61 k69 n M x1 x2 x3 x4 l5 x7 x8 = some r → sd_Z K rm_X11_setBestOfOwners E sd_LM 12 (sd_QV K E sd_LM r) M 89 [(0, .ref (E.2.2 100)), (1, .int x1), (2, .int x2), (3, .int x3), (4, .int x4), (5, .long l5), (7, .int x7), (8, .int x8)] [] := by
  intro n
  induction n with
  | zero => intro M x1 x2 x3 x4 l5 x7 x8 hF; cases hF
  | succ n ih =>
    intro M x1 x2 x3 x4 l5 x7 x8 hF
    unfold fn_X11_setBestOfOwners_89 at hF
    refine sd_iload C 7 dX11_setBestOfOwners_89 rfl rfl (n' := 91) ?_
    refine sd_bipush C (v := 12) dX11_setBestOfOwners_91 rfl rfl (n' := 93) ?_
    refine sd_icmp_gt C (n' := 96) (tgt := 210) dX11_setBestOfOwners_93 rfl rfl (fun c93 => ?_) (fun c93 => ?_)
    · replace hF := sd_pos hF c93
      refine sd_sub [0, 1, 2, 3, 4, 5, 6] rfl ?_
      exact tb_X11_setBestOfOwners_210 C hk61 hk69 M x1 x2 x3 x4 l5 x7 hF
    · replace hF := sd_neg hF c93
      refine sd_iload_n C 3 dX11_setBestOfOwners_96 rfl rfl rfl (n' := 97) ?_
      refine sd_aload_n C 0 dX11_setBestOfOwners_97 rfl rfl rfl (n' := 98) ?_
      refine sd_g11_14 C sd_i100 sd_k100 sd_w1055 dX11_setBestOfOwners_98 rfl (n' := 101) ?_
      refine sd_icmp_lt C (n' := 104) (tgt := 210) dX11_setBestOfOwners_101 rfl rfl (fun c101 => ?_) (fun c101 => ?_)
      · replace hF := sd_pos hF c101
        refine sd_sub [0, 1, 2, 3, 4, 5, 6] rfl ?_
        exact tb_X11_setBestOfOwners_210 C hk61 hk69 M x1 x2 x3 x4 l5 x7 hF
      · replace hF := sd_neg hF c101
        refine sd_aload_n C 0 dX11_setBestOfOwners_104 rfl rfl rfl (n' := 105) ?_
        refine sd_iload_n C 1 dX11_setBestOfOwners_105 rfl rfl rfl (n' := 106) ?_
        refine sd_iload C 4 dX11_setBestOfOwners_106 rfl rfl (n' := 108) ?_
        refine sd_iload_n C 3 dX11_setBestOfOwners_108 rfl rfl rfl (n' := 109) ?_
        refine sd_iload C 7 dX11_setBestOfOwners_109 rfl rfl (n' := 111) ?_
        obtain ⟨q111, e111, hF⟩ := sd_bind hF
        refine sd_callVI [.int x1, .int x4, .int x3, .int x8] [] C (ct_X11_taking M x1 x4 x3 x8  e111) sd_lX11_245 ⟨rfl, rfl, Nat.le_of_ble_eq_true rfl, Nat.le_of_ble_eq_true rfl⟩ sd_i100 (sd_e12 sd_k100) rfl rfl rfl (Nat.le_of_ble_eq_true rfl) dX11_setBestOfOwners_111 rfl (n' := 114) ?_
        refine sd_istore [(9, .int q111), (0, .ref (E.2.2 100)), (1, .int x1), (2, .int x2), (3, .int x3), (4, .int x4), (5, .long l5), (7, .int x7), (8, .int x8)] C dX11_setBestOfOwners_114 (by decide) rfl rfl (n' := 116) ?_
        refine sd_aload_n C 1 dX11_setBestOfOwners_116 rfl rfl rfl (n' := 117) ?_
        refine sd_iconst C (v := 1) dX11_setBestOfOwners_117 rfl rfl (n' := 118) ?_
        refine sd_iload_n C 3 dX11_setBestOfOwners_118 rfl rfl rfl (n' := 119) ?_
        refine sd_iload_n C 4 dX11_setBestOfOwners_119 rfl rfl rfl (n' := 120) ?_
        refine sd_iload C 8 dX11_setBestOfOwners_120 rfl rfl (n' := 122) ?_
        obtain ⟨q122, e122, hF⟩ := sd_bind hF
        refine sd_callVL [.int (1 : Int32), .int x2, .int x3, .int x8] [] C (ct_X11_worthOf M (1 : Int32) x2 x3 x8  e122) sd_lX11_208 ⟨rfl, rfl, Nat.le_of_ble_eq_true rfl, Nat.le_of_ble_eq_true rfl⟩ sd_i100 (sd_e12 sd_k100) rfl rfl rfl (Nat.le_of_ble_eq_true rfl) dX11_setBestOfOwners_122 rfl (n' := 125) ?_
        refine sd_aload_n C 1 dX11_setBestOfOwners_125 rfl rfl rfl (n' := 126) ?_
        refine sd_iconst C (v := 0) dX11_setBestOfOwners_126 rfl rfl (n' := 127) ?_
        refine sd_iload C 0 dX11_setBestOfOwners_127 rfl rfl (n' := 129) ?_
        obtain ⟨q129, e129, hF⟩ := sd_bind hF
        refine sd_callVI [.int (0 : Int32), .int q111] [.long q122] C (ct_X11_chances M (0 : Int32) q111  e129) sd_lX11_181 ⟨rfl, rfl, Nat.le_of_ble_eq_true rfl, Nat.le_of_ble_eq_true rfl⟩ sd_i100 (sd_e12 sd_k100) rfl rfl rfl (Nat.le_of_ble_eq_true rfl) dX11_setBestOfOwners_129 rfl (n' := 132) ?_
        refine sd_i2l C dX11_setBestOfOwners_132 rfl (n' := 133) ?_
        refine sd_lmul C dX11_setBestOfOwners_133 rfl (n' := 134) ?_
        refine sd_aload_n C 1 dX11_setBestOfOwners_134 rfl rfl rfl (n' := 135) ?_
        obtain ⟨q135, e135, hF⟩ := sd_bind hF
        refine sd_callVI [] [.long (q122 * q129.toInt64)] C (ct_X11_last M   e135) sd_lX11_188 ⟨rfl, rfl, Nat.le_of_ble_eq_true rfl, Nat.le_of_ble_eq_true rfl⟩ sd_i100 (sd_e12 sd_k100) rfl rfl rfl (Nat.le_of_ble_eq_true rfl) dX11_setBestOfOwners_135 rfl (n' := 138) ?_
        refine sd_iload_n C 4 dX11_setBestOfOwners_138 rfl rfl rfl (n' := 139) ?_
        refine sd_isub C dX11_setBestOfOwners_139 rfl (n' := 140) ?_
        obtain ⟨q140, e140, hF⟩ := sd_bind hF
        refine sd_callSL [.int (q135 - x3)] [.long (q122 * q129.toInt64)] C (ct_X11_twelve M (q135 - x3)  e140) sd_lX11_212 ⟨rfl, rfl, Nat.le_of_ble_eq_true rfl, Nat.le_of_ble_eq_true rfl⟩ rfl (Nat.le_of_ble_eq_true rfl) dX11_setBestOfOwners_140 rfl (n' := 143) ?_
        refine sd_lmul C dX11_setBestOfOwners_143 rfl (n' := 144) ?_
        refine sd_aload_n C 1 dX11_setBestOfOwners_144 rfl rfl rfl (n' := 145) ?_
        refine sd_g11_25 C sd_i100 sd_k100 sd_w1066 dX11_setBestOfOwners_145 rfl (n' := 148) ?_
        refine sd_bipush C (v := 8) dX11_setBestOfOwners_148 rfl rfl (n' := 150) ?_
        refine sd_iload_n C 4 dX11_setBestOfOwners_150 rfl rfl rfl (n' := 151) ?_
        refine sd_iconst C (v := 1) dX11_setBestOfOwners_151 rfl rfl (n' := 152) ?_
        refine sd_iadd C dX11_setBestOfOwners_152 rfl (n' := 153) ?_
        refine sd_imul C dX11_setBestOfOwners_153 rfl (n' := 154) ?_
        refine sd_iload C 5 dX11_setBestOfOwners_154 rfl rfl (n' := 156) ?_
        refine sd_iload C 0 dX11_setBestOfOwners_156 rfl rfl (n' := 158) ?_
        refine sd_iconst C (v := -1) dX11_setBestOfOwners_158 rfl rfl (n' := 159) ?_
        refine sd_ixor C dX11_setBestOfOwners_159 rfl (n' := 160) ?_
        refine sd_iand C dX11_setBestOfOwners_160 rfl (n' := 161) ?_
        refine sd_iadd C dX11_setBestOfOwners_161 rfl (n' := 162) ?_
        obtain ⟨b162, hF⟩ := sd_ok hF
        refine sd_lald C sd_i117 sd_k117 sd_n117 b162 dX11_setBestOfOwners_162 rfl (n' := 163) ?_
        refine sd_ladd C dX11_setBestOfOwners_163 rfl (n' := 164) ?_
        refine sd_lstore [(10, .long (((q122 * q129.toInt64) * q140) + (M.2 117 (((8 : Int32) * (x3 + (1 : Int32))) + (x4 &&& (q111 ^^^ (-1 : Int32)))).toNatClampNeg))), (9, .int q111), (0, .ref (E.2.2 100)), (1, .int x1), (2, .int x2), (3, .int x3), (4, .int x4), (5, .long l5), (7, .int x7), (8, .int x8)] C dX11_setBestOfOwners_164 (by decide) rfl rfl (n' := 166) ?_
        refine sd_iload C 8 dX11_setBestOfOwners_166 rfl rfl (n' := 168) ?_
        refine sd_if_lt C (n' := 171) (tgt := 179) dX11_setBestOfOwners_168 rfl rfl (fun c168 => ?_) (fun c168 => ?_)
        · replace hF := sd_pos hF c168
          refine sd_iload C 9 dX11_setBestOfOwners_179 rfl rfl (n' := 181) ?_
          refine sd_goto C (tgt := 186) dX11_setBestOfOwners_181 rfl ?_
          refine sd_sub [2, 3, 4, 5, 6, 7, 9, 0] rfl ?_
          exact tb_X11_setBestOfOwners_186 C hk61 hk69 ih M x1 x2 x3 x4 l5 x8 (((q122 * q129.toInt64) * q140) + (M.2 117 (((8 : Int32) * (x3 + (1 : Int32))) + (x4 &&& (q111 ^^^ (-1 : Int32)))).toNatClampNeg)) x8 hF
        · replace hF := sd_neg hF c168
          refine sd_lload C 0 dX11_setBestOfOwners_171 rfl rfl (n' := 173) ?_
          refine sd_lload C 7 dX11_setBestOfOwners_173 rfl rfl (n' := 175) ?_
          refine sd_lcmp C dX11_setBestOfOwners_175 rfl (n' := 176) ?_
          refine sd_if_le C (n' := 179) (tgt := 184) dX11_setBestOfOwners_176 rfl rfl (fun c176 => ?_) (fun c176 => ?_)
          · replace hF := sd_pos hF c176
            refine sd_iload C 8 dX11_setBestOfOwners_184 rfl rfl (n' := 186) ?_
            refine sd_sub [2, 3, 4, 5, 6, 7, 9, 0] rfl ?_
            exact tb_X11_setBestOfOwners_186 C hk61 hk69 ih M x1 x2 x3 x4 l5 x8 (((q122 * q129.toInt64) * q140) + (M.2 117 (((8 : Int32) * (x3 + (1 : Int32))) + (x4 &&& (q111 ^^^ (-1 : Int32)))).toNatClampNeg)) x7 hF
          · replace hF := sd_neg hF c176
            refine sd_iload C 9 dX11_setBestOfOwners_179 rfl rfl (n' := 181) ?_
            refine sd_goto C (tgt := 186) dX11_setBestOfOwners_181 rfl ?_
            refine sd_sub [2, 3, 4, 5, 6, 7, 9, 0] rfl ?_
            exact tb_X11_setBestOfOwners_186 C hk61 hk69 ih M x1 x2 x3 x4 l5 x8 (((q122 * q129.toInt64) * q140) + (M.2 117 (((8 : Int32) * (x3 + (1 : Int32))) + (x4 &&& (q111 ^^^ (-1 : Int32)))).toNatClampNeg)) x8 hF
set_option maxRecDepth 100000 in
set_option maxHeartbeats 4000000 in
theorem tb_X11_setBestOfOwners_69 {K : sd_K} {E : sd_Env}   {r : sd_Mem} (C : sd_C K E sd_LM RX11 cX11_setBestOfOwners 12 none)  {k61 : sd_Mem → Int32 → Int32 → Int32 → Option sd_Mem} (hk61 : ∀ (M : sd_Mem) (x1 : Int32) (x2 : Int32) (x3 : Int32), k61 M x1 x2 x3 = some r → sd_Z K rm_X11_setBestOfOwners E sd_LM 12 (sd_QV K E sd_LM r) M 61 [(0, .ref (E.2.2 100)), (1, .int x1), (2, .int x2), (3, .int x3)] []) : ∀ (n : Nat), ∀ (M : sd_Mem) (x1 : Int32) (x2 : Int32) (x3 : Int32) (x4 : Int32), fn_X11_setBestOfOwners_69 k61 n M x1 x2 x3 x4 = some r → sd_Z K rm_X11_setBestOfOwners E sd_LM 12 (sd_QV K E sd_LM r) M 69 [(0, .ref (E.2.2 100)), (1, .int x1), (2, .int x2), (3, .int x3), (4, .int x4)] [] := by
  intro n
  induction n with
  | zero => intro M x1 x2 x3 x4 hF; cases hF
  | succ n ih =>
    intro M x1 x2 x3 x4 hF
    unfold fn_X11_setBestOfOwners_69 at hF
    refine sd_iload C 4 dX11_setBestOfOwners_69 rfl rfl (n' := 71) ?_
    refine sd_aload_n C 0 dX11_setBestOfOwners_71 rfl rfl rfl (n' := 72) ?_
    refine sd_iconst C (v := 0) dX11_setBestOfOwners_72 rfl rfl (n' := 73) ?_
    obtain ⟨q73, e73, hF⟩ := sd_bind hF
    refine sd_callVI [.int (0 : Int32)] [.int x4] C (ct_X11_whoAll M (0 : Int32)  e73) sd_lX11_178 ⟨rfl, rfl, Nat.le_of_ble_eq_true rfl, Nat.le_of_ble_eq_true rfl⟩ sd_i100 (sd_e12 sd_k100) rfl rfl rfl (Nat.le_of_ble_eq_true rfl) dX11_setBestOfOwners_73 rfl (n' := 76) ?_
    refine sd_icmp_gt C (n' := 79) (tgt := 292) dX11_setBestOfOwners_76 rfl rfl (fun c76 => ?_) (fun c76 => ?_)
    · replace hF := sd_pos hF c76
      refine sd_iinc [(3, .int (x3 + (-1 : Int32))), (0, .ref (E.2.2 100)), (1, .int x1), (2, .int x2), (4, .int x4)] 3 C dX11_setBestOfOwners_292 rfl rfl (by decide) rfl rfl (n' := 295) ?_
      refine sd_goto C (tgt := 61) dX11_setBestOfOwners_295 rfl ?_
      refine sd_sub [1, 2, 3, 0] rfl ?_
      exact hk61 M x1 x2 (x3 + (-1 : Int32)) hF
    · replace hF := sd_neg hF c76
      refine sd_lconst C (v := 0) dX11_setBestOfOwners_79 rfl rfl (n' := 80) ?_
      refine sd_lstore [(5, .long (0 : Int64)), (0, .ref (E.2.2 100)), (1, .int x1), (2, .int x2), (3, .int x3), (4, .int x4)] C dX11_setBestOfOwners_80 (by decide) rfl rfl (n' := 82) ?_
      refine sd_bipush C (v := -9) dX11_setBestOfOwners_82 rfl rfl (n' := 84) ?_
      refine sd_istore [(7, .int (-9 : Int32)), (5, .long (0 : Int64)), (0, .ref (E.2.2 100)), (1, .int x1), (2, .int x2), (3, .int x3), (4, .int x4)] C dX11_setBestOfOwners_84 (by decide) rfl rfl (n' := 86) ?_
      refine sd_iconst C (v := 0) dX11_setBestOfOwners_86 rfl rfl (n' := 87) ?_
      refine sd_istore [(8, .int (0 : Int32)), (7, .int (-9 : Int32)), (5, .long (0 : Int64)), (0, .ref (E.2.2 100)), (1, .int x1), (2, .int x2), (3, .int x3), (4, .int x4)] C dX11_setBestOfOwners_87 (by decide) rfl rfl (n' := 89) ?_
      refine sd_sub [3, 4, 5, 6, 7, 2, 1, 0] rfl ?_
      exact tb_X11_setBestOfOwners_89 C hk61 ih sd_FU M x1 x2 x3 x4 (0 : Int64) (-9 : Int32) (0 : Int32) hF
set_option maxRecDepth 100000 in
set_option maxHeartbeats 4000000 in
theorem tb_X11_setBestOfOwners_61 {K : sd_K} {E : sd_Env}   {r : sd_Mem} (C : sd_C K E sd_LM RX11 cX11_setBestOfOwners 12 none)  : ∀ (n : Nat), ∀ (M : sd_Mem) (x1 : Int32) (x2 : Int32) (x3 : Int32), fn_X11_setBestOfOwners_61 n M x1 x2 x3 = some r → sd_Z K rm_X11_setBestOfOwners E sd_LM 12 (sd_QV K E sd_LM r) M 61 [(0, .ref (E.2.2 100)), (1, .int x1), (2, .int x2), (3, .int x3)] [] := by
  intro n
  induction n with
  | zero => intro M x1 x2 x3 hF; cases hF
  | succ n ih =>
    intro M x1 x2 x3 hF
    unfold fn_X11_setBestOfOwners_61 at hF
    refine sd_iload_n C 3 dX11_setBestOfOwners_61 rfl rfl rfl (n' := 62) ?_
    refine sd_iconst C (v := 1) dX11_setBestOfOwners_62 rfl rfl (n' := 63) ?_
    refine sd_icmp_lt C (n' := 66) (tgt := 298) dX11_setBestOfOwners_63 rfl rfl (fun c63 => ?_) (fun c63 => ?_)
    · replace hF := sd_pos hF c63
      exact sd_vret C dX11_setBestOfOwners_298 (Option.some.inj hF)
    · replace hF := sd_neg hF c63
      refine sd_iconst C (v := 0) dX11_setBestOfOwners_66 rfl rfl (n' := 67) ?_
      refine sd_istore [(4, .int (0 : Int32)), (0, .ref (E.2.2 100)), (1, .int x1), (2, .int x2), (3, .int x3)] C dX11_setBestOfOwners_67 (by decide) rfl rfl (n' := 69) ?_
      refine sd_sub [1, 2, 3, 4, 0] rfl ?_
      exact tb_X11_setBestOfOwners_69 C ih sd_FU M x1 x2 x3 (0 : Int32) hF
set_option maxRecDepth 100000 in
set_option maxHeartbeats 4000000 in
theorem tb_X11_setBestOfOwners_2 {K : sd_K} {E : sd_Env}   {r : sd_Mem} (C : sd_C K E sd_LM RX11 cX11_setBestOfOwners 12 none)  : ∀ (n : Nat), ∀ (M : sd_Mem) (x1 : Int32) (x2 : Int32) (x3 : Int32), fn_X11_setBestOfOwners_2 n M x1 x2 x3 = some r → sd_Z K rm_X11_setBestOfOwners E sd_LM 12 (sd_QV K E sd_LM r) M 2 [(0, .ref (E.2.2 100)), (1, .int x1), (2, .int x2), (3, .int x3)] [] := by
  intro n
  induction n with
  | zero => intro M x1 x2 x3 hF; cases hF
  | succ n ih =>
    intro M x1 x2 x3 hF
    unfold fn_X11_setBestOfOwners_2 at hF
    refine sd_iload_n C 3 dX11_setBestOfOwners_2 rfl rfl rfl (n' := 3) ?_
    refine sd_bipush C (v := 8) dX11_setBestOfOwners_3 rfl rfl (n' := 5) ?_
    refine sd_icmp_ge C (n' := 8) (tgt := 56) dX11_setBestOfOwners_5 rfl rfl (fun c5 => ?_) (fun c5 => ?_)
    · replace hF := sd_pos hF c5
      refine sd_aload_n C 0 dX11_setBestOfOwners_56 rfl rfl rfl (n' := 57) ?_
      obtain ⟨q57, e57, hF⟩ := sd_bind hF
      refine sd_callVI [] [] C (ct_X11_last M   e57) sd_lX11_188 ⟨rfl, rfl, Nat.le_of_ble_eq_true rfl, Nat.le_of_ble_eq_true rfl⟩ sd_i100 (sd_e12 sd_k100) rfl rfl rfl (Nat.le_of_ble_eq_true rfl) dX11_setBestOfOwners_57 rfl (n' := 60) ?_
      refine sd_istore_n [(3, .int q57), (0, .ref (E.2.2 100)), (1, .int x1), (2, .int x2)] C dX11_setBestOfOwners_60 rfl (by decide) rfl rfl (n' := 61) ?_
      refine sd_sub [1, 2, 3, 0] rfl ?_
      exact tb_X11_setBestOfOwners_61 C sd_FU M x1 x2 q57 hF
    · replace hF := sd_neg hF c5
      refine sd_aload_n C 0 dX11_setBestOfOwners_8 rfl rfl rfl (n' := 9) ?_
      refine sd_g11_25 C sd_i100 sd_k100 sd_w1066 dX11_setBestOfOwners_9 rfl (n' := 12) ?_
      refine sd_bipush C (v := 8) dX11_setBestOfOwners_12 rfl rfl (n' := 14) ?_
      refine sd_aload_n C 0 dX11_setBestOfOwners_14 rfl rfl rfl (n' := 15) ?_
      obtain ⟨q15, e15, hF⟩ := sd_bind hF
      refine sd_callVI [] [.int (8 : Int32), .ref (E.2.2 117)] C (ct_X11_last M   e15) sd_lX11_188 ⟨rfl, rfl, Nat.le_of_ble_eq_true rfl, Nat.le_of_ble_eq_true rfl⟩ sd_i100 (sd_e12 sd_k100) rfl rfl rfl (Nat.le_of_ble_eq_true rfl) dX11_setBestOfOwners_15 rfl (n' := 18) ?_
      refine sd_iconst C (v := 1) dX11_setBestOfOwners_18 rfl rfl (n' := 19) ?_
      refine sd_iadd C dX11_setBestOfOwners_19 rfl (n' := 20) ?_
      refine sd_imul C dX11_setBestOfOwners_20 rfl (n' := 21) ?_
      refine sd_iload_n C 3 dX11_setBestOfOwners_21 rfl rfl rfl (n' := 22) ?_
      refine sd_iadd C dX11_setBestOfOwners_22 rfl (n' := 23) ?_
      refine sd_aload_n C 0 dX11_setBestOfOwners_23 rfl rfl rfl (n' := 24) ?_
      refine sd_iconst C (v := 1) dX11_setBestOfOwners_24 rfl rfl (n' := 25) ?_
      refine sd_iload_n C 2 dX11_setBestOfOwners_25 rfl rfl rfl (n' := 26) ?_
      refine sd_aload_n C 0 dX11_setBestOfOwners_26 rfl rfl rfl (n' := 27) ?_
      obtain ⟨q27, e27, hF⟩ := sd_bind hF
      refine sd_callVI [] [.int x2, .int (1 : Int32), .ref (E.2.2 100), .int (((8 : Int32) * (q15 + (1 : Int32))) + x3), .ref (E.2.2 117)] C (ct_X11_last M   e27) sd_lX11_188 ⟨rfl, rfl, Nat.le_of_ble_eq_true rfl, Nat.le_of_ble_eq_true rfl⟩ sd_i100 (sd_e12 sd_k100) rfl rfl rfl (Nat.le_of_ble_eq_true rfl) dX11_setBestOfOwners_27 rfl (n' := 30) ?_
      refine sd_iconst C (v := 1) dX11_setBestOfOwners_30 rfl rfl (n' := 31) ?_
      refine sd_iadd C dX11_setBestOfOwners_31 rfl (n' := 32) ?_
      refine sd_aload_n C 0 dX11_setBestOfOwners_32 rfl rfl rfl (n' := 33) ?_
      refine sd_g11_13 C sd_i100 sd_k100 sd_w1054 dX11_setBestOfOwners_33 rfl (n' := 36) ?_
      refine sd_iconst C (v := 3) dX11_setBestOfOwners_36 rfl rfl (n' := 37) ?_
      obtain ⟨b37, hF⟩ := sd_ok hF
      refine sd_iald C sd_i110 sd_k110 sd_n110 b37 dX11_setBestOfOwners_37 rfl (n' := 38) ?_
      obtain ⟨q38, e38, hF⟩ := sd_bind hF
      refine sd_callVL [.int (1 : Int32), .int x2, .int (q27 + (1 : Int32)), .int (M.1 110 (3 : Int32).toNatClampNeg)] [.int (((8 : Int32) * (q15 + (1 : Int32))) + x3), .ref (E.2.2 117)] C (ct_X11_worthOf M (1 : Int32) x2 (q27 + (1 : Int32)) (M.1 110 (3 : Int32).toNatClampNeg)  e38) sd_lX11_208 ⟨rfl, rfl, Nat.le_of_ble_eq_true rfl, Nat.le_of_ble_eq_true rfl⟩ sd_i100 (sd_e12 sd_k100) rfl rfl rfl (Nat.le_of_ble_eq_true rfl) dX11_setBestOfOwners_38 rfl (n' := 41) ?_
      refine sd_aload_n C 0 dX11_setBestOfOwners_41 rfl rfl rfl (n' := 42) ?_
      refine sd_iconst C (v := 0) dX11_setBestOfOwners_42 rfl rfl (n' := 43) ?_
      refine sd_iload_n C 3 dX11_setBestOfOwners_43 rfl rfl rfl (n' := 44) ?_
      obtain ⟨q44, e44, hF⟩ := sd_bind hF
      refine sd_callVI [.int (0 : Int32), .int x3] [.long q38, .int (((8 : Int32) * (q15 + (1 : Int32))) + x3), .ref (E.2.2 117)] C (ct_X11_chances M (0 : Int32) x3  e44) sd_lX11_181 ⟨rfl, rfl, Nat.le_of_ble_eq_true rfl, Nat.le_of_ble_eq_true rfl⟩ sd_i100 (sd_e12 sd_k100) rfl rfl rfl (Nat.le_of_ble_eq_true rfl) dX11_setBestOfOwners_44 rfl (n' := 47) ?_
      refine sd_i2l C dX11_setBestOfOwners_47 rfl (n' := 48) ?_
      refine sd_lmul C dX11_setBestOfOwners_48 rfl (n' := 49) ?_
      obtain ⟨b49, hF⟩ := sd_ok hF
      refine sd_last C sd_i117 sd_k117 sd_n117 b49 dX11_setBestOfOwners_49 rfl (n' := 50) ?_
      refine sd_iinc [(3, .int (x3 + (1 : Int32))), (0, .ref (E.2.2 100)), (1, .int x1), (2, .int x2)] 3 C dX11_setBestOfOwners_50 rfl rfl (by decide) rfl rfl (n' := 53) ?_
      refine sd_goto C (tgt := 2) dX11_setBestOfOwners_53 rfl ?_
      refine sd_sub [1, 2, 3, 0] rfl ?_
      exact ih (sd_setL M 117 (((8 : Int32) * (q15 + (1 : Int32))) + x3).toNatClampNeg (q38 * q44.toInt64)) x1 x2 (x3 + (1 : Int32)) hF
set_option maxRecDepth 100000 in
set_option maxHeartbeats 4000000 in
theorem tb_X11_setBestOfOwners_0 {K : sd_K} {E : sd_Env}   {r : sd_Mem} (C : sd_C K E sd_LM RX11 cX11_setBestOfOwners 12 none)  : ∀ (M : sd_Mem) (x1 : Int32) (x2 : Int32), fn_X11_setBestOfOwners_0 M x1 x2 = some r → sd_Z K rm_X11_setBestOfOwners E sd_LM 12 (sd_QV K E sd_LM r) M 0 [(0, .ref (E.2.2 100)), (1, .int x1), (2, .int x2)] [] := by
  intro M x1 x2 hF
  unfold fn_X11_setBestOfOwners_0 at hF
  refine sd_iconst C (v := 0) dX11_setBestOfOwners_0 rfl rfl (n' := 1) ?_
  refine sd_istore_n [(3, .int (0 : Int32)), (0, .ref (E.2.2 100)), (1, .int x1), (2, .int x2)] C dX11_setBestOfOwners_1 rfl (by decide) rfl rfl (n' := 2) ?_
  refine sd_sub [1, 2, 3, 0] rfl ?_
  exact tb_X11_setBestOfOwners_2 C sd_FU M x1 x2 (0 : Int32) hF
theorem ct_X11_setBestOfOwners {l : Launch} {E : sd_Env} (M : sd_Mem) (x1 : Int32) (x2 : Int32)  {r : sd_Mem} (hF : fn_X11_setBestOfOwners M x1 x2 = some r) : sd_MV l E sd_LM yX11_setBestOfOwners cX11_setBestOfOwners 12 none rm_X11_setBestOfOwners [.ref (E.2.2 100), .int x1, .int x2] M r := sd_ent0 (by decide +kernel) (Nat.le_of_ble_eq_true rfl) (fun p e s m below meth c C => tb_X11_setBestOfOwners_0 C M x1 x2 hF)
theorem dX11_bestOf_0 : decode cX11_bestOf 0 = .ok (.iload_n 2, 1) := by decide +kernel
theorem dX11_bestOf_1 : decode cX11_bestOf 1 = .ok (.ifCond .ne 12, 3) := by decide +kernel
theorem dX11_bestOf_4 : decode cX11_bestOf 4 = .ok (.aload_n 0, 1) := by decide +kernel
theorem dX11_bestOf_5 : decode cX11_bestOf 5 = .ok (.iload_n 1, 1) := by decide +kernel
theorem dX11_bestOf_6 : decode cX11_bestOf 6 = .ok (.iload_n 3, 1) := by decide +kernel
theorem dX11_bestOf_7 : decode cX11_bestOf 7 = .ok (.invokevirtual 248, 3) := by decide +kernel
theorem dX11_bestOf_10 : decode cX11_bestOf 10 = .ok (.goto 9, 3) := by decide +kernel
theorem dX11_bestOf_13 : decode cX11_bestOf 13 = .ok (.aload_n 0, 1) := by decide +kernel
theorem dX11_bestOf_14 : decode cX11_bestOf 14 = .ok (.iload_n 1, 1) := by decide +kernel
theorem dX11_bestOf_15 : decode cX11_bestOf 15 = .ok (.iload_n 3, 1) := by decide +kernel
theorem dX11_bestOf_16 : decode cX11_bestOf 16 = .ok (.invokevirtual 252, 3) := by decide +kernel
theorem dX11_bestOf_19 : decode cX11_bestOf 19 = .ok (.aload_n 0, 1) := by decide +kernel
theorem dX11_bestOf_20 : decode cX11_bestOf 20 = .ok (.getfield 69, 3) := by decide +kernel
theorem dX11_bestOf_23 : decode cX11_bestOf 23 = .ok (.bipush 8, 2) := by decide +kernel
theorem dX11_bestOf_25 : decode cX11_bestOf 25 = .ok (.aload_n 0, 1) := by decide +kernel
theorem dX11_bestOf_26 : decode cX11_bestOf 26 = .ok (.iconst 1, 1) := by decide +kernel
theorem dX11_bestOf_27 : decode cX11_bestOf 27 = .ok (.iload_n 2, 1) := by decide +kernel
theorem dX11_bestOf_28 : decode cX11_bestOf 28 = .ok (.isub, 1) := by decide +kernel
theorem dX11_bestOf_29 : decode cX11_bestOf 29 = .ok (.invokevirtual 178, 3) := by decide +kernel
theorem dX11_bestOf_32 : decode cX11_bestOf 32 = .ok (.iadd, 1) := by decide +kernel
theorem dX11_bestOf_33 : decode cX11_bestOf 33 = .ok (.laload, 1) := by decide +kernel
theorem dX11_bestOf_34 : decode cX11_bestOf 34 = .ok (.lreturn, 1) := by decide +kernel
set_option maxRecDepth 100000 in
set_option maxHeartbeats 4000000 in
theorem tb_X11_bestOf_19 {K : sd_K} {E : sd_Env}   {r : (Int64 × sd_Mem)} (C : sd_C K E sd_LM RX11 cX11_bestOf 4 (some .long))  : ∀ (M : sd_Mem) (x2 : Int32), fn_X11_bestOf_19 M x2 = some r → sd_Z K rm_X11_bestOf E sd_LM 4 (sd_QL K E sd_LM r.1 r.2) M 19 [(0, .ref (E.2.2 100)), (2, .int x2)] [] := by
  intro M x2 hF
  unfold fn_X11_bestOf_19 at hF
  refine sd_aload_n C 0 dX11_bestOf_19 rfl rfl rfl (n' := 20) ?_
  refine sd_g11_25 C sd_i100 sd_k100 sd_w1066 dX11_bestOf_20 rfl (n' := 23) ?_
  refine sd_bipush C (v := 8) dX11_bestOf_23 rfl rfl (n' := 25) ?_
  refine sd_aload_n C 0 dX11_bestOf_25 rfl rfl rfl (n' := 26) ?_
  refine sd_iconst C (v := 1) dX11_bestOf_26 rfl rfl (n' := 27) ?_
  refine sd_iload_n C 1 dX11_bestOf_27 rfl rfl rfl (n' := 28) ?_
  refine sd_isub C dX11_bestOf_28 rfl (n' := 29) ?_
  obtain ⟨q29, e29, hF⟩ := sd_bind hF
  refine sd_callVI [.int ((1 : Int32) - x2)] [.int (8 : Int32), .ref (E.2.2 117)] C (ct_X11_whoAll M ((1 : Int32) - x2)  e29) sd_lX11_178 ⟨rfl, rfl, Nat.le_of_ble_eq_true rfl, Nat.le_of_ble_eq_true rfl⟩ sd_i100 (sd_e12 sd_k100) rfl rfl rfl (Nat.le_of_ble_eq_true rfl) dX11_bestOf_29 rfl (n' := 32) ?_
  refine sd_iadd C dX11_bestOf_32 rfl (n' := 33) ?_
  obtain ⟨b33, hF⟩ := sd_ok hF
  refine sd_lald C sd_i117 sd_k117 sd_n117 b33 dX11_bestOf_33 rfl (n' := 34) ?_
  exact sd_lret C dX11_bestOf_34 (sd_fst hF) (sd_snd hF)
set_option maxRecDepth 100000 in
set_option maxHeartbeats 4000000 in
theorem tb_X11_bestOf_0 {K : sd_K} {E : sd_Env}   {r : (Int64 × sd_Mem)} (C : sd_C K E sd_LM RX11 cX11_bestOf 4 (some .long))  : ∀ (M : sd_Mem) (x1 : Int32) (x2 : Int32) (x3 : Int32), fn_X11_bestOf_0 M x1 x2 x3 = some r → sd_Z K rm_X11_bestOf E sd_LM 4 (sd_QL K E sd_LM r.1 r.2) M 0 [(0, .ref (E.2.2 100)), (1, .int x1), (2, .int x2), (3, .int x3)] [] := by
  intro M x1 x2 x3 hF
  unfold fn_X11_bestOf_0 at hF
  refine sd_iload_n C 2 dX11_bestOf_0 rfl rfl rfl (n' := 1) ?_
  refine sd_if_ne C (n' := 4) (tgt := 13) dX11_bestOf_1 rfl rfl (fun c1 => ?_) (fun c1 => ?_)
  · replace hF := sd_neg hF c1
    refine sd_aload_n C 0 dX11_bestOf_13 rfl rfl rfl (n' := 14) ?_
    refine sd_iload_n C 1 dX11_bestOf_14 rfl rfl rfl (n' := 15) ?_
    refine sd_iload_n C 3 dX11_bestOf_15 rfl rfl rfl (n' := 16) ?_
    obtain ⟨q16, e16, hF⟩ := sd_bind hF
    refine sd_callVV [.int x1, .int x3] [] C (ct_X11_setBestOfOwners M x1 x3  e16) sd_lX11_252 ⟨rfl, rfl, Nat.le_of_ble_eq_true rfl, Nat.le_of_ble_eq_true rfl⟩ sd_i100 (sd_e12 sd_k100) rfl rfl rfl (Nat.le_of_ble_eq_true rfl) dX11_bestOf_16 rfl (n' := 19) ?_
    refine sd_sub [0, 2] rfl ?_
    exact tb_X11_bestOf_19 C q16 x2 hF
  · replace hF := sd_pos hF c1
    refine sd_aload_n C 0 dX11_bestOf_4 rfl rfl rfl (n' := 5) ?_
    refine sd_iload_n C 1 dX11_bestOf_5 rfl rfl rfl (n' := 6) ?_
    refine sd_iload_n C 3 dX11_bestOf_6 rfl rfl rfl (n' := 7) ?_
    obtain ⟨q7, e7, hF⟩ := sd_bind hF
    refine sd_callVV [.int x1, .int x3] [] C (ct_X11_setBestOfMen M x1 x3  e7) sd_lX11_248 ⟨rfl, rfl, Nat.le_of_ble_eq_true rfl, Nat.le_of_ble_eq_true rfl⟩ sd_i100 (sd_e12 sd_k100) rfl rfl rfl (Nat.le_of_ble_eq_true rfl) dX11_bestOf_7 rfl (n' := 10) ?_
    refine sd_goto C (tgt := 19) dX11_bestOf_10 rfl ?_
    refine sd_sub [0, 2] rfl ?_
    exact tb_X11_bestOf_19 C q7 x2 hF
theorem ct_X11_bestOf {l : Launch} {E : sd_Env} (M : sd_Mem) (x1 : Int32) (x2 : Int32) (x3 : Int32)  {r : (Int64 × sd_Mem)} (hF : fn_X11_bestOf M x1 x2 x3 = some r) : sd_ML l E sd_LM yX11_bestOf cX11_bestOf 4 (some .long) rm_X11_bestOf [.ref (E.2.2 100), .int x1, .int x2, .int x3] M r.1 r.2 := sd_ent0 (by decide +kernel) (Nat.le_of_ble_eq_true rfl) (fun p e s m below meth c C => tb_X11_bestOf_0 C M x1 x2 x3 hF)
theorem dX11_best_0 : decode cX11_best 0 = .ok (.aload_n 0, 1) := by decide +kernel
theorem dX11_best_1 : decode cX11_best 1 = .ok (.iload_n 2, 1) := by decide +kernel
theorem dX11_best_2 : decode cX11_best 2 = .ok (.iload_n 3, 1) := by decide +kernel
theorem dX11_best_3 : decode cX11_best 3 = .ok (.invokevirtual 153, 3) := by decide +kernel
theorem dX11_best_6 : decode cX11_best 6 = .ok (.ifCond .ne 5, 3) := by decide +kernel
theorem dX11_best_9 : decode cX11_best 9 = .ok (.iconst (-1), 1) := by decide +kernel
theorem dX11_best_10 : decode cX11_best 10 = .ok (.ireturn, 1) := by decide +kernel
theorem dX11_best_11 : decode cX11_best 11 = .ok (.aload_n 0, 1) := by decide +kernel
theorem dX11_best_12 : decode cX11_best 12 = .ok (.iload_n 1, 1) := by decide +kernel
theorem dX11_best_13 : decode cX11_best 13 = .ok (.invokevirtual 168, 3) := by decide +kernel
theorem dX11_best_16 : decode cX11_best 16 = .ok (.istore 4, 2) := by decide +kernel
theorem dX11_best_18 : decode cX11_best 18 = .ok (.iload 4, 2) := by decide +kernel
theorem dX11_best_20 : decode cX11_best 20 = .ok (.ifCond .ge 6, 3) := by decide +kernel
theorem dX11_best_23 : decode cX11_best 23 = .ok (.iload 4, 2) := by decide +kernel
theorem dX11_best_25 : decode cX11_best 25 = .ok (.ireturn, 1) := by decide +kernel
theorem dX11_best_26 : decode cX11_best 26 = .ok (.aload_n 0, 1) := by decide +kernel
theorem dX11_best_27 : decode cX11_best 27 = .ok (.getfield 63, 3) := by decide +kernel
theorem dX11_best_30 : decode cX11_best 30 = .ok (.iload_n 1, 1) := by decide +kernel
theorem dX11_best_31 : decode cX11_best 31 = .ok (.iaload, 1) := by decide +kernel
theorem dX11_best_32 : decode cX11_best 32 = .ok (.iload_n 2, 1) := by decide +kernel
theorem dX11_best_33 : decode cX11_best 33 = .ok (.ifCond .ne 7, 3) := by decide +kernel
theorem dX11_best_36 : decode cX11_best 36 = .ok (.iconst 1, 1) := by decide +kernel
theorem dX11_best_37 : decode cX11_best 37 = .ok (.goto 4, 3) := by decide +kernel
theorem dX11_best_40 : decode cX11_best 40 = .ok (.iconst 2, 1) := by decide +kernel
theorem dX11_best_41 : decode cX11_best 41 = .ok (.if_icmp .eq 9, 3) := by decide +kernel
theorem dX11_best_44 : decode cX11_best 44 = .ok (.aload_n 0, 1) := by decide +kernel
theorem dX11_best_45 : decode cX11_best 45 = .ok (.iconst 3, 1) := by decide +kernel
theorem dX11_best_46 : decode cX11_best 46 = .ok (.invokevirtual 105, 3) := by decide +kernel
theorem dX11_best_49 : decode cX11_best 49 = .ok (.ireturn, 1) := by decide +kernel
theorem dX11_best_50 : decode cX11_best 50 = .ok (.aload_n 0, 1) := by decide +kernel
theorem dX11_best_51 : decode cX11_best 51 = .ok (.aload_n 0, 1) := by decide +kernel
theorem dX11_best_52 : decode cX11_best 52 = .ok (.iload_n 1, 1) := by decide +kernel
theorem dX11_best_53 : decode cX11_best 53 = .ok (.iload_n 2, 1) := by decide +kernel
theorem dX11_best_54 : decode cX11_best 54 = .ok (.iload_n 3, 1) := by decide +kernel
theorem dX11_best_55 : decode cX11_best 55 = .ok (.invokevirtual 255, 3) := by decide +kernel
theorem dX11_best_58 : decode cX11_best 58 = .ok (.aload_n 0, 1) := by decide +kernel
theorem dX11_best_59 : decode cX11_best 59 = .ok (.iload_n 2, 1) := by decide +kernel
theorem dX11_best_60 : decode cX11_best 60 = .ok (.invokevirtual 222, 3) := by decide +kernel
theorem dX11_best_63 : decode cX11_best 63 = .ok (.iconst 1, 1) := by decide +kernel
theorem dX11_best_64 : decode cX11_best 64 = .ok (.invokevirtual 225, 3) := by decide +kernel
theorem dX11_best_67 : decode cX11_best 67 = .ok (.ireturn, 1) := by decide +kernel
set_option maxRecDepth 100000 in
set_option maxHeartbeats 4000000 in
theorem tb_X11_best_41 {K : sd_K} {E : sd_Env}   {r : (Int32 × sd_Mem)} (C : sd_C K E sd_LM RX11 cX11_best 5 (some .int))  : ∀ (M : sd_Mem) (x1 : Int32) (x2 : Int32) (x3 : Int32) (xs0 : Int32) (xs1 : Int32), fn_X11_best_41 M x1 x2 x3 xs0 xs1 = some r → sd_Z K rm_X11_best E sd_LM 5 (sd_QI K E sd_LM r.1 r.2) M 41 [(0, .ref (E.2.2 100)), (1, .int x1), (2, .int x2), (3, .int x3)] [.int xs0, .int xs1] := by
  intro M x1 x2 x3 xs0 xs1 hF
  unfold fn_X11_best_41 at hF
  refine sd_icmp_eq C (n' := 44) (tgt := 50) dX11_best_41 rfl rfl (fun c41 => ?_) (fun c41 => ?_)
  · replace hF := sd_pos hF c41
    refine sd_aload_n C 0 dX11_best_50 rfl rfl rfl (n' := 51) ?_
    refine sd_aload_n C 0 dX11_best_51 rfl rfl rfl (n' := 52) ?_
    refine sd_iload_n C 1 dX11_best_52 rfl rfl rfl (n' := 53) ?_
    refine sd_iload_n C 2 dX11_best_53 rfl rfl rfl (n' := 54) ?_
    refine sd_iload_n C 3 dX11_best_54 rfl rfl rfl (n' := 55) ?_
    obtain ⟨q55, e55, hF⟩ := sd_bind hF
    refine sd_callVL [.int x1, .int x2, .int x3] [.ref (E.2.2 100)] C (ct_X11_bestOf M x1 x2 x3  e55) sd_lX11_255 ⟨rfl, rfl, Nat.le_of_ble_eq_true rfl, Nat.le_of_ble_eq_true rfl⟩ sd_i100 (sd_e12 sd_k100) rfl rfl rfl (Nat.le_of_ble_eq_true rfl) dX11_best_55 rfl (n' := 58) ?_
    refine sd_aload_n C 0 dX11_best_58 rfl rfl rfl (n' := 59) ?_
    refine sd_iload_n C 2 dX11_best_59 rfl rfl rfl (n' := 60) ?_
    obtain ⟨q60, e60, hF⟩ := sd_bind hF
    refine sd_callVL [.int x2] [.long q55.1, .ref (E.2.2 100)] C (ct_X11_whole q55.2 x2  e60) sd_lX11_222 ⟨rfl, rfl, Nat.le_of_ble_eq_true rfl, Nat.le_of_ble_eq_true rfl⟩ sd_i100 (sd_e12 sd_k100) rfl rfl rfl (Nat.le_of_ble_eq_true rfl) dX11_best_60 rfl (n' := 63) ?_
    refine sd_iconst C (v := 1) dX11_best_63 rfl rfl (n' := 64) ?_
    obtain ⟨q64, e64, hF⟩ := sd_bind hF
    refine sd_callVI [.long q55.1, .long q60, .int (1 : Int32)] [] C (ct_X11_share q55.2 q55.1 q60 (1 : Int32)  e64) sd_lX11_225 ⟨rfl, rfl, Nat.le_of_ble_eq_true rfl, Nat.le_of_ble_eq_true rfl⟩ sd_i100 (sd_e12 sd_k100) rfl rfl rfl (Nat.le_of_ble_eq_true rfl) dX11_best_64 rfl (n' := 67) ?_
    exact sd_iret C dX11_best_67 (sd_fst hF) (sd_snd hF)
  · replace hF := sd_neg hF c41
    refine sd_aload_n C 0 dX11_best_44 rfl rfl rfl (n' := 45) ?_
    refine sd_iconst C (v := 3) dX11_best_45 rfl rfl (n' := 46) ?_
    obtain ⟨q46, e46, hF⟩ := sd_bind hF
    refine sd_callVI [.int (3 : Int32)] [] C (ct_X11_meets M (3 : Int32)  e46) sd_lX11_105 ⟨rfl, rfl, Nat.le_of_ble_eq_true rfl, Nat.le_of_ble_eq_true rfl⟩ sd_i100 (sd_e12 sd_k100) rfl rfl rfl (Nat.le_of_ble_eq_true rfl) dX11_best_46 rfl (n' := 49) ?_
    exact sd_iret C dX11_best_49 (sd_fst hF) (sd_snd hF)
set_option maxRecDepth 100000 in
set_option maxHeartbeats 4000000 in
theorem tb_X11_best_0 {K : sd_K} {E : sd_Env}   {r : (Int32 × sd_Mem)} (C : sd_C K E sd_LM RX11 cX11_best 5 (some .int))  : ∀ (M : sd_Mem) (x1 : Int32) (x2 : Int32) (x3 : Int32), fn_X11_best_0 M x1 x2 x3 = some r → sd_Z K rm_X11_best E sd_LM 5 (sd_QI K E sd_LM r.1 r.2) M 0 [(0, .ref (E.2.2 100)), (1, .int x1), (2, .int x2), (3, .int x3)] [] := by
  intro M x1 x2 x3 hF
  unfold fn_X11_best_0 at hF
  refine sd_aload_n C 0 dX11_best_0 rfl rfl rfl (n' := 1) ?_
  refine sd_iload_n C 2 dX11_best_1 rfl rfl rfl (n' := 2) ?_
  refine sd_iload_n C 3 dX11_best_2 rfl rfl rfl (n' := 3) ?_
  obtain ⟨q3, e3, hF⟩ := sd_bind hF
  refine sd_callVI [.int x2, .int x3] [] C (ct_X11_isSort M x2 x3  e3) sd_lX11_153 ⟨rfl, rfl, Nat.le_of_ble_eq_true rfl, Nat.le_of_ble_eq_true rfl⟩ sd_i100 (sd_e12 sd_k100) rfl rfl rfl (Nat.le_of_ble_eq_true rfl) dX11_best_3 rfl (n' := 6) ?_
  refine sd_if_ne C (n' := 9) (tgt := 11) dX11_best_6 rfl rfl (fun c6 => ?_) (fun c6 => ?_)
  · replace hF := sd_neg hF c6
    refine sd_aload_n C 0 dX11_best_11 rfl rfl rfl (n' := 12) ?_
    refine sd_iload_n C 1 dX11_best_12 rfl rfl rfl (n' := 13) ?_
    obtain ⟨q13, e13, hF⟩ := sd_bind hF
    refine sd_callVI [.int x1] [] C (ct_X11_askedWay M x1  e13) sd_lX11_168 ⟨rfl, rfl, Nat.le_of_ble_eq_true rfl, Nat.le_of_ble_eq_true rfl⟩ sd_i100 (sd_e12 sd_k100) rfl rfl rfl (Nat.le_of_ble_eq_true rfl) dX11_best_13 rfl (n' := 16) ?_
    refine sd_istore [(4, .int q13.1), (0, .ref (E.2.2 100)), (1, .int x1), (2, .int x2), (3, .int x3)] C dX11_best_16 (by decide) rfl rfl (n' := 18) ?_
    refine sd_iload C 0 dX11_best_18 rfl rfl (n' := 20) ?_
    refine sd_if_ge C (n' := 23) (tgt := 26) dX11_best_20 rfl rfl (fun c20 => ?_) (fun c20 => ?_)
    · replace hF := sd_pos hF c20
      refine sd_aload_n C 1 dX11_best_26 rfl rfl rfl (n' := 27) ?_
      refine sd_g11_23 C sd_i100 sd_k100 sd_w1064 dX11_best_27 rfl (n' := 30) ?_
      refine sd_iload_n C 2 dX11_best_30 rfl rfl rfl (n' := 31) ?_
      obtain ⟨b31, hF⟩ := sd_ok hF
      refine sd_iald C sd_i115 sd_k115 sd_n115 b31 dX11_best_31 rfl (n' := 32) ?_
      refine sd_iload_n C 3 dX11_best_32 rfl rfl rfl (n' := 33) ?_
      refine sd_if_ne C (n' := 36) (tgt := 40) dX11_best_33 rfl rfl (fun c33 => ?_) (fun c33 => ?_)
      · replace hF := sd_neg hF c33
        refine sd_iconst C (v := 2) dX11_best_40 rfl rfl (n' := 41) ?_
        refine sd_sub [1, 2, 3, 4] rfl ?_
        exact tb_X11_best_41 C q13.2 x1 x2 x3 (2 : Int32) (q13.2.1 115 x1.toNatClampNeg) hF
      · replace hF := sd_pos hF c33
        refine sd_iconst C (v := 1) dX11_best_36 rfl rfl (n' := 37) ?_
        refine sd_goto C (tgt := 41) dX11_best_37 rfl ?_
        refine sd_sub [1, 2, 3, 4] rfl ?_
        exact tb_X11_best_41 C q13.2 x1 x2 x3 (1 : Int32) (q13.2.1 115 x1.toNatClampNeg) hF
    · replace hF := sd_neg hF c20
      refine sd_iload C 0 dX11_best_23 rfl rfl (n' := 25) ?_
      exact sd_iret C dX11_best_25 (sd_fst hF) (sd_snd hF)
  · replace hF := sd_pos hF c6
    refine sd_iconst C (v := -1) dX11_best_9 rfl rfl (n' := 10) ?_
    exact sd_iret C dX11_best_10 (sd_fst hF) (sd_snd hF)
theorem ct_X11_best {l : Launch} {E : sd_Env} (M : sd_Mem) (x1 : Int32) (x2 : Int32) (x3 : Int32)  {r : (Int32 × sd_Mem)} (hF : fn_X11_best M x1 x2 x3 = some r) : sd_MI l E sd_LM yX11_best cX11_best 5 (some .int) rm_X11_best [.ref (E.2.2 100), .int x1, .int x2, .int x3] M r.1 r.2 := sd_ent0 (by decide +kernel) (Nat.le_of_ble_eq_true rfl) (fun p e s m below meth c C => tb_X11_best_0 C M x1 x2 x3 hF)
theorem dX11_rest_0 : decode cX11_rest 0 = .ok (.aload_n 0, 1) := by decide +kernel
theorem dX11_rest_1 : decode cX11_rest 1 = .ok (.iload_n 1, 1) := by decide +kernel
theorem dX11_rest_2 : decode cX11_rest 2 = .ok (.iload_n 2, 1) := by decide +kernel
theorem dX11_rest_3 : decode cX11_rest 3 = .ok (.iconst 0, 1) := by decide +kernel
theorem dX11_rest_4 : decode cX11_rest 4 = .ok (.invokevirtual 195, 3) := by decide +kernel
theorem dX11_rest_7 : decode cX11_rest 7 = .ok (.istore_n 3, 1) := by decide +kernel
theorem dX11_rest_8 : decode cX11_rest 8 = .ok (.iload_n 3, 1) := by decide +kernel
theorem dX11_rest_9 : decode cX11_rest 9 = .ok (.ifCond .ge 5, 3) := by decide +kernel
theorem dX11_rest_12 : decode cX11_rest 12 = .ok (.iload_n 3, 1) := by decide +kernel
theorem dX11_rest_13 : decode cX11_rest 13 = .ok (.ireturn, 1) := by decide +kernel
theorem dX11_rest_14 : decode cX11_rest 14 = .ok (.iconst 0, 1) := by decide +kernel
theorem dX11_rest_15 : decode cX11_rest 15 = .ok (.istore 4, 2) := by decide +kernel
theorem dX11_rest_17 : decode cX11_rest 17 = .ok (.iload 4, 2) := by decide +kernel
theorem dX11_rest_19 : decode cX11_rest 19 = .ok (.iconst 1, 1) := by decide +kernel
theorem dX11_rest_20 : decode cX11_rest 20 = .ok (.if_icmp .gt 71, 3) := by decide +kernel
theorem dX11_rest_23 : decode cX11_rest 23 = .ok (.iconst 0, 1) := by decide +kernel
theorem dX11_rest_24 : decode cX11_rest 24 = .ok (.istore 5, 2) := by decide +kernel
theorem dX11_rest_26 : decode cX11_rest 26 = .ok (.iload 5, 2) := by decide +kernel
theorem dX11_rest_28 : decode cX11_rest 28 = .ok (.aload_n 0, 1) := by decide +kernel
theorem dX11_rest_29 : decode cX11_rest 29 = .ok (.getfield 32, 3) := by decide +kernel
theorem dX11_rest_32 : decode cX11_rest 32 = .ok (.iload 4, 2) := by decide +kernel
theorem dX11_rest_34 : decode cX11_rest 34 = .ok (.iaload, 1) := by decide +kernel
theorem dX11_rest_35 : decode cX11_rest 35 = .ok (.if_icmp .ge 50, 3) := by decide +kernel
theorem dX11_rest_38 : decode cX11_rest 38 = .ok (.aload_n 0, 1) := by decide +kernel
theorem dX11_rest_39 : decode cX11_rest 39 = .ok (.iload 4, 2) := by decide +kernel
theorem dX11_rest_41 : decode cX11_rest 41 = .ok (.ifCond .ne 7, 3) := by decide +kernel
theorem dX11_rest_44 : decode cX11_rest 44 = .ok (.iload_n 1, 1) := by decide +kernel
theorem dX11_rest_45 : decode cX11_rest 45 = .ok (.goto 4, 3) := by decide +kernel
theorem dX11_rest_48 : decode cX11_rest 48 = .ok (.iload_n 2, 1) := by decide +kernel
theorem dX11_rest_49 : decode cX11_rest 49 = .ok (.iload 4, 2) := by decide +kernel
theorem dX11_rest_51 : decode cX11_rest 51 = .ok (.iload 5, 2) := by decide +kernel
theorem dX11_rest_53 : decode cX11_rest 53 = .ok (.invokevirtual 255, 3) := by decide +kernel
theorem dX11_rest_56 : decode cX11_rest 56 = .ok (.aload_n 0, 1) := by decide +kernel
theorem dX11_rest_57 : decode cX11_rest 57 = .ok (.iload_n 1, 1) := by decide +kernel
theorem dX11_rest_58 : decode cX11_rest 58 = .ok (.iload_n 2, 1) := by decide +kernel
theorem dX11_rest_59 : decode cX11_rest 59 = .ok (.iload 4, 2) := by decide +kernel
theorem dX11_rest_61 : decode cX11_rest 61 = .ok (.iload 5, 2) := by decide +kernel
theorem dX11_rest_63 : decode cX11_rest 63 = .ok (.invokevirtual 219, 3) := by decide +kernel
theorem dX11_rest_66 : decode cX11_rest 66 = .ok (.lcmp, 1) := by decide +kernel
theorem dX11_rest_67 : decode cX11_rest 67 = .ok (.ifCond .le 12, 3) := by decide +kernel
theorem dX11_rest_70 : decode cX11_rest 70 = .ok (.bipush 10, 2) := by decide +kernel
theorem dX11_rest_72 : decode cX11_rest 72 = .ok (.iload 4, 2) := by decide +kernel
theorem dX11_rest_74 : decode cX11_rest 74 = .ok (.imul, 1) := by decide +kernel
theorem dX11_rest_75 : decode cX11_rest 75 = .ok (.iload 5, 2) := by decide +kernel
theorem dX11_rest_77 : decode cX11_rest 77 = .ok (.iadd, 1) := by decide +kernel
theorem dX11_rest_78 : decode cX11_rest 78 = .ok (.ireturn, 1) := by decide +kernel
theorem dX11_rest_79 : decode cX11_rest 79 = .ok (.iinc 5 1, 3) := by decide +kernel
theorem dX11_rest_82 : decode cX11_rest 82 = .ok (.goto (-56), 3) := by decide +kernel
theorem dX11_rest_85 : decode cX11_rest 85 = .ok (.iinc 4 1, 3) := by decide +kernel
theorem dX11_rest_88 : decode cX11_rest 88 = .ok (.goto (-71), 3) := by decide +kernel
theorem dX11_rest_91 : decode cX11_rest 91 = .ok (.bipush (-9), 2) := by decide +kernel
theorem dX11_rest_93 : decode cX11_rest 93 = .ok (.ireturn, 1) := by decide +kernel
set_option maxRecDepth 100000 in
set_option maxHeartbeats 4000000 in
theorem tb_X11_rest_70 {K : sd_K} {E : sd_Env}   {r : (Int32 × sd_Mem)} (C : sd_C K E sd_LM RX11 cX11_rest 6 (some .int))  : ∀ (M : sd_Mem) (x4 : Int32) (x5 : Int32), fn_X11_rest_70 M x4 x5 = some r → sd_Z K rm_X11_rest E sd_LM 6 (sd_QI K E sd_LM r.1 r.2) M 70 [(4, .int x4), (5, .int x5)] [] := by
  intro M x4 x5 hF
  unfold fn_X11_rest_70 at hF
  refine sd_bipush C (v := 10) dX11_rest_70 rfl rfl (n' := 72) ?_
  refine sd_iload C 0 dX11_rest_72 rfl rfl (n' := 74) ?_
  refine sd_imul C dX11_rest_74 rfl (n' := 75) ?_
  refine sd_iload C 1 dX11_rest_75 rfl rfl (n' := 77) ?_
  refine sd_iadd C dX11_rest_77 rfl (n' := 78) ?_
  exact sd_iret C dX11_rest_78 (sd_fst hF) (sd_snd hF)
set_option maxRecDepth 100000 in
set_option maxHeartbeats 4000000 in
theorem tb_X11_rest_49 {K : sd_K} {E : sd_Env}   {r : (Int32 × sd_Mem)} (C : sd_C K E sd_LM RX11 cX11_rest 6 (some .int))  {k17 : sd_Mem → Int32 → Int32 → Int32 → Option (Int32 × sd_Mem)} (hk17 : ∀ (M : sd_Mem) (x1 : Int32) (x2 : Int32) (x4 : Int32), k17 M x1 x2 x4 = some r → sd_Z K rm_X11_rest E sd_LM 6 (sd_QI K E sd_LM r.1 r.2) M 17 [(0, .ref (E.2.2 100)), (1, .int x1), (2, .int x2), (4, .int x4)] []) {k26 : sd_Mem → Int32 → Int32 → Int32 → Int32 → Option (Int32 × sd_Mem)} (hk26 : ∀ (M : sd_Mem) (x1 : Int32) (x2 : Int32) (x4 : Int32) (x5 : Int32), k26 M x1 x2 x4 x5 = some r → sd_Z K rm_X11_rest E sd_LM 6 (sd_QI K E sd_LM r.1 r.2) M 26 [(0, .ref (E.2.2 100)), (1, .int x1), (2, .int x2), (4, .int x4), (5, .int x5)] []) : ∀ (M : sd_Mem) (x1 : Int32) (x2 : Int32) (x4 : Int32) (x5 : Int32) (xs0 : Int32), fn_X11_rest_49 k17 k26 M x1 x2 x4 x5 xs0 = some r → sd_Z K rm_X11_rest E sd_LM 6 (sd_QI K E sd_LM r.1 r.2) M 49 [(0, .ref (E.2.2 100)), (1, .int x1), (2, .int x2), (4, .int x4), (5, .int x5)] [.int xs0, .ref (E.2.2 100)] := by
  intro M x1 x2 x4 x5 xs0 hF
  unfold fn_X11_rest_49 at hF
  refine sd_iload C 3 dX11_rest_49 rfl rfl (n' := 51) ?_
  refine sd_iload C 4 dX11_rest_51 rfl rfl (n' := 53) ?_
  obtain ⟨q53, e53, hF⟩ := sd_bind hF
  refine sd_callVL [.int xs0, .int x4, .int x5] [] C (ct_X11_bestOf M xs0 x4 x5  e53) sd_lX11_255 ⟨rfl, rfl, Nat.le_of_ble_eq_true rfl, Nat.le_of_ble_eq_true rfl⟩ sd_i100 (sd_e12 sd_k100) rfl rfl rfl (Nat.le_of_ble_eq_true rfl) dX11_rest_53 rfl (n' := 56) ?_
  refine sd_aload_n C 0 dX11_rest_56 rfl rfl rfl (n' := 57) ?_
  refine sd_iload_n C 1 dX11_rest_57 rfl rfl rfl (n' := 58) ?_
  refine sd_iload_n C 2 dX11_rest_58 rfl rfl rfl (n' := 59) ?_
  refine sd_iload C 3 dX11_rest_59 rfl rfl (n' := 61) ?_
  refine sd_iload C 4 dX11_rest_61 rfl rfl (n' := 63) ?_
  obtain ⟨q63, e63, hF⟩ := sd_bind hF
  refine sd_callVL [.int x1, .int x2, .int x4, .int x5] [.long q53.1] C (ct_X11_worthIn q53.2 x1 x2 x4 x5  e63) sd_lX11_219 ⟨rfl, rfl, Nat.le_of_ble_eq_true rfl, Nat.le_of_ble_eq_true rfl⟩ sd_i100 (sd_e12 sd_k100) rfl rfl rfl (Nat.le_of_ble_eq_true rfl) dX11_rest_63 rfl (n' := 66) ?_
  refine sd_lcmp C dX11_rest_66 rfl (n' := 67) ?_
  refine sd_if_le C (n' := 70) (tgt := 79) dX11_rest_67 rfl rfl (fun c67 => ?_) (fun c67 => ?_)
  · replace hF := sd_pos hF c67
    refine sd_iinc [(5, .int (x5 + (1 : Int32))), (0, .ref (E.2.2 100)), (1, .int x1), (2, .int x2), (4, .int x4)] 4 C dX11_rest_79 rfl rfl (by decide) rfl rfl (n' := 82) ?_
    refine sd_goto C (tgt := 26) dX11_rest_82 rfl ?_
    refine sd_sub [1, 2, 3, 4, 0] rfl ?_
    exact hk26 q53.2 x1 x2 x4 (x5 + (1 : Int32)) hF
  · replace hF := sd_neg hF c67
    refine sd_sub [3, 4] rfl ?_
    exact tb_X11_rest_70 C q53.2 x4 x5 hF
set_option maxRecDepth 100000 in
set_option maxHeartbeats 4000000 in
theorem tb_X11_rest_26 {K : sd_K} {E : sd_Env}   {r : (Int32 × sd_Mem)} (C : sd_C K E sd_LM RX11 cX11_rest 6 (some .int))  {k17 : sd_Mem → Int32 → Int32 → Int32 → Option (Int32 × sd_Mem)} (hk17 : ∀ (M : sd_Mem) (x1 : Int32) (x2 : Int32) (x4 : Int32), k17 M x1 x2 x4 = some r → sd_Z K rm_X11_rest E sd_LM 6 (sd_QI K E sd_LM r.1 r.2) M 17 [(0, .ref (E.2.2 100)), (1, .int x1), (2, .int x2), (4, .int x4)] []) : ∀ (n : Nat), ∀ (M : sd_Mem) (x1 : Int32) (x2 : Int32) (x4 : Int32) (x5 : Int32), fn_X11_rest_26 k17 n M x1 x2 x4 x5 = some r → sd_Z K rm_X11_rest E sd_LM 6 (sd_QI K E sd_LM r.1 r.2) M 26 [(0, .ref (E.2.2 100)), (1, .int x1), (2, .int x2), (4, .int x4), (5, .int x5)] [] := by
  intro n
  induction n with
  | zero => intro M x1 x2 x4 x5 hF; cases hF
  | succ n ih =>
    intro M x1 x2 x4 x5 hF
    unfold fn_X11_rest_26 at hF
    refine sd_iload C 4 dX11_rest_26 rfl rfl (n' := 28) ?_
    refine sd_aload_n C 0 dX11_rest_28 rfl rfl rfl (n' := 29) ?_
    refine sd_g11_10 C sd_i100 sd_k100 sd_w1051 dX11_rest_29 rfl (n' := 32) ?_
    refine sd_iload C 3 dX11_rest_32 rfl rfl (n' := 34) ?_
    obtain ⟨b34, hF⟩ := sd_ok hF
    refine sd_iald C sd_i107 sd_k107 sd_n107 b34 dX11_rest_34 rfl (n' := 35) ?_
    refine sd_icmp_ge C (n' := 38) (tgt := 85) dX11_rest_35 rfl rfl (fun c35 => ?_) (fun c35 => ?_)
    · replace hF := sd_pos hF c35
      refine sd_iinc [(4, .int (x4 + (1 : Int32))), (0, .ref (E.2.2 100)), (1, .int x1), (2, .int x2), (5, .int x5)] 3 C dX11_rest_85 rfl rfl (by decide) rfl rfl (n' := 88) ?_
      refine sd_goto C (tgt := 17) dX11_rest_88 rfl ?_
      refine sd_sub [1, 2, 3, 0] rfl ?_
      exact hk17 M x1 x2 (x4 + (1 : Int32)) hF
    · replace hF := sd_neg hF c35
      refine sd_aload_n C 0 dX11_rest_38 rfl rfl rfl (n' := 39) ?_
      refine sd_iload C 3 dX11_rest_39 rfl rfl (n' := 41) ?_
      refine sd_if_ne C (n' := 44) (tgt := 48) dX11_rest_41 rfl rfl (fun c41 => ?_) (fun c41 => ?_)
      · replace hF := sd_neg hF c41
        refine sd_iload_n C 2 dX11_rest_48 rfl rfl rfl (n' := 49) ?_
        exact tb_X11_rest_49 C hk17 ih M x1 x2 x4 x5 x2 hF
      · replace hF := sd_pos hF c41
        refine sd_iload_n C 1 dX11_rest_44 rfl rfl rfl (n' := 45) ?_
        refine sd_goto C (tgt := 49) dX11_rest_45 rfl ?_
        exact tb_X11_rest_49 C hk17 ih M x1 x2 x4 x5 x1 hF
set_option maxRecDepth 100000 in
set_option maxHeartbeats 4000000 in
theorem tb_X11_rest_17 {K : sd_K} {E : sd_Env}   {r : (Int32 × sd_Mem)} (C : sd_C K E sd_LM RX11 cX11_rest 6 (some .int))  : ∀ (n : Nat), ∀ (M : sd_Mem) (x1 : Int32) (x2 : Int32) (x4 : Int32), fn_X11_rest_17 n M x1 x2 x4 = some r → sd_Z K rm_X11_rest E sd_LM 6 (sd_QI K E sd_LM r.1 r.2) M 17 [(0, .ref (E.2.2 100)), (1, .int x1), (2, .int x2), (4, .int x4)] [] := by
  intro n
  induction n with
  | zero => intro M x1 x2 x4 hF; cases hF
  | succ n ih =>
    intro M x1 x2 x4 hF
    unfold fn_X11_rest_17 at hF
    refine sd_iload C 3 dX11_rest_17 rfl rfl (n' := 19) ?_
    refine sd_iconst C (v := 1) dX11_rest_19 rfl rfl (n' := 20) ?_
    refine sd_icmp_gt C (n' := 23) (tgt := 91) dX11_rest_20 rfl rfl (fun c20 => ?_) (fun c20 => ?_)
    · replace hF := sd_pos hF c20
      refine sd_bipush C (v := -9) dX11_rest_91 rfl rfl (n' := 93) ?_
      exact sd_iret C dX11_rest_93 (sd_fst hF) (sd_snd hF)
    · replace hF := sd_neg hF c20
      refine sd_iconst C (v := 0) dX11_rest_23 rfl rfl (n' := 24) ?_
      refine sd_istore [(5, .int (0 : Int32)), (0, .ref (E.2.2 100)), (1, .int x1), (2, .int x2), (4, .int x4)] C dX11_rest_24 (by decide) rfl rfl (n' := 26) ?_
      refine sd_sub [1, 2, 3, 4, 0] rfl ?_
      exact tb_X11_rest_26 C ih sd_FU M x1 x2 x4 (0 : Int32) hF
set_option maxRecDepth 100000 in
set_option maxHeartbeats 4000000 in
theorem tb_X11_rest_0 {K : sd_K} {E : sd_Env}   {r : (Int32 × sd_Mem)} (C : sd_C K E sd_LM RX11 cX11_rest 6 (some .int))  : ∀ (M : sd_Mem) (x1 : Int32) (x2 : Int32), fn_X11_rest_0 M x1 x2 = some r → sd_Z K rm_X11_rest E sd_LM 6 (sd_QI K E sd_LM r.1 r.2) M 0 [(0, .ref (E.2.2 100)), (1, .int x1), (2, .int x2)] [] := by
  intro M x1 x2 hF
  unfold fn_X11_rest_0 at hF
  refine sd_aload_n C 0 dX11_rest_0 rfl rfl rfl (n' := 1) ?_
  refine sd_iload_n C 1 dX11_rest_1 rfl rfl rfl (n' := 2) ?_
  refine sd_iload_n C 2 dX11_rest_2 rfl rfl rfl (n' := 3) ?_
  refine sd_iconst C (v := 0) dX11_rest_3 rfl rfl (n' := 4) ?_
  obtain ⟨q4, e4, hF⟩ := sd_bind hF
  refine sd_callVI [.int x1, .int x2, .int (0 : Int32)] [] C (ct_X11_askedTwo M x1 x2 (0 : Int32)  e4) sd_lX11_195 ⟨rfl, rfl, Nat.le_of_ble_eq_true rfl, Nat.le_of_ble_eq_true rfl⟩ sd_i100 (sd_e12 sd_k100) rfl rfl rfl (Nat.le_of_ble_eq_true rfl) dX11_rest_4 rfl (n' := 7) ?_
  refine sd_istore_n [(3, .int q4.1), (0, .ref (E.2.2 100)), (1, .int x1), (2, .int x2)] C dX11_rest_7 rfl (by decide) rfl rfl (n' := 8) ?_
  refine sd_iload_n C 0 dX11_rest_8 rfl rfl rfl (n' := 9) ?_
  refine sd_if_ge C (n' := 12) (tgt := 14) dX11_rest_9 rfl rfl (fun c9 => ?_) (fun c9 => ?_)
  · replace hF := sd_pos hF c9
    refine sd_iconst C (v := 0) dX11_rest_14 rfl rfl (n' := 15) ?_
    refine sd_istore [(4, .int (0 : Int32)), (3, .int q4.1), (0, .ref (E.2.2 100)), (1, .int x1), (2, .int x2)] C dX11_rest_15 (by decide) rfl rfl (n' := 17) ?_
    refine sd_sub [2, 3, 4, 0] rfl ?_
    exact tb_X11_rest_17 C sd_FU q4.2 x1 x2 (0 : Int32) hF
  · replace hF := sd_neg hF c9
    refine sd_iload_n C 0 dX11_rest_12 rfl rfl rfl (n' := 13) ?_
    exact sd_iret C dX11_rest_13 (sd_fst hF) (sd_snd hF)
theorem ct_X11_rest {l : Launch} {E : sd_Env} (M : sd_Mem) (x1 : Int32) (x2 : Int32)  {r : (Int32 × sd_Mem)} (hF : fn_X11_rest M x1 x2 = some r) : sd_MI l E sd_LM yX11_rest cX11_rest 6 (some .int) rm_X11_rest [.ref (E.2.2 100), .int x1, .int x2] M r.1 r.2 := sd_ent0 (by decide +kernel) (Nat.le_of_ble_eq_true rfl) (fun p e s m below meth c C => tb_X11_rest_0 C M x1 x2 hF)
theorem dX11_changes_0 : decode cX11_changes 0 = .ok (.bipush 30, 2) := by decide +kernel
theorem dX11_changes_2 : decode cX11_changes 2 = .ok (.iload_n 1, 1) := by decide +kernel
theorem dX11_changes_3 : decode cX11_changes 3 = .ok (.imul, 1) := by decide +kernel
theorem dX11_changes_4 : decode cX11_changes 4 = .ok (.bipush 10, 2) := by decide +kernel
theorem dX11_changes_6 : decode cX11_changes 6 = .ok (.iload_n 2, 1) := by decide +kernel
theorem dX11_changes_7 : decode cX11_changes 7 = .ok (.imul, 1) := by decide +kernel
theorem dX11_changes_8 : decode cX11_changes 8 = .ok (.iadd, 1) := by decide +kernel
theorem dX11_changes_9 : decode cX11_changes 9 = .ok (.iload_n 3, 1) := by decide +kernel
theorem dX11_changes_10 : decode cX11_changes 10 = .ok (.iadd, 1) := by decide +kernel
theorem dX11_changes_11 : decode cX11_changes 11 = .ok (.iconst 1, 1) := by decide +kernel
theorem dX11_changes_12 : decode cX11_changes 12 = .ok (.isub, 1) := by decide +kernel
theorem dX11_changes_13 : decode cX11_changes 13 = .ok (.istore 5, 2) := by decide +kernel
theorem dX11_changes_15 : decode cX11_changes 15 = .ok (.aload_n 0, 1) := by decide +kernel
theorem dX11_changes_16 : decode cX11_changes 16 = .ok (.getfield 66, 3) := by decide +kernel
theorem dX11_changes_19 : decode cX11_changes 19 = .ok (.iload 5, 2) := by decide +kernel
theorem dX11_changes_21 : decode cX11_changes 21 = .ok (.iaload, 1) := by decide +kernel
theorem dX11_changes_22 : decode cX11_changes 22 = .ok (.iload 4, 2) := by decide +kernel
theorem dX11_changes_24 : decode cX11_changes 24 = .ok (.if_icmp .eq 7, 3) := by decide +kernel
theorem dX11_changes_27 : decode cX11_changes 27 = .ok (.iconst 1, 1) := by decide +kernel
theorem dX11_changes_28 : decode cX11_changes 28 = .ok (.goto 4, 3) := by decide +kernel
theorem dX11_changes_31 : decode cX11_changes 31 = .ok (.iconst 0, 1) := by decide +kernel
theorem dX11_changes_32 : decode cX11_changes 32 = .ok (.istore 6, 2) := by decide +kernel
theorem dX11_changes_34 : decode cX11_changes 34 = .ok (.aload_n 0, 1) := by decide +kernel
theorem dX11_changes_35 : decode cX11_changes 35 = .ok (.getfield 66, 3) := by decide +kernel
theorem dX11_changes_38 : decode cX11_changes 38 = .ok (.iload 5, 2) := by decide +kernel
theorem dX11_changes_40 : decode cX11_changes 40 = .ok (.iload 4, 2) := by decide +kernel
theorem dX11_changes_42 : decode cX11_changes 42 = .ok (.iastore, 1) := by decide +kernel
theorem dX11_changes_43 : decode cX11_changes 43 = .ok (.iload 6, 2) := by decide +kernel
theorem dX11_changes_45 : decode cX11_changes 45 = .ok (.ifCond .eq 7, 3) := by decide +kernel
theorem dX11_changes_48 : decode cX11_changes 48 = .ok (.iconst 1, 1) := by decide +kernel
theorem dX11_changes_49 : decode cX11_changes 49 = .ok (.goto 4, 3) := by decide +kernel
theorem dX11_changes_52 : decode cX11_changes 52 = .ok (.iconst 0, 1) := by decide +kernel
theorem dX11_changes_53 : decode cX11_changes 53 = .ok (.ireturn, 1) := by decide +kernel
set_option maxRecDepth 100000 in
set_option maxHeartbeats 4000000 in
theorem tb_X11_changes_32 {K : sd_K} {E : sd_Env}   {r : (Int32 × sd_Mem)} (C : sd_C K E sd_LM RX11 cX11_changes 7 (some .int))  : ∀ (M : sd_Mem) (x4 : Int32) (x5 : Int32) (xs0 : Int32), fn_X11_changes_32 M x4 x5 xs0 = some r → sd_Z K rm_X11_changes E sd_LM 7 (sd_QI K E sd_LM r.1 r.2) M 32 [(0, .ref (E.2.2 100)), (4, .int x4), (5, .int x5)] [.int xs0] := by
  intro M x4 x5 xs0 hF
  unfold fn_X11_changes_32 at hF
  refine sd_istore [(6, .int xs0), (0, .ref (E.2.2 100)), (4, .int x4), (5, .int x5)] C dX11_changes_32 (by decide) rfl rfl (n' := 34) ?_
  refine sd_aload_n C 1 dX11_changes_34 rfl rfl rfl (n' := 35) ?_
  refine sd_g11_24 C sd_i100 sd_k100 sd_w1065 dX11_changes_35 rfl (n' := 38) ?_
  refine sd_iload C 3 dX11_changes_38 rfl rfl (n' := 40) ?_
  refine sd_iload C 2 dX11_changes_40 rfl rfl (n' := 42) ?_
  obtain ⟨b42, hF⟩ := sd_ok hF
  refine sd_iast C sd_i116 sd_k116 sd_n116 b42 dX11_changes_42 rfl (n' := 43) ?_
  refine sd_iload C 0 dX11_changes_43 rfl rfl (n' := 45) ?_
  refine sd_if_eq C (n' := 48) (tgt := 52) dX11_changes_45 rfl rfl (fun c45 => ?_) (fun c45 => ?_)
  · replace hF := sd_pos hF c45
    refine sd_iconst C (v := 0) dX11_changes_52 rfl rfl (n' := 53) ?_
    exact sd_iret C dX11_changes_53 (sd_fst hF) (sd_snd hF)
  · replace hF := sd_neg hF c45
    refine sd_iconst C (v := 1) dX11_changes_48 rfl rfl (n' := 49) ?_
    refine sd_goto C (tgt := 53) dX11_changes_49 rfl ?_
    exact sd_iret C dX11_changes_53 (sd_fst hF) (sd_snd hF)
set_option maxRecDepth 100000 in
set_option maxHeartbeats 4000000 in
theorem tb_X11_changes_0 {K : sd_K} {E : sd_Env}   {r : (Int32 × sd_Mem)} (C : sd_C K E sd_LM RX11 cX11_changes 7 (some .int))  : ∀ (M : sd_Mem) (x1 : Int32) (x2 : Int32) (x3 : Int32) (x4 : Int32), fn_X11_changes_0 M x1 x2 x3 x4 = some r → sd_Z K rm_X11_changes E sd_LM 7 (sd_QI K E sd_LM r.1 r.2) M 0 [(0, .ref (E.2.2 100)), (1, .int x1), (2, .int x2), (3, .int x3), (4, .int x4)] [] := by
  intro M x1 x2 x3 x4 hF
  unfold fn_X11_changes_0 at hF
  refine sd_bipush C (v := 30) dX11_changes_0 rfl rfl (n' := 2) ?_
  refine sd_iload_n C 1 dX11_changes_2 rfl rfl rfl (n' := 3) ?_
  refine sd_imul C dX11_changes_3 rfl (n' := 4) ?_
  refine sd_bipush C (v := 10) dX11_changes_4 rfl rfl (n' := 6) ?_
  refine sd_iload_n C 2 dX11_changes_6 rfl rfl rfl (n' := 7) ?_
  refine sd_imul C dX11_changes_7 rfl (n' := 8) ?_
  refine sd_iadd C dX11_changes_8 rfl (n' := 9) ?_
  refine sd_iload_n C 3 dX11_changes_9 rfl rfl rfl (n' := 10) ?_
  refine sd_iadd C dX11_changes_10 rfl (n' := 11) ?_
  refine sd_iconst C (v := 1) dX11_changes_11 rfl rfl (n' := 12) ?_
  refine sd_isub C dX11_changes_12 rfl (n' := 13) ?_
  refine sd_istore [(5, .int (((((30 : Int32) * x1) + ((10 : Int32) * x2)) + x3) - (1 : Int32))), (0, .ref (E.2.2 100)), (1, .int x1), (2, .int x2), (3, .int x3), (4, .int x4)] C dX11_changes_13 (by decide) rfl rfl (n' := 15) ?_
  refine sd_aload_n C 1 dX11_changes_15 rfl rfl rfl (n' := 16) ?_
  refine sd_g11_24 C sd_i100 sd_k100 sd_w1065 dX11_changes_16 rfl (n' := 19) ?_
  refine sd_iload C 0 dX11_changes_19 rfl rfl (n' := 21) ?_
  obtain ⟨b21, hF⟩ := sd_ok hF
  refine sd_iald C sd_i116 sd_k116 sd_n116 b21 dX11_changes_21 rfl (n' := 22) ?_
  refine sd_iload C 5 dX11_changes_22 rfl rfl (n' := 24) ?_
  refine sd_icmp_eq C (n' := 27) (tgt := 31) dX11_changes_24 rfl rfl (fun c24 => ?_) (fun c24 => ?_)
  · replace hF := sd_pos hF c24
    refine sd_iconst C (v := 0) dX11_changes_31 rfl rfl (n' := 32) ?_
    refine sd_sub [1, 5, 0] rfl ?_
    exact tb_X11_changes_32 C M x4 (((((30 : Int32) * x1) + ((10 : Int32) * x2)) + x3) - (1 : Int32)) (0 : Int32) hF
  · replace hF := sd_neg hF c24
    refine sd_iconst C (v := 1) dX11_changes_27 rfl rfl (n' := 28) ?_
    refine sd_goto C (tgt := 32) dX11_changes_28 rfl ?_
    refine sd_sub [1, 5, 0] rfl ?_
    exact tb_X11_changes_32 C M x4 (((((30 : Int32) * x1) + ((10 : Int32) * x2)) + x3) - (1 : Int32)) (1 : Int32) hF
theorem ct_X11_changes {l : Launch} {E : sd_Env} (M : sd_Mem) (x1 : Int32) (x2 : Int32) (x3 : Int32) (x4 : Int32)  {r : (Int32 × sd_Mem)} (hF : fn_X11_changes M x1 x2 x3 x4 = some r) : sd_MI l E sd_LM yX11_changes cX11_changes 7 (some .int) rm_X11_changes [.ref (E.2.2 100), .int x1, .int x2, .int x3, .int x4] M r.1 r.2 := sd_ent0 (by decide +kernel) (Nat.le_of_ble_eq_true rfl) (fun p e s m below meth c C => tb_X11_changes_0 C M x1 x2 x3 x4 hF)
theorem dX11_answer_0 : decode cX11_answer 0 = .ok (.aload_n 0, 1) := by decide +kernel
theorem dX11_answer_1 : decode cX11_answer 1 = .ok (.iload_n 1, 1) := by decide +kernel
theorem dX11_answer_2 : decode cX11_answer 2 = .ok (.iload_n 2, 1) := by decide +kernel
theorem dX11_answer_3 : decode cX11_answer 3 = .ok (.iconst 0, 1) := by decide +kernel
theorem dX11_answer_4 : decode cX11_answer 4 = .ok (.invokevirtual 195, 3) := by decide +kernel
theorem dX11_answer_7 : decode cX11_answer 7 = .ok (.istore_n 3, 1) := by decide +kernel
theorem dX11_answer_8 : decode cX11_answer 8 = .ok (.iload_n 3, 1) := by decide +kernel
theorem dX11_answer_9 : decode cX11_answer 9 = .ok (.ifCond .ge 5, 3) := by decide +kernel
theorem dX11_answer_12 : decode cX11_answer 12 = .ok (.iload_n 3, 1) := by decide +kernel
theorem dX11_answer_13 : decode cX11_answer 13 = .ok (.ireturn, 1) := by decide +kernel
theorem dX11_answer_14 : decode cX11_answer 14 = .ok (.iconst 0, 1) := by decide +kernel
theorem dX11_answer_15 : decode cX11_answer 15 = .ok (.istore 4, 2) := by decide +kernel
theorem dX11_answer_17 : decode cX11_answer 17 = .ok (.iconst 0, 1) := by decide +kernel
theorem dX11_answer_18 : decode cX11_answer 18 = .ok (.istore 5, 2) := by decide +kernel
theorem dX11_answer_20 : decode cX11_answer 20 = .ok (.iload 5, 2) := by decide +kernel
theorem dX11_answer_22 : decode cX11_answer 22 = .ok (.aload_n 0, 1) := by decide +kernel
theorem dX11_answer_23 : decode cX11_answer 23 = .ok (.getfield 32, 3) := by decide +kernel
theorem dX11_answer_26 : decode cX11_answer 26 = .ok (.iconst 1, 1) := by decide +kernel
theorem dX11_answer_27 : decode cX11_answer 27 = .ok (.iaload, 1) := by decide +kernel
theorem dX11_answer_28 : decode cX11_answer 28 = .ok (.if_icmp .ge 137, 3) := by decide +kernel
theorem dX11_answer_31 : decode cX11_answer 31 = .ok (.aload_n 0, 1) := by decide +kernel
theorem dX11_answer_32 : decode cX11_answer 32 = .ok (.iload_n 2, 1) := by decide +kernel
theorem dX11_answer_33 : decode cX11_answer 33 = .ok (.iload 5, 2) := by decide +kernel
theorem dX11_answer_35 : decode cX11_answer 35 = .ok (.invokevirtual 252, 3) := by decide +kernel
theorem dX11_answer_38 : decode cX11_answer 38 = .ok (.aload_n 0, 1) := by decide +kernel
theorem dX11_answer_39 : decode cX11_answer 39 = .ok (.iconst 0, 1) := by decide +kernel
theorem dX11_answer_40 : decode cX11_answer 40 = .ok (.invokevirtual 178, 3) := by decide +kernel
theorem dX11_answer_43 : decode cX11_answer 43 = .ok (.istore 6, 2) := by decide +kernel
theorem dX11_answer_45 : decode cX11_answer 45 = .ok (.iconst 1, 1) := by decide +kernel
theorem dX11_answer_46 : decode cX11_answer 46 = .ok (.istore 7, 2) := by decide +kernel
theorem dX11_answer_48 : decode cX11_answer 48 = .ok (.iload 7, 2) := by decide +kernel
theorem dX11_answer_50 : decode cX11_answer 50 = .ok (.bipush 10, 2) := by decide +kernel
theorem dX11_answer_52 : decode cX11_answer 52 = .ok (.if_icmp .gt 107, 3) := by decide +kernel
theorem dX11_answer_55 : decode cX11_answer 55 = .ok (.iload 7, 2) := by decide +kernel
theorem dX11_answer_57 : decode cX11_answer 57 = .ok (.aload_n 0, 1) := by decide +kernel
theorem dX11_answer_58 : decode cX11_answer 58 = .ok (.getfield 44, 3) := by decide +kernel
theorem dX11_answer_61 : decode cX11_answer 61 = .ok (.if_icmp .lt 21, 3) := by decide +kernel
theorem dX11_answer_64 : decode cX11_answer 64 = .ok (.iload 7, 2) := by decide +kernel
theorem dX11_answer_66 : decode cX11_answer 66 = .ok (.aload_n 0, 1) := by decide +kernel
theorem dX11_answer_67 : decode cX11_answer 67 = .ok (.invokevirtual 188, 3) := by decide +kernel
theorem dX11_answer_70 : decode cX11_answer 70 = .ok (.if_icmp .gt 12, 3) := by decide +kernel
theorem dX11_answer_73 : decode cX11_answer 73 = .ok (.iload 6, 2) := by decide +kernel
theorem dX11_answer_75 : decode cX11_answer 75 = .ok (.ifCond .eq 7, 3) := by decide +kernel
theorem dX11_answer_78 : decode cX11_answer 78 = .ok (.iconst 1, 1) := by decide +kernel
theorem dX11_answer_79 : decode cX11_answer 79 = .ok (.goto 4, 3) := by decide +kernel
theorem dX11_answer_82 : decode cX11_answer 82 = .ok (.iconst 0, 1) := by decide +kernel
theorem dX11_answer_83 : decode cX11_answer 83 = .ok (.istore 8, 2) := by decide +kernel
theorem dX11_answer_85 : decode cX11_answer 85 = .ok (.iload 8, 2) := by decide +kernel
theorem dX11_answer_87 : decode cX11_answer 87 = .ok (.ifCond .eq 19, 3) := by decide +kernel
theorem dX11_answer_90 : decode cX11_answer 90 = .ok (.aload_n 0, 1) := by decide +kernel
theorem dX11_answer_91 : decode cX11_answer 91 = .ok (.getfield 73, 3) := by decide +kernel
theorem dX11_answer_94 : decode cX11_answer 94 = .ok (.bipush 8, 2) := by decide +kernel
theorem dX11_answer_96 : decode cX11_answer 96 = .ok (.iload 7, 2) := by decide +kernel
theorem dX11_answer_98 : decode cX11_answer 98 = .ok (.imul, 1) := by decide +kernel
theorem dX11_answer_99 : decode cX11_answer 99 = .ok (.iload 6, 2) := by decide +kernel
theorem dX11_answer_101 : decode cX11_answer 101 = .ok (.iadd, 1) := by decide +kernel
theorem dX11_answer_102 : decode cX11_answer 102 = .ok (.iaload, 1) := by decide +kernel
theorem dX11_answer_103 : decode cX11_answer 103 = .ok (.goto 4, 3) := by decide +kernel
theorem dX11_answer_106 : decode cX11_answer 106 = .ok (.iconst 0, 1) := by decide +kernel
theorem dX11_answer_107 : decode cX11_answer 107 = .ok (.istore 9, 2) := by decide +kernel
theorem dX11_answer_109 : decode cX11_answer 109 = .ok (.iload 8, 2) := by decide +kernel
theorem dX11_answer_111 : decode cX11_answer 111 = .ok (.ifCond .eq 22, 3) := by decide +kernel
theorem dX11_answer_114 : decode cX11_answer 114 = .ok (.iload 6, 2) := by decide +kernel
theorem dX11_answer_116 : decode cX11_answer 116 = .ok (.aload_n 0, 1) := by decide +kernel
theorem dX11_answer_117 : decode cX11_answer 117 = .ok (.iload_n 2, 1) := by decide +kernel
theorem dX11_answer_118 : decode cX11_answer 118 = .ok (.iload 6, 2) := by decide +kernel
theorem dX11_answer_120 : decode cX11_answer 120 = .ok (.iload 7, 2) := by decide +kernel
theorem dX11_answer_122 : decode cX11_answer 122 = .ok (.iload 9, 2) := by decide +kernel
theorem dX11_answer_124 : decode cX11_answer 124 = .ok (.invokevirtual 245, 3) := by decide +kernel
theorem dX11_answer_127 : decode cX11_answer 127 = .ok (.iconst (-1), 1) := by decide +kernel
theorem dX11_answer_128 : decode cX11_answer 128 = .ok (.ixor, 1) := by decide +kernel
theorem dX11_answer_129 : decode cX11_answer 129 = .ok (.iand, 1) := by decide +kernel
theorem dX11_answer_130 : decode cX11_answer 130 = .ok (.goto 5, 3) := by decide +kernel
theorem dX11_answer_133 : decode cX11_answer 133 = .ok (.iload 6, 2) := by decide +kernel
theorem dX11_answer_135 : decode cX11_answer 135 = .ok (.istore 6, 2) := by decide +kernel
theorem dX11_answer_137 : decode cX11_answer 137 = .ok (.iload 4, 2) := by decide +kernel
theorem dX11_answer_139 : decode cX11_answer 139 = .ok (.aload_n 0, 1) := by decide +kernel
theorem dX11_answer_140 : decode cX11_answer 140 = .ok (.iload_n 1, 1) := by decide +kernel
theorem dX11_answer_141 : decode cX11_answer 141 = .ok (.iload 5, 2) := by decide +kernel
theorem dX11_answer_143 : decode cX11_answer 143 = .ok (.iload 7, 2) := by decide +kernel
theorem dX11_answer_145 : decode cX11_answer 145 = .ok (.iload 9, 2) := by decide +kernel
theorem dX11_answer_147 : decode cX11_answer 147 = .ok (.invokevirtual 259, 3) := by decide +kernel
theorem dX11_answer_150 : decode cX11_answer 150 = .ok (.iadd, 1) := by decide +kernel
theorem dX11_answer_151 : decode cX11_answer 151 = .ok (.istore 4, 2) := by decide +kernel
theorem dX11_answer_153 : decode cX11_answer 153 = .ok (.iinc 7 1, 3) := by decide +kernel
theorem dX11_answer_156 : decode cX11_answer 156 = .ok (.goto (-108), 3) := by decide +kernel
theorem dX11_answer_159 : decode cX11_answer 159 = .ok (.iinc 5 1, 3) := by decide +kernel
theorem dX11_answer_162 : decode cX11_answer 162 = .ok (.goto (-142), 3) := by decide +kernel
theorem dX11_answer_165 : decode cX11_answer 165 = .ok (.iload 4, 2) := by decide +kernel
theorem dX11_answer_167 : decode cX11_answer 167 = .ok (.ireturn, 1) := by decide +kernel
set_option maxRecDepth 100000 in
set_option maxHeartbeats 4000000 in
theorem tb_X11_answer_135 {K : sd_K} {E : sd_Env}   {r : (Int32 × sd_Mem)} (C : sd_C K E sd_LM RX11 cX11_answer 10 (some .int))  {k20 : sd_Mem → Int32 → Int32 → Int32 → Int32 → Option (Int32 × sd_Mem)} (hk20 : ∀ (M : sd_Mem) (x1 : Int32) (x2 : Int32) (x4 : Int32) (x5 : Int32), k20 M x1 x2 x4 x5 = some r → sd_Z K rm_X11_answer E sd_LM 10 (sd_QI K E sd_LM r.1 r.2) M 20 [(0, .ref (E.2.2 100)), (1, .int x1), (2, .int x2), (4, .int x4), (5, .int x5)] []) {k48 : sd_Mem → Int32 → Int32 → Int32 → Int32 → Int32 → Int32 → Option (Int32 × sd_Mem)} (hk48 : ∀ (M : sd_Mem) (x1 : Int32) (x2 : Int32) (x4 : Int32) (x5 : Int32) (x6 : Int32) (x7 : Int32), k48 M x1 x2 x4 x5 x6 x7 = some r → sd_Z K rm_X11_answer E sd_LM 10 (sd_QI K E sd_LM r.1 r.2) M 48 [(0, .ref (E.2.2 100)), (1, .int x1), (2, .int x2), (4, .int x4), (5, .int x5), (6, .int x6), (7, .int x7)] []) : ∀ (M : sd_Mem) (x1 : Int32) (x2 : Int32) (x4 : Int32) (x5 : Int32) (x7 : Int32) (x9 : Int32) (xs0 : Int32), fn_X11_answer_135 k20 k48 M x1 x2 x4 x5 x7 x9 xs0 = some r → sd_Z K rm_X11_answer E sd_LM 10 (sd_QI K E sd_LM r.1 r.2) M 135 [(0, .ref (E.2.2 100)), (1, .int x1), (2, .int x2), (4, .int x4), (5, .int x5), (7, .int x7), (9, .int x9)] [.int xs0] := by
  intro M x1 x2 x4 x5 x7 x9 xs0 hF
  unfold fn_X11_answer_135 at hF
  refine sd_istore [(6, .int xs0), (0, .ref (E.2.2 100)), (1, .int x1), (2, .int x2), (4, .int x4), (5, .int x5), (7, .int x7), (9, .int x9)] C dX11_answer_135 (by decide) rfl rfl (n' := 137) ?_
  refine sd_iload C 4 dX11_answer_137 rfl rfl (n' := 139) ?_
  refine sd_aload_n C 1 dX11_answer_139 rfl rfl rfl (n' := 140) ?_
  refine sd_iload_n C 2 dX11_answer_140 rfl rfl rfl (n' := 141) ?_
  refine sd_iload C 5 dX11_answer_141 rfl rfl (n' := 143) ?_
  refine sd_iload C 6 dX11_answer_143 rfl rfl (n' := 145) ?_
  refine sd_iload C 7 dX11_answer_145 rfl rfl (n' := 147) ?_
  obtain ⟨q147, e147, hF⟩ := sd_bind hF
  refine sd_callVI [.int x1, .int x5, .int x7, .int x9] [.int x4] C (ct_X11_changes M x1 x5 x7 x9  e147) sd_lX11_259 ⟨rfl, rfl, Nat.le_of_ble_eq_true rfl, Nat.le_of_ble_eq_true rfl⟩ sd_i100 (sd_e12 sd_k100) rfl rfl rfl (Nat.le_of_ble_eq_true rfl) dX11_answer_147 rfl (n' := 150) ?_
  refine sd_iadd C dX11_answer_150 rfl (n' := 151) ?_
  refine sd_istore [(4, .int (x4 + q147.1)), (6, .int xs0), (0, .ref (E.2.2 100)), (1, .int x1), (2, .int x2), (5, .int x5), (7, .int x7), (9, .int x9)] C dX11_answer_151 (by decide) rfl rfl (n' := 153) ?_
  refine sd_iinc [(7, .int (x7 + (1 : Int32))), (4, .int (x4 + q147.1)), (6, .int xs0), (0, .ref (E.2.2 100)), (1, .int x1), (2, .int x2), (5, .int x5), (9, .int x9)] 6 C dX11_answer_153 rfl rfl (by decide) rfl rfl (n' := 156) ?_
  refine sd_goto C (tgt := 48) dX11_answer_156 rfl ?_
  refine sd_sub [3, 4, 5, 1, 6, 2, 0] rfl ?_
  exact hk48 q147.2 x1 x2 (x4 + q147.1) x5 xs0 (x7 + (1 : Int32)) hF
set_option maxRecDepth 100000 in
set_option maxHeartbeats 4000000 in
theorem tb_X11_answer_107 {K : sd_K} {E : sd_Env}   {r : (Int32 × sd_Mem)} (C : sd_C K E sd_LM RX11 cX11_answer 10 (some .int))  {k20 : sd_Mem → Int32 → Int32 → Int32 → Int32 → Option (Int32 × sd_Mem)} (hk20 : ∀ (M : sd_Mem) (x1 : Int32) (x2 : Int32) (x4 : Int32) (x5 : Int32), k20 M x1 x2 x4 x5 = some r → sd_Z K rm_X11_answer E sd_LM 10 (sd_QI K E sd_LM r.1 r.2) M 20 [(0, .ref (E.2.2 100)), (1, .int x1), (2, .int x2), (4, .int x4), (5, .int x5)] []) {k48 : sd_Mem → Int32 → Int32 → Int32 → Int32 → Int32 → Int32 → Option (Int32 × sd_Mem)} (hk48 : ∀ (M : sd_Mem) (x1 : Int32) (x2 : Int32) (x4 : Int32) (x5 : Int32) (x6 : Int32) (x7 : Int32), k48 M x1 x2 x4 x5 x6 x7 = some r → sd_Z K rm_X11_answer E sd_LM 10 (sd_QI K E sd_LM r.1 r.2) M 48 [(0, .ref (E.2.2 100)), (1, .int x1), (2, .int x2), (4, .int x4), (5, .int x5), (6, .int x6), (7, .int x7)] []) : ∀ (M : sd_Mem) (x1 : Int32) (x2 : Int32) (x4 : Int32) (x5 : Int32) (x6 : Int32) (x7 : Int32) (x8 : Int32) (xs0 : Int32), fn_X11_answer_107 k20 k48 M x1 x2 x4 x5 x6 x7 x8 xs0 = some r → sd_Z K rm_X11_answer E sd_LM 10 (sd_QI K E sd_LM r.1 r.2) M 107 [(0, .ref (E.2.2 100)), (1, .int x1), (2, .int x2), (4, .int x4), (5, .int x5), (6, .int x6), (7, .int x7), (8, .int x8)] [.int xs0] := by
  intro M x1 x2 x4 x5 x6 x7 x8 xs0 hF
  unfold fn_X11_answer_107 at hF
  refine sd_istore [(9, .int xs0), (0, .ref (E.2.2 100)), (1, .int x1), (2, .int x2), (4, .int x4), (5, .int x5), (6, .int x6), (7, .int x7), (8, .int x8)] C dX11_answer_107 (by decide) rfl rfl (n' := 109) ?_
  refine sd_iload C 8 dX11_answer_109 rfl rfl (n' := 111) ?_
  refine sd_if_eq C (n' := 114) (tgt := 133) dX11_answer_111 rfl rfl (fun c111 => ?_) (fun c111 => ?_)
  · replace hF := sd_pos hF c111
    refine sd_iload C 6 dX11_answer_133 rfl rfl (n' := 135) ?_
    refine sd_sub [1, 2, 3, 4, 5, 7, 0] rfl ?_
    exact tb_X11_answer_135 C hk20 hk48 M x1 x2 x4 x5 x7 xs0 x6 hF
  · replace hF := sd_neg hF c111
    refine sd_iload C 6 dX11_answer_114 rfl rfl (n' := 116) ?_
    refine sd_aload_n C 1 dX11_answer_116 rfl rfl rfl (n' := 117) ?_
    refine sd_iload_n C 3 dX11_answer_117 rfl rfl rfl (n' := 118) ?_
    refine sd_iload C 6 dX11_answer_118 rfl rfl (n' := 120) ?_
    refine sd_iload C 7 dX11_answer_120 rfl rfl (n' := 122) ?_
    refine sd_iload C 0 dX11_answer_122 rfl rfl (n' := 124) ?_
    obtain ⟨q124, e124, hF⟩ := sd_bind hF
    refine sd_callVI [.int x2, .int x6, .int x7, .int xs0] [.int x6] C (ct_X11_taking M x2 x6 x7 xs0  e124) sd_lX11_245 ⟨rfl, rfl, Nat.le_of_ble_eq_true rfl, Nat.le_of_ble_eq_true rfl⟩ sd_i100 (sd_e12 sd_k100) rfl rfl rfl (Nat.le_of_ble_eq_true rfl) dX11_answer_124 rfl (n' := 127) ?_
    refine sd_iconst C (v := -1) dX11_answer_127 rfl rfl (n' := 128) ?_
    refine sd_ixor C dX11_answer_128 rfl (n' := 129) ?_
    refine sd_iand C dX11_answer_129 rfl (n' := 130) ?_
    refine sd_goto C (tgt := 135) dX11_answer_130 rfl ?_
    refine sd_sub [1, 2, 3, 4, 5, 7, 0] rfl ?_
    exact tb_X11_answer_135 C hk20 hk48 M x1 x2 x4 x5 x7 xs0 (x6 &&& (q124 ^^^ (-1 : Int32))) hF
set_option maxRecDepth 100000 in
set_option maxHeartbeats 4000000 in
theorem tb_X11_answer_83 {K : sd_K} {E : sd_Env}   {r : (Int32 × sd_Mem)} (C : sd_C K E sd_LM RX11 cX11_answer 10 (some .int))  {k20 : sd_Mem → Int32 → Int32 → Int32 → Int32 → Option (Int32 × sd_Mem)} (hk20 : ∀ (M : sd_Mem) (x1 : Int32) (x2 : Int32) (x4 : Int32) (x5 : Int32), k20 M x1 x2 x4 x5 = some r → sd_Z K rm_X11_answer E sd_LM 10 (sd_QI K E sd_LM r.1 r.2) M 20 [(0, .ref (E.2.2 100)), (1, .int x1), (2, .int x2), (4, .int x4), (5, .int x5)] []) {k48 : sd_Mem → Int32 → Int32 → Int32 → Int32 → Int32 → Int32 → Option (Int32 × sd_Mem)} (hk48 : ∀ (M : sd_Mem) (x1 : Int32) (x2 : Int32) (x4 : Int32) (x5 : Int32) (x6 : Int32) (x7 : Int32), k48 M x1 x2 x4 x5 x6 x7 = some r → sd_Z K rm_X11_answer E sd_LM 10 (sd_QI K E sd_LM r.1 r.2) M 48 [(0, .ref (E.2.2 100)), (1, .int x1), (2, .int x2), (4, .int x4), (5, .int x5), (6, .int x6), (7, .int x7)] []) : ∀ (M : sd_Mem) (x1 : Int32) (x2 : Int32) (x4 : Int32) (x5 : Int32) (x6 : Int32) (x7 : Int32) (xs0 : Int32), fn_X11_answer_83 k20 k48 M x1 x2 x4 x5 x6 x7 xs0 = some r → sd_Z K rm_X11_answer E sd_LM 10 (sd_QI K E sd_LM r.1 r.2) M 83 [(0, .ref (E.2.2 100)), (1, .int x1), (2, .int x2), (4, .int x4), (5, .int x5), (6, .int x6), (7, .int x7)] [.int xs0] := by
  intro M x1 x2 x4 x5 x6 x7 xs0 hF
  unfold fn_X11_answer_83 at hF
  refine sd_istore [(8, .int xs0), (0, .ref (E.2.2 100)), (1, .int x1), (2, .int x2), (4, .int x4), (5, .int x5), (6, .int x6), (7, .int x7)] C dX11_answer_83 (by decide) rfl rfl (n' := 85) ?_
  refine sd_iload C 0 dX11_answer_85 rfl rfl (n' := 87) ?_
  refine sd_if_eq C (n' := 90) (tgt := 106) dX11_answer_87 rfl rfl (fun c87 => ?_) (fun c87 => ?_)
  · replace hF := sd_pos hF c87
    refine sd_iconst C (v := 0) dX11_answer_106 rfl rfl (n' := 107) ?_
    refine sd_sub [1, 2, 3, 4, 5, 6, 7, 0] rfl ?_
    exact tb_X11_answer_107 C hk20 hk48 M x1 x2 x4 x5 x6 x7 xs0 (0 : Int32) hF
  · replace hF := sd_neg hF c87
    refine sd_aload_n C 1 dX11_answer_90 rfl rfl rfl (n' := 91) ?_
    refine sd_g11_26 C sd_i100 sd_k100 sd_w1067 dX11_answer_91 rfl (n' := 94) ?_
    refine sd_bipush C (v := 8) dX11_answer_94 rfl rfl (n' := 96) ?_
    refine sd_iload C 7 dX11_answer_96 rfl rfl (n' := 98) ?_
    refine sd_imul C dX11_answer_98 rfl (n' := 99) ?_
    refine sd_iload C 6 dX11_answer_99 rfl rfl (n' := 101) ?_
    refine sd_iadd C dX11_answer_101 rfl (n' := 102) ?_
    obtain ⟨b102, hF⟩ := sd_ok hF
    refine sd_iald C sd_i118 sd_k118 sd_n118 b102 dX11_answer_102 rfl (n' := 103) ?_
    refine sd_goto C (tgt := 107) dX11_answer_103 rfl ?_
    refine sd_sub [1, 2, 3, 4, 5, 6, 7, 0] rfl ?_
    exact tb_X11_answer_107 C hk20 hk48 M x1 x2 x4 x5 x6 x7 xs0 (M.1 118 (((8 : Int32) * x7) + x6).toNatClampNeg) hF
set_option maxRecDepth 100000 in
set_option maxHeartbeats 4000000 in
theorem tb_X11_answer_48 {K : sd_K} {E : sd_Env}   {r : (Int32 × sd_Mem)} (C : sd_C K E sd_LM RX11 cX11_answer 10 (some .int))  {k20 : sd_Mem → Int32 → Int32 → Int32 → Int32 → Option (Int32 × sd_Mem)} (hk20 : ∀ (M : sd_Mem) (x1 : Int32) (x2 : Int32) (x4 : Int32) (x5 : Int32), k20 M x1 x2 x4 x5 = some r → sd_Z K rm_X11_answer E sd_LM 10 (sd_QI K E sd_LM r.1 r.2) M 20 [(0, .ref (E.2.2 100)), (1, .int x1), (2, .int x2), (4, .int x4), (5, .int x5)] []) : ∀ (n : Nat), ∀ (M : sd_Mem) (x1 : Int32) (x2 : Int32) (x4 : Int32) (x5 : Int32) (x6 : Int32) (x7 : Int32), fn_X11_answer_48 k20 n M x1 x2 x4 x5 x6 x7 = some r → sd_Z K rm_X11_answer E sd_LM 10 (sd_QI K E sd_LM r.1 r.2) M 48 [(0, .ref (E.2.2 100)), (1, .int x1), (2, .int x2), (4, .int x4), (5, .int x5), (6, .int x6), (7, .int x7)] [] := by
  intro n
  induction n with
  | zero => intro M x1 x2 x4 x5 x6 x7 hF; cases hF
  | succ n ih =>
    intro M x1 x2 x4 x5 x6 x7 hF
    unfold fn_X11_answer_48 at hF
    refine sd_iload C 6 dX11_answer_48 rfl rfl (n' := 50) ?_
    refine sd_bipush C (v := 10) dX11_answer_50 rfl rfl (n' := 52) ?_
    refine sd_icmp_gt C (n' := 55) (tgt := 159) dX11_answer_52 rfl rfl (fun c52 => ?_) (fun c52 => ?_)
    · replace hF := sd_pos hF c52
      refine sd_iinc [(5, .int (x5 + (1 : Int32))), (0, .ref (E.2.2 100)), (1, .int x1), (2, .int x2), (4, .int x4), (6, .int x6), (7, .int x7)] 4 C dX11_answer_159 rfl rfl (by decide) rfl rfl (n' := 162) ?_
      refine sd_goto C (tgt := 20) dX11_answer_162 rfl ?_
      refine sd_sub [1, 2, 3, 4, 0] rfl ?_
      exact hk20 M x1 x2 x4 (x5 + (1 : Int32)) hF
    · replace hF := sd_neg hF c52
      refine sd_iload C 6 dX11_answer_55 rfl rfl (n' := 57) ?_
      refine sd_aload_n C 0 dX11_answer_57 rfl rfl rfl (n' := 58) ?_
      refine sd_g11_14 C sd_i100 sd_k100 sd_w1055 dX11_answer_58 rfl (n' := 61) ?_
      refine sd_icmp_lt C (n' := 64) (tgt := 82) dX11_answer_61 rfl rfl (fun c61 => ?_) (fun c61 => ?_)
      · replace hF := sd_pos hF c61
        refine sd_iconst C (v := 0) dX11_answer_82 rfl rfl (n' := 83) ?_
        exact tb_X11_answer_83 C hk20 ih M x1 x2 x4 x5 x6 x7 (0 : Int32) hF
      · replace hF := sd_neg hF c61
        refine sd_iload C 6 dX11_answer_64 rfl rfl (n' := 66) ?_
        refine sd_aload_n C 0 dX11_answer_66 rfl rfl rfl (n' := 67) ?_
        obtain ⟨q67, e67, hF⟩ := sd_bind hF
        refine sd_callVI [] [.int x7] C (ct_X11_last M   e67) sd_lX11_188 ⟨rfl, rfl, Nat.le_of_ble_eq_true rfl, Nat.le_of_ble_eq_true rfl⟩ sd_i100 (sd_e12 sd_k100) rfl rfl rfl (Nat.le_of_ble_eq_true rfl) dX11_answer_67 rfl (n' := 70) ?_
        refine sd_icmp_gt C (n' := 73) (tgt := 82) dX11_answer_70 rfl rfl (fun c70 => ?_) (fun c70 => ?_)
        · replace hF := sd_pos hF c70
          refine sd_iconst C (v := 0) dX11_answer_82 rfl rfl (n' := 83) ?_
          exact tb_X11_answer_83 C hk20 ih M x1 x2 x4 x5 x6 x7 (0 : Int32) hF
        · replace hF := sd_neg hF c70
          refine sd_iload C 5 dX11_answer_73 rfl rfl (n' := 75) ?_
          refine sd_if_eq C (n' := 78) (tgt := 82) dX11_answer_75 rfl rfl (fun c75 => ?_) (fun c75 => ?_)
          · replace hF := sd_pos hF c75
            refine sd_iconst C (v := 0) dX11_answer_82 rfl rfl (n' := 83) ?_
            exact tb_X11_answer_83 C hk20 ih M x1 x2 x4 x5 x6 x7 (0 : Int32) hF
          · replace hF := sd_neg hF c75
            refine sd_iconst C (v := 1) dX11_answer_78 rfl rfl (n' := 79) ?_
            refine sd_goto C (tgt := 83) dX11_answer_79 rfl ?_
            exact tb_X11_answer_83 C hk20 ih M x1 x2 x4 x5 x6 x7 (1 : Int32) hF
set_option maxRecDepth 100000 in
set_option maxHeartbeats 4000000 in
theorem tb_X11_answer_20 {K : sd_K} {E : sd_Env}   {r : (Int32 × sd_Mem)} (C : sd_C K E sd_LM RX11 cX11_answer 10 (some .int))  : ∀ (n : Nat), ∀ (M : sd_Mem) (x1 : Int32) (x2 : Int32) (x4 : Int32) (x5 : Int32), fn_X11_answer_20 n M x1 x2 x4 x5 = some r → sd_Z K rm_X11_answer E sd_LM 10 (sd_QI K E sd_LM r.1 r.2) M 20 [(0, .ref (E.2.2 100)), (1, .int x1), (2, .int x2), (4, .int x4), (5, .int x5)] [] := by
  intro n
  induction n with
  | zero => intro M x1 x2 x4 x5 hF; cases hF
  | succ n ih =>
    intro M x1 x2 x4 x5 hF
    unfold fn_X11_answer_20 at hF
    refine sd_iload C 4 dX11_answer_20 rfl rfl (n' := 22) ?_
    refine sd_aload_n C 0 dX11_answer_22 rfl rfl rfl (n' := 23) ?_
    refine sd_g11_10 C sd_i100 sd_k100 sd_w1051 dX11_answer_23 rfl (n' := 26) ?_
    refine sd_iconst C (v := 1) dX11_answer_26 rfl rfl (n' := 27) ?_
    obtain ⟨b27, hF⟩ := sd_ok hF
    refine sd_iald C sd_i107 sd_k107 sd_n107 b27 dX11_answer_27 rfl (n' := 28) ?_
    refine sd_icmp_ge C (n' := 31) (tgt := 165) dX11_answer_28 rfl rfl (fun c28 => ?_) (fun c28 => ?_)
    · replace hF := sd_pos hF c28
      refine sd_iload C 3 dX11_answer_165 rfl rfl (n' := 167) ?_
      exact sd_iret C dX11_answer_167 (sd_fst hF) (sd_snd hF)
    · replace hF := sd_neg hF c28
      refine sd_aload_n C 0 dX11_answer_31 rfl rfl rfl (n' := 32) ?_
      refine sd_iload_n C 2 dX11_answer_32 rfl rfl rfl (n' := 33) ?_
      refine sd_iload C 4 dX11_answer_33 rfl rfl (n' := 35) ?_
      obtain ⟨q35, e35, hF⟩ := sd_bind hF
      refine sd_callVV [.int x2, .int x5] [] C (ct_X11_setBestOfOwners M x2 x5  e35) sd_lX11_252 ⟨rfl, rfl, Nat.le_of_ble_eq_true rfl, Nat.le_of_ble_eq_true rfl⟩ sd_i100 (sd_e12 sd_k100) rfl rfl rfl (Nat.le_of_ble_eq_true rfl) dX11_answer_35 rfl (n' := 38) ?_
      refine sd_aload_n C 0 dX11_answer_38 rfl rfl rfl (n' := 39) ?_
      refine sd_iconst C (v := 0) dX11_answer_39 rfl rfl (n' := 40) ?_
      obtain ⟨q40, e40, hF⟩ := sd_bind hF
      refine sd_callVI [.int (0 : Int32)] [] C (ct_X11_whoAll q35 (0 : Int32)  e40) sd_lX11_178 ⟨rfl, rfl, Nat.le_of_ble_eq_true rfl, Nat.le_of_ble_eq_true rfl⟩ sd_i100 (sd_e12 sd_k100) rfl rfl rfl (Nat.le_of_ble_eq_true rfl) dX11_answer_40 rfl (n' := 43) ?_
      refine sd_istore [(6, .int q40), (0, .ref (E.2.2 100)), (1, .int x1), (2, .int x2), (4, .int x4), (5, .int x5)] C dX11_answer_43 (by decide) rfl rfl (n' := 45) ?_
      refine sd_iconst C (v := 1) dX11_answer_45 rfl rfl (n' := 46) ?_
      refine sd_istore [(7, .int (1 : Int32)), (6, .int q40), (0, .ref (E.2.2 100)), (1, .int x1), (2, .int x2), (4, .int x4), (5, .int x5)] C dX11_answer_46 (by decide) rfl rfl (n' := 48) ?_
      refine sd_sub [2, 3, 4, 5, 6, 1, 0] rfl ?_
      exact tb_X11_answer_48 C ih sd_FU q35 x1 x2 x4 x5 q40 (1 : Int32) hF
set_option maxRecDepth 100000 in
set_option maxHeartbeats 4000000 in
theorem tb_X11_answer_0 {K : sd_K} {E : sd_Env}   {r : (Int32 × sd_Mem)} (C : sd_C K E sd_LM RX11 cX11_answer 10 (some .int))  : ∀ (M : sd_Mem) (x1 : Int32) (x2 : Int32), fn_X11_answer_0 M x1 x2 = some r → sd_Z K rm_X11_answer E sd_LM 10 (sd_QI K E sd_LM r.1 r.2) M 0 [(0, .ref (E.2.2 100)), (1, .int x1), (2, .int x2)] [] := by
  intro M x1 x2 hF
  unfold fn_X11_answer_0 at hF
  refine sd_aload_n C 0 dX11_answer_0 rfl rfl rfl (n' := 1) ?_
  refine sd_iload_n C 1 dX11_answer_1 rfl rfl rfl (n' := 2) ?_
  refine sd_iload_n C 2 dX11_answer_2 rfl rfl rfl (n' := 3) ?_
  refine sd_iconst C (v := 0) dX11_answer_3 rfl rfl (n' := 4) ?_
  obtain ⟨q4, e4, hF⟩ := sd_bind hF
  refine sd_callVI [.int x1, .int x2, .int (0 : Int32)] [] C (ct_X11_askedTwo M x1 x2 (0 : Int32)  e4) sd_lX11_195 ⟨rfl, rfl, Nat.le_of_ble_eq_true rfl, Nat.le_of_ble_eq_true rfl⟩ sd_i100 (sd_e12 sd_k100) rfl rfl rfl (Nat.le_of_ble_eq_true rfl) dX11_answer_4 rfl (n' := 7) ?_
  refine sd_istore_n [(3, .int q4.1), (0, .ref (E.2.2 100)), (1, .int x1), (2, .int x2)] C dX11_answer_7 rfl (by decide) rfl rfl (n' := 8) ?_
  refine sd_iload_n C 0 dX11_answer_8 rfl rfl rfl (n' := 9) ?_
  refine sd_if_ge C (n' := 12) (tgt := 14) dX11_answer_9 rfl rfl (fun c9 => ?_) (fun c9 => ?_)
  · replace hF := sd_pos hF c9
    refine sd_iconst C (v := 0) dX11_answer_14 rfl rfl (n' := 15) ?_
    refine sd_istore [(4, .int (0 : Int32)), (3, .int q4.1), (0, .ref (E.2.2 100)), (1, .int x1), (2, .int x2)] C dX11_answer_15 (by decide) rfl rfl (n' := 17) ?_
    refine sd_iconst C (v := 0) dX11_answer_17 rfl rfl (n' := 18) ?_
    refine sd_istore [(5, .int (0 : Int32)), (4, .int (0 : Int32)), (3, .int q4.1), (0, .ref (E.2.2 100)), (1, .int x1), (2, .int x2)] C dX11_answer_18 (by decide) rfl rfl (n' := 20) ?_
    refine sd_sub [3, 4, 5, 1, 0] rfl ?_
    exact tb_X11_answer_20 C sd_FU q4.2 x1 x2 (0 : Int32) (0 : Int32) hF
  · replace hF := sd_neg hF c9
    refine sd_iload_n C 0 dX11_answer_12 rfl rfl rfl (n' := 13) ?_
    exact sd_iret C dX11_answer_13 (sd_fst hF) (sd_snd hF)
theorem ct_X11_answer {l : Launch} {E : sd_Env} (M : sd_Mem) (x1 : Int32) (x2 : Int32)  {r : (Int32 × sd_Mem)} (hF : fn_X11_answer M x1 x2 = some r) : sd_MI l E sd_LM yX11_answer cX11_answer 10 (some .int) rm_X11_answer [.ref (E.2.2 100), .int x1, .int x2] M r.1 r.2 := sd_ent0 (by decide +kernel) (Nat.le_of_ble_eq_true rfl) (fun p e s m below meth c C => tb_X11_answer_0 C M x1 x2 hF)
