theorem dX6_readItem_0 : decode cX6_readItem 0 = .ok (.aload_n 1, 1) := by decide +kernel
theorem dX6_readItem_1 : decode cX6_readItem 1 = .ok (.aload_n 0, 1) := by decide +kernel
theorem dX6_readItem_2 : decode cX6_readItem 2 = .ok (.getfield 18, 3) := by decide +kernel
theorem dX6_readItem_5 : decode cX6_readItem 5 = .ok (.invokevirtual 53, 3) := by decide +kernel
theorem dX6_readItem_8 : decode cX6_readItem 8 = .ok (.tableswitch 198 104 119 #[120, 198, 198, 198, 146, 80, 198, 87, 198, 198, 198, 198, 198, 198, 94, 172], 80) := by decide +kernel
theorem dX6_readItem_88 : decode cX6_readItem 88 = .ok (.aload_n 0, 1) := by decide +kernel
theorem dX6_readItem_89 : decode cX6_readItem 89 = .ok (.aload_n 1, 1) := by decide +kernel
theorem dX6_readItem_90 : decode cX6_readItem 90 = .ok (.iconst 0, 1) := by decide +kernel
theorem dX6_readItem_91 : decode cX6_readItem 91 = .ok (.invokevirtual 56, 3) := by decide +kernel
theorem dX6_readItem_94 : decode cX6_readItem 94 = .ok (.ireturn, 1) := by decide +kernel
theorem dX6_readItem_95 : decode cX6_readItem 95 = .ok (.aload_n 0, 1) := by decide +kernel
theorem dX6_readItem_96 : decode cX6_readItem 96 = .ok (.aload_n 1, 1) := by decide +kernel
theorem dX6_readItem_97 : decode cX6_readItem 97 = .ok (.iconst 1, 1) := by decide +kernel
theorem dX6_readItem_98 : decode cX6_readItem 98 = .ok (.invokevirtual 56, 3) := by decide +kernel
theorem dX6_readItem_101 : decode cX6_readItem 101 = .ok (.ireturn, 1) := by decide +kernel
theorem dX6_readItem_102 : decode cX6_readItem 102 = .ok (.aload_n 0, 1) := by decide +kernel
theorem dX6_readItem_103 : decode cX6_readItem 103 = .ok (.getfield 12, 3) := by decide +kernel
theorem dX6_readItem_106 : decode cX6_readItem 106 = .ok (.aload_n 0, 1) := by decide +kernel
theorem dX6_readItem_107 : decode cX6_readItem 107 = .ok (.aload_n 1, 1) := by decide +kernel
theorem dX6_readItem_108 : decode cX6_readItem 108 = .ok (.invokevirtual 60, 3) := by decide +kernel
theorem dX6_readItem_111 : decode cX6_readItem 111 = .ok (.putfield 64, 3) := by decide +kernel
theorem dX6_readItem_114 : decode cX6_readItem 114 = .ok (.aload_n 0, 1) := by decide +kernel
theorem dX6_readItem_115 : decode cX6_readItem 115 = .ok (.getfield 12, 3) := by decide +kernel
theorem dX6_readItem_118 : decode cX6_readItem 118 = .ok (.getfield 64, 3) := by decide +kernel
theorem dX6_readItem_121 : decode cX6_readItem 121 = .ok (.iconst 0, 1) := by decide +kernel
theorem dX6_readItem_122 : decode cX6_readItem 122 = .ok (.bipush 99, 2) := by decide +kernel
theorem dX6_readItem_124 : decode cX6_readItem 124 = .ok (.invokestatic 67, 3) := by decide +kernel
theorem dX6_readItem_127 : decode cX6_readItem 127 = .ok (.ireturn, 1) := by decide +kernel
theorem dX6_readItem_128 : decode cX6_readItem 128 = .ok (.aload_n 0, 1) := by decide +kernel
theorem dX6_readItem_129 : decode cX6_readItem 129 = .ok (.getfield 12, 3) := by decide +kernel
theorem dX6_readItem_132 : decode cX6_readItem 132 = .ok (.aload_n 0, 1) := by decide +kernel
theorem dX6_readItem_133 : decode cX6_readItem 133 = .ok (.aload_n 1, 1) := by decide +kernel
theorem dX6_readItem_134 : decode cX6_readItem 134 = .ok (.invokevirtual 60, 3) := by decide +kernel
theorem dX6_readItem_137 : decode cX6_readItem 137 = .ok (.putfield 50, 3) := by decide +kernel
theorem dX6_readItem_140 : decode cX6_readItem 140 = .ok (.aload_n 0, 1) := by decide +kernel
theorem dX6_readItem_141 : decode cX6_readItem 141 = .ok (.getfield 12, 3) := by decide +kernel
theorem dX6_readItem_144 : decode cX6_readItem 144 = .ok (.getfield 50, 3) := by decide +kernel
theorem dX6_readItem_147 : decode cX6_readItem 147 = .ok (.iconst 1, 1) := by decide +kernel
theorem dX6_readItem_148 : decode cX6_readItem 148 = .ok (.bipush 40, 2) := by decide +kernel
theorem dX6_readItem_150 : decode cX6_readItem 150 = .ok (.invokestatic 67, 3) := by decide +kernel
theorem dX6_readItem_153 : decode cX6_readItem 153 = .ok (.ireturn, 1) := by decide +kernel
theorem dX6_readItem_154 : decode cX6_readItem 154 = .ok (.aload_n 0, 1) := by decide +kernel
theorem dX6_readItem_155 : decode cX6_readItem 155 = .ok (.getfield 12, 3) := by decide +kernel
theorem dX6_readItem_158 : decode cX6_readItem 158 = .ok (.aload_n 0, 1) := by decide +kernel
theorem dX6_readItem_159 : decode cX6_readItem 159 = .ok (.aload_n 1, 1) := by decide +kernel
theorem dX6_readItem_160 : decode cX6_readItem 160 = .ok (.invokevirtual 60, 3) := by decide +kernel
theorem dX6_readItem_163 : decode cX6_readItem 163 = .ok (.putfield 47, 3) := by decide +kernel
theorem dX6_readItem_166 : decode cX6_readItem 166 = .ok (.aload_n 0, 1) := by decide +kernel
theorem dX6_readItem_167 : decode cX6_readItem 167 = .ok (.getfield 12, 3) := by decide +kernel
theorem dX6_readItem_170 : decode cX6_readItem 170 = .ok (.getfield 47, 3) := by decide +kernel
theorem dX6_readItem_173 : decode cX6_readItem 173 = .ok (.iconst 1, 1) := by decide +kernel
theorem dX6_readItem_174 : decode cX6_readItem 174 = .ok (.bipush 10, 2) := by decide +kernel
theorem dX6_readItem_176 : decode cX6_readItem 176 = .ok (.invokestatic 67, 3) := by decide +kernel
theorem dX6_readItem_179 : decode cX6_readItem 179 = .ok (.ireturn, 1) := by decide +kernel
theorem dX6_readItem_180 : decode cX6_readItem 180 = .ok (.aload_n 0, 1) := by decide +kernel
theorem dX6_readItem_181 : decode cX6_readItem 181 = .ok (.getfield 12, 3) := by decide +kernel
theorem dX6_readItem_184 : decode cX6_readItem 184 = .ok (.aload_n 0, 1) := by decide +kernel
theorem dX6_readItem_185 : decode cX6_readItem 185 = .ok (.aload_n 1, 1) := by decide +kernel
theorem dX6_readItem_186 : decode cX6_readItem 186 = .ok (.invokevirtual 60, 3) := by decide +kernel
theorem dX6_readItem_189 : decode cX6_readItem 189 = .ok (.putfield 71, 3) := by decide +kernel
theorem dX6_readItem_192 : decode cX6_readItem 192 = .ok (.aload_n 0, 1) := by decide +kernel
theorem dX6_readItem_193 : decode cX6_readItem 193 = .ok (.getfield 12, 3) := by decide +kernel
theorem dX6_readItem_196 : decode cX6_readItem 196 = .ok (.getfield 71, 3) := by decide +kernel
theorem dX6_readItem_199 : decode cX6_readItem 199 = .ok (.iconst 0, 1) := by decide +kernel
theorem dX6_readItem_200 : decode cX6_readItem 200 = .ok (.bipush 12, 2) := by decide +kernel
theorem dX6_readItem_202 : decode cX6_readItem 202 = .ok (.invokestatic 67, 3) := by decide +kernel
theorem dX6_readItem_205 : decode cX6_readItem 205 = .ok (.ireturn, 1) := by decide +kernel
theorem dX6_readItem_206 : decode cX6_readItem 206 = .ok (.iconst 0, 1) := by decide +kernel
theorem dX6_readItem_207 : decode cX6_readItem 207 = .ok (.ireturn, 1) := by decide +kernel
set_option maxRecDepth 100000 in
set_option maxHeartbeats 4000000 in
theorem tb_X6_readItem_0 {K : sd_K} {E : sd_Env}  {h1 : Nat} {r : (Int32 × sd_Mem)} (C : sd_C K E sd_LC RX6 cX6_readItem 2 (some .boolean)) (k1 : sd_kd h1 = 2) : ∀ (M : sd_Mem), fn_X6_readItem_0 h1 M = some r → sd_Z K rm_X6_readItem E sd_LC 2 (sd_QI K E sd_LC r.1 r.2) M 0 [(0, .ref (E.2.2 60)), (1, .ref (E.2.2 h1))] [] := by
  intro M hF
  unfold fn_X6_readItem_0 at hF
  refine sd_aload_n C 1 dX6_readItem_0 rfl rfl rfl (n' := 1) ?_
  refine sd_aload_n C 0 dX6_readItem_1 rfl rfl rfl (n' := 2) ?_
  refine sd_g6_1 C sd_i60 sd_k60 sd_w202 dX6_readItem_2 rfl (n' := 5) ?_
  obtain ⟨q5, e5, hF⟩ := sd_bind hF
  refine sd_callVI [.int (M.1 60 1)] [] C (ct_X1_cell M h1 (M.1 60 1) k1 e5) sd_lX6_53 ⟨rfl, rfl, Nat.le_of_ble_eq_true rfl, Nat.le_of_ble_eq_true rfl⟩ (sd_mC (sd_m2 k1)) (sd_e2 k1) rfl rfl rfl (Nat.le_of_ble_eq_true rfl) dX6_readItem_5 rfl (n' := 8) ?_
  by_cases c8 : q5.toInt < 104 ∨ 119 < q5.toInt
  · replace hF := sd_pos hF c8
    refine sd_tabOut C (tgt := 206) dX6_readItem_8 c8 rfl ?_
    refine sd_iconst C (v := 0) dX6_readItem_206 rfl rfl (n' := 207) ?_
    exact sd_zret C dX6_readItem_207 rfl (sd_fst hF) (sd_snd hF)
  replace hF := sd_neg hF c8
  by_cases c8_0 : q5 = 104
  · replace hF := sd_pos hF c8_0
    refine sd_tabIn C (v := 104) (tgt := 128) c8_0 dX6_readItem_8 (by decide) (by decide) rfl rfl ?_
    refine sd_aload_n C 0 dX6_readItem_128 rfl rfl rfl (n' := 129) ?_
    refine sd_g6_0 C sd_i60 sd_k60 sd_w201 dX6_readItem_129 rfl (n' := 132) ?_
    refine sd_aload_n C 0 dX6_readItem_132 rfl rfl rfl (n' := 133) ?_
    refine sd_aload_n C 1 dX6_readItem_133 rfl rfl rfl (n' := 134) ?_
    obtain ⟨q134, e134, hF⟩ := sd_bind hF
    refine sd_callVI [.ref (E.2.2 h1)] [.ref (E.2.2 49)] C (ct_X6_readValue M h1 k1 e134) sd_lX6_60 ⟨rfl, rfl, Nat.le_of_ble_eq_true rfl, Nat.le_of_ble_eq_true rfl⟩ sd_i60 (sd_e7 sd_k60) rfl rfl rfl (Nat.le_of_ble_eq_true rfl) dX6_readItem_134 rfl (n' := 137) ?_
    refine sd_pN5_5 C sd_i49 sd_k49 sd_w139 dX6_readItem_137 rfl (n' := 140) ?_
    refine sd_aload_n C 0 dX6_readItem_140 rfl rfl rfl (n' := 141) ?_
    refine sd_g6_0 C sd_i60 sd_k60 sd_w201 dX6_readItem_141 rfl (n' := 144) ?_
    refine sd_gN5_5 C sd_i49 sd_k49 sd_w139 dX6_readItem_144 rfl (n' := 147) ?_
    refine sd_iconst C (v := 1) dX6_readItem_147 rfl rfl (n' := 148) ?_
    refine sd_bipush C (v := 40) dX6_readItem_148 rfl rfl (n' := 150) ?_
    obtain ⟨q150, e150, hF⟩ := sd_bind hF
    refine sd_callNI [.int ((sd_setI q134.2 49 5 q134.1).1 49 5), .int (1 : Int32), .int (40 : Int32)] [] C (ct_X10_within (sd_setI q134.2 49 5 q134.1) ((sd_setI q134.2 49 5 q134.1).1 49 5) (1 : Int32) (40 : Int32)  e150) sd_lX6_67 ⟨rfl, rfl, Nat.le_of_ble_eq_true rfl, Nat.le_of_ble_eq_true rfl⟩ rfl (Nat.le_of_ble_eq_true rfl) dX6_readItem_150 rfl (n' := 153) ?_
    obtain ⟨b153, hF⟩ := sd_ok hF
    exact sd_zret C dX6_readItem_153 (Decidable.of_not_not b153) (sd_fst hF) (sd_snd hF)
  replace hF := sd_neg hF c8_0
  by_cases c8_1 : q5 = 105
  · replace hF := sd_pos hF c8_1
    refine sd_tabIn C (v := 105) (tgt := 206) c8_1 dX6_readItem_8 (by decide) (by decide) rfl rfl ?_
    refine sd_iconst C (v := 0) dX6_readItem_206 rfl rfl (n' := 207) ?_
    exact sd_zret C dX6_readItem_207 rfl (sd_fst hF) (sd_snd hF)
  replace hF := sd_neg hF c8_1
  by_cases c8_2 : q5 = 106
  · replace hF := sd_pos hF c8_2
    refine sd_tabIn C (v := 106) (tgt := 206) c8_2 dX6_readItem_8 (by decide) (by decide) rfl rfl ?_
    refine sd_iconst C (v := 0) dX6_readItem_206 rfl rfl (n' := 207) ?_
    exact sd_zret C dX6_readItem_207 rfl (sd_fst hF) (sd_snd hF)
  replace hF := sd_neg hF c8_2
  by_cases c8_3 : q5 = 107
  · replace hF := sd_pos hF c8_3
    refine sd_tabIn C (v := 107) (tgt := 206) c8_3 dX6_readItem_8 (by decide) (by decide) rfl rfl ?_
    refine sd_iconst C (v := 0) dX6_readItem_206 rfl rfl (n' := 207) ?_
    exact sd_zret C dX6_readItem_207 rfl (sd_fst hF) (sd_snd hF)
  replace hF := sd_neg hF c8_3
  by_cases c8_4 : q5 = 108
  · replace hF := sd_pos hF c8_4
    refine sd_tabIn C (v := 108) (tgt := 154) c8_4 dX6_readItem_8 (by decide) (by decide) rfl rfl ?_
    refine sd_aload_n C 0 dX6_readItem_154 rfl rfl rfl (n' := 155) ?_
    refine sd_g6_0 C sd_i60 sd_k60 sd_w201 dX6_readItem_155 rfl (n' := 158) ?_
    refine sd_aload_n C 0 dX6_readItem_158 rfl rfl rfl (n' := 159) ?_
    refine sd_aload_n C 1 dX6_readItem_159 rfl rfl rfl (n' := 160) ?_
    obtain ⟨q160, e160, hF⟩ := sd_bind hF
    refine sd_callVI [.ref (E.2.2 h1)] [.ref (E.2.2 49)] C (ct_X6_readValue M h1 k1 e160) sd_lX6_60 ⟨rfl, rfl, Nat.le_of_ble_eq_true rfl, Nat.le_of_ble_eq_true rfl⟩ sd_i60 (sd_e7 sd_k60) rfl rfl rfl (Nat.le_of_ble_eq_true rfl) dX6_readItem_160 rfl (n' := 163) ?_
    refine sd_pN5_6 C sd_i49 sd_k49 sd_w143 dX6_readItem_163 rfl (n' := 166) ?_
    refine sd_aload_n C 0 dX6_readItem_166 rfl rfl rfl (n' := 167) ?_
    refine sd_g6_0 C sd_i60 sd_k60 sd_w201 dX6_readItem_167 rfl (n' := 170) ?_
    refine sd_gN5_6 C sd_i49 sd_k49 sd_w143 dX6_readItem_170 rfl (n' := 173) ?_
    refine sd_iconst C (v := 1) dX6_readItem_173 rfl rfl (n' := 174) ?_
    refine sd_bipush C (v := 10) dX6_readItem_174 rfl rfl (n' := 176) ?_
    obtain ⟨q176, e176, hF⟩ := sd_bind hF
    refine sd_callNI [.int ((sd_setI q160.2 49 6 q160.1).1 49 6), .int (1 : Int32), .int (10 : Int32)] [] C (ct_X10_within (sd_setI q160.2 49 6 q160.1) ((sd_setI q160.2 49 6 q160.1).1 49 6) (1 : Int32) (10 : Int32)  e176) sd_lX6_67 ⟨rfl, rfl, Nat.le_of_ble_eq_true rfl, Nat.le_of_ble_eq_true rfl⟩ rfl (Nat.le_of_ble_eq_true rfl) dX6_readItem_176 rfl (n' := 179) ?_
    obtain ⟨b179, hF⟩ := sd_ok hF
    exact sd_zret C dX6_readItem_179 (Decidable.of_not_not b179) (sd_fst hF) (sd_snd hF)
  replace hF := sd_neg hF c8_4
  by_cases c8_5 : q5 = 109
  · replace hF := sd_pos hF c8_5
    refine sd_tabIn C (v := 109) (tgt := 88) c8_5 dX6_readItem_8 (by decide) (by decide) rfl rfl ?_
    refine sd_aload_n C 0 dX6_readItem_88 rfl rfl rfl (n' := 89) ?_
    refine sd_aload_n C 1 dX6_readItem_89 rfl rfl rfl (n' := 90) ?_
    refine sd_iconst C (v := 0) dX6_readItem_90 rfl rfl (n' := 91) ?_
    obtain ⟨q91, e91, hF⟩ := sd_bind hF
    refine sd_callVI [.ref (E.2.2 h1), .int (0 : Int32)] [] C (ct_X6_readSort M h1 (0 : Int32) k1 e91) sd_lX6_56 ⟨rfl, rfl, Nat.le_of_ble_eq_true rfl, Nat.le_of_ble_eq_true rfl⟩ sd_i60 (sd_e7 sd_k60) rfl rfl rfl (Nat.le_of_ble_eq_true rfl) dX6_readItem_91 rfl (n' := 94) ?_
    obtain ⟨b94, hF⟩ := sd_ok hF
    exact sd_zret C dX6_readItem_94 (Decidable.of_not_not b94) (sd_fst hF) (sd_snd hF)
  replace hF := sd_neg hF c8_5
  by_cases c8_6 : q5 = 110
  · replace hF := sd_pos hF c8_6
    refine sd_tabIn C (v := 110) (tgt := 206) c8_6 dX6_readItem_8 (by decide) (by decide) rfl rfl ?_
    refine sd_iconst C (v := 0) dX6_readItem_206 rfl rfl (n' := 207) ?_
    exact sd_zret C dX6_readItem_207 rfl (sd_fst hF) (sd_snd hF)
  replace hF := sd_neg hF c8_6
  by_cases c8_7 : q5 = 111
  · replace hF := sd_pos hF c8_7
    refine sd_tabIn C (v := 111) (tgt := 95) c8_7 dX6_readItem_8 (by decide) (by decide) rfl rfl ?_
    refine sd_aload_n C 0 dX6_readItem_95 rfl rfl rfl (n' := 96) ?_
    refine sd_aload_n C 1 dX6_readItem_96 rfl rfl rfl (n' := 97) ?_
    refine sd_iconst C (v := 1) dX6_readItem_97 rfl rfl (n' := 98) ?_
    obtain ⟨q98, e98, hF⟩ := sd_bind hF
    refine sd_callVI [.ref (E.2.2 h1), .int (1 : Int32)] [] C (ct_X6_readSort M h1 (1 : Int32) k1 e98) sd_lX6_56 ⟨rfl, rfl, Nat.le_of_ble_eq_true rfl, Nat.le_of_ble_eq_true rfl⟩ sd_i60 (sd_e7 sd_k60) rfl rfl rfl (Nat.le_of_ble_eq_true rfl) dX6_readItem_98 rfl (n' := 101) ?_
    obtain ⟨b101, hF⟩ := sd_ok hF
    exact sd_zret C dX6_readItem_101 (Decidable.of_not_not b101) (sd_fst hF) (sd_snd hF)
  replace hF := sd_neg hF c8_7
  by_cases c8_8 : q5 = 112
  · replace hF := sd_pos hF c8_8
    refine sd_tabIn C (v := 112) (tgt := 206) c8_8 dX6_readItem_8 (by decide) (by decide) rfl rfl ?_
    refine sd_iconst C (v := 0) dX6_readItem_206 rfl rfl (n' := 207) ?_
    exact sd_zret C dX6_readItem_207 rfl (sd_fst hF) (sd_snd hF)
  replace hF := sd_neg hF c8_8
  by_cases c8_9 : q5 = 113
  · replace hF := sd_pos hF c8_9
    refine sd_tabIn C (v := 113) (tgt := 206) c8_9 dX6_readItem_8 (by decide) (by decide) rfl rfl ?_
    refine sd_iconst C (v := 0) dX6_readItem_206 rfl rfl (n' := 207) ?_
    exact sd_zret C dX6_readItem_207 rfl (sd_fst hF) (sd_snd hF)
  replace hF := sd_neg hF c8_9
  by_cases c8_10 : q5 = 114
  · replace hF := sd_pos hF c8_10
    refine sd_tabIn C (v := 114) (tgt := 206) c8_10 dX6_readItem_8 (by decide) (by decide) rfl rfl ?_
    refine sd_iconst C (v := 0) dX6_readItem_206 rfl rfl (n' := 207) ?_
    exact sd_zret C dX6_readItem_207 rfl (sd_fst hF) (sd_snd hF)
  replace hF := sd_neg hF c8_10
  by_cases c8_11 : q5 = 115
  · replace hF := sd_pos hF c8_11
    refine sd_tabIn C (v := 115) (tgt := 206) c8_11 dX6_readItem_8 (by decide) (by decide) rfl rfl ?_
    refine sd_iconst C (v := 0) dX6_readItem_206 rfl rfl (n' := 207) ?_
    exact sd_zret C dX6_readItem_207 rfl (sd_fst hF) (sd_snd hF)
  replace hF := sd_neg hF c8_11
  by_cases c8_12 : q5 = 116
  · replace hF := sd_pos hF c8_12
    refine sd_tabIn C (v := 116) (tgt := 206) c8_12 dX6_readItem_8 (by decide) (by decide) rfl rfl ?_
    refine sd_iconst C (v := 0) dX6_readItem_206 rfl rfl (n' := 207) ?_
    exact sd_zret C dX6_readItem_207 rfl (sd_fst hF) (sd_snd hF)
  replace hF := sd_neg hF c8_12
  by_cases c8_13 : q5 = 117
  · replace hF := sd_pos hF c8_13
    refine sd_tabIn C (v := 117) (tgt := 206) c8_13 dX6_readItem_8 (by decide) (by decide) rfl rfl ?_
    refine sd_iconst C (v := 0) dX6_readItem_206 rfl rfl (n' := 207) ?_
    exact sd_zret C dX6_readItem_207 rfl (sd_fst hF) (sd_snd hF)
  replace hF := sd_neg hF c8_13
  by_cases c8_14 : q5 = 118
  · replace hF := sd_pos hF c8_14
    refine sd_tabIn C (v := 118) (tgt := 102) c8_14 dX6_readItem_8 (by decide) (by decide) rfl rfl ?_
    refine sd_aload_n C 0 dX6_readItem_102 rfl rfl rfl (n' := 103) ?_
    refine sd_g6_0 C sd_i60 sd_k60 sd_w201 dX6_readItem_103 rfl (n' := 106) ?_
    refine sd_aload_n C 0 dX6_readItem_106 rfl rfl rfl (n' := 107) ?_
    refine sd_aload_n C 1 dX6_readItem_107 rfl rfl rfl (n' := 108) ?_
    obtain ⟨q108, e108, hF⟩ := sd_bind hF
    refine sd_callVI [.ref (E.2.2 h1)] [.ref (E.2.2 49)] C (ct_X6_readValue M h1 k1 e108) sd_lX6_60 ⟨rfl, rfl, Nat.le_of_ble_eq_true rfl, Nat.le_of_ble_eq_true rfl⟩ sd_i60 (sd_e7 sd_k60) rfl rfl rfl (Nat.le_of_ble_eq_true rfl) dX6_readItem_108 rfl (n' := 111) ?_
    refine sd_pN5_4 C sd_i49 sd_k49 sd_w135 dX6_readItem_111 rfl (n' := 114) ?_
    refine sd_aload_n C 0 dX6_readItem_114 rfl rfl rfl (n' := 115) ?_
    refine sd_g6_0 C sd_i60 sd_k60 sd_w201 dX6_readItem_115 rfl (n' := 118) ?_
    refine sd_gN5_4 C sd_i49 sd_k49 sd_w135 dX6_readItem_118 rfl (n' := 121) ?_
    refine sd_iconst C (v := 0) dX6_readItem_121 rfl rfl (n' := 122) ?_
    refine sd_bipush C (v := 99) dX6_readItem_122 rfl rfl (n' := 124) ?_
    obtain ⟨q124, e124, hF⟩ := sd_bind hF
    refine sd_callNI [.int ((sd_setI q108.2 49 4 q108.1).1 49 4), .int (0 : Int32), .int (99 : Int32)] [] C (ct_X10_within (sd_setI q108.2 49 4 q108.1) ((sd_setI q108.2 49 4 q108.1).1 49 4) (0 : Int32) (99 : Int32)  e124) sd_lX6_67 ⟨rfl, rfl, Nat.le_of_ble_eq_true rfl, Nat.le_of_ble_eq_true rfl⟩ rfl (Nat.le_of_ble_eq_true rfl) dX6_readItem_124 rfl (n' := 127) ?_
    obtain ⟨b127, hF⟩ := sd_ok hF
    exact sd_zret C dX6_readItem_127 (Decidable.of_not_not b127) (sd_fst hF) (sd_snd hF)
  replace hF := sd_neg hF c8_14
  by_cases c8_15 : q5 = 119
  · replace hF := sd_pos hF c8_15
    refine sd_tabIn C (v := 119) (tgt := 180) c8_15 dX6_readItem_8 (by decide) (by decide) rfl rfl ?_
    refine sd_aload_n C 0 dX6_readItem_180 rfl rfl rfl (n' := 181) ?_
    refine sd_g6_0 C sd_i60 sd_k60 sd_w201 dX6_readItem_181 rfl (n' := 184) ?_
    refine sd_aload_n C 0 dX6_readItem_184 rfl rfl rfl (n' := 185) ?_
    refine sd_aload_n C 1 dX6_readItem_185 rfl rfl rfl (n' := 186) ?_
    obtain ⟨q186, e186, hF⟩ := sd_bind hF
    refine sd_callVI [.ref (E.2.2 h1)] [.ref (E.2.2 49)] C (ct_X6_readValue M h1 k1 e186) sd_lX6_60 ⟨rfl, rfl, Nat.le_of_ble_eq_true rfl, Nat.le_of_ble_eq_true rfl⟩ sd_i60 (sd_e7 sd_k60) rfl rfl rfl (Nat.le_of_ble_eq_true rfl) dX6_readItem_186 rfl (n' := 189) ?_
    refine sd_pN5_7 C sd_i49 sd_k49 sd_w147 dX6_readItem_189 rfl (n' := 192) ?_
    refine sd_aload_n C 0 dX6_readItem_192 rfl rfl rfl (n' := 193) ?_
    refine sd_g6_0 C sd_i60 sd_k60 sd_w201 dX6_readItem_193 rfl (n' := 196) ?_
    refine sd_gN5_7 C sd_i49 sd_k49 sd_w147 dX6_readItem_196 rfl (n' := 199) ?_
    refine sd_iconst C (v := 0) dX6_readItem_199 rfl rfl (n' := 200) ?_
    refine sd_bipush C (v := 12) dX6_readItem_200 rfl rfl (n' := 202) ?_
    obtain ⟨q202, e202, hF⟩ := sd_bind hF
    refine sd_callNI [.int ((sd_setI q186.2 49 7 q186.1).1 49 7), .int (0 : Int32), .int (12 : Int32)] [] C (ct_X10_within (sd_setI q186.2 49 7 q186.1) ((sd_setI q186.2 49 7 q186.1).1 49 7) (0 : Int32) (12 : Int32)  e202) sd_lX6_67 ⟨rfl, rfl, Nat.le_of_ble_eq_true rfl, Nat.le_of_ble_eq_true rfl⟩ rfl (Nat.le_of_ble_eq_true rfl) dX6_readItem_202 rfl (n' := 205) ?_
    obtain ⟨b205, hF⟩ := sd_ok hF
    exact sd_zret C dX6_readItem_205 (Decidable.of_not_not b205) (sd_fst hF) (sd_snd hF)
  replace hF := sd_neg hF c8_15
  cases hF
theorem ct_X6_readItem {l : Launch} {E : sd_Env} (M : sd_Mem) (h1 : Nat) (k1 : sd_kd h1 = 2) {r : (Int32 × sd_Mem)} (hF : fn_X6_readItem M h1 = some r) : sd_MI l E sd_LC yX6_readItem cX6_readItem 2 (some .boolean) rm_X6_readItem [.ref (E.2.2 60), .ref (E.2.2 h1)] M r.1 r.2 := sd_ent0 (by decide +kernel) (Nat.le_of_ble_eq_true rfl) (fun p e s m below meth c C => tb_X6_readItem_0 C k1 M hF)
theorem dX6_read_0 : decode cX6_read 0 = .ok (.aload_n 0, 1) := by decide +kernel
theorem dX6_read_1 : decode cX6_read 1 = .ok (.getfield 12, 3) := by decide +kernel
theorem dX6_read_4 : decode cX6_read 4 = .ok (.invokevirtual 22, 3) := by decide +kernel
theorem dX6_read_7 : decode cX6_read 7 = .ok (.aload_n 0, 1) := by decide +kernel
theorem dX6_read_8 : decode cX6_read 8 = .ok (.iconst 0, 1) := by decide +kernel
theorem dX6_read_9 : decode cX6_read 9 = .ok (.putfield 18, 3) := by decide +kernel
theorem dX6_read_12 : decode cX6_read 12 = .ok (.iconst 0, 1) := by decide +kernel
theorem dX6_read_13 : decode cX6_read 13 = .ok (.istore_n 2, 1) := by decide +kernel
theorem dX6_read_14 : decode cX6_read 14 = .ok (.iload_n 2, 1) := by decide +kernel
theorem dX6_read_15 : decode cX6_read 15 = .ok (.bipush 60, 2) := by decide +kernel
theorem dX6_read_17 : decode cX6_read 17 = .ok (.if_icmp .gt 55, 3) := by decide +kernel
theorem dX6_read_20 : decode cX6_read 20 = .ok (.aload_n 0, 1) := by decide +kernel
theorem dX6_read_21 : decode cX6_read 21 = .ok (.aload_n 1, 1) := by decide +kernel
theorem dX6_read_22 : decode cX6_read 22 = .ok (.invokevirtual 25, 3) := by decide +kernel
theorem dX6_read_25 : decode cX6_read 25 = .ok (.aload_n 0, 1) := by decide +kernel
theorem dX6_read_26 : decode cX6_read 26 = .ok (.getfield 18, 3) := by decide +kernel
theorem dX6_read_29 : decode cX6_read 29 = .ok (.aload_n 1, 1) := by decide +kernel
theorem dX6_read_30 : decode cX6_read 30 = .ok (.invokevirtual 29, 3) := by decide +kernel
theorem dX6_read_33 : decode cX6_read 33 = .ok (.if_icmp .lt 20, 3) := by decide +kernel
theorem dX6_read_36 : decode cX6_read 36 = .ok (.aload_n 0, 1) := by decide +kernel
theorem dX6_read_37 : decode cX6_read 37 = .ok (.invokevirtual 35, 3) := by decide +kernel
theorem dX6_read_40 : decode cX6_read 40 = .ok (.ifCond .eq 8, 3) := by decide +kernel
theorem dX6_read_43 : decode cX6_read 43 = .ok (.bipush (-9), 2) := by decide +kernel
theorem dX6_read_45 : decode cX6_read 45 = .ok (.goto 7, 3) := by decide +kernel
theorem dX6_read_48 : decode cX6_read 48 = .ok (.aload_n 1, 1) := by decide +kernel
theorem dX6_read_49 : decode cX6_read 49 = .ok (.invokevirtual 29, 3) := by decide +kernel
theorem dX6_read_52 : decode cX6_read 52 = .ok (.ireturn, 1) := by decide +kernel
theorem dX6_read_53 : decode cX6_read 53 = .ok (.aload_n 0, 1) := by decide +kernel
theorem dX6_read_54 : decode cX6_read 54 = .ok (.aload_n 1, 1) := by decide +kernel
theorem dX6_read_55 : decode cX6_read 55 = .ok (.invokevirtual 39, 3) := by decide +kernel
theorem dX6_read_58 : decode cX6_read 58 = .ok (.ifCond .ne 8, 3) := by decide +kernel
theorem dX6_read_61 : decode cX6_read 61 = .ok (.aload_n 0, 1) := by decide +kernel
theorem dX6_read_62 : decode cX6_read 62 = .ok (.getfield 18, 3) := by decide +kernel
theorem dX6_read_65 : decode cX6_read 65 = .ok (.ireturn, 1) := by decide +kernel
theorem dX6_read_66 : decode cX6_read 66 = .ok (.iinc 2 1, 3) := by decide +kernel
theorem dX6_read_69 : decode cX6_read 69 = .ok (.goto (-55), 3) := by decide +kernel
theorem dX6_read_72 : decode cX6_read 72 = .ok (.aload_n 0, 1) := by decide +kernel
theorem dX6_read_73 : decode cX6_read 73 = .ok (.getfield 18, 3) := by decide +kernel
theorem dX6_read_76 : decode cX6_read 76 = .ok (.ireturn, 1) := by decide +kernel
set_option maxRecDepth 100000 in
set_option maxHeartbeats 4000000 in
theorem tb_X6_read_36 {K : sd_K} {E : sd_Env}  {h1 : Nat} {r : (Int32 × sd_Mem)} (C : sd_C K E sd_LC RX6 cX6_read 3 (some .int)) (k1 : sd_kd h1 = 2) : ∀ (M : sd_Mem), fn_X6_read_36 h1 M = some r → sd_Z K rm_X6_read E sd_LC 3 (sd_QI K E sd_LC r.1 r.2) M 36 [(0, .ref (E.2.2 60)), (1, .ref (E.2.2 h1))] [] := by
  intro M hF
  unfold fn_X6_read_36 at hF
  refine sd_aload_n C 0 dX6_read_36 rfl rfl rfl (n' := 37) ?_
  obtain ⟨q37, e37, hF⟩ := sd_bind hF
  refine sd_callVI [] [] C (ct_X6_isWhole M   e37) sd_lX6_35 ⟨rfl, rfl, Nat.le_of_ble_eq_true rfl, Nat.le_of_ble_eq_true rfl⟩ sd_i60 (sd_e7 sd_k60) rfl rfl rfl (Nat.le_of_ble_eq_true rfl) dX6_read_37 rfl (n' := 40) ?_
  refine sd_if_eq C (n' := 43) (tgt := 48) dX6_read_40 rfl rfl (fun c40 => ?_) (fun c40 => ?_)
  · replace hF := sd_pos hF c40
    refine sd_aload_n C 1 dX6_read_48 rfl rfl rfl (n' := 49) ?_
    obtain ⟨q49, e49, hF⟩ := sd_bind hF
    refine sd_callVI [] [] C (ct_X1_size M h1 k1 e49) sd_lX6_29 ⟨rfl, rfl, Nat.le_of_ble_eq_true rfl, Nat.le_of_ble_eq_true rfl⟩ (sd_mC (sd_m2 k1)) (sd_e2 k1) rfl rfl rfl (Nat.le_of_ble_eq_true rfl) dX6_read_49 rfl (n' := 52) ?_
    exact sd_iret C dX6_read_52 (sd_fst hF) (sd_snd hF)
  · replace hF := sd_neg hF c40
    refine sd_bipush C (v := -9) dX6_read_43 rfl rfl (n' := 45) ?_
    refine sd_goto C (tgt := 52) dX6_read_45 rfl ?_
    exact sd_iret C dX6_read_52 (sd_fst hF) (sd_snd hF)
set_option maxRecDepth 100000 in
set_option maxHeartbeats 4000000 in
theorem tb_X6_read_14 {K : sd_K} {E : sd_Env}  {h1 : Nat} {r : (Int32 × sd_Mem)} (C : sd_C K E sd_LC RX6 cX6_read 3 (some .int)) (k1 : sd_kd h1 = 2) : ∀ (n : Nat), ∀ (M : sd_Mem) (x2 : Int32), fn_X6_read_14 h1 n M x2 = some r → sd_Z K rm_X6_read E sd_LC 3 (sd_QI K E sd_LC r.1 r.2) M 14 [(0, .ref (E.2.2 60)), (1, .ref (E.2.2 h1)), (2, .int x2)] [] := by
  intro n
  induction n with
  | zero => intro M x2 hF; cases hF
  | succ n ih =>
    intro M x2 hF
    unfold fn_X6_read_14 at hF
    refine sd_iload_n C 2 dX6_read_14 rfl rfl rfl (n' := 15) ?_
    refine sd_bipush C (v := 60) dX6_read_15 rfl rfl (n' := 17) ?_
    refine sd_icmp_gt C (n' := 20) (tgt := 72) dX6_read_17 rfl rfl (fun c17 => ?_) (fun c17 => ?_)
    · replace hF := sd_pos hF c17
      refine sd_aload_n C 0 dX6_read_72 rfl rfl rfl (n' := 73) ?_
      refine sd_g6_1 C sd_i60 sd_k60 sd_w202 dX6_read_73 rfl (n' := 76) ?_
      exact sd_iret C dX6_read_76 (sd_fst hF) (sd_snd hF)
    · replace hF := sd_neg hF c17
      refine sd_aload_n C 0 dX6_read_20 rfl rfl rfl (n' := 21) ?_
      refine sd_aload_n C 1 dX6_read_21 rfl rfl rfl (n' := 22) ?_
      obtain ⟨q22, e22, hF⟩ := sd_bind hF
      refine sd_callVV [.ref (E.2.2 h1)] [] C (ct_X6_skipBlanks M h1 k1 e22) sd_lX6_25 ⟨rfl, rfl, Nat.le_of_ble_eq_true rfl, Nat.le_of_ble_eq_true rfl⟩ sd_i60 (sd_e7 sd_k60) rfl rfl rfl (Nat.le_of_ble_eq_true rfl) dX6_read_22 rfl (n' := 25) ?_
      refine sd_aload_n C 0 dX6_read_25 rfl rfl rfl (n' := 26) ?_
      refine sd_g6_1 C sd_i60 sd_k60 sd_w202 dX6_read_26 rfl (n' := 29) ?_
      refine sd_aload_n C 1 dX6_read_29 rfl rfl rfl (n' := 30) ?_
      obtain ⟨q30, e30, hF⟩ := sd_bind hF
      refine sd_callVI [] [.int (q22.1 60 1)] C (ct_X1_size q22 h1 k1 e30) sd_lX6_29 ⟨rfl, rfl, Nat.le_of_ble_eq_true rfl, Nat.le_of_ble_eq_true rfl⟩ (sd_mC (sd_m2 k1)) (sd_e2 k1) rfl rfl rfl (Nat.le_of_ble_eq_true rfl) dX6_read_30 rfl (n' := 33) ?_
      refine sd_icmp_lt C (n' := 36) (tgt := 53) dX6_read_33 rfl rfl (fun c33 => ?_) (fun c33 => ?_)
      · replace hF := sd_pos hF c33
        refine sd_aload_n C 0 dX6_read_53 rfl rfl rfl (n' := 54) ?_
        refine sd_aload_n C 1 dX6_read_54 rfl rfl rfl (n' := 55) ?_
        obtain ⟨q55, e55, hF⟩ := sd_bind hF
        refine sd_callVI [.ref (E.2.2 h1)] [] C (ct_X6_readItem q22 h1 k1 e55) sd_lX6_39 ⟨rfl, rfl, Nat.le_of_ble_eq_true rfl, Nat.le_of_ble_eq_true rfl⟩ sd_i60 (sd_e7 sd_k60) rfl rfl rfl (Nat.le_of_ble_eq_true rfl) dX6_read_55 rfl (n' := 58) ?_
        refine sd_if_ne C (n' := 61) (tgt := 66) dX6_read_58 rfl rfl (fun c58 => ?_) (fun c58 => ?_)
        · replace hF := sd_neg hF c58
          refine sd_iinc [(2, .int (x2 + (1 : Int32))), (0, .ref (E.2.2 60)), (1, .ref (E.2.2 h1))] 2 C dX6_read_66 rfl rfl (by decide) rfl rfl (n' := 69) ?_
          refine sd_goto C (tgt := 14) dX6_read_69 rfl ?_
          refine sd_sub [1, 2, 0] rfl ?_
          exact ih q55.2 (x2 + (1 : Int32)) hF
        · replace hF := sd_pos hF c58
          refine sd_aload_n C 0 dX6_read_61 rfl rfl rfl (n' := 62) ?_
          refine sd_g6_1 C sd_i60 sd_k60 sd_w202 dX6_read_62 rfl (n' := 65) ?_
          exact sd_iret C dX6_read_65 (sd_fst hF) (sd_snd hF)
      · replace hF := sd_neg hF c33
        refine sd_sub [0, 1] rfl ?_
        exact tb_X6_read_36 C k1 q22 hF
set_option maxRecDepth 100000 in
set_option maxHeartbeats 4000000 in
theorem tb_X6_read_0 {K : sd_K} {E : sd_Env}  {h1 : Nat} {r : (Int32 × sd_Mem)} (C : sd_C K E sd_LC RX6 cX6_read 3 (some .int)) (k1 : sd_kd h1 = 2) : ∀ (M : sd_Mem), fn_X6_read_0 h1 M = some r → sd_Z K rm_X6_read E sd_LC 3 (sd_QI K E sd_LC r.1 r.2) M 0 [(0, .ref (E.2.2 60)), (1, .ref (E.2.2 h1))] [] := by
  intro M hF
  unfold fn_X6_read_0 at hF
  refine sd_aload_n C 0 dX6_read_0 rfl rfl rfl (n' := 1) ?_
  refine sd_g6_0 C sd_i60 sd_k60 sd_w201 dX6_read_1 rfl (n' := 4) ?_
  obtain ⟨q4, e4, hF⟩ := sd_bind hF
  refine sd_callVV [] [] C (ct_X5_clear M 49 sd_k49 e4) sd_lX6_22 ⟨rfl, rfl, Nat.le_of_ble_eq_true rfl, Nat.le_of_ble_eq_true rfl⟩ sd_i49 (sd_e6 sd_k49) rfl rfl rfl (Nat.le_of_ble_eq_true rfl) dX6_read_4 rfl (n' := 7) ?_
  refine sd_aload_n C 0 dX6_read_7 rfl rfl rfl (n' := 8) ?_
  refine sd_iconst C (v := 0) dX6_read_8 rfl rfl (n' := 9) ?_
  refine sd_p6_1 C sd_i60 sd_k60 sd_w202 dX6_read_9 rfl (n' := 12) ?_
  refine sd_iconst C (v := 0) dX6_read_12 rfl rfl (n' := 13) ?_
  refine sd_istore_n [(2, .int (0 : Int32)), (0, .ref (E.2.2 60)), (1, .ref (E.2.2 h1))] C dX6_read_13 rfl (by decide) rfl rfl (n' := 14) ?_
  refine sd_sub [1, 2, 0] rfl ?_
  exact tb_X6_read_14 C k1 sd_FU (sd_setI q4 60 1 (0 : Int32)) (0 : Int32) hF
theorem ct_X6_read {l : Launch} {E : sd_Env} (M : sd_Mem) (h1 : Nat) (k1 : sd_kd h1 = 2) {r : (Int32 × sd_Mem)} (hF : fn_X6_read M h1 = some r) : sd_MI l E sd_LC yX6_read cX6_read 3 (some .int) rm_X6_read [.ref (E.2.2 60), .ref (E.2.2 h1)] M r.1 r.2 := sd_ent0 (by decide +kernel) (Nat.le_of_ble_eq_true rfl) (fun p e s m below meth c C => tb_X6_read_0 C k1 M hF)
theorem dX10_fault_0 : decode cX10_fault 0 = .ok (.iload_n 1, 1) := by decide +kernel
theorem dX10_fault_1 : decode cX10_fault 1 = .ok (.invokestatic 134, 3) := by decide +kernel
theorem dX10_fault_4 : decode cX10_fault 4 = .ok (.ifCond .ne 5, 3) := by decide +kernel
theorem dX10_fault_7 : decode cX10_fault 7 = .ok (.iconst (-1), 1) := by decide +kernel
theorem dX10_fault_8 : decode cX10_fault 8 = .ok (.ireturn, 1) := by decide +kernel
theorem dX10_fault_9 : decode cX10_fault 9 = .ok (.aload_n 0, 1) := by decide +kernel
theorem dX10_fault_10 : decode cX10_fault 10 = .ok (.getfield 15, 3) := by decide +kernel
theorem dX10_fault_13 : decode cX10_fault 13 = .ok (.iload_n 1, 1) := by decide +kernel
theorem dX10_fault_14 : decode cX10_fault 14 = .ok (.aaload, 1) := by decide +kernel
theorem dX10_fault_15 : decode cX10_fault 15 = .ok (.invokevirtual 108, 3) := by decide +kernel
theorem dX10_fault_18 : decode cX10_fault 18 = .ok (.ifCond .eq 12, 3) := by decide +kernel
theorem dX10_fault_21 : decode cX10_fault 21 = .ok (.aload_n 0, 1) := by decide +kernel
theorem dX10_fault_22 : decode cX10_fault 22 = .ok (.getfield 84, 3) := by decide +kernel
theorem dX10_fault_25 : decode cX10_fault 25 = .ok (.iconst 1, 1) := by decide +kernel
theorem dX10_fault_26 : decode cX10_fault 26 = .ok (.invokevirtual 100, 3) := by decide +kernel
theorem dX10_fault_29 : decode cX10_fault 29 = .ok (.ireturn, 1) := by decide +kernel
theorem dX10_fault_30 : decode cX10_fault 30 = .ok (.aload_n 0, 1) := by decide +kernel
theorem dX10_fault_31 : decode cX10_fault 31 = .ok (.getfield 44, 3) := by decide +kernel
theorem dX10_fault_34 : decode cX10_fault 34 = .ok (.aload_n 0, 1) := by decide +kernel
theorem dX10_fault_35 : decode cX10_fault 35 = .ok (.getfield 15, 3) := by decide +kernel
theorem dX10_fault_38 : decode cX10_fault 38 = .ok (.iload_n 1, 1) := by decide +kernel
theorem dX10_fault_39 : decode cX10_fault 39 = .ok (.aaload, 1) := by decide +kernel
theorem dX10_fault_40 : decode cX10_fault 40 = .ok (.invokevirtual 137, 3) := by decide +kernel
theorem dX10_fault_43 : decode cX10_fault 43 = .ok (.ireturn, 1) := by decide +kernel
set_option maxRecDepth 100000 in
set_option maxHeartbeats 4000000 in
theorem tb_X10_fault_0 {K : sd_K} {E : sd_Env}   {r : (Int32 × sd_Mem)} (C : sd_C K E sd_LC RX10 cX10_fault 2 (some .int))  : ∀ (M : sd_Mem) (x1 : Int32), fn_X10_fault_0 M x1 = some r → sd_Z K rm_X10_fault E sd_LC 2 (sd_QI K E sd_LC r.1 r.2) M 0 [(0, .ref (E.2.2 0)), (1, .int x1)] [] := by
  intro M x1 hF
  unfold fn_X10_fault_0 at hF
  refine sd_iload_n C 1 dX10_fault_0 rfl rfl rfl (n' := 1) ?_
  obtain ⟨q1, e1, hF⟩ := sd_bind hF
  refine sd_callSI [.int x1] [] C (ct_X10_isText M x1  e1) sd_lX10_134 ⟨rfl, rfl, Nat.le_of_ble_eq_true rfl, Nat.le_of_ble_eq_true rfl⟩ rfl (Nat.le_of_ble_eq_true rfl) dX10_fault_1 rfl (n' := 4) ?_
  refine sd_if_ne C (n' := 7) (tgt := 9) dX10_fault_4 rfl rfl (fun c4 => ?_) (fun c4 => ?_)
  · replace hF := sd_neg hF c4
    refine sd_aload_n C 0 dX10_fault_9 rfl rfl rfl (n' := 10) ?_
    refine sd_g10_1 C sd_i0 sd_k0 sd_w329 dX10_fault_10 rfl (n' := 13) ?_
    refine sd_iload_n C 1 dX10_fault_13 rfl rfl rfl (n' := 14) ?_
    obtain ⟨b14, hF⟩ := sd_ok hF
    refine sd_cald C sd_i14 sd_k14 sd_n14 b14 dX10_fault_14 rfl (n' := 15) ?_
    obtain ⟨q15, e15, hF⟩ := sd_bind hF
    refine sd_callVI [] [] C (ct_X1_isMissing M (14 + 1 + 2 * x1.toNatClampNeg) ((sd_r14 _ (sd_in_lt b14)).1) e15) sd_lX10_108 ⟨rfl, rfl, Nat.le_of_ble_eq_true rfl, Nat.le_of_ble_eq_true rfl⟩ (sd_mC (sd_r14 _ (sd_in_lt b14)).2) (sd_e2 ((sd_r14 _ (sd_in_lt b14)).1)) rfl rfl rfl (Nat.le_of_ble_eq_true rfl) dX10_fault_15 rfl (n' := 18) ?_
    refine sd_if_eq C (n' := 21) (tgt := 30) dX10_fault_18 rfl rfl (fun c18 => ?_) (fun c18 => ?_)
    · replace hF := sd_pos hF c18
      refine sd_aload_n C 0 dX10_fault_30 rfl rfl rfl (n' := 31) ?_
      refine sd_g10_6 C sd_i0 sd_k0 sd_w334 dX10_fault_31 rfl (n' := 34) ?_
      refine sd_aload_n C 0 dX10_fault_34 rfl rfl rfl (n' := 35) ?_
      refine sd_g10_1 C sd_i0 sd_k0 sd_w329 dX10_fault_35 rfl (n' := 38) ?_
      refine sd_iload_n C 1 dX10_fault_38 rfl rfl rfl (n' := 39) ?_
      obtain ⟨b39, hF⟩ := sd_ok hF
      refine sd_cald C sd_i14 sd_k14 sd_n14 b39 dX10_fault_39 rfl (n' := 40) ?_
      obtain ⟨q40, e40, hF⟩ := sd_bind hF
      refine sd_callVI [.ref (E.2.2 (14 + 1 + 2 * x1.toNatClampNeg))] [] C (ct_X6_read M (14 + 1 + 2 * x1.toNatClampNeg) ((sd_r14 _ (sd_in_lt b39)).1) e40) sd_lX10_137 ⟨rfl, rfl, Nat.le_of_ble_eq_true rfl, Nat.le_of_ble_eq_true rfl⟩ sd_i60 (sd_e7 sd_k60) rfl rfl rfl (Nat.le_of_ble_eq_true rfl) dX10_fault_40 rfl (n' := 43) ?_
      exact sd_iret C dX10_fault_43 (sd_fst hF) (sd_snd hF)
    · replace hF := sd_neg hF c18
      refine sd_aload_n C 0 dX10_fault_21 rfl rfl rfl (n' := 22) ?_
      refine sd_g10_12 C sd_i0 sd_k0 sd_w340 dX10_fault_22 rfl (n' := 25) ?_
      refine sd_iconst C (v := 1) dX10_fault_25 rfl rfl (n' := 26) ?_
      obtain ⟨q26, e26, hF⟩ := sd_bind hF
      refine sd_callVI [.int (1 : Int32)] [] C (ct_X2_tell M (1 : Int32)  e26) sd_lX10_100 ⟨rfl, rfl, Nat.le_of_ble_eq_true rfl, Nat.le_of_ble_eq_true rfl⟩ sd_i97 (sd_e3 sd_k97) rfl rfl rfl (Nat.le_of_ble_eq_true rfl) dX10_fault_26 rfl (n' := 29) ?_
      exact sd_iret C dX10_fault_29 (sd_fst hF) (sd_snd hF)
  · replace hF := sd_pos hF c4
    refine sd_iconst C (v := -1) dX10_fault_7 rfl rfl (n' := 8) ?_
    exact sd_iret C dX10_fault_8 (sd_fst hF) (sd_snd hF)
theorem ct_X10_fault {l : Launch} {E : sd_Env} (M : sd_Mem) (x1 : Int32)  {r : (Int32 × sd_Mem)} (hF : fn_X10_fault M x1 = some r) : sd_MI l E sd_LC yX10_fault cX10_fault 2 (some .int) rm_X10_fault [.ref (E.2.2 0), .int x1] M r.1 r.2 := sd_ent0 (by decide +kernel) (Nat.le_of_ble_eq_true rfl) (fun p e s m below meth c C => tb_X10_fault_0 C M x1 hF)
theorem dX6_draft_0 : decode cX6_draft 0 = .ok (.aload_n 0, 1) := by decide +kernel
theorem dX6_draft_1 : decode cX6_draft 1 = .ok (.getfield 12, 3) := by decide +kernel
theorem dX6_draft_4 : decode cX6_draft 4 = .ok (.areturn, 1) := by decide +kernel
set_option maxRecDepth 100000 in
set_option maxHeartbeats 4000000 in
theorem tb_X6_draft_0 {K : sd_K} {E : sd_Env} {M : sd_Mem}  {r : Nat} (C : sd_C K E sd_LC RX6 cX6_draft 1 (some (.object "StrikeDays$Quarrel")))  : fn_X6_draft_0 = some r → sd_Z K rm_X6_draft E sd_LC 1 (sd_QR K E sd_LC r M) M 0 [(0, .ref (E.2.2 60))] [] := by
  intro hF
  unfold fn_X6_draft_0 at hF
  refine sd_aload_n C 0 dX6_draft_0 rfl rfl rfl (n' := 1) ?_
  refine sd_g6_0 C sd_i60 sd_k60 sd_w201 dX6_draft_1 rfl (n' := 4) ?_
  exact sd_aret C dX6_draft_4 (Option.some.inj hF) rfl
theorem ct_X6_draft {l : Launch} {E : sd_Env} (M : sd_Mem)   {r : Nat} (hF : fn_X6_draft = some r) : sd_MR l E sd_LC yX6_draft cX6_draft 1 (some (.object "StrikeDays$Quarrel")) rm_X6_draft [.ref (E.2.2 60)] M r M := sd_ent0 (by decide +kernel) (Nat.le_of_ble_eq_true rfl) (fun p e s m below meth c C => tb_X6_draft_0 C hF)
theorem dX5_hasSort_0 : decode cX5_hasSort 0 = .ok (.iload_n 1, 1) := by decide +kernel
theorem dX5_hasSort_1 : decode cX5_hasSort 1 = .ok (.ifCond .eq 8, 3) := by decide +kernel
theorem dX5_hasSort_4 : decode cX5_hasSort 4 = .ok (.iload_n 1, 1) := by decide +kernel
theorem dX5_hasSort_5 : decode cX5_hasSort 5 = .ok (.iconst 1, 1) := by decide +kernel
theorem dX5_hasSort_6 : decode cX5_hasSort 6 = .ok (.if_icmp .ne 21, 3) := by decide +kernel
theorem dX5_hasSort_9 : decode cX5_hasSort 9 = .ok (.iload_n 2, 1) := by decide +kernel
theorem dX5_hasSort_10 : decode cX5_hasSort 10 = .ok (.ifCond .lt 17, 3) := by decide +kernel
theorem dX5_hasSort_13 : decode cX5_hasSort 13 = .ok (.iload_n 2, 1) := by decide +kernel
theorem dX5_hasSort_14 : decode cX5_hasSort 14 = .ok (.aload_n 0, 1) := by decide +kernel
theorem dX5_hasSort_15 : decode cX5_hasSort 15 = .ok (.getfield 9, 3) := by decide +kernel
theorem dX5_hasSort_18 : decode cX5_hasSort 18 = .ok (.iload_n 1, 1) := by decide +kernel
theorem dX5_hasSort_19 : decode cX5_hasSort 19 = .ok (.iaload, 1) := by decide +kernel
theorem dX5_hasSort_20 : decode cX5_hasSort 20 = .ok (.if_icmp .ge 7, 3) := by decide +kernel
theorem dX5_hasSort_23 : decode cX5_hasSort 23 = .ok (.iconst 1, 1) := by decide +kernel
theorem dX5_hasSort_24 : decode cX5_hasSort 24 = .ok (.goto 4, 3) := by decide +kernel
theorem dX5_hasSort_27 : decode cX5_hasSort 27 = .ok (.iconst 0, 1) := by decide +kernel
theorem dX5_hasSort_28 : decode cX5_hasSort 28 = .ok (.ireturn, 1) := by decide +kernel
set_option maxRecDepth 100000 in
set_option maxHeartbeats 4000000 in
theorem tb_X5_hasSort_9 {K : sd_K} {E : sd_Env} {M : sd_Mem} {h0 : Nat} {r : Int32} (C : sd_C K E sd_LC RX5 cX5_hasSort 3 (some .boolean)) (k0 : sd_kd h0 = 6) : ∀ (x1 : Int32) (x2 : Int32), fn_X5_hasSort_9 M h0 x1 x2 = some r → sd_Z K rm_X5_hasSort E sd_LC 3 (sd_QI K E sd_LC r M) M 9 [(0, .ref (E.2.2 h0)), (1, .int x1), (2, .int x2)] [] := by
  intro x1 x2 hF
  unfold fn_X5_hasSort_9 at hF
  refine sd_iload_n C 2 dX5_hasSort_9 rfl rfl rfl (n' := 10) ?_
  refine sd_if_lt C (n' := 13) (tgt := 27) dX5_hasSort_10 rfl rfl (fun c10 => ?_) (fun c10 => ?_)
  · replace hF := sd_pos hF c10
    refine sd_iconst C (v := 0) dX5_hasSort_27 rfl rfl (n' := 28) ?_
    exact sd_zret C dX5_hasSort_28 rfl (Option.some.inj hF) rfl
  · replace hF := sd_neg hF c10
    refine sd_iload_n C 2 dX5_hasSort_13 rfl rfl rfl (n' := 14) ?_
    refine sd_aload_n C 0 dX5_hasSort_14 rfl rfl rfl (n' := 15) ?_
    refine sd_g5_0 C (sd_mC (sd_m6 k0)) k0 sd_w130 dX5_hasSort_15 rfl (n' := 18) ?_
    refine sd_iload_n C 1 dX5_hasSort_18 rfl rfl rfl (n' := 19) ?_
    obtain ⟨b19, hF⟩ := sd_ok hF
    refine sd_iald C (sd_mC (by have := (sd_c6 k0).2.2.2.2; omega)) ((sd_c6 k0).1.1) ((sd_c6 k0).1.2) b19 dX5_hasSort_19 rfl (n' := 20) ?_
    refine sd_icmp_ge C (n' := 23) (tgt := 27) dX5_hasSort_20 rfl rfl (fun c20 => ?_) (fun c20 => ?_)
    · replace hF := sd_pos hF c20
      refine sd_iconst C (v := 0) dX5_hasSort_27 rfl rfl (n' := 28) ?_
      exact sd_zret C dX5_hasSort_28 rfl (Option.some.inj hF) rfl
    · replace hF := sd_neg hF c20
      refine sd_iconst C (v := 1) dX5_hasSort_23 rfl rfl (n' := 24) ?_
      refine sd_goto C (tgt := 28) dX5_hasSort_24 rfl ?_
      exact sd_zret C dX5_hasSort_28 rfl (Option.some.inj hF) rfl
set_option maxRecDepth 100000 in
set_option maxHeartbeats 4000000 in
theorem tb_X5_hasSort_0 {K : sd_K} {E : sd_Env} {M : sd_Mem} {h0 : Nat} {r : Int32} (C : sd_C K E sd_LC RX5 cX5_hasSort 3 (some .boolean)) (k0 : sd_kd h0 = 6) : ∀ (x1 : Int32) (x2 : Int32), fn_X5_hasSort_0 M h0 x1 x2 = some r → sd_Z K rm_X5_hasSort E sd_LC 3 (sd_QI K E sd_LC r M) M 0 [(0, .ref (E.2.2 h0)), (1, .int x1), (2, .int x2)] [] := by
  intro x1 x2 hF
  unfold fn_X5_hasSort_0 at hF
  refine sd_iload_n C 1 dX5_hasSort_0 rfl rfl rfl (n' := 1) ?_
  refine sd_if_eq C (n' := 4) (tgt := 9) dX5_hasSort_1 rfl rfl (fun c1 => ?_) (fun c1 => ?_)
  · replace hF := sd_pos hF c1
    exact tb_X5_hasSort_9 C k0 x1 x2 hF
  · replace hF := sd_neg hF c1
    refine sd_iload_n C 1 dX5_hasSort_4 rfl rfl rfl (n' := 5) ?_
    refine sd_iconst C (v := 1) dX5_hasSort_5 rfl rfl (n' := 6) ?_
    refine sd_icmp_ne C (n' := 9) (tgt := 27) dX5_hasSort_6 rfl rfl (fun c6 => ?_) (fun c6 => ?_)
    · replace hF := sd_neg hF c6
      refine sd_iconst C (v := 0) dX5_hasSort_27 rfl rfl (n' := 28) ?_
      exact sd_zret C dX5_hasSort_28 rfl (Option.some.inj hF) rfl
    · replace hF := sd_pos hF c6
      exact tb_X5_hasSort_9 C k0 x1 x2 hF
theorem ct_X5_hasSort {l : Launch} {E : sd_Env} (M : sd_Mem) (h0 : Nat) (x1 : Int32) (x2 : Int32) (k0 : sd_kd h0 = 6) {r : Int32} (hF : fn_X5_hasSort M h0 x1 x2 = some r) : sd_MI l E sd_LC yX5_hasSort cX5_hasSort 3 (some .boolean) rm_X5_hasSort [.ref (E.2.2 h0), .int x1, .int x2] M r M := sd_ent0 (by decide +kernel) (Nat.le_of_ble_eq_true rfl) (fun p e s m below meth c C => tb_X5_hasSort_0 C k0 x1 x2 hF)
theorem dX5_chance_0 : decode cX5_chance 0 = .ok (.aload_n 0, 1) := by decide +kernel
theorem dX5_chance_1 : decode cX5_chance 1 = .ok (.iload_n 1, 1) := by decide +kernel
theorem dX5_chance_2 : decode cX5_chance 2 = .ok (.iload_n 2, 1) := by decide +kernel
theorem dX5_chance_3 : decode cX5_chance 3 = .ok (.invokevirtual 66, 3) := by decide +kernel
theorem dX5_chance_6 : decode cX5_chance 6 = .ok (.ifCond .eq 14, 3) := by decide +kernel
theorem dX5_chance_9 : decode cX5_chance 9 = .ok (.aload_n 0, 1) := by decide +kernel
theorem dX5_chance_10 : decode cX5_chance 10 = .ok (.getfield 20, 3) := by decide +kernel
theorem dX5_chance_13 : decode cX5_chance 13 = .ok (.iload_n 1, 1) := by decide +kernel
theorem dX5_chance_14 : decode cX5_chance 14 = .ok (.aaload, 1) := by decide +kernel
theorem dX5_chance_15 : decode cX5_chance 15 = .ok (.iload_n 2, 1) := by decide +kernel
theorem dX5_chance_16 : decode cX5_chance 16 = .ok (.iaload, 1) := by decide +kernel
theorem dX5_chance_17 : decode cX5_chance 17 = .ok (.goto 4, 3) := by decide +kernel
theorem dX5_chance_20 : decode cX5_chance 20 = .ok (.iconst 0, 1) := by decide +kernel
theorem dX5_chance_21 : decode cX5_chance 21 = .ok (.ireturn, 1) := by decide +kernel
set_option maxRecDepth 100000 in
set_option maxHeartbeats 4000000 in
theorem tb_X5_chance_0 {K : sd_K} {E : sd_Env} {M : sd_Mem} {h0 : Nat} {r : Int32} (C : sd_C K E sd_LC RX5 cX5_chance 3 (some .int)) (k0 : sd_kd h0 = 6) : ∀ (x1 : Int32) (x2 : Int32), fn_X5_chance_0 M h0 x1 x2 = some r → sd_Z K rm_X5_chance E sd_LC 3 (sd_QI K E sd_LC r M) M 0 [(0, .ref (E.2.2 h0)), (1, .int x1), (2, .int x2)] [] := by
  intro x1 x2 hF
  unfold fn_X5_chance_0 at hF
  refine sd_aload_n C 0 dX5_chance_0 rfl rfl rfl (n' := 1) ?_
  refine sd_iload_n C 1 dX5_chance_1 rfl rfl rfl (n' := 2) ?_
  refine sd_iload_n C 2 dX5_chance_2 rfl rfl rfl (n' := 3) ?_
  obtain ⟨q3, e3, hF⟩ := sd_bind hF
  refine sd_callVI [.int x1, .int x2] [] C (ct_X5_hasSort M h0 x1 x2 k0 e3) sd_lX5_66 ⟨rfl, rfl, Nat.le_of_ble_eq_true rfl, Nat.le_of_ble_eq_true rfl⟩ (sd_mC (sd_m6 k0)) (sd_e6 k0) rfl rfl rfl (Nat.le_of_ble_eq_true rfl) dX5_chance_3 rfl (n' := 6) ?_
  refine sd_if_eq C (n' := 9) (tgt := 20) dX5_chance_6 rfl rfl (fun c6 => ?_) (fun c6 => ?_)
  · replace hF := sd_pos hF c6
    refine sd_iconst C (v := 0) dX5_chance_20 rfl rfl (n' := 21) ?_
    exact sd_iret C dX5_chance_21 (Option.some.inj hF) rfl
  · replace hF := sd_neg hF c6
    refine sd_aload_n C 0 dX5_chance_9 rfl rfl rfl (n' := 10) ?_
    refine sd_g5_2 C (sd_mC (sd_m6 k0)) k0 sd_w132 dX5_chance_10 rfl (n' := 13) ?_
    refine sd_iload_n C 1 dX5_chance_13 rfl rfl rfl (n' := 14) ?_
    obtain ⟨b14, hF⟩ := sd_ok hF
    refine sd_gald C (sd_mC (by have := (sd_c6 k0).2.2.2.2; omega)) ((sd_c6 k0).2.2.1.1) ((sd_c6 k0).2.2.1.2) b14 dX5_chance_14 rfl (n' := 15) ?_
    refine sd_iload_n C 2 dX5_chance_15 rfl rfl rfl (n' := 16) ?_
    obtain ⟨b16, hF⟩ := sd_ok hF
    refine sd_iald C (sd_mC (by have := (sd_c6 k0).2.2.2.2; have := sd_in_lt b14; omega)) ((sd_c6j k0 (sd_in_lt b14)).1.1) ((sd_c6j k0 (sd_in_lt b14)).1.2) b16 dX5_chance_16 rfl (n' := 17) ?_
    refine sd_goto C (tgt := 21) dX5_chance_17 rfl ?_
    exact sd_iret C dX5_chance_21 (Option.some.inj hF) rfl
theorem ct_X5_chance {l : Launch} {E : sd_Env} (M : sd_Mem) (h0 : Nat) (x1 : Int32) (x2 : Int32) (k0 : sd_kd h0 = 6) {r : Int32} (hF : fn_X5_chance M h0 x1 x2 = some r) : sd_MI l E sd_LC yX5_chance cX5_chance 3 (some .int) rm_X5_chance [.ref (E.2.2 h0), .int x1, .int x2] M r M := sd_ent0 (by decide +kernel) (Nat.le_of_ble_eq_true rfl) (fun p e s m below meth c C => tb_X5_chance_0 C k0 x1 x2 hF)
theorem dX5_cost_0 : decode cX5_cost 0 = .ok (.aload_n 0, 1) := by decide +kernel
theorem dX5_cost_1 : decode cX5_cost 1 = .ok (.iload_n 1, 1) := by decide +kernel
theorem dX5_cost_2 : decode cX5_cost 2 = .ok (.iload_n 2, 1) := by decide +kernel
theorem dX5_cost_3 : decode cX5_cost 3 = .ok (.invokevirtual 66, 3) := by decide +kernel
theorem dX5_cost_6 : decode cX5_cost 6 = .ok (.ifCond .eq 14, 3) := by decide +kernel
theorem dX5_cost_9 : decode cX5_cost 9 = .ok (.aload_n 0, 1) := by decide +kernel
theorem dX5_cost_10 : decode cX5_cost 10 = .ok (.getfield 23, 3) := by decide +kernel
theorem dX5_cost_13 : decode cX5_cost 13 = .ok (.iload_n 1, 1) := by decide +kernel
theorem dX5_cost_14 : decode cX5_cost 14 = .ok (.aaload, 1) := by decide +kernel
theorem dX5_cost_15 : decode cX5_cost 15 = .ok (.iload_n 2, 1) := by decide +kernel
theorem dX5_cost_16 : decode cX5_cost 16 = .ok (.iaload, 1) := by decide +kernel
theorem dX5_cost_17 : decode cX5_cost 17 = .ok (.goto 4, 3) := by decide +kernel
theorem dX5_cost_20 : decode cX5_cost 20 = .ok (.iconst 0, 1) := by decide +kernel
theorem dX5_cost_21 : decode cX5_cost 21 = .ok (.ireturn, 1) := by decide +kernel
set_option maxRecDepth 100000 in
set_option maxHeartbeats 4000000 in
theorem tb_X5_cost_0 {K : sd_K} {E : sd_Env} {M : sd_Mem} {h0 : Nat} {r : Int32} (C : sd_C K E sd_LC RX5 cX5_cost 3 (some .int)) (k0 : sd_kd h0 = 6) : ∀ (x1 : Int32) (x2 : Int32), fn_X5_cost_0 M h0 x1 x2 = some r → sd_Z K rm_X5_cost E sd_LC 3 (sd_QI K E sd_LC r M) M 0 [(0, .ref (E.2.2 h0)), (1, .int x1), (2, .int x2)] [] := by
  intro x1 x2 hF
  unfold fn_X5_cost_0 at hF
  refine sd_aload_n C 0 dX5_cost_0 rfl rfl rfl (n' := 1) ?_
  refine sd_iload_n C 1 dX5_cost_1 rfl rfl rfl (n' := 2) ?_
  refine sd_iload_n C 2 dX5_cost_2 rfl rfl rfl (n' := 3) ?_
  obtain ⟨q3, e3, hF⟩ := sd_bind hF
  refine sd_callVI [.int x1, .int x2] [] C (ct_X5_hasSort M h0 x1 x2 k0 e3) sd_lX5_66 ⟨rfl, rfl, Nat.le_of_ble_eq_true rfl, Nat.le_of_ble_eq_true rfl⟩ (sd_mC (sd_m6 k0)) (sd_e6 k0) rfl rfl rfl (Nat.le_of_ble_eq_true rfl) dX5_cost_3 rfl (n' := 6) ?_
  refine sd_if_eq C (n' := 9) (tgt := 20) dX5_cost_6 rfl rfl (fun c6 => ?_) (fun c6 => ?_)
  · replace hF := sd_pos hF c6
    refine sd_iconst C (v := 0) dX5_cost_20 rfl rfl (n' := 21) ?_
    exact sd_iret C dX5_cost_21 (Option.some.inj hF) rfl
  · replace hF := sd_neg hF c6
    refine sd_aload_n C 0 dX5_cost_9 rfl rfl rfl (n' := 10) ?_
    refine sd_g5_3 C (sd_mC (sd_m6 k0)) k0 sd_w133 dX5_cost_10 rfl (n' := 13) ?_
    refine sd_iload_n C 1 dX5_cost_13 rfl rfl rfl (n' := 14) ?_
    obtain ⟨b14, hF⟩ := sd_ok hF
    refine sd_gald C (sd_mC (by have := (sd_c6 k0).2.2.2.2; omega)) ((sd_c6 k0).2.2.2.1.1) ((sd_c6 k0).2.2.2.1.2) b14 dX5_cost_14 rfl (n' := 15) ?_
    refine sd_iload_n C 2 dX5_cost_15 rfl rfl rfl (n' := 16) ?_
    obtain ⟨b16, hF⟩ := sd_ok hF
    refine sd_iald C (sd_mC (by have := (sd_c6 k0).2.2.2.2; have := sd_in_lt b14; omega)) ((sd_c6j k0 (sd_in_lt b14)).2.1) ((sd_c6j k0 (sd_in_lt b14)).2.2) b16 dX5_cost_16 rfl (n' := 17) ?_
    refine sd_goto C (tgt := 21) dX5_cost_17 rfl ?_
    exact sd_iret C dX5_cost_21 (Option.some.inj hF) rfl
theorem ct_X5_cost {l : Launch} {E : sd_Env} (M : sd_Mem) (h0 : Nat) (x1 : Int32) (x2 : Int32) (k0 : sd_kd h0 = 6) {r : Int32} (hF : fn_X5_cost M h0 x1 x2 = some r) : sd_MI l E sd_LC yX5_cost cX5_cost 3 (some .int) rm_X5_cost [.ref (E.2.2 h0), .int x1, .int x2] M r M := sd_ent0 (by decide +kernel) (Nat.le_of_ble_eq_true rfl) (fun p e s m below meth c C => tb_X5_cost_0 C k0 x1 x2 hF)
theorem dX5_become_0 : decode cX5_become 0 = .ok (.aload_n 0, 1) := by decide +kernel
theorem dX5_become_1 : decode cX5_become 1 = .ok (.invokevirtual 26, 3) := by decide +kernel
theorem dX5_become_4 : decode cX5_become 4 = .ok (.iconst 0, 1) := by decide +kernel
theorem dX5_become_5 : decode cX5_become 5 = .ok (.istore_n 2, 1) := by decide +kernel
theorem dX5_become_6 : decode cX5_become 6 = .ok (.iload_n 2, 1) := by decide +kernel
theorem dX5_become_7 : decode cX5_become 7 = .ok (.iconst 1, 1) := by decide +kernel
theorem dX5_become_8 : decode cX5_become 8 = .ok (.if_icmp .gt 43, 3) := by decide +kernel
theorem dX5_become_11 : decode cX5_become 11 = .ok (.iconst 0, 1) := by decide +kernel
theorem dX5_become_12 : decode cX5_become 12 = .ok (.istore_n 3, 1) := by decide +kernel
theorem dX5_become_13 : decode cX5_become 13 = .ok (.iload_n 3, 1) := by decide +kernel
theorem dX5_become_14 : decode cX5_become 14 = .ok (.aload_n 1, 1) := by decide +kernel
theorem dX5_become_15 : decode cX5_become 15 = .ok (.iload_n 2, 1) := by decide +kernel
theorem dX5_become_16 : decode cX5_become 16 = .ok (.invokevirtual 52, 3) := by decide +kernel
theorem dX5_become_19 : decode cX5_become 19 = .ok (.if_icmp .ge 26, 3) := by decide +kernel
theorem dX5_become_22 : decode cX5_become 22 = .ok (.aload_n 0, 1) := by decide +kernel
theorem dX5_become_23 : decode cX5_become 23 = .ok (.iload_n 2, 1) := by decide +kernel
theorem dX5_become_24 : decode cX5_become 24 = .ok (.aload_n 1, 1) := by decide +kernel
theorem dX5_become_25 : decode cX5_become 25 = .ok (.iload_n 2, 1) := by decide +kernel
theorem dX5_become_26 : decode cX5_become 26 = .ok (.iload_n 3, 1) := by decide +kernel
theorem dX5_become_27 : decode cX5_become 27 = .ok (.invokevirtual 59, 3) := by decide +kernel
theorem dX5_become_30 : decode cX5_become 30 = .ok (.aload_n 1, 1) := by decide +kernel
theorem dX5_become_31 : decode cX5_become 31 = .ok (.iload_n 2, 1) := by decide +kernel
theorem dX5_become_32 : decode cX5_become 32 = .ok (.iload_n 3, 1) := by decide +kernel
theorem dX5_become_33 : decode cX5_become 33 = .ok (.invokevirtual 63, 3) := by decide +kernel
theorem dX5_become_36 : decode cX5_become 36 = .ok (.invokevirtual 29, 3) := by decide +kernel
theorem dX5_become_39 : decode cX5_become 39 = .ok (.iinc 3 1, 3) := by decide +kernel
theorem dX5_become_42 : decode cX5_become 42 = .ok (.goto (-29), 3) := by decide +kernel
theorem dX5_become_45 : decode cX5_become 45 = .ok (.iinc 2 1, 3) := by decide +kernel
theorem dX5_become_48 : decode cX5_become 48 = .ok (.goto (-42), 3) := by decide +kernel
theorem dX5_become_51 : decode cX5_become 51 = .ok (.aload_n 0, 1) := by decide +kernel
theorem dX5_become_52 : decode cX5_become 52 = .ok (.aload_n 1, 1) := by decide +kernel
theorem dX5_become_53 : decode cX5_become 53 = .ok (.getfield 39, 3) := by decide +kernel
theorem dX5_become_56 : decode cX5_become 56 = .ok (.putfield 39, 3) := by decide +kernel
theorem dX5_become_59 : decode cX5_become 59 = .ok (.aload_n 0, 1) := by decide +kernel
theorem dX5_become_60 : decode cX5_become 60 = .ok (.aload_n 1, 1) := by decide +kernel
theorem dX5_become_61 : decode cX5_become 61 = .ok (.getfield 43, 3) := by decide +kernel
theorem dX5_become_64 : decode cX5_become 64 = .ok (.putfield 43, 3) := by decide +kernel
theorem dX5_become_67 : decode cX5_become 67 = .ok (.aload_n 0, 1) := by decide +kernel
theorem dX5_become_68 : decode cX5_become 68 = .ok (.aload_n 1, 1) := by decide +kernel
theorem dX5_become_69 : decode cX5_become 69 = .ok (.getfield 46, 3) := by decide +kernel
theorem dX5_become_72 : decode cX5_become 72 = .ok (.putfield 46, 3) := by decide +kernel
theorem dX5_become_75 : decode cX5_become 75 = .ok (.aload_n 0, 1) := by decide +kernel
theorem dX5_become_76 : decode cX5_become 76 = .ok (.aload_n 1, 1) := by decide +kernel
theorem dX5_become_77 : decode cX5_become 77 = .ok (.getfield 49, 3) := by decide +kernel
theorem dX5_become_80 : decode cX5_become 80 = .ok (.putfield 49, 3) := by decide +kernel
theorem dX5_become_83 : decode cX5_become 83 = .ok (.return_, 1) := by decide +kernel
set_option maxRecDepth 100000 in
set_option maxHeartbeats 4000000 in
theorem tb_X5_become_13 {K : sd_K} {E : sd_Env}  {h0 h1 : Nat} {r : sd_Mem} (C : sd_C K E sd_LC RX5 cX5_become 4 none) (k0 : sd_kd h0 = 6) (k1 : sd_kd h1 = 6) {k6 : sd_Mem → Int32 → Option sd_Mem} (hk6 : ∀ (M : sd_Mem) (x2 : Int32), k6 M x2 = some r → sd_Z K rm_X5_become E sd_LC 4 (sd_QV K E sd_LC r) M 6 [(0, .ref (E.2.2 h0)), (1, .ref (E.2.2 h1)), (2, .int x2)] []) : ∀ (n : Nat), ∀ (M : sd_Mem) (x2 : Int32) (x3 : Int32), fn_X5_become_13 h0 h1 k6 n M x2 x3 = some r → sd_Z K rm_X5_become E sd_LC 4 (sd_QV K E sd_LC r) M 13 [(0, .ref (E.2.2 h0)), (1, .ref (E.2.2 h1)), (2, .int x2), (3, .int x3)] [] := by
  intro n
  induction n with
  | zero => intro M x2 x3 hF; cases hF
  | succ n ih =>
    intro M x2 x3 hF
    unfold fn_X5_become_13 at hF
    refine sd_iload_n C 3 dX5_become_13 rfl rfl rfl (n' := 14) ?_
    refine sd_aload_n C 1 dX5_become_14 rfl rfl rfl (n' := 15) ?_
    refine sd_iload_n C 2 dX5_become_15 rfl rfl rfl (n' := 16) ?_
    obtain ⟨q16, e16, hF⟩ := sd_bind hF
    refine sd_callVI [.int x2] [.int x3] C (ct_X5_sorts M h1 x2 k1 e16) sd_lX5_52 ⟨rfl, rfl, Nat.le_of_ble_eq_true rfl, Nat.le_of_ble_eq_true rfl⟩ (sd_mC (sd_m6 k1)) (sd_e6 k1) rfl rfl rfl (Nat.le_of_ble_eq_true rfl) dX5_become_16 rfl (n' := 19) ?_
    refine sd_icmp_ge C (n' := 22) (tgt := 45) dX5_become_19 rfl rfl (fun c19 => ?_) (fun c19 => ?_)
    · replace hF := sd_pos hF c19
      refine sd_iinc [(2, .int (x2 + (1 : Int32))), (0, .ref (E.2.2 h0)), (1, .ref (E.2.2 h1)), (3, .int x3)] 2 C dX5_become_45 rfl rfl (by decide) rfl rfl (n' := 48) ?_
      refine sd_goto C (tgt := 6) dX5_become_48 rfl ?_
      refine sd_sub [1, 2, 0] rfl ?_
      exact hk6 M (x2 + (1 : Int32)) hF
    · replace hF := sd_neg hF c19
      refine sd_aload_n C 0 dX5_become_22 rfl rfl rfl (n' := 23) ?_
      refine sd_iload_n C 2 dX5_become_23 rfl rfl rfl (n' := 24) ?_
      refine sd_aload_n C 1 dX5_become_24 rfl rfl rfl (n' := 25) ?_
      refine sd_iload_n C 2 dX5_become_25 rfl rfl rfl (n' := 26) ?_
      refine sd_iload_n C 3 dX5_become_26 rfl rfl rfl (n' := 27) ?_
      obtain ⟨q27, e27, hF⟩ := sd_bind hF
      refine sd_callVI [.int x2, .int x3] [.int x2, .ref (E.2.2 h0)] C (ct_X5_chance M h1 x2 x3 k1 e27) sd_lX5_59 ⟨rfl, rfl, Nat.le_of_ble_eq_true rfl, Nat.le_of_ble_eq_true rfl⟩ (sd_mC (sd_m6 k1)) (sd_e6 k1) rfl rfl rfl (Nat.le_of_ble_eq_true rfl) dX5_become_27 rfl (n' := 30) ?_
      refine sd_aload_n C 1 dX5_become_30 rfl rfl rfl (n' := 31) ?_
      refine sd_iload_n C 2 dX5_become_31 rfl rfl rfl (n' := 32) ?_
      refine sd_iload_n C 3 dX5_become_32 rfl rfl rfl (n' := 33) ?_
      obtain ⟨q33, e33, hF⟩ := sd_bind hF
      refine sd_callVI [.int x2, .int x3] [.int q27, .int x2, .ref (E.2.2 h0)] C (ct_X5_cost M h1 x2 x3 k1 e33) sd_lX5_63 ⟨rfl, rfl, Nat.le_of_ble_eq_true rfl, Nat.le_of_ble_eq_true rfl⟩ (sd_mC (sd_m6 k1)) (sd_e6 k1) rfl rfl rfl (Nat.le_of_ble_eq_true rfl) dX5_become_33 rfl (n' := 36) ?_
      obtain ⟨q36, e36, hF⟩ := sd_bind hF
      refine sd_callVV [.int x2, .int q27, .int q33] [] C (ct_X5_addSort M h0 x2 q27 q33 k0 e36) sd_lX5_29 ⟨rfl, rfl, Nat.le_of_ble_eq_true rfl, Nat.le_of_ble_eq_true rfl⟩ (sd_mC (sd_m6 k0)) (sd_e6 k0) rfl rfl rfl (Nat.le_of_ble_eq_true rfl) dX5_become_36 rfl (n' := 39) ?_
      refine sd_iinc [(3, .int (x3 + (1 : Int32))), (0, .ref (E.2.2 h0)), (1, .ref (E.2.2 h1)), (2, .int x2)] 3 C dX5_become_39 rfl rfl (by decide) rfl rfl (n' := 42) ?_
      refine sd_goto C (tgt := 13) dX5_become_42 rfl ?_
      refine sd_sub [1, 2, 3, 0] rfl ?_
      exact ih q36 x2 (x3 + (1 : Int32)) hF
set_option maxRecDepth 100000 in
set_option maxHeartbeats 4000000 in
theorem tb_X5_become_51 {K : sd_K} {E : sd_Env}  {h0 h1 : Nat} {r : sd_Mem} (C : sd_C K E sd_LC RX5 cX5_become 4 none) (k0 : sd_kd h0 = 6) (k1 : sd_kd h1 = 6) : ∀ (M : sd_Mem), fn_X5_become_51 h0 h1 M = some r → sd_Z K rm_X5_become E sd_LC 4 (sd_QV K E sd_LC r) M 51 [(0, .ref (E.2.2 h0)), (1, .ref (E.2.2 h1))] [] := by
  intro M hF
  unfold fn_X5_become_51 at hF
  refine sd_aload_n C 0 dX5_become_51 rfl rfl rfl (n' := 52) ?_
  refine sd_aload_n C 1 dX5_become_52 rfl rfl rfl (n' := 53) ?_
  refine sd_g5_4 C (sd_mC (sd_m6 k1)) k1 sd_w134 dX5_become_53 rfl (n' := 56) ?_
  refine sd_p5_4 C (sd_mC (sd_m6 k0)) k0 sd_w134 dX5_become_56 rfl (n' := 59) ?_
  refine sd_aload_n C 0 dX5_become_59 rfl rfl rfl (n' := 60) ?_
  refine sd_aload_n C 1 dX5_become_60 rfl rfl rfl (n' := 61) ?_
  refine sd_g5_5 C (sd_mC (sd_m6 k1)) k1 sd_w138 dX5_become_61 rfl (n' := 64) ?_
  refine sd_p5_5 C (sd_mC (sd_m6 k0)) k0 sd_w138 dX5_become_64 rfl (n' := 67) ?_
  refine sd_aload_n C 0 dX5_become_67 rfl rfl rfl (n' := 68) ?_
  refine sd_aload_n C 1 dX5_become_68 rfl rfl rfl (n' := 69) ?_
  refine sd_g5_6 C (sd_mC (sd_m6 k1)) k1 sd_w142 dX5_become_69 rfl (n' := 72) ?_
  refine sd_p5_6 C (sd_mC (sd_m6 k0)) k0 sd_w142 dX5_become_72 rfl (n' := 75) ?_
  refine sd_aload_n C 0 dX5_become_75 rfl rfl rfl (n' := 76) ?_
  refine sd_aload_n C 1 dX5_become_76 rfl rfl rfl (n' := 77) ?_
  refine sd_g5_7 C (sd_mC (sd_m6 k1)) k1 sd_w145 dX5_become_77 rfl (n' := 80) ?_
  refine sd_p5_7 C (sd_mC (sd_m6 k0)) k0 sd_w145 dX5_become_80 rfl (n' := 83) ?_
  exact sd_vret C dX5_become_83 (Option.some.inj hF)
set_option maxRecDepth 100000 in
set_option maxHeartbeats 4000000 in
theorem tb_X5_become_6 {K : sd_K} {E : sd_Env}  {h0 h1 : Nat} {r : sd_Mem} (C : sd_C K E sd_LC RX5 cX5_become 4 none) (k0 : sd_kd h0 = 6) (k1 : sd_kd h1 = 6) : ∀ (n : Nat), ∀ (M : sd_Mem) (x2 : Int32), fn_X5_become_6 h0 h1 n M x2 = some r → sd_Z K rm_X5_become E sd_LC 4 (sd_QV K E sd_LC r) M 6 [(0, .ref (E.2.2 h0)), (1, .ref (E.2.2 h1)), (2, .int x2)] [] := by
  intro n
  induction n with
  | zero => intro M x2 hF; cases hF
  | succ n ih =>
    intro M x2 hF
    unfold fn_X5_become_6 at hF
    refine sd_iload_n C 2 dX5_become_6 rfl rfl rfl (n' := 7) ?_
    refine sd_iconst C (v := 1) dX5_become_7 rfl rfl (n' := 8) ?_
    refine sd_icmp_gt C (n' := 11) (tgt := 51) dX5_become_8 rfl rfl (fun c8 => ?_) (fun c8 => ?_)
    · replace hF := sd_pos hF c8
      refine sd_sub [0, 1] rfl ?_
      exact tb_X5_become_51 C k0 k1 M hF
    · replace hF := sd_neg hF c8
      refine sd_iconst C (v := 0) dX5_become_11 rfl rfl (n' := 12) ?_
      refine sd_istore_n [(3, .int (0 : Int32)), (0, .ref (E.2.2 h0)), (1, .ref (E.2.2 h1)), (2, .int x2)] C dX5_become_12 rfl (by decide) rfl rfl (n' := 13) ?_
      refine sd_sub [1, 2, 3, 0] rfl ?_
      exact tb_X5_become_13 C k0 k1 ih sd_FU M x2 (0 : Int32) hF
set_option maxRecDepth 100000 in
set_option maxHeartbeats 4000000 in
theorem tb_X5_become_0 {K : sd_K} {E : sd_Env}  {h0 h1 : Nat} {r : sd_Mem} (C : sd_C K E sd_LC RX5 cX5_become 4 none) (k0 : sd_kd h0 = 6) (k1 : sd_kd h1 = 6) : ∀ (M : sd_Mem), fn_X5_become_0 h0 h1 M = some r → sd_Z K rm_X5_become E sd_LC 4 (sd_QV K E sd_LC r) M 0 [(0, .ref (E.2.2 h0)), (1, .ref (E.2.2 h1))] [] := by
  intro M hF
  unfold fn_X5_become_0 at hF
  refine sd_aload_n C 0 dX5_become_0 rfl rfl rfl (n' := 1) ?_
  obtain ⟨q1, e1, hF⟩ := sd_bind hF
  refine sd_callVV [] [] C (ct_X5_clear M h0 k0 e1) sd_lX5_26 ⟨rfl, rfl, Nat.le_of_ble_eq_true rfl, Nat.le_of_ble_eq_true rfl⟩ (sd_mC (sd_m6 k0)) (sd_e6 k0) rfl rfl rfl (Nat.le_of_ble_eq_true rfl) dX5_become_1 rfl (n' := 4) ?_
  refine sd_iconst C (v := 0) dX5_become_4 rfl rfl (n' := 5) ?_
  refine sd_istore_n [(2, .int (0 : Int32)), (0, .ref (E.2.2 h0)), (1, .ref (E.2.2 h1))] C dX5_become_5 rfl (by decide) rfl rfl (n' := 6) ?_
  refine sd_sub [1, 2, 0] rfl ?_
  exact tb_X5_become_6 C k0 k1 sd_FU q1 (0 : Int32) hF
theorem ct_X5_become {l : Launch} {E : sd_Env} (M : sd_Mem) (h0 : Nat) (h1 : Nat) (k0 : sd_kd h0 = 6) (k1 : sd_kd h1 = 6) {r : sd_Mem} (hF : fn_X5_become M h0 h1 = some r) : sd_MV l E sd_LC yX5_become cX5_become 4 none rm_X5_become [.ref (E.2.2 h0), .ref (E.2.2 h1)] M r := sd_ent0 (by decide +kernel) (Nat.le_of_ble_eq_true rfl) (fun p e s m below meth c C => tb_X5_become_0 C k0 k1 M hF)
theorem dX10_quarrel_0 : decode cX10_quarrel 0 = .ok (.iload_n 1, 1) := by decide +kernel
theorem dX10_quarrel_1 : decode cX10_quarrel 1 = .ok (.invokestatic 134, 3) := by decide +kernel
theorem dX10_quarrel_4 : decode cX10_quarrel 4 = .ok (.ifCond .ne 5, 3) := by decide +kernel
theorem dX10_quarrel_7 : decode cX10_quarrel 7 = .ok (.iconst (-1), 1) := by decide +kernel
theorem dX10_quarrel_8 : decode cX10_quarrel 8 = .ok (.ireturn, 1) := by decide +kernel
theorem dX10_quarrel_9 : decode cX10_quarrel 9 = .ok (.aload_n 0, 1) := by decide +kernel
theorem dX10_quarrel_10 : decode cX10_quarrel 10 = .ok (.getfield 15, 3) := by decide +kernel
theorem dX10_quarrel_13 : decode cX10_quarrel 13 = .ok (.iload_n 1, 1) := by decide +kernel
theorem dX10_quarrel_14 : decode cX10_quarrel 14 = .ok (.aaload, 1) := by decide +kernel
theorem dX10_quarrel_15 : decode cX10_quarrel 15 = .ok (.invokevirtual 108, 3) := by decide +kernel
theorem dX10_quarrel_18 : decode cX10_quarrel 18 = .ok (.ifCond .eq 12, 3) := by decide +kernel
theorem dX10_quarrel_21 : decode cX10_quarrel 21 = .ok (.aload_n 0, 1) := by decide +kernel
theorem dX10_quarrel_22 : decode cX10_quarrel 22 = .ok (.getfield 84, 3) := by decide +kernel
theorem dX10_quarrel_25 : decode cX10_quarrel 25 = .ok (.iconst 1, 1) := by decide +kernel
theorem dX10_quarrel_26 : decode cX10_quarrel 26 = .ok (.invokevirtual 100, 3) := by decide +kernel
theorem dX10_quarrel_29 : decode cX10_quarrel 29 = .ok (.ireturn, 1) := by decide +kernel
theorem dX10_quarrel_30 : decode cX10_quarrel 30 = .ok (.aload_n 0, 1) := by decide +kernel
theorem dX10_quarrel_31 : decode cX10_quarrel 31 = .ok (.getfield 44, 3) := by decide +kernel
theorem dX10_quarrel_34 : decode cX10_quarrel 34 = .ok (.aload_n 0, 1) := by decide +kernel
theorem dX10_quarrel_35 : decode cX10_quarrel 35 = .ok (.getfield 15, 3) := by decide +kernel
theorem dX10_quarrel_38 : decode cX10_quarrel 38 = .ok (.iload_n 1, 1) := by decide +kernel
theorem dX10_quarrel_39 : decode cX10_quarrel 39 = .ok (.aaload, 1) := by decide +kernel
theorem dX10_quarrel_40 : decode cX10_quarrel 40 = .ok (.invokevirtual 137, 3) := by decide +kernel
theorem dX10_quarrel_43 : decode cX10_quarrel 43 = .ok (.bipush (-9), 2) := by decide +kernel
theorem dX10_quarrel_45 : decode cX10_quarrel 45 = .ok (.if_icmp .eq 6, 3) := by decide +kernel
theorem dX10_quarrel_48 : decode cX10_quarrel 48 = .ok (.bipush (-4), 2) := by decide +kernel
theorem dX10_quarrel_50 : decode cX10_quarrel 50 = .ok (.ireturn, 1) := by decide +kernel
theorem dX10_quarrel_51 : decode cX10_quarrel 51 = .ok (.aload_n 0, 1) := by decide +kernel
theorem dX10_quarrel_52 : decode cX10_quarrel 52 = .ok (.getfield 27, 3) := by decide +kernel
theorem dX10_quarrel_55 : decode cX10_quarrel 55 = .ok (.aload_n 0, 1) := by decide +kernel
theorem dX10_quarrel_56 : decode cX10_quarrel 56 = .ok (.getfield 44, 3) := by decide +kernel
theorem dX10_quarrel_59 : decode cX10_quarrel 59 = .ok (.invokevirtual 141, 3) := by decide +kernel
theorem dX10_quarrel_62 : decode cX10_quarrel 62 = .ok (.invokevirtual 145, 3) := by decide +kernel
theorem dX10_quarrel_65 : decode cX10_quarrel 65 = .ok (.aload_n 0, 1) := by decide +kernel
theorem dX10_quarrel_66 : decode cX10_quarrel 66 = .ok (.getfield 27, 3) := by decide +kernel
theorem dX10_quarrel_69 : decode cX10_quarrel 69 = .ok (.iconst 0, 1) := by decide +kernel
theorem dX10_quarrel_70 : decode cX10_quarrel 70 = .ok (.invokevirtual 149, 3) := by decide +kernel
theorem dX10_quarrel_73 : decode cX10_quarrel 73 = .ok (.aload_n 0, 1) := by decide +kernel
theorem dX10_quarrel_74 : decode cX10_quarrel 74 = .ok (.getfield 27, 3) := by decide +kernel
theorem dX10_quarrel_77 : decode cX10_quarrel 77 = .ok (.iconst 1, 1) := by decide +kernel
theorem dX10_quarrel_78 : decode cX10_quarrel 78 = .ok (.invokevirtual 149, 3) := by decide +kernel
theorem dX10_quarrel_81 : decode cX10_quarrel 81 = .ok (.iadd, 1) := by decide +kernel
theorem dX10_quarrel_82 : decode cX10_quarrel 82 = .ok (.ireturn, 1) := by decide +kernel
set_option maxRecDepth 100000 in
set_option maxHeartbeats 4000000 in
theorem tb_X10_quarrel_0 {K : sd_K} {E : sd_Env}   {r : (Int32 × sd_Mem)} (C : sd_C K E sd_LC RX10 cX10_quarrel 2 (some .int))  : ∀ (M : sd_Mem) (x1 : Int32), fn_X10_quarrel_0 M x1 = some r → sd_Z K rm_X10_quarrel E sd_LC 2 (sd_QI K E sd_LC r.1 r.2) M 0 [(0, .ref (E.2.2 0)), (1, .int x1)] [] := by
  intro M x1 hF
  unfold fn_X10_quarrel_0 at hF
  refine sd_iload_n C 1 dX10_quarrel_0 rfl rfl rfl (n' := 1) ?_
  obtain ⟨q1, e1, hF⟩ := sd_bind hF
  refine sd_callSI [.int x1] [] C (ct_X10_isText M x1  e1) sd_lX10_134 ⟨rfl, rfl, Nat.le_of_ble_eq_true rfl, Nat.le_of_ble_eq_true rfl⟩ rfl (Nat.le_of_ble_eq_true rfl) dX10_quarrel_1 rfl (n' := 4) ?_
  refine sd_if_ne C (n' := 7) (tgt := 9) dX10_quarrel_4 rfl rfl (fun c4 => ?_) (fun c4 => ?_)
  · replace hF := sd_neg hF c4
    refine sd_aload_n C 0 dX10_quarrel_9 rfl rfl rfl (n' := 10) ?_
    refine sd_g10_1 C sd_i0 sd_k0 sd_w329 dX10_quarrel_10 rfl (n' := 13) ?_
    refine sd_iload_n C 1 dX10_quarrel_13 rfl rfl rfl (n' := 14) ?_
    obtain ⟨b14, hF⟩ := sd_ok hF
    refine sd_cald C sd_i14 sd_k14 sd_n14 b14 dX10_quarrel_14 rfl (n' := 15) ?_
    obtain ⟨q15, e15, hF⟩ := sd_bind hF
    refine sd_callVI [] [] C (ct_X1_isMissing M (14 + 1 + 2 * x1.toNatClampNeg) ((sd_r14 _ (sd_in_lt b14)).1) e15) sd_lX10_108 ⟨rfl, rfl, Nat.le_of_ble_eq_true rfl, Nat.le_of_ble_eq_true rfl⟩ (sd_mC (sd_r14 _ (sd_in_lt b14)).2) (sd_e2 ((sd_r14 _ (sd_in_lt b14)).1)) rfl rfl rfl (Nat.le_of_ble_eq_true rfl) dX10_quarrel_15 rfl (n' := 18) ?_
    refine sd_if_eq C (n' := 21) (tgt := 30) dX10_quarrel_18 rfl rfl (fun c18 => ?_) (fun c18 => ?_)
    · replace hF := sd_pos hF c18
      refine sd_aload_n C 0 dX10_quarrel_30 rfl rfl rfl (n' := 31) ?_
      refine sd_g10_6 C sd_i0 sd_k0 sd_w334 dX10_quarrel_31 rfl (n' := 34) ?_
      refine sd_aload_n C 0 dX10_quarrel_34 rfl rfl rfl (n' := 35) ?_
      refine sd_g10_1 C sd_i0 sd_k0 sd_w329 dX10_quarrel_35 rfl (n' := 38) ?_
      refine sd_iload_n C 1 dX10_quarrel_38 rfl rfl rfl (n' := 39) ?_
      obtain ⟨b39, hF⟩ := sd_ok hF
      refine sd_cald C sd_i14 sd_k14 sd_n14 b39 dX10_quarrel_39 rfl (n' := 40) ?_
      obtain ⟨q40, e40, hF⟩ := sd_bind hF
      refine sd_callVI [.ref (E.2.2 (14 + 1 + 2 * x1.toNatClampNeg))] [] C (ct_X6_read M (14 + 1 + 2 * x1.toNatClampNeg) ((sd_r14 _ (sd_in_lt b39)).1) e40) sd_lX10_137 ⟨rfl, rfl, Nat.le_of_ble_eq_true rfl, Nat.le_of_ble_eq_true rfl⟩ sd_i60 (sd_e7 sd_k60) rfl rfl rfl (Nat.le_of_ble_eq_true rfl) dX10_quarrel_40 rfl (n' := 43) ?_
      refine sd_bipush C (v := -9) dX10_quarrel_43 rfl rfl (n' := 45) ?_
      refine sd_icmp_eq C (n' := 48) (tgt := 51) dX10_quarrel_45 rfl rfl (fun c45 => ?_) (fun c45 => ?_)
      · replace hF := sd_pos hF c45
        refine sd_aload_n C 0 dX10_quarrel_51 rfl rfl rfl (n' := 52) ?_
        refine sd_g10_3 C sd_i0 sd_k0 sd_w331 dX10_quarrel_52 rfl (n' := 55) ?_
        refine sd_aload_n C 0 dX10_quarrel_55 rfl rfl rfl (n' := 56) ?_
        refine sd_g10_6 C sd_i0 sd_k0 sd_w334 dX10_quarrel_56 rfl (n' := 59) ?_
        obtain ⟨q59, e59, hF⟩ := sd_bind hF
        have z59 : 49 = q59 := Option.some.inj (show some 49 = some q59 from e59)
        subst z59
        refine sd_callVR [] [.ref (E.2.2 40)] C (ct_X6_draft q40.2   e59) sd_lX10_141 ⟨rfl, rfl, Nat.le_of_ble_eq_true rfl, Nat.le_of_ble_eq_true rfl⟩ sd_i60 (sd_e7 sd_k60) rfl rfl rfl (Nat.le_of_ble_eq_true rfl) dX10_quarrel_59 rfl (n' := 62) ?_
        obtain ⟨q62, e62, hF⟩ := sd_bind hF
        refine sd_callVV [.ref (E.2.2 49)] [] C (ct_X5_become q40.2 40 49 sd_k40 sd_k49 e62) sd_lX10_145 ⟨rfl, rfl, Nat.le_of_ble_eq_true rfl, Nat.le_of_ble_eq_true rfl⟩ sd_i40 (sd_e6 sd_k40) rfl rfl rfl (Nat.le_of_ble_eq_true rfl) dX10_quarrel_62 rfl (n' := 65) ?_
        refine sd_aload_n C 0 dX10_quarrel_65 rfl rfl rfl (n' := 66) ?_
        refine sd_g10_3 C sd_i0 sd_k0 sd_w331 dX10_quarrel_66 rfl (n' := 69) ?_
        refine sd_iconst C (v := 0) dX10_quarrel_69 rfl rfl (n' := 70) ?_
        obtain ⟨q70, e70, hF⟩ := sd_bind hF
        refine sd_callVI [.int (0 : Int32)] [] C (ct_X5_sorts q62 40 (0 : Int32) sd_k40 e70) sd_lX10_149 ⟨rfl, rfl, Nat.le_of_ble_eq_true rfl, Nat.le_of_ble_eq_true rfl⟩ sd_i40 (sd_e6 sd_k40) rfl rfl rfl (Nat.le_of_ble_eq_true rfl) dX10_quarrel_70 rfl (n' := 73) ?_
        refine sd_aload_n C 0 dX10_quarrel_73 rfl rfl rfl (n' := 74) ?_
        refine sd_g10_3 C sd_i0 sd_k0 sd_w331 dX10_quarrel_74 rfl (n' := 77) ?_
        refine sd_iconst C (v := 1) dX10_quarrel_77 rfl rfl (n' := 78) ?_
        obtain ⟨q78, e78, hF⟩ := sd_bind hF
        refine sd_callVI [.int (1 : Int32)] [.int q70] C (ct_X5_sorts q62 40 (1 : Int32) sd_k40 e78) sd_lX10_149 ⟨rfl, rfl, Nat.le_of_ble_eq_true rfl, Nat.le_of_ble_eq_true rfl⟩ sd_i40 (sd_e6 sd_k40) rfl rfl rfl (Nat.le_of_ble_eq_true rfl) dX10_quarrel_78 rfl (n' := 81) ?_
        refine sd_iadd C dX10_quarrel_81 rfl (n' := 82) ?_
        exact sd_iret C dX10_quarrel_82 (sd_fst hF) (sd_snd hF)
      · replace hF := sd_neg hF c45
        refine sd_bipush C (v := -4) dX10_quarrel_48 rfl rfl (n' := 50) ?_
        exact sd_iret C dX10_quarrel_50 (sd_fst hF) (sd_snd hF)
    · replace hF := sd_neg hF c18
      refine sd_aload_n C 0 dX10_quarrel_21 rfl rfl rfl (n' := 22) ?_
      refine sd_g10_12 C sd_i0 sd_k0 sd_w340 dX10_quarrel_22 rfl (n' := 25) ?_
      refine sd_iconst C (v := 1) dX10_quarrel_25 rfl rfl (n' := 26) ?_
      obtain ⟨q26, e26, hF⟩ := sd_bind hF
      refine sd_callVI [.int (1 : Int32)] [] C (ct_X2_tell M (1 : Int32)  e26) sd_lX10_100 ⟨rfl, rfl, Nat.le_of_ble_eq_true rfl, Nat.le_of_ble_eq_true rfl⟩ sd_i97 (sd_e3 sd_k97) rfl rfl rfl (Nat.le_of_ble_eq_true rfl) dX10_quarrel_26 rfl (n' := 29) ?_
      exact sd_iret C dX10_quarrel_29 (sd_fst hF) (sd_snd hF)
  · replace hF := sd_pos hF c4
    refine sd_iconst C (v := -1) dX10_quarrel_7 rfl rfl (n' := 8) ?_
    exact sd_iret C dX10_quarrel_8 (sd_fst hF) (sd_snd hF)
theorem ct_X10_quarrel {l : Launch} {E : sd_Env} (M : sd_Mem) (x1 : Int32)  {r : (Int32 × sd_Mem)} (hF : fn_X10_quarrel M x1 = some r) : sd_MI l E sd_LC yX10_quarrel cX10_quarrel 2 (some .int) rm_X10_quarrel [.ref (E.2.2 0), .int x1] M r.1 r.2 := sd_ent0 (by decide +kernel) (Nat.le_of_ble_eq_true rfl) (fun p e s m below meth c C => tb_X10_quarrel_0 C M x1 hF)
theorem dX5_last_0 : decode cX5_last 0 = .ok (.aload_n 0, 1) := by decide +kernel
theorem dX5_last_1 : decode cX5_last 1 = .ok (.getfield 46, 3) := by decide +kernel
theorem dX5_last_4 : decode cX5_last 4 = .ok (.ireturn, 1) := by decide +kernel
set_option maxRecDepth 100000 in
set_option maxHeartbeats 4000000 in
theorem tb_X5_last_0 {K : sd_K} {E : sd_Env} {M : sd_Mem} {h0 : Nat} {r : Int32} (C : sd_C K E sd_LC RX5 cX5_last 1 (some .int)) (k0 : sd_kd h0 = 6) : fn_X5_last_0 M h0 = some r → sd_Z K rm_X5_last E sd_LC 1 (sd_QI K E sd_LC r M) M 0 [(0, .ref (E.2.2 h0))] [] := by
  intro hF
  unfold fn_X5_last_0 at hF
  refine sd_aload_n C 0 dX5_last_0 rfl rfl rfl (n' := 1) ?_
  refine sd_g5_6 C (sd_mC (sd_m6 k0)) k0 sd_w142 dX5_last_1 rfl (n' := 4) ?_
  exact sd_iret C dX5_last_4 (Option.some.inj hF) rfl
theorem ct_X5_last {l : Launch} {E : sd_Env} (M : sd_Mem) (h0 : Nat) (k0 : sd_kd h0 = 6) {r : Int32} (hF : fn_X5_last M h0 = some r) : sd_MI l E sd_LC yX5_last cX5_last 1 (some .int) rm_X5_last [.ref (E.2.2 h0)] M r M := sd_ent0 (by decide +kernel) (Nat.le_of_ble_eq_true rfl) (fun p e s m below meth c C => tb_X5_last_0 C k0 hF)
theorem dX10_ofQuarrel_0 : decode cX10_ofQuarrel 0 = .ok (.iload_n 1, 1) := by decide +kernel
theorem dX10_ofQuarrel_1 : decode cX10_ofQuarrel 1 = .ok (.tableswitch 113 0 7 #[47, 56, 65, 73, 81, 89, 97, 105], 47) := by decide +kernel
theorem dX10_ofQuarrel_48 : decode cX10_ofQuarrel 48 = .ok (.aload_n 0, 1) := by decide +kernel
theorem dX10_ofQuarrel_49 : decode cX10_ofQuarrel 49 = .ok (.getfield 27, 3) := by decide +kernel
theorem dX10_ofQuarrel_52 : decode cX10_ofQuarrel 52 = .ok (.iconst 0, 1) := by decide +kernel
theorem dX10_ofQuarrel_53 : decode cX10_ofQuarrel 53 = .ok (.invokevirtual 149, 3) := by decide +kernel
theorem dX10_ofQuarrel_56 : decode cX10_ofQuarrel 56 = .ok (.ireturn, 1) := by decide +kernel
theorem dX10_ofQuarrel_57 : decode cX10_ofQuarrel 57 = .ok (.aload_n 0, 1) := by decide +kernel
theorem dX10_ofQuarrel_58 : decode cX10_ofQuarrel 58 = .ok (.getfield 27, 3) := by decide +kernel
theorem dX10_ofQuarrel_61 : decode cX10_ofQuarrel 61 = .ok (.iconst 1, 1) := by decide +kernel
theorem dX10_ofQuarrel_62 : decode cX10_ofQuarrel 62 = .ok (.invokevirtual 149, 3) := by decide +kernel
theorem dX10_ofQuarrel_65 : decode cX10_ofQuarrel 65 = .ok (.ireturn, 1) := by decide +kernel
theorem dX10_ofQuarrel_66 : decode cX10_ofQuarrel 66 = .ok (.aload_n 0, 1) := by decide +kernel
theorem dX10_ofQuarrel_67 : decode cX10_ofQuarrel 67 = .ok (.getfield 27, 3) := by decide +kernel
theorem dX10_ofQuarrel_70 : decode cX10_ofQuarrel 70 = .ok (.getfield 367, 3) := by decide +kernel
theorem dX10_ofQuarrel_73 : decode cX10_ofQuarrel 73 = .ok (.ireturn, 1) := by decide +kernel
theorem dX10_ofQuarrel_74 : decode cX10_ofQuarrel 74 = .ok (.aload_n 0, 1) := by decide +kernel
theorem dX10_ofQuarrel_75 : decode cX10_ofQuarrel 75 = .ok (.getfield 27, 3) := by decide +kernel
theorem dX10_ofQuarrel_78 : decode cX10_ofQuarrel 78 = .ok (.getfield 370, 3) := by decide +kernel
theorem dX10_ofQuarrel_81 : decode cX10_ofQuarrel 81 = .ok (.ireturn, 1) := by decide +kernel
theorem dX10_ofQuarrel_82 : decode cX10_ofQuarrel 82 = .ok (.aload_n 0, 1) := by decide +kernel
theorem dX10_ofQuarrel_83 : decode cX10_ofQuarrel 83 = .ok (.getfield 27, 3) := by decide +kernel
theorem dX10_ofQuarrel_86 : decode cX10_ofQuarrel 86 = .ok (.invokevirtual 239, 3) := by decide +kernel
theorem dX10_ofQuarrel_89 : decode cX10_ofQuarrel 89 = .ok (.ireturn, 1) := by decide +kernel
theorem dX10_ofQuarrel_90 : decode cX10_ofQuarrel 90 = .ok (.aload_n 0, 1) := by decide +kernel
theorem dX10_ofQuarrel_91 : decode cX10_ofQuarrel 91 = .ok (.getfield 27, 3) := by decide +kernel
theorem dX10_ofQuarrel_94 : decode cX10_ofQuarrel 94 = .ok (.getfield 373, 3) := by decide +kernel
theorem dX10_ofQuarrel_97 : decode cX10_ofQuarrel 97 = .ok (.ireturn, 1) := by decide +kernel
theorem dX10_ofQuarrel_98 : decode cX10_ofQuarrel 98 = .ok (.aload_n 0, 1) := by decide +kernel
theorem dX10_ofQuarrel_99 : decode cX10_ofQuarrel 99 = .ok (.getfield 34, 3) := by decide +kernel
theorem dX10_ofQuarrel_102 : decode cX10_ofQuarrel 102 = .ok (.getfield 168, 3) := by decide +kernel
theorem dX10_ofQuarrel_105 : decode cX10_ofQuarrel 105 = .ok (.ireturn, 1) := by decide +kernel
theorem dX10_ofQuarrel_106 : decode cX10_ofQuarrel 106 = .ok (.aload_n 0, 1) := by decide +kernel
theorem dX10_ofQuarrel_107 : decode cX10_ofQuarrel 107 = .ok (.getfield 34, 3) := by decide +kernel
theorem dX10_ofQuarrel_110 : decode cX10_ofQuarrel 110 = .ok (.getfield 171, 3) := by decide +kernel
theorem dX10_ofQuarrel_113 : decode cX10_ofQuarrel 113 = .ok (.ireturn, 1) := by decide +kernel
theorem dX10_ofQuarrel_114 : decode cX10_ofQuarrel 114 = .ok (.aload_n 0, 1) := by decide +kernel
theorem dX10_ofQuarrel_115 : decode cX10_ofQuarrel 115 = .ok (.getfield 34, 3) := by decide +kernel
theorem dX10_ofQuarrel_118 : decode cX10_ofQuarrel 118 = .ok (.getfield 174, 3) := by decide +kernel
theorem dX10_ofQuarrel_121 : decode cX10_ofQuarrel 121 = .ok (.ireturn, 1) := by decide +kernel
set_option maxRecDepth 100000 in
set_option maxHeartbeats 4000000 in
theorem tb_X10_ofQuarrel_0 {K : sd_K} {E : sd_Env} {M : sd_Mem}  {r : Int32} (C : sd_C K E sd_LC RX10 cX10_ofQuarrel 2 (some .int))  : ∀ (x1 : Int32), fn_X10_ofQuarrel_0 M x1 = some r → sd_Z K rm_X10_ofQuarrel E sd_LC 2 (sd_QI K E sd_LC r M) M 0 [(0, .ref (E.2.2 0)), (1, .int x1)] [] := by
  intro x1 hF
  unfold fn_X10_ofQuarrel_0 at hF
  refine sd_iload_n C 1 dX10_ofQuarrel_0 rfl rfl rfl (n' := 1) ?_
  by_cases c1 : x1.toInt < 0 ∨ 7 < x1.toInt
  · replace hF := sd_pos hF c1
    refine sd_tabOut C (tgt := 114) dX10_ofQuarrel_1 c1 rfl ?_
    refine sd_aload_n C 0 dX10_ofQuarrel_114 rfl rfl rfl (n' := 115) ?_
    refine sd_g10_4 C sd_i0 sd_k0 sd_w332 dX10_ofQuarrel_115 rfl (n' := 118) ?_
    refine sd_gN4_2 C sd_i58 sd_k58 sd_w185 dX10_ofQuarrel_118 rfl (n' := 121) ?_
    exact sd_iret C dX10_ofQuarrel_121 (Option.some.inj hF) rfl
  replace hF := sd_neg hF c1
  by_cases c1_0 : x1 = 0
  · replace hF := sd_pos hF c1_0
    refine sd_tabIn C (v := 0) (tgt := 48) c1_0 dX10_ofQuarrel_1 (by decide) (by decide) rfl rfl ?_
    refine sd_aload_n C 0 dX10_ofQuarrel_48 rfl rfl rfl (n' := 49) ?_
    refine sd_g10_3 C sd_i0 sd_k0 sd_w331 dX10_ofQuarrel_49 rfl (n' := 52) ?_
    refine sd_iconst C (v := 0) dX10_ofQuarrel_52 rfl rfl (n' := 53) ?_
    obtain ⟨q53, e53, hF⟩ := sd_bind hF
    refine sd_callVI [.int (0 : Int32)] [] C (ct_X5_sorts M 40 (0 : Int32) sd_k40 e53) sd_lX10_149 ⟨rfl, rfl, Nat.le_of_ble_eq_true rfl, Nat.le_of_ble_eq_true rfl⟩ sd_i40 (sd_e6 sd_k40) rfl rfl rfl (Nat.le_of_ble_eq_true rfl) dX10_ofQuarrel_53 rfl (n' := 56) ?_
    exact sd_iret C dX10_ofQuarrel_56 (Option.some.inj hF) rfl
  replace hF := sd_neg hF c1_0
  by_cases c1_1 : x1 = 1
  · replace hF := sd_pos hF c1_1
    refine sd_tabIn C (v := 1) (tgt := 57) c1_1 dX10_ofQuarrel_1 (by decide) (by decide) rfl rfl ?_
    refine sd_aload_n C 0 dX10_ofQuarrel_57 rfl rfl rfl (n' := 58) ?_
    refine sd_g10_3 C sd_i0 sd_k0 sd_w331 dX10_ofQuarrel_58 rfl (n' := 61) ?_
    refine sd_iconst C (v := 1) dX10_ofQuarrel_61 rfl rfl (n' := 62) ?_
    obtain ⟨q62, e62, hF⟩ := sd_bind hF
    refine sd_callVI [.int (1 : Int32)] [] C (ct_X5_sorts M 40 (1 : Int32) sd_k40 e62) sd_lX10_149 ⟨rfl, rfl, Nat.le_of_ble_eq_true rfl, Nat.le_of_ble_eq_true rfl⟩ sd_i40 (sd_e6 sd_k40) rfl rfl rfl (Nat.le_of_ble_eq_true rfl) dX10_ofQuarrel_62 rfl (n' := 65) ?_
    exact sd_iret C dX10_ofQuarrel_65 (Option.some.inj hF) rfl
  replace hF := sd_neg hF c1_1
  by_cases c1_2 : x1 = 2
  · replace hF := sd_pos hF c1_2
    refine sd_tabIn C (v := 2) (tgt := 66) c1_2 dX10_ofQuarrel_1 (by decide) (by decide) rfl rfl ?_
    refine sd_aload_n C 0 dX10_ofQuarrel_66 rfl rfl rfl (n' := 67) ?_
    refine sd_g10_3 C sd_i0 sd_k0 sd_w331 dX10_ofQuarrel_67 rfl (n' := 70) ?_
    refine sd_gN5_4 C sd_i40 sd_k40 sd_w137 dX10_ofQuarrel_70 rfl (n' := 73) ?_
    exact sd_iret C dX10_ofQuarrel_73 (Option.some.inj hF) rfl
  replace hF := sd_neg hF c1_2
  by_cases c1_3 : x1 = 3
  · replace hF := sd_pos hF c1_3
    refine sd_tabIn C (v := 3) (tgt := 74) c1_3 dX10_ofQuarrel_1 (by decide) (by decide) rfl rfl ?_
    refine sd_aload_n C 0 dX10_ofQuarrel_74 rfl rfl rfl (n' := 75) ?_
    refine sd_g10_3 C sd_i0 sd_k0 sd_w331 dX10_ofQuarrel_75 rfl (n' := 78) ?_
    refine sd_gN5_5 C sd_i40 sd_k40 sd_w140 dX10_ofQuarrel_78 rfl (n' := 81) ?_
    exact sd_iret C dX10_ofQuarrel_81 (Option.some.inj hF) rfl
  replace hF := sd_neg hF c1_3
  by_cases c1_4 : x1 = 4
  · replace hF := sd_pos hF c1_4
    refine sd_tabIn C (v := 4) (tgt := 82) c1_4 dX10_ofQuarrel_1 (by decide) (by decide) rfl rfl ?_
    refine sd_aload_n C 0 dX10_ofQuarrel_82 rfl rfl rfl (n' := 83) ?_
    refine sd_g10_3 C sd_i0 sd_k0 sd_w331 dX10_ofQuarrel_83 rfl (n' := 86) ?_
    obtain ⟨q86, e86, hF⟩ := sd_bind hF
    refine sd_callVI [] [] C (ct_X5_last M 40 sd_k40 e86) sd_lX10_239 ⟨rfl, rfl, Nat.le_of_ble_eq_true rfl, Nat.le_of_ble_eq_true rfl⟩ sd_i40 (sd_e6 sd_k40) rfl rfl rfl (Nat.le_of_ble_eq_true rfl) dX10_ofQuarrel_86 rfl (n' := 89) ?_
    exact sd_iret C dX10_ofQuarrel_89 (Option.some.inj hF) rfl
  replace hF := sd_neg hF c1_4
  by_cases c1_5 : x1 = 5
  · replace hF := sd_pos hF c1_5
    refine sd_tabIn C (v := 5) (tgt := 90) c1_5 dX10_ofQuarrel_1 (by decide) (by decide) rfl rfl ?_
    refine sd_aload_n C 0 dX10_ofQuarrel_90 rfl rfl rfl (n' := 91) ?_
    refine sd_g10_3 C sd_i0 sd_k0 sd_w331 dX10_ofQuarrel_91 rfl (n' := 94) ?_
    refine sd_gN5_7 C sd_i40 sd_k40 sd_w149 dX10_ofQuarrel_94 rfl (n' := 97) ?_
    exact sd_iret C dX10_ofQuarrel_97 (Option.some.inj hF) rfl
  replace hF := sd_neg hF c1_5
  by_cases c1_6 : x1 = 6
  · replace hF := sd_pos hF c1_6
    refine sd_tabIn C (v := 6) (tgt := 98) c1_6 dX10_ofQuarrel_1 (by decide) (by decide) rfl rfl ?_
    refine sd_aload_n C 0 dX10_ofQuarrel_98 rfl rfl rfl (n' := 99) ?_
    refine sd_g10_4 C sd_i0 sd_k0 sd_w332 dX10_ofQuarrel_99 rfl (n' := 102) ?_
    refine sd_gN4_0 C sd_i58 sd_k58 sd_w177 dX10_ofQuarrel_102 rfl (n' := 105) ?_
    exact sd_iret C dX10_ofQuarrel_105 (Option.some.inj hF) rfl
  replace hF := sd_neg hF c1_6
  by_cases c1_7 : x1 = 7
  · replace hF := sd_pos hF c1_7
    refine sd_tabIn C (v := 7) (tgt := 106) c1_7 dX10_ofQuarrel_1 (by decide) (by decide) rfl rfl ?_
    refine sd_aload_n C 0 dX10_ofQuarrel_106 rfl rfl rfl (n' := 107) ?_
    refine sd_g10_4 C sd_i0 sd_k0 sd_w332 dX10_ofQuarrel_107 rfl (n' := 110) ?_
    refine sd_gN4_1 C sd_i58 sd_k58 sd_w181 dX10_ofQuarrel_110 rfl (n' := 113) ?_
    exact sd_iret C dX10_ofQuarrel_113 (Option.some.inj hF) rfl
  replace hF := sd_neg hF c1_7
  cases hF
theorem ct_X10_ofQuarrel {l : Launch} {E : sd_Env} (M : sd_Mem) (x1 : Int32)  {r : Int32} (hF : fn_X10_ofQuarrel M x1 = some r) : sd_MI l E sd_LC yX10_ofQuarrel cX10_ofQuarrel 2 (some .int) rm_X10_ofQuarrel [.ref (E.2.2 0), .int x1] M r M := sd_ent0 (by decide +kernel) (Nat.le_of_ble_eq_true rfl) (fun p e s m below meth c C => tb_X10_ofQuarrel_0 C x1 hF)
theorem dX10_told_0 : decode cX10_told 0 = .ok (.iload_n 1, 1) := by decide +kernel
theorem dX10_told_1 : decode cX10_told 1 = .ok (.iconst 0, 1) := by decide +kernel
theorem dX10_told_2 : decode cX10_told 2 = .ok (.bipush 8, 2) := by decide +kernel
theorem dX10_told_4 : decode cX10_told 4 = .ok (.invokestatic 152, 3) := by decide +kernel
theorem dX10_told_7 : decode cX10_told 7 = .ok (.ifCond .ne 5, 3) := by decide +kernel
theorem dX10_told_10 : decode cX10_told 10 = .ok (.iconst (-1), 1) := by decide +kernel
theorem dX10_told_11 : decode cX10_told 11 = .ok (.ireturn, 1) := by decide +kernel
theorem dX10_told_12 : decode cX10_told 12 = .ok (.aload_n 0, 1) := by decide +kernel
theorem dX10_told_13 : decode cX10_told 13 = .ok (.aload_n 0, 1) := by decide +kernel
theorem dX10_told_14 : decode cX10_told 14 = .ok (.iload_n 1, 1) := by decide +kernel
theorem dX10_told_15 : decode cX10_told 15 = .ok (.invokevirtual 156, 3) := by decide +kernel
theorem dX10_told_18 : decode cX10_told 18 = .ok (.putfield 88, 3) := by decide +kernel
theorem dX10_told_21 : decode cX10_told 21 = .ok (.iconst 1, 1) := by decide +kernel
theorem dX10_told_22 : decode cX10_told 22 = .ok (.ireturn, 1) := by decide +kernel
set_option maxRecDepth 100000 in
set_option maxHeartbeats 4000000 in
theorem tb_X10_told_0 {K : sd_K} {E : sd_Env}   {r : (Int32 × sd_Mem)} (C : sd_C K E sd_LC RX10 cX10_told 2 (some .int))  : ∀ (M : sd_Mem) (x1 : Int32), fn_X10_told_0 M x1 = some r → sd_Z K rm_X10_told E sd_LC 2 (sd_QI K E sd_LC r.1 r.2) M 0 [(0, .ref (E.2.2 0)), (1, .int x1)] [] := by
  intro M x1 hF
  unfold fn_X10_told_0 at hF
  refine sd_iload_n C 1 dX10_told_0 rfl rfl rfl (n' := 1) ?_
  refine sd_iconst C (v := 0) dX10_told_1 rfl rfl (n' := 2) ?_
  refine sd_bipush C (v := 8) dX10_told_2 rfl rfl (n' := 4) ?_
  obtain ⟨q4, e4, hF⟩ := sd_bind hF
  refine sd_callSI [.int x1, .int (0 : Int32), .int (8 : Int32)] [] C (ct_X10_within M x1 (0 : Int32) (8 : Int32)  e4) sd_lX10_152 ⟨rfl, rfl, Nat.le_of_ble_eq_true rfl, Nat.le_of_ble_eq_true rfl⟩ rfl (Nat.le_of_ble_eq_true rfl) dX10_told_4 rfl (n' := 7) ?_
  refine sd_if_ne C (n' := 10) (tgt := 12) dX10_told_7 rfl rfl (fun c7 => ?_) (fun c7 => ?_)
  · replace hF := sd_neg hF c7
    refine sd_aload_n C 0 dX10_told_12 rfl rfl rfl (n' := 13) ?_
    refine sd_aload_n C 0 dX10_told_13 rfl rfl rfl (n' := 14) ?_
    refine sd_iload_n C 1 dX10_told_14 rfl rfl rfl (n' := 15) ?_
    obtain ⟨q15, e15, hF⟩ := sd_bind hF
    refine sd_callVI [.int x1] [.ref (E.2.2 0)] C (ct_X10_ofQuarrel M x1  e15) sd_lX10_156 ⟨rfl, rfl, Nat.le_of_ble_eq_true rfl, Nat.le_of_ble_eq_true rfl⟩ sd_i0 (sd_e11 sd_k0) rfl rfl rfl (Nat.le_of_ble_eq_true rfl) dX10_told_15 rfl (n' := 18) ?_
    refine sd_p10_13 C sd_i0 sd_k0 sd_w341 dX10_told_18 rfl (n' := 21) ?_
    refine sd_iconst C (v := 1) dX10_told_21 rfl rfl (n' := 22) ?_
    exact sd_iret C dX10_told_22 (sd_fst hF) (sd_snd hF)
  · replace hF := sd_pos hF c7
    refine sd_iconst C (v := -1) dX10_told_10 rfl rfl (n' := 11) ?_
    exact sd_iret C dX10_told_11 (sd_fst hF) (sd_snd hF)
theorem ct_X10_told {l : Launch} {E : sd_Env} (M : sd_Mem) (x1 : Int32)  {r : (Int32 × sd_Mem)} (hF : fn_X10_told M x1 = some r) : sd_MI l E sd_LC yX10_told cX10_told 2 (some .int) rm_X10_told [.ref (E.2.2 0), .int x1] M r.1 r.2 := sd_ent0 (by decide +kernel) (Nat.le_of_ble_eq_true rfl) (fun p e s m below meth c C => tb_X10_told_0 C M x1 hF)
theorem dX10_sort_0 : decode cX10_sort 0 = .ok (.aload_n 0, 1) := by decide +kernel
theorem dX10_sort_1 : decode cX10_sort 1 = .ok (.getfield 27, 3) := by decide +kernel
theorem dX10_sort_4 : decode cX10_sort 4 = .ok (.iload_n 1, 1) := by decide +kernel
theorem dX10_sort_5 : decode cX10_sort 5 = .ok (.iload_n 2, 1) := by decide +kernel
theorem dX10_sort_6 : decode cX10_sort 6 = .ok (.invokevirtual 159, 3) := by decide +kernel
theorem dX10_sort_9 : decode cX10_sort 9 = .ok (.ifCond .eq 12, 3) := by decide +kernel
theorem dX10_sort_12 : decode cX10_sort 12 = .ok (.iload_n 3, 1) := by decide +kernel
theorem dX10_sort_13 : decode cX10_sort 13 = .ok (.iconst 0, 1) := by decide +kernel
theorem dX10_sort_14 : decode cX10_sort 14 = .ok (.iconst 1, 1) := by decide +kernel
theorem dX10_sort_15 : decode cX10_sort 15 = .ok (.invokestatic 152, 3) := by decide +kernel
theorem dX10_sort_18 : decode cX10_sort 18 = .ok (.ifCond .ne 5, 3) := by decide +kernel
theorem dX10_sort_21 : decode cX10_sort 21 = .ok (.iconst (-1), 1) := by decide +kernel
theorem dX10_sort_22 : decode cX10_sort 22 = .ok (.ireturn, 1) := by decide +kernel
theorem dX10_sort_23 : decode cX10_sort 23 = .ok (.aload_n 0, 1) := by decide +kernel
theorem dX10_sort_24 : decode cX10_sort 24 = .ok (.iload_n 3, 1) := by decide +kernel
theorem dX10_sort_25 : decode cX10_sort 25 = .ok (.ifCond .ne 15, 3) := by decide +kernel
theorem dX10_sort_28 : decode cX10_sort 28 = .ok (.aload_n 0, 1) := by decide +kernel
theorem dX10_sort_29 : decode cX10_sort 29 = .ok (.getfield 27, 3) := by decide +kernel
theorem dX10_sort_32 : decode cX10_sort 32 = .ok (.iload_n 1, 1) := by decide +kernel
theorem dX10_sort_33 : decode cX10_sort 33 = .ok (.iload_n 2, 1) := by decide +kernel
theorem dX10_sort_34 : decode cX10_sort 34 = .ok (.invokevirtual 162, 3) := by decide +kernel
theorem dX10_sort_37 : decode cX10_sort 37 = .ok (.goto 12, 3) := by decide +kernel
theorem dX10_sort_40 : decode cX10_sort 40 = .ok (.aload_n 0, 1) := by decide +kernel
theorem dX10_sort_41 : decode cX10_sort 41 = .ok (.getfield 27, 3) := by decide +kernel
theorem dX10_sort_44 : decode cX10_sort 44 = .ok (.iload_n 1, 1) := by decide +kernel
theorem dX10_sort_45 : decode cX10_sort 45 = .ok (.iload_n 2, 1) := by decide +kernel
theorem dX10_sort_46 : decode cX10_sort 46 = .ok (.invokevirtual 165, 3) := by decide +kernel
theorem dX10_sort_49 : decode cX10_sort 49 = .ok (.putfield 88, 3) := by decide +kernel
theorem dX10_sort_52 : decode cX10_sort 52 = .ok (.iconst 1, 1) := by decide +kernel
theorem dX10_sort_53 : decode cX10_sort 53 = .ok (.ireturn, 1) := by decide +kernel
set_option maxRecDepth 100000 in
set_option maxHeartbeats 4000000 in
theorem tb_X10_sort_0 {K : sd_K} {E : sd_Env}   {r : (Int32 × sd_Mem)} (C : sd_C K E sd_LC RX10 cX10_sort 4 (some .int))  : ∀ (M : sd_Mem) (x1 : Int32) (x2 : Int32) (x3 : Int32), fn_X10_sort_0 M x1 x2 x3 = some r → sd_Z K rm_X10_sort E sd_LC 4 (sd_QI K E sd_LC r.1 r.2) M 0 [(0, .ref (E.2.2 0)), (1, .int x1), (2, .int x2), (3, .int x3)] [] := by
  intro M x1 x2 x3 hF
  unfold fn_X10_sort_0 at hF
  refine sd_aload_n C 0 dX10_sort_0 rfl rfl rfl (n' := 1) ?_
  refine sd_g10_3 C sd_i0 sd_k0 sd_w331 dX10_sort_1 rfl (n' := 4) ?_
  refine sd_iload_n C 1 dX10_sort_4 rfl rfl rfl (n' := 5) ?_
  refine sd_iload_n C 2 dX10_sort_5 rfl rfl rfl (n' := 6) ?_
  obtain ⟨q6, e6, hF⟩ := sd_bind hF
  refine sd_callVI [.int x1, .int x2] [] C (ct_X5_hasSort M 40 x1 x2 sd_k40 e6) sd_lX10_159 ⟨rfl, rfl, Nat.le_of_ble_eq_true rfl, Nat.le_of_ble_eq_true rfl⟩ sd_i40 (sd_e6 sd_k40) rfl rfl rfl (Nat.le_of_ble_eq_true rfl) dX10_sort_6 rfl (n' := 9) ?_
  refine sd_if_eq C (n' := 12) (tgt := 21) dX10_sort_9 rfl rfl (fun c9 => ?_) (fun c9 => ?_)
  · replace hF := sd_pos hF c9
    refine sd_iconst C (v := -1) dX10_sort_21 rfl rfl (n' := 22) ?_
    exact sd_iret C dX10_sort_22 (sd_fst hF) (sd_snd hF)
  · replace hF := sd_neg hF c9
    refine sd_iload_n C 3 dX10_sort_12 rfl rfl rfl (n' := 13) ?_
    refine sd_iconst C (v := 0) dX10_sort_13 rfl rfl (n' := 14) ?_
    refine sd_iconst C (v := 1) dX10_sort_14 rfl rfl (n' := 15) ?_
    obtain ⟨q15, e15, hF⟩ := sd_bind hF
    refine sd_callSI [.int x3, .int (0 : Int32), .int (1 : Int32)] [] C (ct_X10_within M x3 (0 : Int32) (1 : Int32)  e15) sd_lX10_152 ⟨rfl, rfl, Nat.le_of_ble_eq_true rfl, Nat.le_of_ble_eq_true rfl⟩ rfl (Nat.le_of_ble_eq_true rfl) dX10_sort_15 rfl (n' := 18) ?_
    refine sd_if_ne C (n' := 21) (tgt := 23) dX10_sort_18 rfl rfl (fun c18 => ?_) (fun c18 => ?_)
    · replace hF := sd_neg hF c18
      refine sd_aload_n C 0 dX10_sort_23 rfl rfl rfl (n' := 24) ?_
      refine sd_iload_n C 3 dX10_sort_24 rfl rfl rfl (n' := 25) ?_
      refine sd_if_ne C (n' := 28) (tgt := 40) dX10_sort_25 rfl rfl (fun c25 => ?_) (fun c25 => ?_)
      · replace hF := sd_neg hF c25
        refine sd_aload_n C 0 dX10_sort_40 rfl rfl rfl (n' := 41) ?_
        refine sd_g10_3 C sd_i0 sd_k0 sd_w331 dX10_sort_41 rfl (n' := 44) ?_
        refine sd_iload_n C 1 dX10_sort_44 rfl rfl rfl (n' := 45) ?_
        refine sd_iload_n C 2 dX10_sort_45 rfl rfl rfl (n' := 46) ?_
        obtain ⟨q46, e46, hF⟩ := sd_bind hF
        refine sd_callVI [.int x1, .int x2] [.ref (E.2.2 0)] C (ct_X5_cost M 40 x1 x2 sd_k40 e46) sd_lX10_165 ⟨rfl, rfl, Nat.le_of_ble_eq_true rfl, Nat.le_of_ble_eq_true rfl⟩ sd_i40 (sd_e6 sd_k40) rfl rfl rfl (Nat.le_of_ble_eq_true rfl) dX10_sort_46 rfl (n' := 49) ?_
        refine sd_p10_13 C sd_i0 sd_k0 sd_w341 dX10_sort_49 rfl (n' := 52) ?_
        refine sd_iconst C (v := 1) dX10_sort_52 rfl rfl (n' := 53) ?_
        exact sd_iret C dX10_sort_53 (sd_fst hF) (sd_snd hF)
      · replace hF := sd_pos hF c25
        refine sd_aload_n C 0 dX10_sort_28 rfl rfl rfl (n' := 29) ?_
        refine sd_g10_3 C sd_i0 sd_k0 sd_w331 dX10_sort_29 rfl (n' := 32) ?_
        refine sd_iload_n C 1 dX10_sort_32 rfl rfl rfl (n' := 33) ?_
        refine sd_iload_n C 2 dX10_sort_33 rfl rfl rfl (n' := 34) ?_
        obtain ⟨q34, e34, hF⟩ := sd_bind hF
        refine sd_callVI [.int x1, .int x2] [.ref (E.2.2 0)] C (ct_X5_chance M 40 x1 x2 sd_k40 e34) sd_lX10_162 ⟨rfl, rfl, Nat.le_of_ble_eq_true rfl, Nat.le_of_ble_eq_true rfl⟩ sd_i40 (sd_e6 sd_k40) rfl rfl rfl (Nat.le_of_ble_eq_true rfl) dX10_sort_34 rfl (n' := 37) ?_
        refine sd_goto C (tgt := 49) dX10_sort_37 rfl ?_
        refine sd_p10_13 C sd_i0 sd_k0 sd_w341 dX10_sort_49 rfl (n' := 52) ?_
        refine sd_iconst C (v := 1) dX10_sort_52 rfl rfl (n' := 53) ?_
        exact sd_iret C dX10_sort_53 (sd_fst hF) (sd_snd hF)
    · replace hF := sd_pos hF c18
      refine sd_iconst C (v := -1) dX10_sort_21 rfl rfl (n' := 22) ?_
      exact sd_iret C dX10_sort_22 (sd_fst hF) (sd_snd hF)
theorem ct_X10_sort {l : Launch} {E : sd_Env} (M : sd_Mem) (x1 : Int32) (x2 : Int32) (x3 : Int32)  {r : (Int32 × sd_Mem)} (hF : fn_X10_sort M x1 x2 x3 = some r) : sd_MI l E sd_LC yX10_sort cX10_sort 4 (some .int) rm_X10_sort [.ref (E.2.2 0), .int x1, .int x2, .int x3] M r.1 r.2 := sd_ent0 (by decide +kernel) (Nat.le_of_ble_eq_true rfl) (fun p e s m below meth c C => tb_X10_sort_0 C M x1 x2 x3 hF)
theorem dX10_notice_0 : decode cX10_notice 0 = .ok (.iload_n 1, 1) := by decide +kernel
theorem dX10_notice_1 : decode cX10_notice 1 = .ok (.iconst 1, 1) := by decide +kernel
theorem dX10_notice_2 : decode cX10_notice 2 = .ok (.bipush 10, 2) := by decide +kernel
theorem dX10_notice_4 : decode cX10_notice 4 = .ok (.invokestatic 152, 3) := by decide +kernel
theorem dX10_notice_7 : decode cX10_notice 7 = .ok (.ifCond .ne 5, 3) := by decide +kernel
theorem dX10_notice_10 : decode cX10_notice 10 = .ok (.iconst (-1), 1) := by decide +kernel
theorem dX10_notice_11 : decode cX10_notice 11 = .ok (.ireturn, 1) := by decide +kernel
theorem dX10_notice_12 : decode cX10_notice 12 = .ok (.aload_n 0, 1) := by decide +kernel
theorem dX10_notice_13 : decode cX10_notice 13 = .ok (.getfield 34, 3) := by decide +kernel
theorem dX10_notice_16 : decode cX10_notice 16 = .ok (.getfield 168, 3) := by decide +kernel
theorem dX10_notice_19 : decode cX10_notice 19 = .ok (.istore_n 2, 1) := by decide +kernel
theorem dX10_notice_20 : decode cX10_notice 20 = .ok (.aload_n 0, 1) := by decide +kernel
theorem dX10_notice_21 : decode cX10_notice 21 = .ok (.getfield 34, 3) := by decide +kernel
theorem dX10_notice_24 : decode cX10_notice 24 = .ok (.iload_n 1, 1) := by decide +kernel
theorem dX10_notice_25 : decode cX10_notice 25 = .ok (.putfield 168, 3) := by decide +kernel
theorem dX10_notice_28 : decode cX10_notice 28 = .ok (.iload_n 2, 1) := by decide +kernel
theorem dX10_notice_29 : decode cX10_notice 29 = .ok (.ireturn, 1) := by decide +kernel
set_option maxRecDepth 100000 in
set_option maxHeartbeats 4000000 in
theorem tb_X10_notice_0 {K : sd_K} {E : sd_Env}   {r : (Int32 × sd_Mem)} (C : sd_C K E sd_LC RX10 cX10_notice 3 (some .int))  : ∀ (M : sd_Mem) (x1 : Int32), fn_X10_notice_0 M x1 = some r → sd_Z K rm_X10_notice E sd_LC 3 (sd_QI K E sd_LC r.1 r.2) M 0 [(0, .ref (E.2.2 0)), (1, .int x1)] [] := by
  intro M x1 hF
  unfold fn_X10_notice_0 at hF
  refine sd_iload_n C 1 dX10_notice_0 rfl rfl rfl (n' := 1) ?_
  refine sd_iconst C (v := 1) dX10_notice_1 rfl rfl (n' := 2) ?_
  refine sd_bipush C (v := 10) dX10_notice_2 rfl rfl (n' := 4) ?_
  obtain ⟨q4, e4, hF⟩ := sd_bind hF
  refine sd_callSI [.int x1, .int (1 : Int32), .int (10 : Int32)] [] C (ct_X10_within M x1 (1 : Int32) (10 : Int32)  e4) sd_lX10_152 ⟨rfl, rfl, Nat.le_of_ble_eq_true rfl, Nat.le_of_ble_eq_true rfl⟩ rfl (Nat.le_of_ble_eq_true rfl) dX10_notice_4 rfl (n' := 7) ?_
  refine sd_if_ne C (n' := 10) (tgt := 12) dX10_notice_7 rfl rfl (fun c7 => ?_) (fun c7 => ?_)
  · replace hF := sd_neg hF c7
    refine sd_aload_n C 0 dX10_notice_12 rfl rfl rfl (n' := 13) ?_
    refine sd_g10_4 C sd_i0 sd_k0 sd_w332 dX10_notice_13 rfl (n' := 16) ?_
    refine sd_gN4_0 C sd_i58 sd_k58 sd_w177 dX10_notice_16 rfl (n' := 19) ?_
    refine sd_istore_n [(2, .int (M.1 58 0)), (0, .ref (E.2.2 0)), (1, .int x1)] C dX10_notice_19 rfl (by decide) rfl rfl (n' := 20) ?_
    refine sd_aload_n C 1 dX10_notice_20 rfl rfl rfl (n' := 21) ?_
    refine sd_g10_4 C sd_i0 sd_k0 sd_w332 dX10_notice_21 rfl (n' := 24) ?_
    refine sd_iload_n C 2 dX10_notice_24 rfl rfl rfl (n' := 25) ?_
    refine sd_pN4_0 C sd_i58 sd_k58 sd_w177 dX10_notice_25 rfl (n' := 28) ?_
    refine sd_iload_n C 0 dX10_notice_28 rfl rfl rfl (n' := 29) ?_
    exact sd_iret C dX10_notice_29 (sd_fst hF) (sd_snd hF)
  · replace hF := sd_pos hF c7
    refine sd_iconst C (v := -1) dX10_notice_10 rfl rfl (n' := 11) ?_
    exact sd_iret C dX10_notice_11 (sd_fst hF) (sd_snd hF)
theorem ct_X10_notice {l : Launch} {E : sd_Env} (M : sd_Mem) (x1 : Int32)  {r : (Int32 × sd_Mem)} (hF : fn_X10_notice M x1 = some r) : sd_MI l E sd_LC yX10_notice cX10_notice 3 (some .int) rm_X10_notice [.ref (E.2.2 0), .int x1] M r.1 r.2 := sd_ent0 (by decide +kernel) (Nat.le_of_ble_eq_true rfl) (fun p e s m below meth c C => tb_X10_notice_0 C M x1 hF)
theorem dX10_judge_0 : decode cX10_judge 0 = .ok (.iload_n 1, 1) := by decide +kernel
theorem dX10_judge_1 : decode cX10_judge 1 = .ok (.iconst 0, 1) := by decide +kernel
theorem dX10_judge_2 : decode cX10_judge 2 = .ok (.bipush 12, 2) := by decide +kernel
theorem dX10_judge_4 : decode cX10_judge 4 = .ok (.invokestatic 152, 3) := by decide +kernel
theorem dX10_judge_7 : decode cX10_judge 7 = .ok (.ifCond .eq 13, 3) := by decide +kernel
theorem dX10_judge_10 : decode cX10_judge 10 = .ok (.iload_n 2, 1) := by decide +kernel
theorem dX10_judge_11 : decode cX10_judge 11 = .ok (.iconst 0, 1) := by decide +kernel
theorem dX10_judge_12 : decode cX10_judge 12 = .ok (.bipush 12, 2) := by decide +kernel
theorem dX10_judge_14 : decode cX10_judge 14 = .ok (.invokestatic 152, 3) := by decide +kernel
theorem dX10_judge_17 : decode cX10_judge 17 = .ok (.ifCond .ne 5, 3) := by decide +kernel
theorem dX10_judge_20 : decode cX10_judge 20 = .ok (.iconst (-1), 1) := by decide +kernel
theorem dX10_judge_21 : decode cX10_judge 21 = .ok (.ireturn, 1) := by decide +kernel
theorem dX10_judge_22 : decode cX10_judge 22 = .ok (.aload_n 0, 1) := by decide +kernel
theorem dX10_judge_23 : decode cX10_judge 23 = .ok (.getfield 34, 3) := by decide +kernel
theorem dX10_judge_26 : decode cX10_judge 26 = .ok (.iload_n 1, 1) := by decide +kernel
theorem dX10_judge_27 : decode cX10_judge 27 = .ok (.putfield 171, 3) := by decide +kernel
theorem dX10_judge_30 : decode cX10_judge 30 = .ok (.aload_n 0, 1) := by decide +kernel
theorem dX10_judge_31 : decode cX10_judge 31 = .ok (.getfield 34, 3) := by decide +kernel
theorem dX10_judge_34 : decode cX10_judge 34 = .ok (.iload_n 2, 1) := by decide +kernel
theorem dX10_judge_35 : decode cX10_judge 35 = .ok (.putfield 174, 3) := by decide +kernel
theorem dX10_judge_38 : decode cX10_judge 38 = .ok (.iconst 1, 1) := by decide +kernel
theorem dX10_judge_39 : decode cX10_judge 39 = .ok (.ireturn, 1) := by decide +kernel
set_option maxRecDepth 100000 in
set_option maxHeartbeats 4000000 in
theorem tb_X10_judge_0 {K : sd_K} {E : sd_Env}   {r : (Int32 × sd_Mem)} (C : sd_C K E sd_LC RX10 cX10_judge 3 (some .int))  : ∀ (M : sd_Mem) (x1 : Int32) (x2 : Int32), fn_X10_judge_0 M x1 x2 = some r → sd_Z K rm_X10_judge E sd_LC 3 (sd_QI K E sd_LC r.1 r.2) M 0 [(0, .ref (E.2.2 0)), (1, .int x1), (2, .int x2)] [] := by
  intro M x1 x2 hF
  unfold fn_X10_judge_0 at hF
  refine sd_iload_n C 1 dX10_judge_0 rfl rfl rfl (n' := 1) ?_
  refine sd_iconst C (v := 0) dX10_judge_1 rfl rfl (n' := 2) ?_
  refine sd_bipush C (v := 12) dX10_judge_2 rfl rfl (n' := 4) ?_
  obtain ⟨q4, e4, hF⟩ := sd_bind hF
  refine sd_callSI [.int x1, .int (0 : Int32), .int (12 : Int32)] [] C (ct_X10_within M x1 (0 : Int32) (12 : Int32)  e4) sd_lX10_152 ⟨rfl, rfl, Nat.le_of_ble_eq_true rfl, Nat.le_of_ble_eq_true rfl⟩ rfl (Nat.le_of_ble_eq_true rfl) dX10_judge_4 rfl (n' := 7) ?_
  refine sd_if_eq C (n' := 10) (tgt := 20) dX10_judge_7 rfl rfl (fun c7 => ?_) (fun c7 => ?_)
  · replace hF := sd_pos hF c7
    refine sd_iconst C (v := -1) dX10_judge_20 rfl rfl (n' := 21) ?_
    exact sd_iret C dX10_judge_21 (sd_fst hF) (sd_snd hF)
  · replace hF := sd_neg hF c7
    refine sd_iload_n C 2 dX10_judge_10 rfl rfl rfl (n' := 11) ?_
    refine sd_iconst C (v := 0) dX10_judge_11 rfl rfl (n' := 12) ?_
    refine sd_bipush C (v := 12) dX10_judge_12 rfl rfl (n' := 14) ?_
    obtain ⟨q14, e14, hF⟩ := sd_bind hF
    refine sd_callSI [.int x2, .int (0 : Int32), .int (12 : Int32)] [] C (ct_X10_within M x2 (0 : Int32) (12 : Int32)  e14) sd_lX10_152 ⟨rfl, rfl, Nat.le_of_ble_eq_true rfl, Nat.le_of_ble_eq_true rfl⟩ rfl (Nat.le_of_ble_eq_true rfl) dX10_judge_14 rfl (n' := 17) ?_
    refine sd_if_ne C (n' := 20) (tgt := 22) dX10_judge_17 rfl rfl (fun c17 => ?_) (fun c17 => ?_)
    · replace hF := sd_neg hF c17
      refine sd_aload_n C 0 dX10_judge_22 rfl rfl rfl (n' := 23) ?_
      refine sd_g10_4 C sd_i0 sd_k0 sd_w332 dX10_judge_23 rfl (n' := 26) ?_
      refine sd_iload_n C 1 dX10_judge_26 rfl rfl rfl (n' := 27) ?_
      refine sd_pN4_1 C sd_i58 sd_k58 sd_w181 dX10_judge_27 rfl (n' := 30) ?_
      refine sd_aload_n C 0 dX10_judge_30 rfl rfl rfl (n' := 31) ?_
      refine sd_g10_4 C sd_i0 sd_k0 sd_w332 dX10_judge_31 rfl (n' := 34) ?_
      refine sd_iload_n C 2 dX10_judge_34 rfl rfl rfl (n' := 35) ?_
      refine sd_pN4_2 C sd_i58 sd_k58 sd_w185 dX10_judge_35 rfl (n' := 38) ?_
      refine sd_iconst C (v := 1) dX10_judge_38 rfl rfl (n' := 39) ?_
      exact sd_iret C dX10_judge_39 (sd_fst hF) (sd_snd hF)
    · replace hF := sd_pos hF c17
      refine sd_iconst C (v := -1) dX10_judge_20 rfl rfl (n' := 21) ?_
      exact sd_iret C dX10_judge_21 (sd_fst hF) (sd_snd hF)
theorem ct_X10_judge {l : Launch} {E : sd_Env} (M : sd_Mem) (x1 : Int32) (x2 : Int32)  {r : (Int32 × sd_Mem)} (hF : fn_X10_judge M x1 x2 = some r) : sd_MI l E sd_LC yX10_judge cX10_judge 3 (some .int) rm_X10_judge [.ref (E.2.2 0), .int x1, .int x2] M r.1 r.2 := sd_ent0 (by decide +kernel) (Nat.le_of_ble_eq_true rfl) (fun p e s m below meth c C => tb_X10_judge_0 C M x1 x2 hF)
theorem dX10_isWay_0 : decode cX10_isWay 0 = .ok (.iload_n 0, 1) := by decide +kernel
theorem dX10_isWay_1 : decode cX10_isWay 1 = .ok (.iconst 0, 1) := by decide +kernel
theorem dX10_isWay_2 : decode cX10_isWay 2 = .ok (.bipush 7, 2) := by decide +kernel
theorem dX10_isWay_4 : decode cX10_isWay 4 = .ok (.invokestatic 152, 3) := by decide +kernel
theorem dX10_isWay_7 : decode cX10_isWay 7 = .ok (.ireturn, 1) := by decide +kernel
set_option maxRecDepth 100000 in
set_option maxHeartbeats 4000000 in
theorem tb_X10_isWay_0 {K : sd_K} {E : sd_Env} {M : sd_Mem}  {r : Int32} (C : sd_C K E sd_LC RX10 cX10_isWay 1 (some .boolean))  : ∀ (x0 : Int32), fn_X10_isWay_0 x0 = some r → sd_Z K rm_X10_isWay E sd_LC 1 (sd_QI K E sd_LC r M) M 0 [(0, .int x0)] [] := by
  intro x0 hF
  unfold fn_X10_isWay_0 at hF
  refine sd_iload_n C 0 dX10_isWay_0 rfl rfl rfl (n' := 1) ?_
  refine sd_iconst C (v := 0) dX10_isWay_1 rfl rfl (n' := 2) ?_
  refine sd_bipush C (v := 7) dX10_isWay_2 rfl rfl (n' := 4) ?_
  obtain ⟨q4, e4, hF⟩ := sd_bind hF
  refine sd_callSI [.int x0, .int (0 : Int32), .int (7 : Int32)] [] C (ct_X10_within M x0 (0 : Int32) (7 : Int32)  e4) sd_lX10_152 ⟨rfl, rfl, Nat.le_of_ble_eq_true rfl, Nat.le_of_ble_eq_true rfl⟩ rfl (Nat.le_of_ble_eq_true rfl) dX10_isWay_4 rfl (n' := 7) ?_
  obtain ⟨b7, hF⟩ := sd_ok hF
  exact sd_zret C dX10_isWay_7 (Decidable.of_not_not b7) (Option.some.inj hF) rfl
theorem ct_X10_isWay {l : Launch} {E : sd_Env} (M : sd_Mem) (x0 : Int32)  {r : Int32} (hF : fn_X10_isWay x0 = some r) : sd_MI l E sd_LC yX10_isWay cX10_isWay 1 (some .boolean) rm_X10_isWay [.int x0] M r M := sd_ent0 (by decide +kernel) (Nat.le_of_ble_eq_true rfl) (fun p e s m below meth c C => tb_X10_isWay_0 C x0 hF)
theorem dX9_make_0 : decode cX9_make 0 = .ok (.aload_n 0, 1) := by decide +kernel
theorem dX9_make_1 : decode cX9_make 1 = .ok (.iload_n 1, 1) := by decide +kernel
theorem dX9_make_2 : decode cX9_make 2 = .ok (.putfield 15, 3) := by decide +kernel
theorem dX9_make_5 : decode cX9_make 5 = .ok (.aload_n 0, 1) := by decide +kernel
theorem dX9_make_6 : decode cX9_make 6 = .ok (.getfield 9, 3) := by decide +kernel
theorem dX9_make_9 : decode cX9_make 9 = .ok (.iconst 0, 1) := by decide +kernel
theorem dX9_make_10 : decode cX9_make 10 = .ok (.invokestatic 19, 3) := by decide +kernel
theorem dX9_make_13 : decode cX9_make 13 = .ok (.return_, 1) := by decide +kernel
set_option maxRecDepth 100000 in
set_option maxHeartbeats 4000000 in
theorem tb_X9_make_0 {K : sd_K} {E : sd_Env}  {h0 : Nat} {r : sd_Mem} (C : sd_C K E sd_LC RX9 cX9_make 2 none) (k0 : sd_kd h0 = 10) : ∀ (M : sd_Mem) (x1 : Int32), fn_X9_make_0 h0 M x1 = some r → sd_Z K rm_X9_make E sd_LC 2 (sd_QV K E sd_LC r) M 0 [(0, .ref (E.2.2 h0)), (1, .int x1)] [] := by
  intro M x1 hF
  unfold fn_X9_make_0 at hF
  refine sd_aload_n C 0 dX9_make_0 rfl rfl rfl (n' := 1) ?_
  refine sd_iload_n C 1 dX9_make_1 rfl rfl rfl (n' := 2) ?_
  refine sd_p9_1 C (sd_mC (sd_m10 k0)) k0 sd_w322 dX9_make_2 rfl (n' := 5) ?_
  refine sd_aload_n C 0 dX9_make_5 rfl rfl rfl (n' := 6) ?_
  refine sd_g9_0 C (sd_mC (sd_m10 k0)) k0 sd_w321 dX9_make_6 rfl (n' := 9) ?_
  refine sd_iconst C (v := 0) dX9_make_9 rfl rfl (n' := 10) ?_
  obtain ⟨q10, e10, hF⟩ := sd_bind hF
  refine sd_callSV [.ref (E.2.2 (h0 + 1)), .int (0 : Int32)] [] C (ct_J7_fill_53178 (sd_setI M h0 1 x1) (h0 + 1) (0 : Int32) ((sd_c10 k0).1) (sd_mC (sd_c10 k0).2.2) e10) sd_lX9_19 ⟨rfl, rfl, Nat.le_of_ble_eq_true rfl, Nat.le_of_ble_eq_true rfl⟩ rfl (Nat.le_of_ble_eq_true rfl) dX9_make_10 rfl (n' := 13) ?_
  exact sd_vret C dX9_make_13 (Option.some.inj hF)
theorem ct_X9_make {l : Launch} {E : sd_Env} (M : sd_Mem) (h0 : Nat) (x1 : Int32) (k0 : sd_kd h0 = 10) {r : sd_Mem} (hF : fn_X9_make M h0 x1 = some r) : sd_MV l E sd_LC yX9_make cX9_make 2 none rm_X9_make [.ref (E.2.2 h0), .int x1] M r := sd_ent0 (by decide +kernel) (Nat.le_of_ble_eq_true rfl) (fun p e s m below meth c C => tb_X9_make_0 C k0 M x1 hF)
theorem dX10_way_0 : decode cX10_way 0 = .ok (.iload_n 1, 1) := by decide +kernel
theorem dX10_way_1 : decode cX10_way 1 = .ok (.invokestatic 177, 3) := by decide +kernel
theorem dX10_way_4 : decode cX10_way 4 = .ok (.ifCond .eq 12, 3) := by decide +kernel
theorem dX10_way_7 : decode cX10_way 7 = .ok (.iload_n 2, 1) := by decide +kernel
theorem dX10_way_8 : decode cX10_way 8 = .ok (.iconst 0, 1) := by decide +kernel
theorem dX10_way_9 : decode cX10_way 9 = .ok (.iconst 4, 1) := by decide +kernel
theorem dX10_way_10 : decode cX10_way 10 = .ok (.invokestatic 152, 3) := by decide +kernel
theorem dX10_way_13 : decode cX10_way 13 = .ok (.ifCond .ne 5, 3) := by decide +kernel
theorem dX10_way_16 : decode cX10_way 16 = .ok (.iconst (-1), 1) := by decide +kernel
theorem dX10_way_17 : decode cX10_way 17 = .ok (.ireturn, 1) := by decide +kernel
theorem dX10_way_18 : decode cX10_way 18 = .ok (.aload_n 0, 1) := by decide +kernel
theorem dX10_way_19 : decode cX10_way 19 = .ok (.getfield 20, 3) := by decide +kernel
theorem dX10_way_22 : decode cX10_way 22 = .ok (.iload_n 1, 1) := by decide +kernel
theorem dX10_way_23 : decode cX10_way 23 = .ok (.aaload, 1) := by decide +kernel
theorem dX10_way_24 : decode cX10_way 24 = .ok (.iload_n 2, 1) := by decide +kernel
theorem dX10_way_25 : decode cX10_way 25 = .ok (.invokevirtual 180, 3) := by decide +kernel
theorem dX10_way_28 : decode cX10_way 28 = .ok (.iconst 1, 1) := by decide +kernel
theorem dX10_way_29 : decode cX10_way 29 = .ok (.ireturn, 1) := by decide +kernel
set_option maxRecDepth 100000 in
set_option maxHeartbeats 4000000 in
theorem tb_X10_way_0 {K : sd_K} {E : sd_Env}   {r : (Int32 × sd_Mem)} (C : sd_C K E sd_LC RX10 cX10_way 3 (some .int))  : ∀ (M : sd_Mem) (x1 : Int32) (x2 : Int32), fn_X10_way_0 M x1 x2 = some r → sd_Z K rm_X10_way E sd_LC 3 (sd_QI K E sd_LC r.1 r.2) M 0 [(0, .ref (E.2.2 0)), (1, .int x1), (2, .int x2)] [] := by
  intro M x1 x2 hF
  unfold fn_X10_way_0 at hF
  refine sd_iload_n C 1 dX10_way_0 rfl rfl rfl (n' := 1) ?_
  obtain ⟨q1, e1, hF⟩ := sd_bind hF
  refine sd_callSI [.int x1] [] C (ct_X10_isWay M x1  e1) sd_lX10_177 ⟨rfl, rfl, Nat.le_of_ble_eq_true rfl, Nat.le_of_ble_eq_true rfl⟩ rfl (Nat.le_of_ble_eq_true rfl) dX10_way_1 rfl (n' := 4) ?_
  refine sd_if_eq C (n' := 7) (tgt := 16) dX10_way_4 rfl rfl (fun c4 => ?_) (fun c4 => ?_)
  · replace hF := sd_pos hF c4
    refine sd_iconst C (v := -1) dX10_way_16 rfl rfl (n' := 17) ?_
    exact sd_iret C dX10_way_17 (sd_fst hF) (sd_snd hF)
  · replace hF := sd_neg hF c4
    refine sd_iload_n C 2 dX10_way_7 rfl rfl rfl (n' := 8) ?_
    refine sd_iconst C (v := 0) dX10_way_8 rfl rfl (n' := 9) ?_
    refine sd_iconst C (v := 4) dX10_way_9 rfl rfl (n' := 10) ?_
    obtain ⟨q10, e10, hF⟩ := sd_bind hF
    refine sd_callSI [.int x2, .int (0 : Int32), .int (4 : Int32)] [] C (ct_X10_within M x2 (0 : Int32) (4 : Int32)  e10) sd_lX10_152 ⟨rfl, rfl, Nat.le_of_ble_eq_true rfl, Nat.le_of_ble_eq_true rfl⟩ rfl (Nat.le_of_ble_eq_true rfl) dX10_way_10 rfl (n' := 13) ?_
    refine sd_if_ne C (n' := 16) (tgt := 18) dX10_way_13 rfl rfl (fun c13 => ?_) (fun c13 => ?_)
    · replace hF := sd_neg hF c13
      refine sd_aload_n C 0 dX10_way_18 rfl rfl rfl (n' := 19) ?_
      refine sd_g10_2 C sd_i0 sd_k0 sd_w330 dX10_way_19 rfl (n' := 22) ?_
      refine sd_iload_n C 1 dX10_way_22 rfl rfl rfl (n' := 23) ?_
      obtain ⟨b23, hF⟩ := sd_ok hF
      refine sd_wald C sd_i23 sd_k23 sd_n23 b23 dX10_way_23 rfl (n' := 24) ?_
      refine sd_iload_n C 2 dX10_way_24 rfl rfl rfl (n' := 25) ?_
      obtain ⟨q25, e25, hF⟩ := sd_bind hF
      refine sd_callVV [.int x2] [] C (ct_X9_make M (23 + 1 + 2 * x1.toNatClampNeg) x2 ((sd_r23 _ (sd_in_lt b23)).1) e25) sd_lX10_180 ⟨rfl, rfl, Nat.le_of_ble_eq_true rfl, Nat.le_of_ble_eq_true rfl⟩ (sd_mC (sd_r23 _ (sd_in_lt b23)).2) (sd_e10 ((sd_r23 _ (sd_in_lt b23)).1)) rfl rfl rfl (Nat.le_of_ble_eq_true rfl) dX10_way_25 rfl (n' := 28) ?_
      refine sd_iconst C (v := 1) dX10_way_28 rfl rfl (n' := 29) ?_
      exact sd_iret C dX10_way_29 (sd_fst hF) (sd_snd hF)
    · replace hF := sd_pos hF c13
      refine sd_iconst C (v := -1) dX10_way_16 rfl rfl (n' := 17) ?_
      exact sd_iret C dX10_way_17 (sd_fst hF) (sd_snd hF)
theorem ct_X10_way {l : Launch} {E : sd_Env} (M : sd_Mem) (x1 : Int32) (x2 : Int32)  {r : (Int32 × sd_Mem)} (hF : fn_X10_way M x1 x2 = some r) : sd_MI l E sd_LC yX10_way cX10_way 3 (some .int) rm_X10_way [.ref (E.2.2 0), .int x1, .int x2] M r.1 r.2 := sd_ent0 (by decide +kernel) (Nat.le_of_ble_eq_true rfl) (fun p e s m below meth c C => tb_X10_way_0 C M x1 x2 hF)
theorem dX10_isPlace_0 : decode cX10_isPlace 0 = .ok (.iload_n 0, 1) := by decide +kernel
theorem dX10_isPlace_1 : decode cX10_isPlace 1 = .ok (.ifCond .lt 23, 3) := by decide +kernel
theorem dX10_isPlace_4 : decode cX10_isPlace 4 = .ok (.iload_n 0, 1) := by decide +kernel
theorem dX10_isPlace_5 : decode cX10_isPlace 5 = .ok (.iconst 3, 1) := by decide +kernel
theorem dX10_isPlace_6 : decode cX10_isPlace 6 = .ok (.if_icmp .ge 18, 3) := by decide +kernel
theorem dX10_isPlace_9 : decode cX10_isPlace 9 = .ok (.iload_n 1, 1) := by decide +kernel
theorem dX10_isPlace_10 : decode cX10_isPlace 10 = .ok (.iconst 1, 1) := by decide +kernel
theorem dX10_isPlace_11 : decode cX10_isPlace 11 = .ok (.if_icmp .lt 13, 3) := by decide +kernel
theorem dX10_isPlace_14 : decode cX10_isPlace 14 = .ok (.iload_n 1, 1) := by decide +kernel
theorem dX10_isPlace_15 : decode cX10_isPlace 15 = .ok (.bipush 10, 2) := by decide +kernel
theorem dX10_isPlace_17 : decode cX10_isPlace 17 = .ok (.if_icmp .gt 7, 3) := by decide +kernel
theorem dX10_isPlace_20 : decode cX10_isPlace 20 = .ok (.iconst 1, 1) := by decide +kernel
theorem dX10_isPlace_21 : decode cX10_isPlace 21 = .ok (.goto 4, 3) := by decide +kernel
theorem dX10_isPlace_24 : decode cX10_isPlace 24 = .ok (.iconst 0, 1) := by decide +kernel
theorem dX10_isPlace_25 : decode cX10_isPlace 25 = .ok (.ireturn, 1) := by decide +kernel
set_option maxRecDepth 100000 in
set_option maxHeartbeats 4000000 in
theorem tb_X10_isPlace_0 {K : sd_K} {E : sd_Env} {M : sd_Mem}  {r : Int32} (C : sd_C K E sd_LC RX10 cX10_isPlace 2 (some .boolean))  : ∀ (x0 : Int32) (x1 : Int32), fn_X10_isPlace_0 x0 x1 = some r → sd_Z K rm_X10_isPlace E sd_LC 2 (sd_QI K E sd_LC r M) M 0 [(0, .int x0), (1, .int x1)] [] := by
  intro x0 x1 hF
  unfold fn_X10_isPlace_0 at hF
  refine sd_iload_n C 0 dX10_isPlace_0 rfl rfl rfl (n' := 1) ?_
  refine sd_if_lt C (n' := 4) (tgt := 24) dX10_isPlace_1 rfl rfl (fun c1 => ?_) (fun c1 => ?_)
  · replace hF := sd_pos hF c1
    refine sd_iconst C (v := 0) dX10_isPlace_24 rfl rfl (n' := 25) ?_
    exact sd_zret C dX10_isPlace_25 rfl (Option.some.inj hF) rfl
  · replace hF := sd_neg hF c1
    refine sd_iload_n C 0 dX10_isPlace_4 rfl rfl rfl (n' := 5) ?_
    refine sd_iconst C (v := 3) dX10_isPlace_5 rfl rfl (n' := 6) ?_
    refine sd_icmp_ge C (n' := 9) (tgt := 24) dX10_isPlace_6 rfl rfl (fun c6 => ?_) (fun c6 => ?_)
    · replace hF := sd_pos hF c6
      refine sd_iconst C (v := 0) dX10_isPlace_24 rfl rfl (n' := 25) ?_
      exact sd_zret C dX10_isPlace_25 rfl (Option.some.inj hF) rfl
    · replace hF := sd_neg hF c6
      refine sd_iload_n C 1 dX10_isPlace_9 rfl rfl rfl (n' := 10) ?_
      refine sd_iconst C (v := 1) dX10_isPlace_10 rfl rfl (n' := 11) ?_
      refine sd_icmp_lt C (n' := 14) (tgt := 24) dX10_isPlace_11 rfl rfl (fun c11 => ?_) (fun c11 => ?_)
      · replace hF := sd_pos hF c11
        refine sd_iconst C (v := 0) dX10_isPlace_24 rfl rfl (n' := 25) ?_
        exact sd_zret C dX10_isPlace_25 rfl (Option.some.inj hF) rfl
      · replace hF := sd_neg hF c11
        refine sd_iload_n C 1 dX10_isPlace_14 rfl rfl rfl (n' := 15) ?_
        refine sd_bipush C (v := 10) dX10_isPlace_15 rfl rfl (n' := 17) ?_
        refine sd_icmp_gt C (n' := 20) (tgt := 24) dX10_isPlace_17 rfl rfl (fun c17 => ?_) (fun c17 => ?_)
        · replace hF := sd_pos hF c17
          refine sd_iconst C (v := 0) dX10_isPlace_24 rfl rfl (n' := 25) ?_
          exact sd_zret C dX10_isPlace_25 rfl (Option.some.inj hF) rfl
        · replace hF := sd_neg hF c17
          refine sd_iconst C (v := 1) dX10_isPlace_20 rfl rfl (n' := 21) ?_
          refine sd_goto C (tgt := 25) dX10_isPlace_21 rfl ?_
          exact sd_zret C dX10_isPlace_25 rfl (Option.some.inj hF) rfl
theorem ct_X10_isPlace {l : Launch} {E : sd_Env} (M : sd_Mem) (x0 : Int32) (x1 : Int32)  {r : Int32} (hF : fn_X10_isPlace x0 x1 = some r) : sd_MI l E sd_LC yX10_isPlace cX10_isPlace 2 (some .boolean) rm_X10_isPlace [.int x0, .int x1] M r M := sd_ent0 (by decide +kernel) (Nat.le_of_ble_eq_true rfl) (fun p e s m below meth c C => tb_X10_isPlace_0 C x0 x1 hF)
theorem dX9_isMissing_0 : decode cX9_isMissing 0 = .ok (.aload_n 0, 1) := by decide +kernel
theorem dX9_isMissing_1 : decode cX9_isMissing 1 = .ok (.getfield 15, 3) := by decide +kernel
theorem dX9_isMissing_4 : decode cX9_isMissing 4 = .ok (.iconst (-1), 1) := by decide +kernel
theorem dX9_isMissing_5 : decode cX9_isMissing 5 = .ok (.if_icmp .ne 7, 3) := by decide +kernel
theorem dX9_isMissing_8 : decode cX9_isMissing 8 = .ok (.iconst 1, 1) := by decide +kernel
theorem dX9_isMissing_9 : decode cX9_isMissing 9 = .ok (.goto 4, 3) := by decide +kernel
theorem dX9_isMissing_12 : decode cX9_isMissing 12 = .ok (.iconst 0, 1) := by decide +kernel
theorem dX9_isMissing_13 : decode cX9_isMissing 13 = .ok (.ireturn, 1) := by decide +kernel
set_option maxRecDepth 100000 in
set_option maxHeartbeats 4000000 in
theorem tb_X9_isMissing_0 {K : sd_K} {E : sd_Env} {M : sd_Mem} {h0 : Nat} {r : Int32} (C : sd_C K E sd_LC RX9 cX9_isMissing 1 (some .boolean)) (k0 : sd_kd h0 = 10) : fn_X9_isMissing_0 M h0 = some r → sd_Z K rm_X9_isMissing E sd_LC 1 (sd_QI K E sd_LC r M) M 0 [(0, .ref (E.2.2 h0))] [] := by
  intro hF
  unfold fn_X9_isMissing_0 at hF
  refine sd_aload_n C 0 dX9_isMissing_0 rfl rfl rfl (n' := 1) ?_
  refine sd_g9_1 C (sd_mC (sd_m10 k0)) k0 sd_w322 dX9_isMissing_1 rfl (n' := 4) ?_
  refine sd_iconst C (v := -1) dX9_isMissing_4 rfl rfl (n' := 5) ?_
  refine sd_icmp_ne C (n' := 8) (tgt := 12) dX9_isMissing_5 rfl rfl (fun c5 => ?_) (fun c5 => ?_)
  · replace hF := sd_neg hF c5
    refine sd_iconst C (v := 0) dX9_isMissing_12 rfl rfl (n' := 13) ?_
    exact sd_zret C dX9_isMissing_13 rfl (Option.some.inj hF) rfl
  · replace hF := sd_pos hF c5
    refine sd_iconst C (v := 1) dX9_isMissing_8 rfl rfl (n' := 9) ?_
    refine sd_goto C (tgt := 13) dX9_isMissing_9 rfl ?_
    exact sd_zret C dX9_isMissing_13 rfl (Option.some.inj hF) rfl
theorem ct_X9_isMissing {l : Launch} {E : sd_Env} (M : sd_Mem) (h0 : Nat) (k0 : sd_kd h0 = 10) {r : Int32} (hF : fn_X9_isMissing M h0 = some r) : sd_MI l E sd_LC yX9_isMissing cX9_isMissing 1 (some .boolean) rm_X9_isMissing [.ref (E.2.2 h0)] M r M := sd_ent0 (by decide +kernel) (Nat.le_of_ble_eq_true rfl) (fun p e s m below meth c C => tb_X9_isMissing_0 C k0 hF)
theorem dX9_is_0 : decode cX9_is 0 = .ok (.iload_n 1, 1) := by decide +kernel
theorem dX9_is_1 : decode cX9_is 1 = .ok (.ifCond .eq 24, 3) := by decide +kernel
theorem dX9_is_4 : decode cX9_is 4 = .ok (.aload_n 0, 1) := by decide +kernel
theorem dX9_is_5 : decode cX9_is 5 = .ok (.getfield 15, 3) := by decide +kernel
theorem dX9_is_8 : decode cX9_is 8 = .ok (.iload_n 1, 1) := by decide +kernel
theorem dX9_is_9 : decode cX9_is 9 = .ok (.if_icmp .eq 16, 3) := by decide +kernel
theorem dX9_is_12 : decode cX9_is 12 = .ok (.iload_n 1, 1) := by decide +kernel
theorem dX9_is_13 : decode cX9_is 13 = .ok (.iconst 2, 1) := by decide +kernel
theorem dX9_is_14 : decode cX9_is 14 = .ok (.if_icmp .ne 15, 3) := by decide +kernel
theorem dX9_is_17 : decode cX9_is 17 = .ok (.aload_n 0, 1) := by decide +kernel
theorem dX9_is_18 : decode cX9_is 18 = .ok (.getfield 15, 3) := by decide +kernel
theorem dX9_is_21 : decode cX9_is 21 = .ok (.iconst 3, 1) := by decide +kernel
theorem dX9_is_22 : decode cX9_is 22 = .ok (.if_icmp .ne 7, 3) := by decide +kernel
theorem dX9_is_25 : decode cX9_is 25 = .ok (.iconst 1, 1) := by decide +kernel
theorem dX9_is_26 : decode cX9_is 26 = .ok (.goto 4, 3) := by decide +kernel
theorem dX9_is_29 : decode cX9_is 29 = .ok (.iconst 0, 1) := by decide +kernel
theorem dX9_is_30 : decode cX9_is 30 = .ok (.ireturn, 1) := by decide +kernel
set_option maxRecDepth 100000 in
set_option maxHeartbeats 4000000 in
theorem tb_X9_is_0 {K : sd_K} {E : sd_Env} {M : sd_Mem} {h0 : Nat} {r : Int32} (C : sd_C K E sd_LC RX9 cX9_is 2 (some .boolean)) (k0 : sd_kd h0 = 10) : ∀ (x1 : Int32), fn_X9_is_0 M h0 x1 = some r → sd_Z K rm_X9_is E sd_LC 2 (sd_QI K E sd_LC r M) M 0 [(0, .ref (E.2.2 h0)), (1, .int x1)] [] := by
  intro x1 hF
  unfold fn_X9_is_0 at hF
  refine sd_iload_n C 1 dX9_is_0 rfl rfl rfl (n' := 1) ?_
  refine sd_if_eq C (n' := 4) (tgt := 25) dX9_is_1 rfl rfl (fun c1 => ?_) (fun c1 => ?_)
  · replace hF := sd_pos hF c1
    refine sd_iconst C (v := 1) dX9_is_25 rfl rfl (n' := 26) ?_
    refine sd_goto C (tgt := 30) dX9_is_26 rfl ?_
    exact sd_zret C dX9_is_30 rfl (Option.some.inj hF) rfl
  · replace hF := sd_neg hF c1
    refine sd_aload_n C 0 dX9_is_4 rfl rfl rfl (n' := 5) ?_
    refine sd_g9_1 C (sd_mC (sd_m10 k0)) k0 sd_w322 dX9_is_5 rfl (n' := 8) ?_
    refine sd_iload_n C 1 dX9_is_8 rfl rfl rfl (n' := 9) ?_
    refine sd_icmp_eq C (n' := 12) (tgt := 25) dX9_is_9 rfl rfl (fun c9 => ?_) (fun c9 => ?_)
    · replace hF := sd_pos hF c9
      refine sd_iconst C (v := 1) dX9_is_25 rfl rfl (n' := 26) ?_
      refine sd_goto C (tgt := 30) dX9_is_26 rfl ?_
      exact sd_zret C dX9_is_30 rfl (Option.some.inj hF) rfl
    · replace hF := sd_neg hF c9
      refine sd_iload_n C 1 dX9_is_12 rfl rfl rfl (n' := 13) ?_
      refine sd_iconst C (v := 2) dX9_is_13 rfl rfl (n' := 14) ?_
      refine sd_icmp_ne C (n' := 17) (tgt := 29) dX9_is_14 rfl rfl (fun c14 => ?_) (fun c14 => ?_)
      · replace hF := sd_neg hF c14
        refine sd_iconst C (v := 0) dX9_is_29 rfl rfl (n' := 30) ?_
        exact sd_zret C dX9_is_30 rfl (Option.some.inj hF) rfl
      · replace hF := sd_pos hF c14
        refine sd_aload_n C 0 dX9_is_17 rfl rfl rfl (n' := 18) ?_
        refine sd_g9_1 C (sd_mC (sd_m10 k0)) k0 sd_w322 dX9_is_18 rfl (n' := 21) ?_
        refine sd_iconst C (v := 3) dX9_is_21 rfl rfl (n' := 22) ?_
        refine sd_icmp_ne C (n' := 25) (tgt := 29) dX9_is_22 rfl rfl (fun c22 => ?_) (fun c22 => ?_)
        · replace hF := sd_neg hF c22
          refine sd_iconst C (v := 0) dX9_is_29 rfl rfl (n' := 30) ?_
          exact sd_zret C dX9_is_30 rfl (Option.some.inj hF) rfl
        · replace hF := sd_pos hF c22
          refine sd_iconst C (v := 1) dX9_is_25 rfl rfl (n' := 26) ?_
          refine sd_goto C (tgt := 30) dX9_is_26 rfl ?_
          exact sd_zret C dX9_is_30 rfl (Option.some.inj hF) rfl
theorem ct_X9_is {l : Launch} {E : sd_Env} (M : sd_Mem) (h0 : Nat) (x1 : Int32) (k0 : sd_kd h0 = 10) {r : Int32} (hF : fn_X9_is M h0 x1 = some r) : sd_MI l E sd_LC yX9_is cX9_is 2 (some .boolean) rm_X9_is [.ref (E.2.2 h0), .int x1] M r M := sd_ent0 (by decide +kernel) (Nat.le_of_ble_eq_true rfl) (fun p e s m below meth c C => tb_X9_is_0 C k0 x1 hF)
theorem dX9_fits_0 : decode cX9_fits 0 = .ok (.aload_n 0, 1) := by decide +kernel
theorem dX9_fits_1 : decode cX9_fits 1 = .ok (.getfield 15, 3) := by decide +kernel
theorem dX9_fits_4 : decode cX9_fits 4 = .ok (.iconst 1, 1) := by decide +kernel
theorem dX9_fits_5 : decode cX9_fits 5 = .ok (.if_icmp .ne 11, 3) := by decide +kernel
theorem dX9_fits_8 : decode cX9_fits 8 = .ok (.iload_n 1, 1) := by decide +kernel
theorem dX9_fits_9 : decode cX9_fits 9 = .ok (.iconst 0, 1) := by decide +kernel
theorem dX9_fits_10 : decode cX9_fits 10 = .ok (.bipush 12, 2) := by decide +kernel
theorem dX9_fits_12 : decode cX9_fits 12 = .ok (.invokestatic 25, 3) := by decide +kernel
theorem dX9_fits_15 : decode cX9_fits 15 = .ok (.ireturn, 1) := by decide +kernel
theorem dX9_fits_16 : decode cX9_fits 16 = .ok (.iload_n 1, 1) := by decide +kernel
theorem dX9_fits_17 : decode cX9_fits 17 = .ok (.iconst 0, 1) := by decide +kernel
theorem dX9_fits_18 : decode cX9_fits 18 = .ok (.aload_n 0, 1) := by decide +kernel
theorem dX9_fits_19 : decode cX9_fits 19 = .ok (.iconst 2, 1) := by decide +kernel
theorem dX9_fits_20 : decode cX9_fits 20 = .ok (.invokevirtual 29, 3) := by decide +kernel
theorem dX9_fits_23 : decode cX9_fits 23 = .ok (.ifCond .eq 8, 3) := by decide +kernel
theorem dX9_fits_26 : decode cX9_fits 26 = .ok (.bipush 13, 2) := by decide +kernel
theorem dX9_fits_28 : decode cX9_fits 28 = .ok (.goto 5, 3) := by decide +kernel
theorem dX9_fits_31 : decode cX9_fits 31 = .ok (.bipush 99, 2) := by decide +kernel
theorem dX9_fits_33 : decode cX9_fits 33 = .ok (.invokestatic 25, 3) := by decide +kernel
theorem dX9_fits_36 : decode cX9_fits 36 = .ok (.ireturn, 1) := by decide +kernel
set_option maxRecDepth 100000 in
set_option maxHeartbeats 4000000 in
theorem tb_X9_fits_0 {K : sd_K} {E : sd_Env} {M : sd_Mem} {h0 : Nat} {r : Int32} (C : sd_C K E sd_LC RX9 cX9_fits 2 (some .boolean)) (k0 : sd_kd h0 = 10) : ∀ (x1 : Int32), fn_X9_fits_0 M h0 x1 = some r → sd_Z K rm_X9_fits E sd_LC 2 (sd_QI K E sd_LC r M) M 0 [(0, .ref (E.2.2 h0)), (1, .int x1)] [] := by
  intro x1 hF
  unfold fn_X9_fits_0 at hF
  refine sd_aload_n C 0 dX9_fits_0 rfl rfl rfl (n' := 1) ?_
  refine sd_g9_1 C (sd_mC (sd_m10 k0)) k0 sd_w322 dX9_fits_1 rfl (n' := 4) ?_
  refine sd_iconst C (v := 1) dX9_fits_4 rfl rfl (n' := 5) ?_
  refine sd_icmp_ne C (n' := 8) (tgt := 16) dX9_fits_5 rfl rfl (fun c5 => ?_) (fun c5 => ?_)
  · replace hF := sd_neg hF c5
    refine sd_iload_n C 1 dX9_fits_16 rfl rfl rfl (n' := 17) ?_
    refine sd_iconst C (v := 0) dX9_fits_17 rfl rfl (n' := 18) ?_
    refine sd_aload_n C 0 dX9_fits_18 rfl rfl rfl (n' := 19) ?_
    refine sd_iconst C (v := 2) dX9_fits_19 rfl rfl (n' := 20) ?_
    obtain ⟨q20, e20, hF⟩ := sd_bind hF
    refine sd_callVI [.int (2 : Int32)] [.int (0 : Int32), .int x1] C (ct_X9_is M h0 (2 : Int32) k0 e20) sd_lX9_29 ⟨rfl, rfl, Nat.le_of_ble_eq_true rfl, Nat.le_of_ble_eq_true rfl⟩ (sd_mC (sd_m10 k0)) (sd_e10 k0) rfl rfl rfl (Nat.le_of_ble_eq_true rfl) dX9_fits_20 rfl (n' := 23) ?_
    refine sd_if_eq C (n' := 26) (tgt := 31) dX9_fits_23 rfl rfl (fun c23 => ?_) (fun c23 => ?_)
    · replace hF := sd_pos hF c23
      refine sd_bipush C (v := 99) dX9_fits_31 rfl rfl (n' := 33) ?_
      obtain ⟨q33, e33, hF⟩ := sd_bind hF
      refine sd_callNI [.int x1, .int (0 : Int32), .int (99 : Int32)] [] C (ct_X10_within M x1 (0 : Int32) (99 : Int32)  e33) sd_lX9_25 ⟨rfl, rfl, Nat.le_of_ble_eq_true rfl, Nat.le_of_ble_eq_true rfl⟩ rfl (Nat.le_of_ble_eq_true rfl) dX9_fits_33 rfl (n' := 36) ?_
      obtain ⟨b36, hF⟩ := sd_ok hF
      exact sd_zret C dX9_fits_36 (Decidable.of_not_not b36) (Option.some.inj hF) rfl
    · replace hF := sd_neg hF c23
      refine sd_bipush C (v := 13) dX9_fits_26 rfl rfl (n' := 28) ?_
      refine sd_goto C (tgt := 33) dX9_fits_28 rfl ?_
      obtain ⟨q33, e33, hF⟩ := sd_bind hF
      refine sd_callNI [.int x1, .int (0 : Int32), .int (13 : Int32)] [] C (ct_X10_within M x1 (0 : Int32) (13 : Int32)  e33) sd_lX9_25 ⟨rfl, rfl, Nat.le_of_ble_eq_true rfl, Nat.le_of_ble_eq_true rfl⟩ rfl (Nat.le_of_ble_eq_true rfl) dX9_fits_33 rfl (n' := 36) ?_
      obtain ⟨b36, hF⟩ := sd_ok hF
      exact sd_zret C dX9_fits_36 (Decidable.of_not_not b36) (Option.some.inj hF) rfl
  · replace hF := sd_pos hF c5
    refine sd_iload_n C 1 dX9_fits_8 rfl rfl rfl (n' := 9) ?_
    refine sd_iconst C (v := 0) dX9_fits_9 rfl rfl (n' := 10) ?_
    refine sd_bipush C (v := 12) dX9_fits_10 rfl rfl (n' := 12) ?_
    obtain ⟨q12, e12, hF⟩ := sd_bind hF
    refine sd_callNI [.int x1, .int (0 : Int32), .int (12 : Int32)] [] C (ct_X10_within M x1 (0 : Int32) (12 : Int32)  e12) sd_lX9_25 ⟨rfl, rfl, Nat.le_of_ble_eq_true rfl, Nat.le_of_ble_eq_true rfl⟩ rfl (Nat.le_of_ble_eq_true rfl) dX9_fits_12 rfl (n' := 15) ?_
    obtain ⟨b15, hF⟩ := sd_ok hF
    exact sd_zret C dX9_fits_15 (Decidable.of_not_not b15) (Option.some.inj hF) rfl
theorem ct_X9_fits {l : Launch} {E : sd_Env} (M : sd_Mem) (h0 : Nat) (x1 : Int32) (k0 : sd_kd h0 = 10) {r : Int32} (hF : fn_X9_fits M h0 x1 = some r) : sd_MI l E sd_LC yX9_fits cX9_fits 2 (some .boolean) rm_X9_fits [.ref (E.2.2 h0), .int x1] M r M := sd_ent0 (by decide +kernel) (Nat.le_of_ble_eq_true rfl) (fun p e s m below meth c C => tb_X9_fits_0 C k0 x1 hF)
theorem dX9_number_0 : decode cX9_number 0 = .ok (.iload_n 1, 1) := by decide +kernel
theorem dX9_number_1 : decode cX9_number 1 = .ok (.iload_n 2, 1) := by decide +kernel
theorem dX9_number_2 : decode cX9_number 2 = .ok (.invokestatic 33, 3) := by decide +kernel
theorem dX9_number_5 : decode cX9_number 5 = .ok (.ifCond .eq 19, 3) := by decide +kernel
theorem dX9_number_8 : decode cX9_number 8 = .ok (.aload_n 0, 1) := by decide +kernel
theorem dX9_number_9 : decode cX9_number 9 = .ok (.getfield 9, 3) := by decide +kernel
theorem dX9_number_12 : decode cX9_number 12 = .ok (.bipush 10, 2) := by decide +kernel
theorem dX9_number_14 : decode cX9_number 14 = .ok (.iload_n 1, 1) := by decide +kernel
theorem dX9_number_15 : decode cX9_number 15 = .ok (.imul, 1) := by decide +kernel
theorem dX9_number_16 : decode cX9_number 16 = .ok (.iload_n 2, 1) := by decide +kernel
theorem dX9_number_17 : decode cX9_number 17 = .ok (.iadd, 1) := by decide +kernel
theorem dX9_number_18 : decode cX9_number 18 = .ok (.iconst 1, 1) := by decide +kernel
theorem dX9_number_19 : decode cX9_number 19 = .ok (.isub, 1) := by decide +kernel
theorem dX9_number_20 : decode cX9_number 20 = .ok (.iaload, 1) := by decide +kernel
theorem dX9_number_21 : decode cX9_number 21 = .ok (.goto 4, 3) := by decide +kernel
theorem dX9_number_24 : decode cX9_number 24 = .ok (.iconst 0, 1) := by decide +kernel
theorem dX9_number_25 : decode cX9_number 25 = .ok (.ireturn, 1) := by decide +kernel
set_option maxRecDepth 100000 in
set_option maxHeartbeats 4000000 in
theorem tb_X9_number_0 {K : sd_K} {E : sd_Env} {M : sd_Mem} {h0 : Nat} {r : Int32} (C : sd_C K E sd_LC RX9 cX9_number 3 (some .int)) (k0 : sd_kd h0 = 10) : ∀ (x1 : Int32) (x2 : Int32), fn_X9_number_0 M h0 x1 x2 = some r → sd_Z K rm_X9_number E sd_LC 3 (sd_QI K E sd_LC r M) M 0 [(0, .ref (E.2.2 h0)), (1, .int x1), (2, .int x2)] [] := by
  intro x1 x2 hF
  unfold fn_X9_number_0 at hF
  refine sd_iload_n C 1 dX9_number_0 rfl rfl rfl (n' := 1) ?_
  refine sd_iload_n C 2 dX9_number_1 rfl rfl rfl (n' := 2) ?_
  obtain ⟨q2, e2, hF⟩ := sd_bind hF
  refine sd_callNI [.int x1, .int x2] [] C (ct_X10_isPlace M x1 x2  e2) sd_lX9_33 ⟨rfl, rfl, Nat.le_of_ble_eq_true rfl, Nat.le_of_ble_eq_true rfl⟩ rfl (Nat.le_of_ble_eq_true rfl) dX9_number_2 rfl (n' := 5) ?_
  refine sd_if_eq C (n' := 8) (tgt := 24) dX9_number_5 rfl rfl (fun c5 => ?_) (fun c5 => ?_)
  · replace hF := sd_pos hF c5
    refine sd_iconst C (v := 0) dX9_number_24 rfl rfl (n' := 25) ?_
    exact sd_iret C dX9_number_25 (Option.some.inj hF) rfl
  · replace hF := sd_neg hF c5
    refine sd_aload_n C 0 dX9_number_8 rfl rfl rfl (n' := 9) ?_
    refine sd_g9_0 C (sd_mC (sd_m10 k0)) k0 sd_w321 dX9_number_9 rfl (n' := 12) ?_
    refine sd_bipush C (v := 10) dX9_number_12 rfl rfl (n' := 14) ?_
    refine sd_iload_n C 1 dX9_number_14 rfl rfl rfl (n' := 15) ?_
    refine sd_imul C dX9_number_15 rfl (n' := 16) ?_
    refine sd_iload_n C 2 dX9_number_16 rfl rfl rfl (n' := 17) ?_
    refine sd_iadd C dX9_number_17 rfl (n' := 18) ?_
    refine sd_iconst C (v := 1) dX9_number_18 rfl rfl (n' := 19) ?_
    refine sd_isub C dX9_number_19 rfl (n' := 20) ?_
    obtain ⟨b20, hF⟩ := sd_ok hF
    refine sd_iald C (sd_mC (sd_c10 k0).2.2) ((sd_c10 k0).1) ((sd_c10 k0).2.1) b20 dX9_number_20 rfl (n' := 21) ?_
    refine sd_goto C (tgt := 25) dX9_number_21 rfl ?_
    exact sd_iret C dX9_number_25 (Option.some.inj hF) rfl
theorem ct_X9_number {l : Launch} {E : sd_Env} (M : sd_Mem) (h0 : Nat) (x1 : Int32) (x2 : Int32) (k0 : sd_kd h0 = 10) {r : Int32} (hF : fn_X9_number M h0 x1 x2 = some r) : sd_MI l E sd_LC yX9_number cX9_number 3 (some .int) rm_X9_number [.ref (E.2.2 h0), .int x1, .int x2] M r M := sd_ent0 (by decide +kernel) (Nat.le_of_ble_eq_true rfl) (fun p e s m below meth c C => tb_X9_number_0 C k0 x1 x2 hF)
theorem dX9_swap_0 : decode cX9_swap 0 = .ok (.aload_n 0, 1) := by decide +kernel
theorem dX9_swap_1 : decode cX9_swap 1 = .ok (.iload_n 1, 1) := by decide +kernel
theorem dX9_swap_2 : decode cX9_swap 2 = .ok (.iload_n 2, 1) := by decide +kernel
theorem dX9_swap_3 : decode cX9_swap 3 = .ok (.invokevirtual 37, 3) := by decide +kernel
theorem dX9_swap_6 : decode cX9_swap 6 = .ok (.istore 4, 2) := by decide +kernel
theorem dX9_swap_8 : decode cX9_swap 8 = .ok (.iload_n 1, 1) := by decide +kernel
theorem dX9_swap_9 : decode cX9_swap 9 = .ok (.iload_n 2, 1) := by decide +kernel
theorem dX9_swap_10 : decode cX9_swap 10 = .ok (.invokestatic 33, 3) := by decide +kernel
theorem dX9_swap_13 : decode cX9_swap 13 = .ok (.ifCond .eq 17, 3) := by decide +kernel
theorem dX9_swap_16 : decode cX9_swap 16 = .ok (.aload_n 0, 1) := by decide +kernel
theorem dX9_swap_17 : decode cX9_swap 17 = .ok (.getfield 9, 3) := by decide +kernel
theorem dX9_swap_20 : decode cX9_swap 20 = .ok (.bipush 10, 2) := by decide +kernel
theorem dX9_swap_22 : decode cX9_swap 22 = .ok (.iload_n 1, 1) := by decide +kernel
theorem dX9_swap_23 : decode cX9_swap 23 = .ok (.imul, 1) := by decide +kernel
theorem dX9_swap_24 : decode cX9_swap 24 = .ok (.iload_n 2, 1) := by decide +kernel
theorem dX9_swap_25 : decode cX9_swap 25 = .ok (.iadd, 1) := by decide +kernel
theorem dX9_swap_26 : decode cX9_swap 26 = .ok (.iconst 1, 1) := by decide +kernel
theorem dX9_swap_27 : decode cX9_swap 27 = .ok (.isub, 1) := by decide +kernel
theorem dX9_swap_28 : decode cX9_swap 28 = .ok (.iload_n 3, 1) := by decide +kernel
theorem dX9_swap_29 : decode cX9_swap 29 = .ok (.iastore, 1) := by decide +kernel
theorem dX9_swap_30 : decode cX9_swap 30 = .ok (.iload 4, 2) := by decide +kernel
theorem dX9_swap_32 : decode cX9_swap 32 = .ok (.ireturn, 1) := by decide +kernel
set_option maxRecDepth 100000 in
set_option maxHeartbeats 4000000 in
theorem tb_X9_swap_0 {K : sd_K} {E : sd_Env}  {h0 : Nat} {r : (Int32 × sd_Mem)} (C : sd_C K E sd_LC RX9 cX9_swap 5 (some .int)) (k0 : sd_kd h0 = 10) : ∀ (M : sd_Mem) (x1 : Int32) (x2 : Int32) (x3 : Int32), fn_X9_swap_0 h0 M x1 x2 x3 = some r → sd_Z K rm_X9_swap E sd_LC 5 (sd_QI K E sd_LC r.1 r.2) M 0 [(0, .ref (E.2.2 h0)), (1, .int x1), (2, .int x2), (3, .int x3)] [] := by
  intro M x1 x2 x3 hF
  unfold fn_X9_swap_0 at hF
  refine sd_aload_n C 0 dX9_swap_0 rfl rfl rfl (n' := 1) ?_
  refine sd_iload_n C 1 dX9_swap_1 rfl rfl rfl (n' := 2) ?_
  refine sd_iload_n C 2 dX9_swap_2 rfl rfl rfl (n' := 3) ?_
  obtain ⟨q3, e3, hF⟩ := sd_bind hF
  refine sd_callVI [.int x1, .int x2] [] C (ct_X9_number M h0 x1 x2 k0 e3) sd_lX9_37 ⟨rfl, rfl, Nat.le_of_ble_eq_true rfl, Nat.le_of_ble_eq_true rfl⟩ (sd_mC (sd_m10 k0)) (sd_e10 k0) rfl rfl rfl (Nat.le_of_ble_eq_true rfl) dX9_swap_3 rfl (n' := 6) ?_
  refine sd_istore [(4, .int q3), (0, .ref (E.2.2 h0)), (1, .int x1), (2, .int x2), (3, .int x3)] C dX9_swap_6 (by decide) rfl rfl (n' := 8) ?_
  refine sd_iload_n C 2 dX9_swap_8 rfl rfl rfl (n' := 9) ?_
  refine sd_iload_n C 3 dX9_swap_9 rfl rfl rfl (n' := 10) ?_
  obtain ⟨q10, e10, hF⟩ := sd_bind hF
  refine sd_callNI [.int x1, .int x2] [] C (ct_X10_isPlace M x1 x2  e10) sd_lX9_33 ⟨rfl, rfl, Nat.le_of_ble_eq_true rfl, Nat.le_of_ble_eq_true rfl⟩ rfl (Nat.le_of_ble_eq_true rfl) dX9_swap_10 rfl (n' := 13) ?_
  refine sd_if_eq C (n' := 16) (tgt := 30) dX9_swap_13 rfl rfl (fun c13 => ?_) (fun c13 => ?_)
  · replace hF := sd_pos hF c13
    refine sd_iload C 0 dX9_swap_30 rfl rfl (n' := 32) ?_
    exact sd_iret C dX9_swap_32 (sd_fst hF) (sd_snd hF)
  · replace hF := sd_neg hF c13
    refine sd_aload_n C 1 dX9_swap_16 rfl rfl rfl (n' := 17) ?_
    refine sd_g9_0 C (sd_mC (sd_m10 k0)) k0 sd_w321 dX9_swap_17 rfl (n' := 20) ?_
    refine sd_bipush C (v := 10) dX9_swap_20 rfl rfl (n' := 22) ?_
    refine sd_iload_n C 2 dX9_swap_22 rfl rfl rfl (n' := 23) ?_
    refine sd_imul C dX9_swap_23 rfl (n' := 24) ?_
    refine sd_iload_n C 3 dX9_swap_24 rfl rfl rfl (n' := 25) ?_
    refine sd_iadd C dX9_swap_25 rfl (n' := 26) ?_
    refine sd_iconst C (v := 1) dX9_swap_26 rfl rfl (n' := 27) ?_
    refine sd_isub C dX9_swap_27 rfl (n' := 28) ?_
    refine sd_iload_n C 4 dX9_swap_28 rfl rfl rfl (n' := 29) ?_
    obtain ⟨b29, hF⟩ := sd_ok hF
    refine sd_iast C (sd_mC (sd_c10 k0).2.2) ((sd_c10 k0).1) ((sd_c10 k0).2.1) b29 dX9_swap_29 rfl (n' := 30) ?_
    refine sd_iload C 0 dX9_swap_30 rfl rfl (n' := 32) ?_
    exact sd_iret C dX9_swap_32 (sd_fst hF) (sd_snd hF)
theorem ct_X9_swap {l : Launch} {E : sd_Env} (M : sd_Mem) (h0 : Nat) (x1 : Int32) (x2 : Int32) (x3 : Int32) (k0 : sd_kd h0 = 10) {r : (Int32 × sd_Mem)} (hF : fn_X9_swap M h0 x1 x2 x3 = some r) : sd_MI l E sd_LC yX9_swap cX9_swap 5 (some .int) rm_X9_swap [.ref (E.2.2 h0), .int x1, .int x2, .int x3] M r.1 r.2 := sd_ent0 (by decide +kernel) (Nat.le_of_ble_eq_true rfl) (fun p e s m below meth c C => tb_X9_swap_0 C k0 M x1 x2 x3 hF)
theorem dX10_set_0 : decode cX10_set 0 = .ok (.iload_n 1, 1) := by decide +kernel
theorem dX10_set_1 : decode cX10_set 1 = .ok (.invokestatic 177, 3) := by decide +kernel
theorem dX10_set_4 : decode cX10_set 4 = .ok (.ifCond .eq 11, 3) := by decide +kernel
theorem dX10_set_7 : decode cX10_set 7 = .ok (.iload_n 2, 1) := by decide +kernel
theorem dX10_set_8 : decode cX10_set 8 = .ok (.iload_n 3, 1) := by decide +kernel
theorem dX10_set_9 : decode cX10_set 9 = .ok (.invokestatic 182, 3) := by decide +kernel
theorem dX10_set_12 : decode cX10_set 12 = .ok (.ifCond .ne 5, 3) := by decide +kernel
theorem dX10_set_15 : decode cX10_set 15 = .ok (.iconst (-1), 1) := by decide +kernel
theorem dX10_set_16 : decode cX10_set 16 = .ok (.ireturn, 1) := by decide +kernel
theorem dX10_set_17 : decode cX10_set 17 = .ok (.aload_n 0, 1) := by decide +kernel
theorem dX10_set_18 : decode cX10_set 18 = .ok (.getfield 20, 3) := by decide +kernel
theorem dX10_set_21 : decode cX10_set 21 = .ok (.iload_n 1, 1) := by decide +kernel
theorem dX10_set_22 : decode cX10_set 22 = .ok (.aaload, 1) := by decide +kernel
theorem dX10_set_23 : decode cX10_set 23 = .ok (.invokevirtual 185, 3) := by decide +kernel
theorem dX10_set_26 : decode cX10_set 26 = .ok (.ifCond .eq 12, 3) := by decide +kernel
theorem dX10_set_29 : decode cX10_set 29 = .ok (.aload_n 0, 1) := by decide +kernel
theorem dX10_set_30 : decode cX10_set 30 = .ok (.getfield 84, 3) := by decide +kernel
theorem dX10_set_33 : decode cX10_set 33 = .ok (.iconst 1, 1) := by decide +kernel
theorem dX10_set_34 : decode cX10_set 34 = .ok (.invokevirtual 100, 3) := by decide +kernel
theorem dX10_set_37 : decode cX10_set 37 = .ok (.ireturn, 1) := by decide +kernel
theorem dX10_set_38 : decode cX10_set 38 = .ok (.aload_n 0, 1) := by decide +kernel
theorem dX10_set_39 : decode cX10_set 39 = .ok (.getfield 20, 3) := by decide +kernel
theorem dX10_set_42 : decode cX10_set 42 = .ok (.iload_n 1, 1) := by decide +kernel
theorem dX10_set_43 : decode cX10_set 43 = .ok (.aaload, 1) := by decide +kernel
theorem dX10_set_44 : decode cX10_set 44 = .ok (.iload 4, 2) := by decide +kernel
theorem dX10_set_46 : decode cX10_set 46 = .ok (.invokevirtual 186, 3) := by decide +kernel
theorem dX10_set_49 : decode cX10_set 49 = .ok (.ifCond .ne 12, 3) := by decide +kernel
theorem dX10_set_52 : decode cX10_set 52 = .ok (.aload_n 0, 1) := by decide +kernel
theorem dX10_set_53 : decode cX10_set 53 = .ok (.getfield 84, 3) := by decide +kernel
theorem dX10_set_56 : decode cX10_set 56 = .ok (.iconst 3, 1) := by decide +kernel
theorem dX10_set_57 : decode cX10_set 57 = .ok (.invokevirtual 100, 3) := by decide +kernel
theorem dX10_set_60 : decode cX10_set 60 = .ok (.ireturn, 1) := by decide +kernel
theorem dX10_set_61 : decode cX10_set 61 = .ok (.aload_n 0, 1) := by decide +kernel
theorem dX10_set_62 : decode cX10_set 62 = .ok (.getfield 20, 3) := by decide +kernel
theorem dX10_set_65 : decode cX10_set 65 = .ok (.iload_n 1, 1) := by decide +kernel
theorem dX10_set_66 : decode cX10_set 66 = .ok (.aaload, 1) := by decide +kernel
theorem dX10_set_67 : decode cX10_set 67 = .ok (.iload_n 2, 1) := by decide +kernel
theorem dX10_set_68 : decode cX10_set 68 = .ok (.iload_n 3, 1) := by decide +kernel
theorem dX10_set_69 : decode cX10_set 69 = .ok (.iload 4, 2) := by decide +kernel
theorem dX10_set_71 : decode cX10_set 71 = .ok (.invokevirtual 189, 3) := by decide +kernel
theorem dX10_set_74 : decode cX10_set 74 = .ok (.ireturn, 1) := by decide +kernel
set_option maxRecDepth 100000 in
set_option maxHeartbeats 4000000 in
theorem tb_X10_set_0 {K : sd_K} {E : sd_Env}   {r : (Int32 × sd_Mem)} (C : sd_C K E sd_LC RX10 cX10_set 5 (some .int))  : ∀ (M : sd_Mem) (x1 : Int32) (x2 : Int32) (x3 : Int32) (x4 : Int32), fn_X10_set_0 M x1 x2 x3 x4 = some r → sd_Z K rm_X10_set E sd_LC 5 (sd_QI K E sd_LC r.1 r.2) M 0 [(0, .ref (E.2.2 0)), (1, .int x1), (2, .int x2), (3, .int x3), (4, .int x4)] [] := by
  intro M x1 x2 x3 x4 hF
  unfold fn_X10_set_0 at hF
  refine sd_iload_n C 1 dX10_set_0 rfl rfl rfl (n' := 1) ?_
  obtain ⟨q1, e1, hF⟩ := sd_bind hF
  refine sd_callSI [.int x1] [] C (ct_X10_isWay M x1  e1) sd_lX10_177 ⟨rfl, rfl, Nat.le_of_ble_eq_true rfl, Nat.le_of_ble_eq_true rfl⟩ rfl (Nat.le_of_ble_eq_true rfl) dX10_set_1 rfl (n' := 4) ?_
  refine sd_if_eq C (n' := 7) (tgt := 15) dX10_set_4 rfl rfl (fun c4 => ?_) (fun c4 => ?_)
  · replace hF := sd_pos hF c4
    refine sd_iconst C (v := -1) dX10_set_15 rfl rfl (n' := 16) ?_
    exact sd_iret C dX10_set_16 (sd_fst hF) (sd_snd hF)
  · replace hF := sd_neg hF c4
    refine sd_iload_n C 2 dX10_set_7 rfl rfl rfl (n' := 8) ?_
    refine sd_iload_n C 3 dX10_set_8 rfl rfl rfl (n' := 9) ?_
    obtain ⟨q9, e9, hF⟩ := sd_bind hF
    refine sd_callSI [.int x2, .int x3] [] C (ct_X10_isPlace M x2 x3  e9) sd_lX10_182 ⟨rfl, rfl, Nat.le_of_ble_eq_true rfl, Nat.le_of_ble_eq_true rfl⟩ rfl (Nat.le_of_ble_eq_true rfl) dX10_set_9 rfl (n' := 12) ?_
    refine sd_if_ne C (n' := 15) (tgt := 17) dX10_set_12 rfl rfl (fun c12 => ?_) (fun c12 => ?_)
    · replace hF := sd_neg hF c12
      refine sd_aload_n C 0 dX10_set_17 rfl rfl rfl (n' := 18) ?_
      refine sd_g10_2 C sd_i0 sd_k0 sd_w330 dX10_set_18 rfl (n' := 21) ?_
      refine sd_iload_n C 1 dX10_set_21 rfl rfl rfl (n' := 22) ?_
      obtain ⟨b22, hF⟩ := sd_ok hF
      refine sd_wald C sd_i23 sd_k23 sd_n23 b22 dX10_set_22 rfl (n' := 23) ?_
      obtain ⟨q23, e23, hF⟩ := sd_bind hF
      refine sd_callVI [] [] C (ct_X9_isMissing M (23 + 1 + 2 * x1.toNatClampNeg) ((sd_r23 _ (sd_in_lt b22)).1) e23) sd_lX10_185 ⟨rfl, rfl, Nat.le_of_ble_eq_true rfl, Nat.le_of_ble_eq_true rfl⟩ (sd_mC (sd_r23 _ (sd_in_lt b22)).2) (sd_e10 ((sd_r23 _ (sd_in_lt b22)).1)) rfl rfl rfl (Nat.le_of_ble_eq_true rfl) dX10_set_23 rfl (n' := 26) ?_
      refine sd_if_eq C (n' := 29) (tgt := 38) dX10_set_26 rfl rfl (fun c26 => ?_) (fun c26 => ?_)
      · replace hF := sd_pos hF c26
        refine sd_aload_n C 0 dX10_set_38 rfl rfl rfl (n' := 39) ?_
        refine sd_g10_2 C sd_i0 sd_k0 sd_w330 dX10_set_39 rfl (n' := 42) ?_
        refine sd_iload_n C 1 dX10_set_42 rfl rfl rfl (n' := 43) ?_
        obtain ⟨b43, hF⟩ := sd_ok hF
        refine sd_wald C sd_i23 sd_k23 sd_n23 b43 dX10_set_43 rfl (n' := 44) ?_
        refine sd_iload C 4 dX10_set_44 rfl rfl (n' := 46) ?_
        obtain ⟨q46, e46, hF⟩ := sd_bind hF
        refine sd_callVI [.int x4] [] C (ct_X9_fits M (23 + 1 + 2 * x1.toNatClampNeg) x4 ((sd_r23 _ (sd_in_lt b43)).1) e46) sd_lX10_186 ⟨rfl, rfl, Nat.le_of_ble_eq_true rfl, Nat.le_of_ble_eq_true rfl⟩ (sd_mC (sd_r23 _ (sd_in_lt b43)).2) (sd_e10 ((sd_r23 _ (sd_in_lt b43)).1)) rfl rfl rfl (Nat.le_of_ble_eq_true rfl) dX10_set_46 rfl (n' := 49) ?_
        refine sd_if_ne C (n' := 52) (tgt := 61) dX10_set_49 rfl rfl (fun c49 => ?_) (fun c49 => ?_)
        · replace hF := sd_neg hF c49
          refine sd_aload_n C 0 dX10_set_61 rfl rfl rfl (n' := 62) ?_
          refine sd_g10_2 C sd_i0 sd_k0 sd_w330 dX10_set_62 rfl (n' := 65) ?_
          refine sd_iload_n C 1 dX10_set_65 rfl rfl rfl (n' := 66) ?_
          obtain ⟨b66, hF⟩ := sd_ok hF
          refine sd_wald C sd_i23 sd_k23 sd_n23 b66 dX10_set_66 rfl (n' := 67) ?_
          refine sd_iload_n C 2 dX10_set_67 rfl rfl rfl (n' := 68) ?_
          refine sd_iload_n C 3 dX10_set_68 rfl rfl rfl (n' := 69) ?_
          refine sd_iload C 4 dX10_set_69 rfl rfl (n' := 71) ?_
          obtain ⟨q71, e71, hF⟩ := sd_bind hF
          refine sd_callVI [.int x2, .int x3, .int x4] [] C (ct_X9_swap M (23 + 1 + 2 * x1.toNatClampNeg) x2 x3 x4 ((sd_r23 _ (sd_in_lt b66)).1) e71) sd_lX10_189 ⟨rfl, rfl, Nat.le_of_ble_eq_true rfl, Nat.le_of_ble_eq_true rfl⟩ (sd_mC (sd_r23 _ (sd_in_lt b66)).2) (sd_e10 ((sd_r23 _ (sd_in_lt b66)).1)) rfl rfl rfl (Nat.le_of_ble_eq_true rfl) dX10_set_71 rfl (n' := 74) ?_
          exact sd_iret C dX10_set_74 (sd_fst hF) (sd_snd hF)
        · replace hF := sd_pos hF c49
          refine sd_aload_n C 0 dX10_set_52 rfl rfl rfl (n' := 53) ?_
          refine sd_g10_12 C sd_i0 sd_k0 sd_w340 dX10_set_53 rfl (n' := 56) ?_
          refine sd_iconst C (v := 3) dX10_set_56 rfl rfl (n' := 57) ?_
          obtain ⟨q57, e57, hF⟩ := sd_bind hF
          refine sd_callVI [.int (3 : Int32)] [] C (ct_X2_tell M (3 : Int32)  e57) sd_lX10_100 ⟨rfl, rfl, Nat.le_of_ble_eq_true rfl, Nat.le_of_ble_eq_true rfl⟩ sd_i97 (sd_e3 sd_k97) rfl rfl rfl (Nat.le_of_ble_eq_true rfl) dX10_set_57 rfl (n' := 60) ?_
          exact sd_iret C dX10_set_60 (sd_fst hF) (sd_snd hF)
      · replace hF := sd_neg hF c26
        refine sd_aload_n C 0 dX10_set_29 rfl rfl rfl (n' := 30) ?_
        refine sd_g10_12 C sd_i0 sd_k0 sd_w340 dX10_set_30 rfl (n' := 33) ?_
        refine sd_iconst C (v := 1) dX10_set_33 rfl rfl (n' := 34) ?_
        obtain ⟨q34, e34, hF⟩ := sd_bind hF
        refine sd_callVI [.int (1 : Int32)] [] C (ct_X2_tell M (1 : Int32)  e34) sd_lX10_100 ⟨rfl, rfl, Nat.le_of_ble_eq_true rfl, Nat.le_of_ble_eq_true rfl⟩ sd_i97 (sd_e3 sd_k97) rfl rfl rfl (Nat.le_of_ble_eq_true rfl) dX10_set_34 rfl (n' := 37) ?_
        exact sd_iret C dX10_set_37 (sd_fst hF) (sd_snd hF)
    · replace hF := sd_pos hF c12
      refine sd_iconst C (v := -1) dX10_set_15 rfl rfl (n' := 16) ?_
      exact sd_iret C dX10_set_16 (sd_fst hF) (sd_snd hF)
theorem ct_X10_set {l : Launch} {E : sd_Env} (M : sd_Mem) (x1 : Int32) (x2 : Int32) (x3 : Int32) (x4 : Int32)  {r : (Int32 × sd_Mem)} (hF : fn_X10_set M x1 x2 x3 x4 = some r) : sd_MI l E sd_LC yX10_set cX10_set 5 (some .int) rm_X10_set [.ref (E.2.2 0), .int x1, .int x2, .int x3, .int x4] M r.1 r.2 := sd_ent0 (by decide +kernel) (Nat.le_of_ble_eq_true rfl) (fun p e s m below meth c C => tb_X10_set_0 C M x1 x2 x3 x4 hF)
theorem dX10_setAll_0 : decode cX10_setAll 0 = .ok (.iload_n 1, 1) := by decide +kernel
theorem dX10_setAll_1 : decode cX10_setAll 1 = .ok (.invokestatic 177, 3) := by decide +kernel
theorem dX10_setAll_4 : decode cX10_setAll 4 = .ok (.ifCond .eq 19, 3) := by decide +kernel
theorem dX10_setAll_7 : decode cX10_setAll 7 = .ok (.iload_n 2, 1) := by decide +kernel
theorem dX10_setAll_8 : decode cX10_setAll 8 = .ok (.iconst 0, 1) := by decide +kernel
theorem dX10_setAll_9 : decode cX10_setAll 9 = .ok (.iconst 2, 1) := by decide +kernel
theorem dX10_setAll_10 : decode cX10_setAll 10 = .ok (.invokestatic 152, 3) := by decide +kernel
theorem dX10_setAll_13 : decode cX10_setAll 13 = .ok (.ifCond .eq 10, 3) := by decide +kernel
theorem dX10_setAll_16 : decode cX10_setAll 16 = .ok (.iload_n 3, 1) := by decide +kernel
theorem dX10_setAll_17 : decode cX10_setAll 17 = .ok (.invokestatic 96, 3) := by decide +kernel
theorem dX10_setAll_20 : decode cX10_setAll 20 = .ok (.ifCond .ne 5, 3) := by decide +kernel
theorem dX10_setAll_23 : decode cX10_setAll 23 = .ok (.iconst (-1), 1) := by decide +kernel
theorem dX10_setAll_24 : decode cX10_setAll 24 = .ok (.ireturn, 1) := by decide +kernel
theorem dX10_setAll_25 : decode cX10_setAll 25 = .ok (.aload_n 0, 1) := by decide +kernel
theorem dX10_setAll_26 : decode cX10_setAll 26 = .ok (.getfield 20, 3) := by decide +kernel
theorem dX10_setAll_29 : decode cX10_setAll 29 = .ok (.iload_n 1, 1) := by decide +kernel
theorem dX10_setAll_30 : decode cX10_setAll 30 = .ok (.aaload, 1) := by decide +kernel
theorem dX10_setAll_31 : decode cX10_setAll 31 = .ok (.invokevirtual 185, 3) := by decide +kernel
theorem dX10_setAll_34 : decode cX10_setAll 34 = .ok (.ifCond .ne 15, 3) := by decide +kernel
theorem dX10_setAll_37 : decode cX10_setAll 37 = .ok (.aload_n 0, 1) := by decide +kernel
theorem dX10_setAll_38 : decode cX10_setAll 38 = .ok (.getfield 11, 3) := by decide +kernel
theorem dX10_setAll_41 : decode cX10_setAll 41 = .ok (.iload_n 3, 1) := by decide +kernel
theorem dX10_setAll_42 : decode cX10_setAll 42 = .ok (.aaload, 1) := by decide +kernel
theorem dX10_setAll_43 : decode cX10_setAll 43 = .ok (.invokevirtual 108, 3) := by decide +kernel
theorem dX10_setAll_46 : decode cX10_setAll 46 = .ok (.ifCond .eq 12, 3) := by decide +kernel
theorem dX10_setAll_49 : decode cX10_setAll 49 = .ok (.aload_n 0, 1) := by decide +kernel
theorem dX10_setAll_50 : decode cX10_setAll 50 = .ok (.getfield 84, 3) := by decide +kernel
theorem dX10_setAll_53 : decode cX10_setAll 53 = .ok (.iconst 1, 1) := by decide +kernel
theorem dX10_setAll_54 : decode cX10_setAll 54 = .ok (.invokevirtual 100, 3) := by decide +kernel
theorem dX10_setAll_57 : decode cX10_setAll 57 = .ok (.ireturn, 1) := by decide +kernel
theorem dX10_setAll_58 : decode cX10_setAll 58 = .ok (.aload_n 0, 1) := by decide +kernel
theorem dX10_setAll_59 : decode cX10_setAll 59 = .ok (.getfield 11, 3) := by decide +kernel
theorem dX10_setAll_62 : decode cX10_setAll 62 = .ok (.iload_n 3, 1) := by decide +kernel
theorem dX10_setAll_63 : decode cX10_setAll 63 = .ok (.aaload, 1) := by decide +kernel
theorem dX10_setAll_64 : decode cX10_setAll 64 = .ok (.invokevirtual 127, 3) := by decide +kernel
theorem dX10_setAll_67 : decode cX10_setAll 67 = .ok (.bipush 10, 2) := by decide +kernel
theorem dX10_setAll_69 : decode cX10_setAll 69 = .ok (.if_icmp .eq 12, 3) := by decide +kernel
theorem dX10_setAll_72 : decode cX10_setAll 72 = .ok (.aload_n 0, 1) := by decide +kernel
theorem dX10_setAll_73 : decode cX10_setAll 73 = .ok (.getfield 84, 3) := by decide +kernel
theorem dX10_setAll_76 : decode cX10_setAll 76 = .ok (.iconst 5, 1) := by decide +kernel
theorem dX10_setAll_77 : decode cX10_setAll 77 = .ok (.invokevirtual 100, 3) := by decide +kernel
theorem dX10_setAll_80 : decode cX10_setAll 80 = .ok (.ireturn, 1) := by decide +kernel
theorem dX10_setAll_81 : decode cX10_setAll 81 = .ok (.iconst 0, 1) := by decide +kernel
theorem dX10_setAll_82 : decode cX10_setAll 82 = .ok (.istore 4, 2) := by decide +kernel
theorem dX10_setAll_84 : decode cX10_setAll 84 = .ok (.iload 4, 2) := by decide +kernel
theorem dX10_setAll_86 : decode cX10_setAll 86 = .ok (.bipush 10, 2) := by decide +kernel
theorem dX10_setAll_88 : decode cX10_setAll 88 = .ok (.if_icmp .ge 42, 3) := by decide +kernel
theorem dX10_setAll_91 : decode cX10_setAll 91 = .ok (.aload_n 0, 1) := by decide +kernel
theorem dX10_setAll_92 : decode cX10_setAll 92 = .ok (.getfield 20, 3) := by decide +kernel
theorem dX10_setAll_95 : decode cX10_setAll 95 = .ok (.iload_n 1, 1) := by decide +kernel
theorem dX10_setAll_96 : decode cX10_setAll 96 = .ok (.aaload, 1) := by decide +kernel
theorem dX10_setAll_97 : decode cX10_setAll 97 = .ok (.aload_n 0, 1) := by decide +kernel
theorem dX10_setAll_98 : decode cX10_setAll 98 = .ok (.getfield 11, 3) := by decide +kernel
theorem dX10_setAll_101 : decode cX10_setAll 101 = .ok (.iload_n 3, 1) := by decide +kernel
theorem dX10_setAll_102 : decode cX10_setAll 102 = .ok (.aaload, 1) := by decide +kernel
theorem dX10_setAll_103 : decode cX10_setAll 103 = .ok (.iload 4, 2) := by decide +kernel
theorem dX10_setAll_105 : decode cX10_setAll 105 = .ok (.invokevirtual 192, 3) := by decide +kernel
theorem dX10_setAll_108 : decode cX10_setAll 108 = .ok (.i2b, 1) := by decide +kernel
theorem dX10_setAll_109 : decode cX10_setAll 109 = .ok (.invokevirtual 186, 3) := by decide +kernel
theorem dX10_setAll_112 : decode cX10_setAll 112 = .ok (.ifCond .ne 12, 3) := by decide +kernel
theorem dX10_setAll_115 : decode cX10_setAll 115 = .ok (.aload_n 0, 1) := by decide +kernel
theorem dX10_setAll_116 : decode cX10_setAll 116 = .ok (.getfield 84, 3) := by decide +kernel
theorem dX10_setAll_119 : decode cX10_setAll 119 = .ok (.iconst 3, 1) := by decide +kernel
theorem dX10_setAll_120 : decode cX10_setAll 120 = .ok (.invokevirtual 100, 3) := by decide +kernel
theorem dX10_setAll_123 : decode cX10_setAll 123 = .ok (.ireturn, 1) := by decide +kernel
theorem dX10_setAll_124 : decode cX10_setAll 124 = .ok (.iinc 4 1, 3) := by decide +kernel
theorem dX10_setAll_127 : decode cX10_setAll 127 = .ok (.goto (-43), 3) := by decide +kernel
theorem dX10_setAll_130 : decode cX10_setAll 130 = .ok (.iconst 0, 1) := by decide +kernel
theorem dX10_setAll_131 : decode cX10_setAll 131 = .ok (.istore 4, 2) := by decide +kernel
theorem dX10_setAll_133 : decode cX10_setAll 133 = .ok (.iload 4, 2) := by decide +kernel
theorem dX10_setAll_135 : decode cX10_setAll 135 = .ok (.bipush 10, 2) := by decide +kernel
theorem dX10_setAll_137 : decode cX10_setAll 137 = .ok (.if_icmp .ge 36, 3) := by decide +kernel
theorem dX10_setAll_140 : decode cX10_setAll 140 = .ok (.aload_n 0, 1) := by decide +kernel
theorem dX10_setAll_141 : decode cX10_setAll 141 = .ok (.getfield 20, 3) := by decide +kernel
theorem dX10_setAll_144 : decode cX10_setAll 144 = .ok (.iload_n 1, 1) := by decide +kernel
theorem dX10_setAll_145 : decode cX10_setAll 145 = .ok (.aaload, 1) := by decide +kernel
theorem dX10_setAll_146 : decode cX10_setAll 146 = .ok (.iload_n 2, 1) := by decide +kernel
theorem dX10_setAll_147 : decode cX10_setAll 147 = .ok (.iload 4, 2) := by decide +kernel
theorem dX10_setAll_149 : decode cX10_setAll 149 = .ok (.iconst 1, 1) := by decide +kernel
theorem dX10_setAll_150 : decode cX10_setAll 150 = .ok (.iadd, 1) := by decide +kernel
theorem dX10_setAll_151 : decode cX10_setAll 151 = .ok (.aload_n 0, 1) := by decide +kernel
theorem dX10_setAll_152 : decode cX10_setAll 152 = .ok (.getfield 11, 3) := by decide +kernel
theorem dX10_setAll_155 : decode cX10_setAll 155 = .ok (.iload_n 3, 1) := by decide +kernel
theorem dX10_setAll_156 : decode cX10_setAll 156 = .ok (.aaload, 1) := by decide +kernel
theorem dX10_setAll_157 : decode cX10_setAll 157 = .ok (.iload 4, 2) := by decide +kernel
theorem dX10_setAll_159 : decode cX10_setAll 159 = .ok (.invokevirtual 192, 3) := by decide +kernel
theorem dX10_setAll_162 : decode cX10_setAll 162 = .ok (.i2b, 1) := by decide +kernel
theorem dX10_setAll_163 : decode cX10_setAll 163 = .ok (.invokevirtual 189, 3) := by decide +kernel
theorem dX10_setAll_166 : decode cX10_setAll 166 = .ok (.pop, 1) := by decide +kernel
theorem dX10_setAll_167 : decode cX10_setAll 167 = .ok (.iinc 4 1, 3) := by decide +kernel
theorem dX10_setAll_170 : decode cX10_setAll 170 = .ok (.goto (-37), 3) := by decide +kernel
theorem dX10_setAll_173 : decode cX10_setAll 173 = .ok (.iconst 1, 1) := by decide +kernel
theorem dX10_setAll_174 : decode cX10_setAll 174 = .ok (.ireturn, 1) := by decide +kernel
set_option maxRecDepth 100000 in
set_option maxHeartbeats 4000000 in
theorem tb_X10_setAll_115 {K : sd_K} {E : sd_Env}   {r : (Int32 × sd_Mem)} (C : sd_C K E sd_LC RX10 cX10_setAll 5 (some .int))  : ∀ (M : sd_Mem), fn_X10_setAll_115 M = some r → sd_Z K rm_X10_setAll E sd_LC 5 (sd_QI K E sd_LC r.1 r.2) M 115 [(0, .ref (E.2.2 0))] [] := by
  intro M hF
  unfold fn_X10_setAll_115 at hF
  refine sd_aload_n C 0 dX10_setAll_115 rfl rfl rfl (n' := 116) ?_
  refine sd_g10_12 C sd_i0 sd_k0 sd_w340 dX10_setAll_116 rfl (n' := 119) ?_
  refine sd_iconst C (v := 3) dX10_setAll_119 rfl rfl (n' := 120) ?_
  obtain ⟨q120, e120, hF⟩ := sd_bind hF
  refine sd_callVI [.int (3 : Int32)] [] C (ct_X2_tell M (3 : Int32)  e120) sd_lX10_100 ⟨rfl, rfl, Nat.le_of_ble_eq_true rfl, Nat.le_of_ble_eq_true rfl⟩ sd_i97 (sd_e3 sd_k97) rfl rfl rfl (Nat.le_of_ble_eq_true rfl) dX10_setAll_120 rfl (n' := 123) ?_
  exact sd_iret C dX10_setAll_123 (sd_fst hF) (sd_snd hF)
set_option maxRecDepth 100000 in
set_option maxHeartbeats 4000000 in
theorem tb_X10_setAll_133 {K : sd_K} {E : sd_Env}   {r : (Int32 × sd_Mem)} (C : sd_C K E sd_LC RX10 cX10_setAll 5 (some .int))  : ∀ (n : Nat), ∀ (M : sd_Mem) (x1 : Int32) (x2 : Int32) (x3 : Int32) (x4 : Int32), fn_X10_setAll_133 n M x1 x2 x3 x4 = some r → sd_Z K rm_X10_setAll E sd_LC 5 (sd_QI K E sd_LC r.1 r.2) M 133 [(0, .ref (E.2.2 0)), (1, .int x1), (2, .int x2), (3, .int x3), (4, .int x4)] [] := by
  intro n
  induction n with
  | zero => intro M x1 x2 x3 x4 hF; cases hF
  | succ n ih =>
    intro M x1 x2 x3 x4 hF
    unfold fn_X10_setAll_133 at hF
    refine sd_iload C 4 dX10_setAll_133 rfl rfl (n' := 135) ?_
    refine sd_bipush C (v := 10) dX10_setAll_135 rfl rfl (n' := 137) ?_
    refine sd_icmp_ge C (n' := 140) (tgt := 173) dX10_setAll_137 rfl rfl (fun c137 => ?_) (fun c137 => ?_)
    · replace hF := sd_pos hF c137
      refine sd_iconst C (v := 1) dX10_setAll_173 rfl rfl (n' := 174) ?_
      exact sd_iret C dX10_setAll_174 (sd_fst hF) (sd_snd hF)
    · replace hF := sd_neg hF c137
      refine sd_aload_n C 0 dX10_setAll_140 rfl rfl rfl (n' := 141) ?_
      refine sd_g10_2 C sd_i0 sd_k0 sd_w330 dX10_setAll_141 rfl (n' := 144) ?_
      refine sd_iload_n C 1 dX10_setAll_144 rfl rfl rfl (n' := 145) ?_
      obtain ⟨b145, hF⟩ := sd_ok hF
      refine sd_wald C sd_i23 sd_k23 sd_n23 b145 dX10_setAll_145 rfl (n' := 146) ?_
      refine sd_iload_n C 2 dX10_setAll_146 rfl rfl rfl (n' := 147) ?_
      refine sd_iload C 4 dX10_setAll_147 rfl rfl (n' := 149) ?_
      refine sd_iconst C (v := 1) dX10_setAll_149 rfl rfl (n' := 150) ?_
      refine sd_iadd C dX10_setAll_150 rfl (n' := 151) ?_
      refine sd_aload_n C 0 dX10_setAll_151 rfl rfl rfl (n' := 152) ?_
      refine sd_g10_0 C sd_i0 sd_k0 sd_w328 dX10_setAll_152 rfl (n' := 155) ?_
      refine sd_iload_n C 3 dX10_setAll_155 rfl rfl rfl (n' := 156) ?_
      obtain ⟨b156, hF⟩ := sd_ok hF
      refine sd_cald C sd_i1 sd_k1 sd_n1 b156 dX10_setAll_156 rfl (n' := 157) ?_
      refine sd_iload C 4 dX10_setAll_157 rfl rfl (n' := 159) ?_
      obtain ⟨q159, e159, hF⟩ := sd_bind hF
      refine sd_callVI [.int x4] [.int (x4 + (1 : Int32)), .int x2, .ref (E.2.2 (23 + 1 + 2 * x1.toNatClampNeg))] C (ct_X1_cell M (1 + 1 + 2 * x3.toNatClampNeg) x4 ((sd_r1 _ (sd_in_lt b156)).1) e159) sd_lX10_192 ⟨rfl, rfl, Nat.le_of_ble_eq_true rfl, Nat.le_of_ble_eq_true rfl⟩ (sd_mC (sd_r1 _ (sd_in_lt b156)).2) (sd_e2 ((sd_r1 _ (sd_in_lt b156)).1)) rfl rfl rfl (Nat.le_of_ble_eq_true rfl) dX10_setAll_159 rfl (n' := 162) ?_
      refine sd_i2b C dX10_setAll_162 rfl (n' := 163) ?_
      obtain ⟨q163, e163, hF⟩ := sd_bind hF
      refine sd_callVI [.int x2, .int (x4 + (1 : Int32)), .int q159.toInt8.toInt32] [] C (ct_X9_swap M (23 + 1 + 2 * x1.toNatClampNeg) x2 (x4 + (1 : Int32)) q159.toInt8.toInt32 ((sd_r23 _ (sd_in_lt b145)).1) e163) sd_lX10_189 ⟨rfl, rfl, Nat.le_of_ble_eq_true rfl, Nat.le_of_ble_eq_true rfl⟩ (sd_mC (sd_r23 _ (sd_in_lt b145)).2) (sd_e10 ((sd_r23 _ (sd_in_lt b145)).1)) rfl rfl rfl (Nat.le_of_ble_eq_true rfl) dX10_setAll_163 rfl (n' := 166) ?_
      refine sd_pop C dX10_setAll_166 rfl rfl (n' := 167) ?_
      refine sd_iinc [(4, .int (x4 + (1 : Int32))), (0, .ref (E.2.2 0)), (1, .int x1), (2, .int x2), (3, .int x3)] 4 C dX10_setAll_167 rfl rfl (by decide) rfl rfl (n' := 170) ?_
      refine sd_goto C (tgt := 133) dX10_setAll_170 rfl ?_
      refine sd_sub [1, 2, 3, 4, 0] rfl ?_
      exact ih q163.2 x1 x2 x3 (x4 + (1 : Int32)) hF
set_option maxRecDepth 100000 in
set_option maxHeartbeats 4000000 in
theorem tb_X10_setAll_84 {K : sd_K} {E : sd_Env}   {r : (Int32 × sd_Mem)} (C : sd_C K E sd_LC RX10 cX10_setAll 5 (some .int))  : ∀ (n : Nat), ∀ (M : sd_Mem) (x1 : Int32) (x2 : Int32) (x3 : Int32) (x4 : Int32), fn_X10_setAll_84 n M x1 x2 x3 x4 = some r → sd_Z K rm_X10_setAll E sd_LC 5 (sd_QI K E sd_LC r.1 r.2) M 84 [(0, .ref (E.2.2 0)), (1, .int x1), (2, .int x2), (3, .int x3), (4, .int x4)] [] := by
  intro n
  induction n with
  | zero => intro M x1 x2 x3 x4 hF; cases hF
  | succ n ih =>
    intro M x1 x2 x3 x4 hF
    unfold fn_X10_setAll_84 at hF
    refine sd_iload C 4 dX10_setAll_84 rfl rfl (n' := 86) ?_
    refine sd_bipush C (v := 10) dX10_setAll_86 rfl rfl (n' := 88) ?_
    refine sd_icmp_ge C (n' := 91) (tgt := 130) dX10_setAll_88 rfl rfl (fun c88 => ?_) (fun c88 => ?_)
    · replace hF := sd_pos hF c88
      refine sd_iconst C (v := 0) dX10_setAll_130 rfl rfl (n' := 131) ?_
      refine sd_istore [(4, .int (0 : Int32)), (0, .ref (E.2.2 0)), (1, .int x1), (2, .int x2), (3, .int x3)] C dX10_setAll_131 (by decide) rfl rfl (n' := 133) ?_
      refine sd_sub [1, 2, 3, 4, 0] rfl ?_
      exact tb_X10_setAll_133 C sd_FU M x1 x2 x3 (0 : Int32) hF
    · replace hF := sd_neg hF c88
      refine sd_aload_n C 0 dX10_setAll_91 rfl rfl rfl (n' := 92) ?_
      refine sd_g10_2 C sd_i0 sd_k0 sd_w330 dX10_setAll_92 rfl (n' := 95) ?_
      refine sd_iload_n C 1 dX10_setAll_95 rfl rfl rfl (n' := 96) ?_
      obtain ⟨b96, hF⟩ := sd_ok hF
      refine sd_wald C sd_i23 sd_k23 sd_n23 b96 dX10_setAll_96 rfl (n' := 97) ?_
      refine sd_aload_n C 0 dX10_setAll_97 rfl rfl rfl (n' := 98) ?_
      refine sd_g10_0 C sd_i0 sd_k0 sd_w328 dX10_setAll_98 rfl (n' := 101) ?_
      refine sd_iload_n C 3 dX10_setAll_101 rfl rfl rfl (n' := 102) ?_
      obtain ⟨b102, hF⟩ := sd_ok hF
      refine sd_cald C sd_i1 sd_k1 sd_n1 b102 dX10_setAll_102 rfl (n' := 103) ?_
      refine sd_iload C 4 dX10_setAll_103 rfl rfl (n' := 105) ?_
      obtain ⟨q105, e105, hF⟩ := sd_bind hF
      refine sd_callVI [.int x4] [.ref (E.2.2 (23 + 1 + 2 * x1.toNatClampNeg))] C (ct_X1_cell M (1 + 1 + 2 * x3.toNatClampNeg) x4 ((sd_r1 _ (sd_in_lt b102)).1) e105) sd_lX10_192 ⟨rfl, rfl, Nat.le_of_ble_eq_true rfl, Nat.le_of_ble_eq_true rfl⟩ (sd_mC (sd_r1 _ (sd_in_lt b102)).2) (sd_e2 ((sd_r1 _ (sd_in_lt b102)).1)) rfl rfl rfl (Nat.le_of_ble_eq_true rfl) dX10_setAll_105 rfl (n' := 108) ?_
      refine sd_i2b C dX10_setAll_108 rfl (n' := 109) ?_
      obtain ⟨q109, e109, hF⟩ := sd_bind hF
      refine sd_callVI [.int q105.toInt8.toInt32] [] C (ct_X9_fits M (23 + 1 + 2 * x1.toNatClampNeg) q105.toInt8.toInt32 ((sd_r23 _ (sd_in_lt b96)).1) e109) sd_lX10_186 ⟨rfl, rfl, Nat.le_of_ble_eq_true rfl, Nat.le_of_ble_eq_true rfl⟩ (sd_mC (sd_r23 _ (sd_in_lt b96)).2) (sd_e10 ((sd_r23 _ (sd_in_lt b96)).1)) rfl rfl rfl (Nat.le_of_ble_eq_true rfl) dX10_setAll_109 rfl (n' := 112) ?_
      refine sd_if_ne C (n' := 115) (tgt := 124) dX10_setAll_112 rfl rfl (fun c112 => ?_) (fun c112 => ?_)
      · replace hF := sd_neg hF c112
        refine sd_iinc [(4, .int (x4 + (1 : Int32))), (0, .ref (E.2.2 0)), (1, .int x1), (2, .int x2), (3, .int x3)] 4 C dX10_setAll_124 rfl rfl (by decide) rfl rfl (n' := 127) ?_
        refine sd_goto C (tgt := 84) dX10_setAll_127 rfl ?_
        refine sd_sub [1, 2, 3, 4, 0] rfl ?_
        exact ih M x1 x2 x3 (x4 + (1 : Int32)) hF
      · replace hF := sd_pos hF c112
        refine sd_sub [0] rfl ?_
        exact tb_X10_setAll_115 C M hF
set_option maxRecDepth 100000 in
set_option maxHeartbeats 4000000 in
theorem tb_X10_setAll_0 {K : sd_K} {E : sd_Env}   {r : (Int32 × sd_Mem)} (C : sd_C K E sd_LC RX10 cX10_setAll 5 (some .int))  : ∀ (M : sd_Mem) (x1 : Int32) (x2 : Int32) (x3 : Int32), fn_X10_setAll_0 M x1 x2 x3 = some r → sd_Z K rm_X10_setAll E sd_LC 5 (sd_QI K E sd_LC r.1 r.2) M 0 [(0, .ref (E.2.2 0)), (1, .int x1), (2, .int x2), (3, .int x3)] [] := by
  intro M x1 x2 x3 hF
  unfold fn_X10_setAll_0 at hF
  refine sd_iload_n C 1 dX10_setAll_0 rfl rfl rfl (n' := 1) ?_
  obtain ⟨q1, e1, hF⟩ := sd_bind hF
  refine sd_callSI [.int x1] [] C (ct_X10_isWay M x1  e1) sd_lX10_177 ⟨rfl, rfl, Nat.le_of_ble_eq_true rfl, Nat.le_of_ble_eq_true rfl⟩ rfl (Nat.le_of_ble_eq_true rfl) dX10_setAll_1 rfl (n' := 4) ?_
  refine sd_if_eq C (n' := 7) (tgt := 23) dX10_setAll_4 rfl rfl (fun c4 => ?_) (fun c4 => ?_)
  · replace hF := sd_pos hF c4
    refine sd_iconst C (v := -1) dX10_setAll_23 rfl rfl (n' := 24) ?_
    exact sd_iret C dX10_setAll_24 (sd_fst hF) (sd_snd hF)
  · replace hF := sd_neg hF c4
    refine sd_iload_n C 2 dX10_setAll_7 rfl rfl rfl (n' := 8) ?_
    refine sd_iconst C (v := 0) dX10_setAll_8 rfl rfl (n' := 9) ?_
    refine sd_iconst C (v := 2) dX10_setAll_9 rfl rfl (n' := 10) ?_
    obtain ⟨q10, e10, hF⟩ := sd_bind hF
    refine sd_callSI [.int x2, .int (0 : Int32), .int (2 : Int32)] [] C (ct_X10_within M x2 (0 : Int32) (2 : Int32)  e10) sd_lX10_152 ⟨rfl, rfl, Nat.le_of_ble_eq_true rfl, Nat.le_of_ble_eq_true rfl⟩ rfl (Nat.le_of_ble_eq_true rfl) dX10_setAll_10 rfl (n' := 13) ?_
    refine sd_if_eq C (n' := 16) (tgt := 23) dX10_setAll_13 rfl rfl (fun c13 => ?_) (fun c13 => ?_)
    · replace hF := sd_pos hF c13
      refine sd_iconst C (v := -1) dX10_setAll_23 rfl rfl (n' := 24) ?_
      exact sd_iret C dX10_setAll_24 (sd_fst hF) (sd_snd hF)
    · replace hF := sd_neg hF c13
      refine sd_iload_n C 3 dX10_setAll_16 rfl rfl rfl (n' := 17) ?_
      obtain ⟨q17, e17, hF⟩ := sd_bind hF
      refine sd_callSI [.int x3] [] C (ct_X10_isRow M x3  e17) sd_lX10_96 ⟨rfl, rfl, Nat.le_of_ble_eq_true rfl, Nat.le_of_ble_eq_true rfl⟩ rfl (Nat.le_of_ble_eq_true rfl) dX10_setAll_17 rfl (n' := 20) ?_
      refine sd_if_ne C (n' := 23) (tgt := 25) dX10_setAll_20 rfl rfl (fun c20 => ?_) (fun c20 => ?_)
      · replace hF := sd_neg hF c20
        refine sd_aload_n C 0 dX10_setAll_25 rfl rfl rfl (n' := 26) ?_
        refine sd_g10_2 C sd_i0 sd_k0 sd_w330 dX10_setAll_26 rfl (n' := 29) ?_
        refine sd_iload_n C 1 dX10_setAll_29 rfl rfl rfl (n' := 30) ?_
        obtain ⟨b30, hF⟩ := sd_ok hF
        refine sd_wald C sd_i23 sd_k23 sd_n23 b30 dX10_setAll_30 rfl (n' := 31) ?_
        obtain ⟨q31, e31, hF⟩ := sd_bind hF
        refine sd_callVI [] [] C (ct_X9_isMissing M (23 + 1 + 2 * x1.toNatClampNeg) ((sd_r23 _ (sd_in_lt b30)).1) e31) sd_lX10_185 ⟨rfl, rfl, Nat.le_of_ble_eq_true rfl, Nat.le_of_ble_eq_true rfl⟩ (sd_mC (sd_r23 _ (sd_in_lt b30)).2) (sd_e10 ((sd_r23 _ (sd_in_lt b30)).1)) rfl rfl rfl (Nat.le_of_ble_eq_true rfl) dX10_setAll_31 rfl (n' := 34) ?_
        refine sd_if_ne C (n' := 37) (tgt := 49) dX10_setAll_34 rfl rfl (fun c34 => ?_) (fun c34 => ?_)
        · replace hF := sd_neg hF c34
          refine sd_aload_n C 0 dX10_setAll_49 rfl rfl rfl (n' := 50) ?_
          refine sd_g10_12 C sd_i0 sd_k0 sd_w340 dX10_setAll_50 rfl (n' := 53) ?_
          refine sd_iconst C (v := 1) dX10_setAll_53 rfl rfl (n' := 54) ?_
          obtain ⟨q54, e54, hF⟩ := sd_bind hF
          refine sd_callVI [.int (1 : Int32)] [] C (ct_X2_tell M (1 : Int32)  e54) sd_lX10_100 ⟨rfl, rfl, Nat.le_of_ble_eq_true rfl, Nat.le_of_ble_eq_true rfl⟩ sd_i97 (sd_e3 sd_k97) rfl rfl rfl (Nat.le_of_ble_eq_true rfl) dX10_setAll_54 rfl (n' := 57) ?_
          exact sd_iret C dX10_setAll_57 (sd_fst hF) (sd_snd hF)
        · replace hF := sd_pos hF c34
          refine sd_aload_n C 0 dX10_setAll_37 rfl rfl rfl (n' := 38) ?_
          refine sd_g10_0 C sd_i0 sd_k0 sd_w328 dX10_setAll_38 rfl (n' := 41) ?_
          refine sd_iload_n C 3 dX10_setAll_41 rfl rfl rfl (n' := 42) ?_
          obtain ⟨b42, hF⟩ := sd_ok hF
          refine sd_cald C sd_i1 sd_k1 sd_n1 b42 dX10_setAll_42 rfl (n' := 43) ?_
          obtain ⟨q43, e43, hF⟩ := sd_bind hF
          refine sd_callVI [] [] C (ct_X1_isMissing M (1 + 1 + 2 * x3.toNatClampNeg) ((sd_r1 _ (sd_in_lt b42)).1) e43) sd_lX10_108 ⟨rfl, rfl, Nat.le_of_ble_eq_true rfl, Nat.le_of_ble_eq_true rfl⟩ (sd_mC (sd_r1 _ (sd_in_lt b42)).2) (sd_e2 ((sd_r1 _ (sd_in_lt b42)).1)) rfl rfl rfl (Nat.le_of_ble_eq_true rfl) dX10_setAll_43 rfl (n' := 46) ?_
          refine sd_if_eq C (n' := 49) (tgt := 58) dX10_setAll_46 rfl rfl (fun c46 => ?_) (fun c46 => ?_)
          · replace hF := sd_pos hF c46
            refine sd_aload_n C 0 dX10_setAll_58 rfl rfl rfl (n' := 59) ?_
            refine sd_g10_0 C sd_i0 sd_k0 sd_w328 dX10_setAll_59 rfl (n' := 62) ?_
            refine sd_iload_n C 3 dX10_setAll_62 rfl rfl rfl (n' := 63) ?_
            obtain ⟨b63, hF⟩ := sd_ok hF
            refine sd_cald C sd_i1 sd_k1 sd_n1 b63 dX10_setAll_63 rfl (n' := 64) ?_
            obtain ⟨q64, e64, hF⟩ := sd_bind hF
            refine sd_callVI [] [] C (ct_X1_size M (1 + 1 + 2 * x3.toNatClampNeg) ((sd_r1 _ (sd_in_lt b63)).1) e64) sd_lX10_127 ⟨rfl, rfl, Nat.le_of_ble_eq_true rfl, Nat.le_of_ble_eq_true rfl⟩ (sd_mC (sd_r1 _ (sd_in_lt b63)).2) (sd_e2 ((sd_r1 _ (sd_in_lt b63)).1)) rfl rfl rfl (Nat.le_of_ble_eq_true rfl) dX10_setAll_64 rfl (n' := 67) ?_
            refine sd_bipush C (v := 10) dX10_setAll_67 rfl rfl (n' := 69) ?_
            refine sd_icmp_eq C (n' := 72) (tgt := 81) dX10_setAll_69 rfl rfl (fun c69 => ?_) (fun c69 => ?_)
            · replace hF := sd_pos hF c69
              refine sd_iconst C (v := 0) dX10_setAll_81 rfl rfl (n' := 82) ?_
              refine sd_istore [(4, .int (0 : Int32)), (0, .ref (E.2.2 0)), (1, .int x1), (2, .int x2), (3, .int x3)] C dX10_setAll_82 (by decide) rfl rfl (n' := 84) ?_
              refine sd_sub [1, 2, 3, 4, 0] rfl ?_
              exact tb_X10_setAll_84 C sd_FU M x1 x2 x3 (0 : Int32) hF
            · replace hF := sd_neg hF c69
              refine sd_aload_n C 0 dX10_setAll_72 rfl rfl rfl (n' := 73) ?_
              refine sd_g10_12 C sd_i0 sd_k0 sd_w340 dX10_setAll_73 rfl (n' := 76) ?_
              refine sd_iconst C (v := 5) dX10_setAll_76 rfl rfl (n' := 77) ?_
              obtain ⟨q77, e77, hF⟩ := sd_bind hF
              refine sd_callVI [.int (5 : Int32)] [] C (ct_X2_tell M (5 : Int32)  e77) sd_lX10_100 ⟨rfl, rfl, Nat.le_of_ble_eq_true rfl, Nat.le_of_ble_eq_true rfl⟩ sd_i97 (sd_e3 sd_k97) rfl rfl rfl (Nat.le_of_ble_eq_true rfl) dX10_setAll_77 rfl (n' := 80) ?_
              exact sd_iret C dX10_setAll_80 (sd_fst hF) (sd_snd hF)
          · replace hF := sd_neg hF c46
            refine sd_aload_n C 0 dX10_setAll_49 rfl rfl rfl (n' := 50) ?_
            refine sd_g10_12 C sd_i0 sd_k0 sd_w340 dX10_setAll_50 rfl (n' := 53) ?_
            refine sd_iconst C (v := 1) dX10_setAll_53 rfl rfl (n' := 54) ?_
            obtain ⟨q54, e54, hF⟩ := sd_bind hF
            refine sd_callVI [.int (1 : Int32)] [] C (ct_X2_tell M (1 : Int32)  e54) sd_lX10_100 ⟨rfl, rfl, Nat.le_of_ble_eq_true rfl, Nat.le_of_ble_eq_true rfl⟩ sd_i97 (sd_e3 sd_k97) rfl rfl rfl (Nat.le_of_ble_eq_true rfl) dX10_setAll_54 rfl (n' := 57) ?_
            exact sd_iret C dX10_setAll_57 (sd_fst hF) (sd_snd hF)
      · replace hF := sd_pos hF c20
        refine sd_iconst C (v := -1) dX10_setAll_23 rfl rfl (n' := 24) ?_
        exact sd_iret C dX10_setAll_24 (sd_fst hF) (sd_snd hF)
theorem ct_X10_setAll {l : Launch} {E : sd_Env} (M : sd_Mem) (x1 : Int32) (x2 : Int32) (x3 : Int32)  {r : (Int32 × sd_Mem)} (hF : fn_X10_setAll M x1 x2 x3 = some r) : sd_MI l E sd_LC yX10_setAll cX10_setAll 5 (some .int) rm_X10_setAll [.ref (E.2.2 0), .int x1, .int x2, .int x3] M r.1 r.2 := sd_ent0 (by decide +kernel) (Nat.le_of_ble_eq_true rfl) (fun p e s m below meth c C => tb_X10_setAll_0 C M x1 x2 x3 hF)
theorem dX10_at_0 : decode cX10_at 0 = .ok (.iload_n 1, 1) := by decide +kernel
theorem dX10_at_1 : decode cX10_at 1 = .ok (.invokestatic 177, 3) := by decide +kernel
theorem dX10_at_4 : decode cX10_at 4 = .ok (.ifCond .eq 11, 3) := by decide +kernel
theorem dX10_at_7 : decode cX10_at 7 = .ok (.iload_n 2, 1) := by decide +kernel
theorem dX10_at_8 : decode cX10_at 8 = .ok (.iload_n 3, 1) := by decide +kernel
theorem dX10_at_9 : decode cX10_at 9 = .ok (.invokestatic 182, 3) := by decide +kernel
theorem dX10_at_12 : decode cX10_at 12 = .ok (.ifCond .ne 5, 3) := by decide +kernel
theorem dX10_at_15 : decode cX10_at 15 = .ok (.iconst (-1), 1) := by decide +kernel
theorem dX10_at_16 : decode cX10_at 16 = .ok (.ireturn, 1) := by decide +kernel
theorem dX10_at_17 : decode cX10_at 17 = .ok (.aload_n 0, 1) := by decide +kernel
theorem dX10_at_18 : decode cX10_at 18 = .ok (.getfield 20, 3) := by decide +kernel
theorem dX10_at_21 : decode cX10_at 21 = .ok (.iload_n 1, 1) := by decide +kernel
theorem dX10_at_22 : decode cX10_at 22 = .ok (.aaload, 1) := by decide +kernel
theorem dX10_at_23 : decode cX10_at 23 = .ok (.invokevirtual 185, 3) := by decide +kernel
theorem dX10_at_26 : decode cX10_at 26 = .ok (.ifCond .eq 12, 3) := by decide +kernel
theorem dX10_at_29 : decode cX10_at 29 = .ok (.aload_n 0, 1) := by decide +kernel
theorem dX10_at_30 : decode cX10_at 30 = .ok (.getfield 84, 3) := by decide +kernel
theorem dX10_at_33 : decode cX10_at 33 = .ok (.iconst 1, 1) := by decide +kernel
theorem dX10_at_34 : decode cX10_at 34 = .ok (.invokevirtual 100, 3) := by decide +kernel
theorem dX10_at_37 : decode cX10_at 37 = .ok (.ireturn, 1) := by decide +kernel
theorem dX10_at_38 : decode cX10_at 38 = .ok (.aload_n 0, 1) := by decide +kernel
theorem dX10_at_39 : decode cX10_at 39 = .ok (.getfield 20, 3) := by decide +kernel
theorem dX10_at_42 : decode cX10_at 42 = .ok (.iload_n 1, 1) := by decide +kernel
theorem dX10_at_43 : decode cX10_at 43 = .ok (.aaload, 1) := by decide +kernel
theorem dX10_at_44 : decode cX10_at 44 = .ok (.iload_n 2, 1) := by decide +kernel
theorem dX10_at_45 : decode cX10_at 45 = .ok (.iload_n 3, 1) := by decide +kernel
theorem dX10_at_46 : decode cX10_at 46 = .ok (.invokevirtual 195, 3) := by decide +kernel
theorem dX10_at_49 : decode cX10_at 49 = .ok (.ireturn, 1) := by decide +kernel
set_option maxRecDepth 100000 in
set_option maxHeartbeats 4000000 in
theorem tb_X10_at_0 {K : sd_K} {E : sd_Env}   {r : (Int32 × sd_Mem)} (C : sd_C K E sd_LC RX10 cX10_at 4 (some .int))  : ∀ (M : sd_Mem) (x1 : Int32) (x2 : Int32) (x3 : Int32), fn_X10_at_0 M x1 x2 x3 = some r → sd_Z K rm_X10_at E sd_LC 4 (sd_QI K E sd_LC r.1 r.2) M 0 [(0, .ref (E.2.2 0)), (1, .int x1), (2, .int x2), (3, .int x3)] [] := by
  intro M x1 x2 x3 hF
  unfold fn_X10_at_0 at hF
  refine sd_iload_n C 1 dX10_at_0 rfl rfl rfl (n' := 1) ?_
  obtain ⟨q1, e1, hF⟩ := sd_bind hF
  refine sd_callSI [.int x1] [] C (ct_X10_isWay M x1  e1) sd_lX10_177 ⟨rfl, rfl, Nat.le_of_ble_eq_true rfl, Nat.le_of_ble_eq_true rfl⟩ rfl (Nat.le_of_ble_eq_true rfl) dX10_at_1 rfl (n' := 4) ?_
  refine sd_if_eq C (n' := 7) (tgt := 15) dX10_at_4 rfl rfl (fun c4 => ?_) (fun c4 => ?_)
  · replace hF := sd_pos hF c4
    refine sd_iconst C (v := -1) dX10_at_15 rfl rfl (n' := 16) ?_
    exact sd_iret C dX10_at_16 (sd_fst hF) (sd_snd hF)
  · replace hF := sd_neg hF c4
    refine sd_iload_n C 2 dX10_at_7 rfl rfl rfl (n' := 8) ?_
    refine sd_iload_n C 3 dX10_at_8 rfl rfl rfl (n' := 9) ?_
    obtain ⟨q9, e9, hF⟩ := sd_bind hF
    refine sd_callSI [.int x2, .int x3] [] C (ct_X10_isPlace M x2 x3  e9) sd_lX10_182 ⟨rfl, rfl, Nat.le_of_ble_eq_true rfl, Nat.le_of_ble_eq_true rfl⟩ rfl (Nat.le_of_ble_eq_true rfl) dX10_at_9 rfl (n' := 12) ?_
    refine sd_if_ne C (n' := 15) (tgt := 17) dX10_at_12 rfl rfl (fun c12 => ?_) (fun c12 => ?_)
    · replace hF := sd_neg hF c12
      refine sd_aload_n C 0 dX10_at_17 rfl rfl rfl (n' := 18) ?_
      refine sd_g10_2 C sd_i0 sd_k0 sd_w330 dX10_at_18 rfl (n' := 21) ?_
      refine sd_iload_n C 1 dX10_at_21 rfl rfl rfl (n' := 22) ?_
      obtain ⟨b22, hF⟩ := sd_ok hF
      refine sd_wald C sd_i23 sd_k23 sd_n23 b22 dX10_at_22 rfl (n' := 23) ?_
      obtain ⟨q23, e23, hF⟩ := sd_bind hF
      refine sd_callVI [] [] C (ct_X9_isMissing M (23 + 1 + 2 * x1.toNatClampNeg) ((sd_r23 _ (sd_in_lt b22)).1) e23) sd_lX10_185 ⟨rfl, rfl, Nat.le_of_ble_eq_true rfl, Nat.le_of_ble_eq_true rfl⟩ (sd_mC (sd_r23 _ (sd_in_lt b22)).2) (sd_e10 ((sd_r23 _ (sd_in_lt b22)).1)) rfl rfl rfl (Nat.le_of_ble_eq_true rfl) dX10_at_23 rfl (n' := 26) ?_
      refine sd_if_eq C (n' := 29) (tgt := 38) dX10_at_26 rfl rfl (fun c26 => ?_) (fun c26 => ?_)
      · replace hF := sd_pos hF c26
        refine sd_aload_n C 0 dX10_at_38 rfl rfl rfl (n' := 39) ?_
        refine sd_g10_2 C sd_i0 sd_k0 sd_w330 dX10_at_39 rfl (n' := 42) ?_
        refine sd_iload_n C 1 dX10_at_42 rfl rfl rfl (n' := 43) ?_
        obtain ⟨b43, hF⟩ := sd_ok hF
        refine sd_wald C sd_i23 sd_k23 sd_n23 b43 dX10_at_43 rfl (n' := 44) ?_
        refine sd_iload_n C 2 dX10_at_44 rfl rfl rfl (n' := 45) ?_
        refine sd_iload_n C 3 dX10_at_45 rfl rfl rfl (n' := 46) ?_
        obtain ⟨q46, e46, hF⟩ := sd_bind hF
        refine sd_callVI [.int x2, .int x3] [] C (ct_X9_number M (23 + 1 + 2 * x1.toNatClampNeg) x2 x3 ((sd_r23 _ (sd_in_lt b43)).1) e46) sd_lX10_195 ⟨rfl, rfl, Nat.le_of_ble_eq_true rfl, Nat.le_of_ble_eq_true rfl⟩ (sd_mC (sd_r23 _ (sd_in_lt b43)).2) (sd_e10 ((sd_r23 _ (sd_in_lt b43)).1)) rfl rfl rfl (Nat.le_of_ble_eq_true rfl) dX10_at_46 rfl (n' := 49) ?_
        exact sd_iret C dX10_at_49 (sd_fst hF) (sd_snd hF)
      · replace hF := sd_neg hF c26
        refine sd_aload_n C 0 dX10_at_29 rfl rfl rfl (n' := 30) ?_
        refine sd_g10_12 C sd_i0 sd_k0 sd_w340 dX10_at_30 rfl (n' := 33) ?_
        refine sd_iconst C (v := 1) dX10_at_33 rfl rfl (n' := 34) ?_
        obtain ⟨q34, e34, hF⟩ := sd_bind hF
        refine sd_callVI [.int (1 : Int32)] [] C (ct_X2_tell M (1 : Int32)  e34) sd_lX10_100 ⟨rfl, rfl, Nat.le_of_ble_eq_true rfl, Nat.le_of_ble_eq_true rfl⟩ sd_i97 (sd_e3 sd_k97) rfl rfl rfl (Nat.le_of_ble_eq_true rfl) dX10_at_34 rfl (n' := 37) ?_
        exact sd_iret C dX10_at_37 (sd_fst hF) (sd_snd hF)
    · replace hF := sd_pos hF c12
      refine sd_iconst C (v := -1) dX10_at_15 rfl rfl (n' := 16) ?_
      exact sd_iret C dX10_at_16 (sd_fst hF) (sd_snd hF)
theorem ct_X10_at {l : Launch} {E : sd_Env} (M : sd_Mem) (x1 : Int32) (x2 : Int32) (x3 : Int32)  {r : (Int32 × sd_Mem)} (hF : fn_X10_at M x1 x2 x3 = some r) : sd_MI l E sd_LC yX10_at cX10_at 4 (some .int) rm_X10_at [.ref (E.2.2 0), .int x1, .int x2, .int x3] M r.1 r.2 := sd_ent0 (by decide +kernel) (Nat.le_of_ble_eq_true rfl) (fun p e s m below meth c C => tb_X10_at_0 C M x1 x2 x3 hF)
theorem dX9_ownKind_0 : decode cX9_ownKind 0 = .ok (.aload_n 0, 1) := by decide +kernel
theorem dX9_ownKind_1 : decode cX9_ownKind 1 = .ok (.getfield 15, 3) := by decide +kernel
theorem dX9_ownKind_4 : decode cX9_ownKind 4 = .ok (.ireturn, 1) := by decide +kernel
set_option maxRecDepth 100000 in
set_option maxHeartbeats 4000000 in
theorem tb_X9_ownKind_0 {K : sd_K} {E : sd_Env} {M : sd_Mem} {h0 : Nat} {r : Int32} (C : sd_C K E sd_LC RX9 cX9_ownKind 1 (some .int)) (k0 : sd_kd h0 = 10) : fn_X9_ownKind_0 M h0 = some r → sd_Z K rm_X9_ownKind E sd_LC 1 (sd_QI K E sd_LC r M) M 0 [(0, .ref (E.2.2 h0))] [] := by
  intro hF
  unfold fn_X9_ownKind_0 at hF
  refine sd_aload_n C 0 dX9_ownKind_0 rfl rfl rfl (n' := 1) ?_
  refine sd_g9_1 C (sd_mC (sd_m10 k0)) k0 sd_w322 dX9_ownKind_1 rfl (n' := 4) ?_
  exact sd_iret C dX9_ownKind_4 (Option.some.inj hF) rfl
theorem ct_X9_ownKind {l : Launch} {E : sd_Env} (M : sd_Mem) (h0 : Nat) (k0 : sd_kd h0 = 10) {r : Int32} (hF : fn_X9_ownKind M h0 = some r) : sd_MI l E sd_LC yX9_ownKind cX9_ownKind 1 (some .int) rm_X9_ownKind [.ref (E.2.2 h0)] M r M := sd_ent0 (by decide +kernel) (Nat.le_of_ble_eq_true rfl) (fun p e s m below meth c C => tb_X9_ownKind_0 C k0 hF)
