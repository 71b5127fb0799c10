theorem dX11_goesOn_0 : decode cX11_goesOn 0 = .ok (.iconst 0, 1) := by decide +kernel
theorem dX11_goesOn_1 : decode cX11_goesOn 1 = .ok (.istore_n 2, 1) := by decide +kernel
theorem dX11_goesOn_2 : decode cX11_goesOn 2 = .ok (.iload_n 2, 1) := by decide +kernel
theorem dX11_goesOn_3 : decode cX11_goesOn 3 = .ok (.bipush 6, 2) := by decide +kernel
theorem dX11_goesOn_5 : decode cX11_goesOn 5 = .ok (.if_icmp .ge 34, 3) := by decide +kernel
theorem dX11_goesOn_8 : decode cX11_goesOn 8 = .ok (.aload_n 0, 1) := by decide +kernel
theorem dX11_goesOn_9 : decode cX11_goesOn 9 = .ok (.dup, 1) := by decide +kernel
theorem dX11_goesOn_10 : decode cX11_goesOn 10 = .ok (.getfield 274, 3) := by decide +kernel
theorem dX11_goesOn_13 : decode cX11_goesOn 13 = .ok (.aload_n 0, 1) := by decide +kernel
theorem dX11_goesOn_14 : decode cX11_goesOn 14 = .ok (.getfield 85, 3) := by decide +kernel
theorem dX11_goesOn_17 : decode cX11_goesOn 17 = .ok (.iload_n 2, 1) := by decide +kernel
theorem dX11_goesOn_18 : decode cX11_goesOn 18 = .ok (.iaload, 1) := by decide +kernel
theorem dX11_goesOn_19 : decode cX11_goesOn 19 = .ok (.ifCond .ne 9, 3) := by decide +kernel
theorem dX11_goesOn_22 : decode cX11_goesOn 22 = .ok (.iconst 1, 1) := by decide +kernel
theorem dX11_goesOn_23 : decode cX11_goesOn 23 = .ok (.iload_n 2, 1) := by decide +kernel
theorem dX11_goesOn_24 : decode cX11_goesOn 24 = .ok (.ishl, 1) := by decide +kernel
theorem dX11_goesOn_25 : decode cX11_goesOn 25 = .ok (.goto 4, 3) := by decide +kernel
theorem dX11_goesOn_28 : decode cX11_goesOn 28 = .ok (.iconst 0, 1) := by decide +kernel
theorem dX11_goesOn_29 : decode cX11_goesOn 29 = .ok (.ior, 1) := by decide +kernel
theorem dX11_goesOn_30 : decode cX11_goesOn 30 = .ok (.putfield 274, 3) := by decide +kernel
theorem dX11_goesOn_33 : decode cX11_goesOn 33 = .ok (.iinc 2 1, 3) := by decide +kernel
theorem dX11_goesOn_36 : decode cX11_goesOn 36 = .ok (.goto (-34), 3) := by decide +kernel
theorem dX11_goesOn_39 : decode cX11_goesOn 39 = .ok (.iconst 1, 1) := by decide +kernel
theorem dX11_goesOn_40 : decode cX11_goesOn 40 = .ok (.istore_n 2, 1) := by decide +kernel
theorem dX11_goesOn_41 : decode cX11_goesOn 41 = .ok (.iload_n 2, 1) := by decide +kernel
theorem dX11_goesOn_42 : decode cX11_goesOn 42 = .ok (.ifCond .eq 86, 3) := by decide +kernel
theorem dX11_goesOn_45 : decode cX11_goesOn 45 = .ok (.aload_n 0, 1) := by decide +kernel
theorem dX11_goesOn_46 : decode cX11_goesOn 46 = .ok (.getfield 274, 3) := by decide +kernel
theorem dX11_goesOn_49 : decode cX11_goesOn 49 = .ok (.istore_n 3, 1) := by decide +kernel
theorem dX11_goesOn_50 : decode cX11_goesOn 50 = .ok (.iconst 0, 1) := by decide +kernel
theorem dX11_goesOn_51 : decode cX11_goesOn 51 = .ok (.istore 4, 2) := by decide +kernel
theorem dX11_goesOn_53 : decode cX11_goesOn 53 = .ok (.iload 4, 2) := by decide +kernel
theorem dX11_goesOn_55 : decode cX11_goesOn 55 = .ok (.bipush 6, 2) := by decide +kernel
theorem dX11_goesOn_57 : decode cX11_goesOn 57 = .ok (.if_icmp .ge 54, 3) := by decide +kernel
theorem dX11_goesOn_60 : decode cX11_goesOn 60 = .ok (.aload_n 0, 1) := by decide +kernel
theorem dX11_goesOn_61 : decode cX11_goesOn 61 = .ok (.dup, 1) := by decide +kernel
theorem dX11_goesOn_62 : decode cX11_goesOn 62 = .ok (.getfield 274, 3) := by decide +kernel
theorem dX11_goesOn_65 : decode cX11_goesOn 65 = .ok (.bipush 100, 2) := by decide +kernel
theorem dX11_goesOn_67 : decode cX11_goesOn 67 = .ok (.aload_n 0, 1) := by decide +kernel
theorem dX11_goesOn_68 : decode cX11_goesOn 68 = .ok (.aload_n 0, 1) := by decide +kernel
theorem dX11_goesOn_69 : decode cX11_goesOn 69 = .ok (.getfield 274, 3) := by decide +kernel
theorem dX11_goesOn_72 : decode cX11_goesOn 72 = .ok (.invokevirtual 287, 3) := by decide +kernel
theorem dX11_goesOn_75 : decode cX11_goesOn 75 = .ok (.imul, 1) := by decide +kernel
theorem dX11_goesOn_76 : decode cX11_goesOn 76 = .ok (.aload_n 0, 1) := by decide +kernel
theorem dX11_goesOn_77 : decode cX11_goesOn 77 = .ok (.getfield 82, 3) := by decide +kernel
theorem dX11_goesOn_80 : decode cX11_goesOn 80 = .ok (.iload 4, 2) := by decide +kernel
theorem dX11_goesOn_82 : decode cX11_goesOn 82 = .ok (.iaload, 1) := by decide +kernel
theorem dX11_goesOn_83 : decode cX11_goesOn 83 = .ok (.aload_n 0, 1) := by decide +kernel
theorem dX11_goesOn_84 : decode cX11_goesOn 84 = .ok (.bipush 63, 2) := by decide +kernel
theorem dX11_goesOn_86 : decode cX11_goesOn 86 = .ok (.invokevirtual 287, 3) := by decide +kernel
theorem dX11_goesOn_89 : decode cX11_goesOn 89 = .ok (.imul, 1) := by decide +kernel
theorem dX11_goesOn_90 : decode cX11_goesOn 90 = .ok (.if_icmp .lt 10, 3) := by decide +kernel
theorem dX11_goesOn_93 : decode cX11_goesOn 93 = .ok (.iconst 1, 1) := by decide +kernel
theorem dX11_goesOn_94 : decode cX11_goesOn 94 = .ok (.iload 4, 2) := by decide +kernel
theorem dX11_goesOn_96 : decode cX11_goesOn 96 = .ok (.ishl, 1) := by decide +kernel
theorem dX11_goesOn_97 : decode cX11_goesOn 97 = .ok (.goto 4, 3) := by decide +kernel
theorem dX11_goesOn_100 : decode cX11_goesOn 100 = .ok (.iconst 0, 1) := by decide +kernel
theorem dX11_goesOn_101 : decode cX11_goesOn 101 = .ok (.ior, 1) := by decide +kernel
theorem dX11_goesOn_102 : decode cX11_goesOn 102 = .ok (.putfield 274, 3) := by decide +kernel
theorem dX11_goesOn_105 : decode cX11_goesOn 105 = .ok (.iinc 4 1, 3) := by decide +kernel
theorem dX11_goesOn_108 : decode cX11_goesOn 108 = .ok (.goto (-55), 3) := by decide +kernel
theorem dX11_goesOn_111 : decode cX11_goesOn 111 = .ok (.aload_n 0, 1) := by decide +kernel
theorem dX11_goesOn_112 : decode cX11_goesOn 112 = .ok (.getfield 274, 3) := by decide +kernel
theorem dX11_goesOn_115 : decode cX11_goesOn 115 = .ok (.iload_n 3, 1) := by decide +kernel
theorem dX11_goesOn_116 : decode cX11_goesOn 116 = .ok (.if_icmp .eq 7, 3) := by decide +kernel
theorem dX11_goesOn_119 : decode cX11_goesOn 119 = .ok (.iconst 1, 1) := by decide +kernel
theorem dX11_goesOn_120 : decode cX11_goesOn 120 = .ok (.goto 4, 3) := by decide +kernel
theorem dX11_goesOn_123 : decode cX11_goesOn 123 = .ok (.iconst 0, 1) := by decide +kernel
theorem dX11_goesOn_124 : decode cX11_goesOn 124 = .ok (.istore_n 2, 1) := by decide +kernel
theorem dX11_goesOn_125 : decode cX11_goesOn 125 = .ok (.goto (-84), 3) := by decide +kernel
theorem dX11_goesOn_128 : decode cX11_goesOn 128 = .ok (.aload_n 0, 1) := by decide +kernel
theorem dX11_goesOn_129 : decode cX11_goesOn 129 = .ok (.bipush 63, 2) := by decide +kernel
theorem dX11_goesOn_131 : decode cX11_goesOn 131 = .ok (.invokevirtual 287, 3) := by decide +kernel
theorem dX11_goesOn_134 : decode cX11_goesOn 134 = .ok (.aload_n 0, 1) := by decide +kernel
theorem dX11_goesOn_135 : decode cX11_goesOn 135 = .ok (.aload_n 0, 1) := by decide +kernel
theorem dX11_goesOn_136 : decode cX11_goesOn 136 = .ok (.getfield 274, 3) := by decide +kernel
theorem dX11_goesOn_139 : decode cX11_goesOn 139 = .ok (.invokevirtual 287, 3) := by decide +kernel
theorem dX11_goesOn_142 : decode cX11_goesOn 142 = .ok (.isub, 1) := by decide +kernel
theorem dX11_goesOn_143 : decode cX11_goesOn 143 = .ok (.istore_n 3, 1) := by decide +kernel
theorem dX11_goesOn_144 : decode cX11_goesOn 144 = .ok (.aload_n 0, 1) := by decide +kernel
theorem dX11_goesOn_145 : decode cX11_goesOn 145 = .ok (.dup, 1) := by decide +kernel
theorem dX11_goesOn_146 : decode cX11_goesOn 146 = .ok (.getfield 277, 3) := by decide +kernel
theorem dX11_goesOn_149 : decode cX11_goesOn 149 = .ok (.iload_n 1, 1) := by decide +kernel
theorem dX11_goesOn_150 : decode cX11_goesOn 150 = .ok (.iadd, 1) := by decide +kernel
theorem dX11_goesOn_151 : decode cX11_goesOn 151 = .ok (.putfield 277, 3) := by decide +kernel
theorem dX11_goesOn_154 : decode cX11_goesOn 154 = .ok (.aload_n 0, 1) := by decide +kernel
theorem dX11_goesOn_155 : decode cX11_goesOn 155 = .ok (.getfield 277, 3) := by decide +kernel
theorem dX11_goesOn_158 : decode cX11_goesOn 158 = .ok (.iload_n 3, 1) := by decide +kernel
theorem dX11_goesOn_159 : decode cX11_goesOn 159 = .ok (.if_icmp .lt 7, 3) := by decide +kernel
theorem dX11_goesOn_162 : decode cX11_goesOn 162 = .ok (.iconst 1, 1) := by decide +kernel
theorem dX11_goesOn_163 : decode cX11_goesOn 163 = .ok (.goto 4, 3) := by decide +kernel
theorem dX11_goesOn_166 : decode cX11_goesOn 166 = .ok (.iconst 0, 1) := by decide +kernel
theorem dX11_goesOn_167 : decode cX11_goesOn 167 = .ok (.istore 4, 2) := by decide +kernel
theorem dX11_goesOn_169 : decode cX11_goesOn 169 = .ok (.aload_n 0, 1) := by decide +kernel
theorem dX11_goesOn_170 : decode cX11_goesOn 170 = .ok (.dup, 1) := by decide +kernel
theorem dX11_goesOn_171 : decode cX11_goesOn 171 = .ok (.getfield 277, 3) := by decide +kernel
theorem dX11_goesOn_174 : decode cX11_goesOn 174 = .ok (.iload 4, 2) := by decide +kernel
theorem dX11_goesOn_176 : decode cX11_goesOn 176 = .ok (.ifCond .eq 7, 3) := by decide +kernel
theorem dX11_goesOn_179 : decode cX11_goesOn 179 = .ok (.iload_n 3, 1) := by decide +kernel
theorem dX11_goesOn_180 : decode cX11_goesOn 180 = .ok (.goto 4, 3) := by decide +kernel
theorem dX11_goesOn_183 : decode cX11_goesOn 183 = .ok (.iconst 0, 1) := by decide +kernel
theorem dX11_goesOn_184 : decode cX11_goesOn 184 = .ok (.isub, 1) := by decide +kernel
theorem dX11_goesOn_185 : decode cX11_goesOn 185 = .ok (.putfield 277, 3) := by decide +kernel
theorem dX11_goesOn_188 : decode cX11_goesOn 188 = .ok (.aload_n 0, 1) := by decide +kernel
theorem dX11_goesOn_189 : decode cX11_goesOn 189 = .ok (.aload_n 0, 1) := by decide +kernel
theorem dX11_goesOn_190 : decode cX11_goesOn 190 = .ok (.getfield 283, 3) := by decide +kernel
theorem dX11_goesOn_193 : decode cX11_goesOn 193 = .ok (.ifCond .ne 8, 3) := by decide +kernel
theorem dX11_goesOn_196 : decode cX11_goesOn 196 = .ok (.iload 4, 2) := by decide +kernel
theorem dX11_goesOn_198 : decode cX11_goesOn 198 = .ok (.ifCond .ne 7, 3) := by decide +kernel
theorem dX11_goesOn_201 : decode cX11_goesOn 201 = .ok (.iconst 1, 1) := by decide +kernel
theorem dX11_goesOn_202 : decode cX11_goesOn 202 = .ok (.goto 4, 3) := by decide +kernel
theorem dX11_goesOn_205 : decode cX11_goesOn 205 = .ok (.iconst 0, 1) := by decide +kernel
theorem dX11_goesOn_206 : decode cX11_goesOn 206 = .ok (.putfield 283, 3) := by decide +kernel
theorem dX11_goesOn_209 : decode cX11_goesOn 209 = .ok (.aload_n 0, 1) := by decide +kernel
theorem dX11_goesOn_210 : decode cX11_goesOn 210 = .ok (.dup, 1) := by decide +kernel
theorem dX11_goesOn_211 : decode cX11_goesOn 211 = .ok (.getfield 280, 3) := by decide +kernel
theorem dX11_goesOn_214 : decode cX11_goesOn 214 = .ok (.aload_n 0, 1) := by decide +kernel
theorem dX11_goesOn_215 : decode cX11_goesOn 215 = .ok (.getfield 283, 3) := by decide +kernel
theorem dX11_goesOn_218 : decode cX11_goesOn 218 = .ok (.ifCond .eq 7, 3) := by decide +kernel
theorem dX11_goesOn_221 : decode cX11_goesOn 221 = .ok (.iconst 0, 1) := by decide +kernel
theorem dX11_goesOn_222 : decode cX11_goesOn 222 = .ok (.goto 4, 3) := by decide +kernel
theorem dX11_goesOn_225 : decode cX11_goesOn 225 = .ok (.iconst 1, 1) := by decide +kernel
theorem dX11_goesOn_226 : decode cX11_goesOn 226 = .ok (.iadd, 1) := by decide +kernel
theorem dX11_goesOn_227 : decode cX11_goesOn 227 = .ok (.putfield 280, 3) := by decide +kernel
theorem dX11_goesOn_230 : decode cX11_goesOn 230 = .ok (.iconst 0, 1) := by decide +kernel
theorem dX11_goesOn_231 : decode cX11_goesOn 231 = .ok (.istore 5, 2) := by decide +kernel
theorem dX11_goesOn_233 : decode cX11_goesOn 233 = .ok (.iload 5, 2) := by decide +kernel
theorem dX11_goesOn_235 : decode cX11_goesOn 235 = .ok (.bipush 6, 2) := by decide +kernel
theorem dX11_goesOn_237 : decode cX11_goesOn 237 = .ok (.if_icmp .ge 41, 3) := by decide +kernel
theorem dX11_goesOn_240 : decode cX11_goesOn 240 = .ok (.aload_n 0, 1) := by decide +kernel
theorem dX11_goesOn_241 : decode cX11_goesOn 241 = .ok (.getfield 85, 3) := by decide +kernel
theorem dX11_goesOn_244 : decode cX11_goesOn 244 = .ok (.iload 5, 2) := by decide +kernel
theorem dX11_goesOn_246 : decode cX11_goesOn 246 = .ok (.dup2, 1) := by decide +kernel
theorem dX11_goesOn_247 : decode cX11_goesOn 247 = .ok (.iaload, 1) := by decide +kernel
theorem dX11_goesOn_248 : decode cX11_goesOn 248 = .ok (.iload 4, 2) := by decide +kernel
theorem dX11_goesOn_250 : decode cX11_goesOn 250 = .ok (.ifCond .ne 15, 3) := by decide +kernel
theorem dX11_goesOn_253 : decode cX11_goesOn 253 = .ok (.aload_n 0, 1) := by decide +kernel
theorem dX11_goesOn_254 : decode cX11_goesOn 254 = .ok (.getfield 274, 3) := by decide +kernel
theorem dX11_goesOn_257 : decode cX11_goesOn 257 = .ok (.iload 5, 2) := by decide +kernel
theorem dX11_goesOn_259 : decode cX11_goesOn 259 = .ok (.invokestatic 159, 3) := by decide +kernel
theorem dX11_goesOn_262 : decode cX11_goesOn 262 = .ok (.ifCond .eq 7, 3) := by decide +kernel
theorem dX11_goesOn_265 : decode cX11_goesOn 265 = .ok (.iconst 0, 1) := by decide +kernel
theorem dX11_goesOn_266 : decode cX11_goesOn 266 = .ok (.goto 4, 3) := by decide +kernel
theorem dX11_goesOn_269 : decode cX11_goesOn 269 = .ok (.iconst 1, 1) := by decide +kernel
theorem dX11_goesOn_270 : decode cX11_goesOn 270 = .ok (.isub, 1) := by decide +kernel
theorem dX11_goesOn_271 : decode cX11_goesOn 271 = .ok (.iastore, 1) := by decide +kernel
theorem dX11_goesOn_272 : decode cX11_goesOn 272 = .ok (.iinc 5 1, 3) := by decide +kernel
theorem dX11_goesOn_275 : decode cX11_goesOn 275 = .ok (.goto (-42), 3) := by decide +kernel
theorem dX11_goesOn_278 : decode cX11_goesOn 278 = .ok (.return_, 1) := by decide +kernel
set_option maxRecDepth 100000 in
set_option maxHeartbeats 4000000 in
theorem tb_X11_goesOn_111 {K : sd_K} {E : sd_Env}   {r : sd_Mem} (C : sd_C K E sd_LM RX11 cX11_goesOn 6 none)  {k41 : sd_Mem → Int32 → Int32 → Option sd_Mem} (hk41 : ∀ (M : sd_Mem) (x1 : Int32) (x2 : Int32), k41 M x1 x2 = some r → sd_Z K rm_X11_goesOn E sd_LM 6 (sd_QV K E sd_LM r) M 41 [(0, .ref (E.2.2 100)), (1, .int x1), (2, .int x2)] []) : ∀ (M : sd_Mem) (x1 : Int32) (x3 : Int32), fn_X11_goesOn_111 k41 M x1 x3 = some r → sd_Z K rm_X11_goesOn E sd_LM 6 (sd_QV K E sd_LM r) M 111 [(0, .ref (E.2.2 100)), (1, .int x1), (3, .int x3)] [] := by
  intro M x1 x3 hF
  unfold fn_X11_goesOn_111 at hF
  refine sd_aload_n C 0 dX11_goesOn_111 rfl rfl rfl (n' := 112) ?_
  refine sd_g11_30 C sd_i100 sd_k100 sd_w1071 dX11_goesOn_112 rfl (n' := 115) ?_
  refine sd_iload_n C 2 dX11_goesOn_115 rfl rfl rfl (n' := 116) ?_
  refine sd_icmp_eq C (n' := 119) (tgt := 123) dX11_goesOn_116 rfl rfl (fun c116 => ?_) (fun c116 => ?_)
  · replace hF := sd_pos hF c116
    refine sd_iconst C (v := 0) dX11_goesOn_123 rfl rfl (n' := 124) ?_
    refine sd_istore_n [(2, .int (0 : Int32)), (0, .ref (E.2.2 100)), (1, .int x1), (3, .int x3)] C dX11_goesOn_124 rfl (by decide) rfl rfl (n' := 125) ?_
    refine sd_goto C (tgt := 41) dX11_goesOn_125 rfl ?_
    refine sd_sub [1, 2, 0] rfl ?_
    exact hk41 M x1 (0 : Int32) hF
  · replace hF := sd_neg hF c116
    refine sd_iconst C (v := 1) dX11_goesOn_119 rfl rfl (n' := 120) ?_
    refine sd_goto C (tgt := 124) dX11_goesOn_120 rfl ?_
    refine sd_istore_n [(2, .int (1 : Int32)), (0, .ref (E.2.2 100)), (1, .int x1), (3, .int x3)] C dX11_goesOn_124 rfl (by decide) rfl rfl (n' := 125) ?_
    refine sd_goto C (tgt := 41) dX11_goesOn_125 rfl ?_
    refine sd_sub [1, 2, 0] rfl ?_
    exact hk41 M x1 (1 : Int32) hF
set_option maxRecDepth 100000 in
set_option maxHeartbeats 4000000 in
theorem tb_X11_goesOn_53 {K : sd_K} {E : sd_Env}   {r : sd_Mem} (C : sd_C K E sd_LM RX11 cX11_goesOn 6 none)  {k41 : sd_Mem → Int32 → Int32 → Option sd_Mem} (hk41 : ∀ (M : sd_Mem) (x1 : Int32) (x2 : Int32), k41 M x1 x2 = some r → sd_Z K rm_X11_goesOn E sd_LM 6 (sd_QV K E sd_LM r) M 41 [(0, .ref (E.2.2 100)), (1, .int x1), (2, .int x2)] []) : ∀ (n : Nat), ∀ (M : sd_Mem) (x1 : Int32) (x3 : Int32) (x4 : Int32), fn_X11_goesOn_53 k41 n M x1 x3 x4 = some r → sd_Z K rm_X11_goesOn E sd_LM 6 (sd_QV K E sd_LM r) M 53 [(0, .ref (E.2.2 100)), (1, .int x1), (3, .int x3), (4, .int x4)] [] := by
  intro n
  induction n with
  | zero => intro M x1 x3 x4 hF; cases hF
  | succ n ih =>
    intro M x1 x3 x4 hF
    unfold fn_X11_goesOn_53 at hF
    refine sd_iload C 3 dX11_goesOn_53 rfl rfl (n' := 55) ?_
    refine sd_bipush C (v := 6) dX11_goesOn_55 rfl rfl (n' := 57) ?_
    refine sd_icmp_ge C (n' := 60) (tgt := 111) dX11_goesOn_57 rfl rfl (fun c57 => ?_) (fun c57 => ?_)
    · replace hF := sd_pos hF c57
      refine sd_sub [0, 1, 2] rfl ?_
      exact tb_X11_goesOn_111 C hk41 M x1 x3 hF
    · replace hF := sd_neg hF c57
      refine sd_aload_n C 0 dX11_goesOn_60 rfl rfl rfl (n' := 61) ?_
      refine sd_dup C dX11_goesOn_61 rfl rfl (n' := 62) ?_
      refine sd_g11_30 C sd_i100 sd_k100 sd_w1071 dX11_goesOn_62 rfl (n' := 65) ?_
      refine sd_bipush C (v := 100) dX11_goesOn_65 rfl rfl (n' := 67) ?_
      refine sd_aload_n C 0 dX11_goesOn_67 rfl rfl rfl (n' := 68) ?_
      refine sd_aload_n C 0 dX11_goesOn_68 rfl rfl rfl (n' := 69) ?_
      refine sd_g11_30 C sd_i100 sd_k100 sd_w1071 dX11_goesOn_69 rfl (n' := 72) ?_
      obtain ⟨q72, e72, hF⟩ := sd_bind hF
      refine sd_callVI [.int (M.1 100 30)] [.int (100 : Int32), .int (M.1 100 30), .ref (E.2.2 100)] C (ct_X11_menOf M (M.1 100 30)  e72) sd_lX11_287 ⟨rfl, rfl, Nat.le_of_ble_eq_true rfl, Nat.le_of_ble_eq_true rfl⟩ sd_i100 (sd_e12 sd_k100) rfl rfl rfl (Nat.le_of_ble_eq_true rfl) dX11_goesOn_72 rfl (n' := 75) ?_
      refine sd_imul C dX11_goesOn_75 rfl (n' := 76) ?_
      refine sd_aload_n C 0 dX11_goesOn_76 rfl rfl rfl (n' := 77) ?_
      refine sd_g11_29 C sd_i100 sd_k100 sd_w1070 dX11_goesOn_77 rfl (n' := 80) ?_
      refine sd_iload C 3 dX11_goesOn_80 rfl rfl (n' := 82) ?_
      obtain ⟨b82, hF⟩ := sd_ok hF
      refine sd_iald C sd_i121 sd_k121 sd_n121 b82 dX11_goesOn_82 rfl (n' := 83) ?_
      refine sd_aload_n C 0 dX11_goesOn_83 rfl rfl rfl (n' := 84) ?_
      refine sd_bipush C (v := 63) dX11_goesOn_84 rfl rfl (n' := 86) ?_
      obtain ⟨q86, e86, hF⟩ := sd_bind hF
      refine sd_callVI [.int (63 : Int32)] [.int (M.1 121 x4.toNatClampNeg), .int ((100 : Int32) * q72), .int (M.1 100 30), .ref (E.2.2 100)] C (ct_X11_menOf M (63 : Int32)  e86) sd_lX11_287 ⟨rfl, rfl, Nat.le_of_ble_eq_true rfl, Nat.le_of_ble_eq_true rfl⟩ sd_i100 (sd_e12 sd_k100) rfl rfl rfl (Nat.le_of_ble_eq_true rfl) dX11_goesOn_86 rfl (n' := 89) ?_
      refine sd_imul C dX11_goesOn_89 rfl (n' := 90) ?_
      refine sd_icmp_lt C (n' := 93) (tgt := 100) dX11_goesOn_90 rfl rfl (fun c90 => ?_) (fun c90 => ?_)
      · replace hF := sd_pos hF c90
        refine sd_iconst C (v := 0) dX11_goesOn_100 rfl rfl (n' := 101) ?_
        refine sd_ior C dX11_goesOn_101 rfl (n' := 102) ?_
        refine sd_p11_30 C sd_i100 sd_k100 sd_w1071 dX11_goesOn_102 rfl (n' := 105) ?_
        refine sd_iinc [(4, .int (x4 + (1 : Int32))), (0, .ref (E.2.2 100)), (1, .int x1), (3, .int x3)] 3 C dX11_goesOn_105 rfl rfl (by decide) rfl rfl (n' := 108) ?_
        refine sd_goto C (tgt := 53) dX11_goesOn_108 rfl ?_
        refine sd_sub [1, 2, 3, 0] rfl ?_
        exact ih (sd_setI M 100 30 ((M.1 100 30) ||| (0 : Int32))) x1 x3 (x4 + (1 : Int32)) hF
      · replace hF := sd_neg hF c90
        refine sd_iconst C (v := 1) dX11_goesOn_93 rfl rfl (n' := 94) ?_
        refine sd_iload C 3 dX11_goesOn_94 rfl rfl (n' := 96) ?_
        refine sd_ishl C dX11_goesOn_96 rfl (n' := 97) ?_
        refine sd_goto C (tgt := 101) dX11_goesOn_97 rfl ?_
        refine sd_ior C dX11_goesOn_101 rfl (n' := 102) ?_
        refine sd_p11_30 C sd_i100 sd_k100 sd_w1071 dX11_goesOn_102 rfl (n' := 105) ?_
        refine sd_iinc [(4, .int (x4 + (1 : Int32))), (0, .ref (E.2.2 100)), (1, .int x1), (3, .int x3)] 3 C dX11_goesOn_105 rfl rfl (by decide) rfl rfl (n' := 108) ?_
        refine sd_goto C (tgt := 53) dX11_goesOn_108 rfl ?_
        refine sd_sub [1, 2, 3, 0] rfl ?_
        exact ih (sd_setI M 100 30 ((M.1 100 30) ||| ((1 : Int32) <<< (x4 &&& 31)))) x1 x3 (x4 + (1 : Int32)) hF
set_option maxRecDepth 100000 in
set_option maxHeartbeats 4000000 in
theorem tb_X11_goesOn_233 {K : sd_K} {E : sd_Env}   {r : sd_Mem} (C : sd_C K E sd_LM RX11 cX11_goesOn 6 none)  : ∀ (n : Nat), ∀ (M : sd_Mem) (x4 : Int32) (x5 : Int32), fn_X11_goesOn_233 n M x4 x5 = some r → sd_Z K rm_X11_goesOn E sd_LM 6 (sd_QV K E sd_LM r) M 233 [(0, .ref (E.2.2 100)), (4, .int x4), (5, .int x5)] [] := by
  intro n
  induction n with
  | zero => intro M x4 x5 hF; cases hF
  | succ n ih =>
    intro M x4 x5 hF
    unfold fn_X11_goesOn_233 at hF
    refine sd_iload C 2 dX11_goesOn_233 rfl rfl (n' := 235) ?_
    refine sd_bipush C (v := 6) dX11_goesOn_235 rfl rfl (n' := 237) ?_
    refine sd_icmp_ge C (n' := 240) (tgt := 278) dX11_goesOn_237 rfl rfl (fun c237 => ?_) (fun c237 => ?_)
    · replace hF := sd_pos hF c237
      exact sd_vret C dX11_goesOn_278 (Option.some.inj hF)
    · replace hF := sd_neg hF c237
      refine sd_aload_n C 0 dX11_goesOn_240 rfl rfl rfl (n' := 241) ?_
      refine sd_g11_31 C sd_i100 sd_k100 sd_w1072 dX11_goesOn_241 rfl (n' := 244) ?_
      refine sd_iload C 2 dX11_goesOn_244 rfl rfl (n' := 246) ?_
      refine sd_dup2 C dX11_goesOn_246 rfl rfl rfl (n' := 247) ?_
      obtain ⟨b247, hF⟩ := sd_ok hF
      refine sd_iald C sd_i122 sd_k122 sd_n122 b247 dX11_goesOn_247 rfl (n' := 248) ?_
      refine sd_iload C 1 dX11_goesOn_248 rfl rfl (n' := 250) ?_
      refine sd_if_ne C (n' := 253) (tgt := 265) dX11_goesOn_250 rfl rfl (fun c250 => ?_) (fun c250 => ?_)
      · replace hF := sd_neg hF c250
        refine sd_iconst C (v := 0) dX11_goesOn_265 rfl rfl (n' := 266) ?_
        refine sd_goto C (tgt := 270) dX11_goesOn_266 rfl ?_
        refine sd_isub C dX11_goesOn_270 rfl (n' := 271) ?_
        obtain ⟨b271, hF⟩ := sd_ok hF
        refine sd_iast C sd_i122 sd_k122 sd_n122 b271 dX11_goesOn_271 rfl (n' := 272) ?_
        refine sd_iinc [(5, .int (x5 + (1 : Int32))), (0, .ref (E.2.2 100)), (4, .int x4)] 2 C dX11_goesOn_272 rfl rfl (by decide) rfl rfl (n' := 275) ?_
        refine sd_goto C (tgt := 233) dX11_goesOn_275 rfl ?_
        refine sd_sub [1, 2, 0] rfl ?_
        exact ih (sd_setI M 122 x5.toNatClampNeg ((M.1 122 x5.toNatClampNeg) - (0 : Int32))) x4 (x5 + (1 : Int32)) hF
      · replace hF := sd_pos hF c250
        refine sd_aload_n C 0 dX11_goesOn_253 rfl rfl rfl (n' := 254) ?_
        refine sd_g11_30 C sd_i100 sd_k100 sd_w1071 dX11_goesOn_254 rfl (n' := 257) ?_
        refine sd_iload C 2 dX11_goesOn_257 rfl rfl (n' := 259) ?_
        obtain ⟨q259, e259, hF⟩ := sd_bind hF
        refine sd_callSI [.int (M.1 100 30), .int x5] [.int (M.1 122 x5.toNatClampNeg), .int x5, .ref (E.2.2 122)] C (ct_X11_isIn M (M.1 100 30) x5  e259) sd_lX11_159 ⟨rfl, rfl, Nat.le_of_ble_eq_true rfl, Nat.le_of_ble_eq_true rfl⟩ rfl (Nat.le_of_ble_eq_true rfl) dX11_goesOn_259 rfl (n' := 262) ?_
        refine sd_if_eq C (n' := 265) (tgt := 269) dX11_goesOn_262 rfl rfl (fun c262 => ?_) (fun c262 => ?_)
        · replace hF := sd_pos hF c262
          refine sd_iconst C (v := 1) dX11_goesOn_269 rfl rfl (n' := 270) ?_
          refine sd_isub C dX11_goesOn_270 rfl (n' := 271) ?_
          obtain ⟨b271, hF⟩ := sd_ok hF
          refine sd_iast C sd_i122 sd_k122 sd_n122 b271 dX11_goesOn_271 rfl (n' := 272) ?_
          refine sd_iinc [(5, .int (x5 + (1 : Int32))), (0, .ref (E.2.2 100)), (4, .int x4)] 2 C dX11_goesOn_272 rfl rfl (by decide) rfl rfl (n' := 275) ?_
          refine sd_goto C (tgt := 233) dX11_goesOn_275 rfl ?_
          refine sd_sub [1, 2, 0] rfl ?_
          exact ih (sd_setI M 122 x5.toNatClampNeg ((M.1 122 x5.toNatClampNeg) - (1 : Int32))) x4 (x5 + (1 : Int32)) hF
        · replace hF := sd_neg hF c262
          refine sd_iconst C (v := 0) dX11_goesOn_265 rfl rfl (n' := 266) ?_
          refine sd_goto C (tgt := 270) dX11_goesOn_266 rfl ?_
          refine sd_isub C dX11_goesOn_270 rfl (n' := 271) ?_
          obtain ⟨b271, hF⟩ := sd_ok hF
          refine sd_iast C sd_i122 sd_k122 sd_n122 b271 dX11_goesOn_271 rfl (n' := 272) ?_
          refine sd_iinc [(5, .int (x5 + (1 : Int32))), (0, .ref (E.2.2 100)), (4, .int x4)] 2 C dX11_goesOn_272 rfl rfl (by decide) rfl rfl (n' := 275) ?_
          refine sd_goto C (tgt := 233) dX11_goesOn_275 rfl ?_
          refine sd_sub [1, 2, 0] rfl ?_
          exact ih (sd_setI M 122 x5.toNatClampNeg ((M.1 122 x5.toNatClampNeg) - (0 : Int32))) x4 (x5 + (1 : Int32)) hF
set_option maxRecDepth 100000 in
set_option maxHeartbeats 4000000 in
theorem tb_X11_goesOn_206 {K : sd_K} {E : sd_Env}   {r : sd_Mem} (C : sd_C K E sd_LM RX11 cX11_goesOn 6 none)  : ∀ (M : sd_Mem) (x4 : Int32) (xs0 : Int32), fn_X11_goesOn_206 M x4 xs0 = some r → sd_Z K rm_X11_goesOn E sd_LM 6 (sd_QV K E sd_LM r) M 206 [(0, .ref (E.2.2 100)), (4, .int x4)] [.int xs0, .ref (E.2.2 100)] := by
  intro M x4 xs0 hF
  unfold fn_X11_goesOn_206 at hF
  obtain ⟨b206, hF⟩ := sd_ok hF
  refine sd_p11_34 C (Decidable.of_not_not b206) sd_i100 sd_k100 sd_w1075 dX11_goesOn_206 rfl (n' := 209) ?_
  refine sd_aload_n C 0 dX11_goesOn_209 rfl rfl rfl (n' := 210) ?_
  refine sd_dup C dX11_goesOn_210 rfl rfl (n' := 211) ?_
  refine sd_g11_33 C sd_i100 sd_k100 sd_w1074 dX11_goesOn_211 rfl (n' := 214) ?_
  refine sd_aload_n C 0 dX11_goesOn_214 rfl rfl rfl (n' := 215) ?_
  refine sd_g11_34 C sd_i100 sd_k100 sd_w1075 dX11_goesOn_215 rfl (n' := 218) ?_
  refine sd_if_eq C (n' := 221) (tgt := 225) dX11_goesOn_218 rfl rfl (fun c218 => ?_) (fun c218 => ?_)
  · replace hF := sd_pos hF c218
    refine sd_iconst C (v := 1) dX11_goesOn_225 rfl rfl (n' := 226) ?_
    refine sd_iadd C dX11_goesOn_226 rfl (n' := 227) ?_
    refine sd_p11_33 C sd_i100 sd_k100 sd_w1074 dX11_goesOn_227 rfl (n' := 230) ?_
    refine sd_iconst C (v := 0) dX11_goesOn_230 rfl rfl (n' := 231) ?_
    refine sd_istore [(5, .int (0 : Int32)), (0, .ref (E.2.2 100)), (4, .int x4)] C dX11_goesOn_231 (by decide) rfl rfl (n' := 233) ?_
    refine sd_sub [1, 2, 0] rfl ?_
    exact tb_X11_goesOn_233 C sd_FU (sd_setI (sd_setI M 100 34 xs0) 100 33 (((sd_setI M 100 34 xs0).1 100 33) + (1 : Int32))) x4 (0 : Int32) hF
  · replace hF := sd_neg hF c218
    refine sd_iconst C (v := 0) dX11_goesOn_221 rfl rfl (n' := 222) ?_
    refine sd_goto C (tgt := 226) dX11_goesOn_222 rfl ?_
    refine sd_iadd C dX11_goesOn_226 rfl (n' := 227) ?_
    refine sd_p11_33 C sd_i100 sd_k100 sd_w1074 dX11_goesOn_227 rfl (n' := 230) ?_
    refine sd_iconst C (v := 0) dX11_goesOn_230 rfl rfl (n' := 231) ?_
    refine sd_istore [(5, .int (0 : Int32)), (0, .ref (E.2.2 100)), (4, .int x4)] C dX11_goesOn_231 (by decide) rfl rfl (n' := 233) ?_
    refine sd_sub [1, 2, 0] rfl ?_
    exact tb_X11_goesOn_233 C sd_FU (sd_setI (sd_setI M 100 34 xs0) 100 33 (((sd_setI M 100 34 xs0).1 100 33) + (0 : Int32))) x4 (0 : Int32) hF
set_option maxRecDepth 100000 in
set_option maxHeartbeats 4000000 in
theorem tb_X11_goesOn_184 {K : sd_K} {E : sd_Env}   {r : sd_Mem} (C : sd_C K E sd_LM RX11 cX11_goesOn 6 none)  : ∀ (M : sd_Mem) (x4 : Int32) (xs0 : Int32) (xs1 : Int32), fn_X11_goesOn_184 M x4 xs0 xs1 = some r → sd_Z K rm_X11_goesOn E sd_LM 6 (sd_QV K E sd_LM r) M 184 [(0, .ref (E.2.2 100)), (4, .int x4)] [.int xs0, .int xs1, .ref (E.2.2 100)] := by
  intro M x4 xs0 xs1 hF
  unfold fn_X11_goesOn_184 at hF
  refine sd_isub C dX11_goesOn_184 rfl (n' := 185) ?_
  refine sd_p11_32 C sd_i100 sd_k100 sd_w1073 dX11_goesOn_185 rfl (n' := 188) ?_
  refine sd_aload_n C 0 dX11_goesOn_188 rfl rfl rfl (n' := 189) ?_
  refine sd_aload_n C 0 dX11_goesOn_189 rfl rfl rfl (n' := 190) ?_
  refine sd_g11_34 C sd_i100 sd_k100 sd_w1075 dX11_goesOn_190 rfl (n' := 193) ?_
  refine sd_if_ne C (n' := 196) (tgt := 201) dX11_goesOn_193 rfl rfl (fun c193 => ?_) (fun c193 => ?_)
  · replace hF := sd_neg hF c193
    refine sd_iconst C (v := 1) dX11_goesOn_201 rfl rfl (n' := 202) ?_
    refine sd_goto C (tgt := 206) dX11_goesOn_202 rfl ?_
    exact tb_X11_goesOn_206 C (sd_setI M 100 32 (xs1 - xs0)) x4 (1 : Int32) hF
  · replace hF := sd_pos hF c193
    refine sd_iload C 1 dX11_goesOn_196 rfl rfl (n' := 198) ?_
    refine sd_if_ne C (n' := 201) (tgt := 205) dX11_goesOn_198 rfl rfl (fun c198 => ?_) (fun c198 => ?_)
    · replace hF := sd_neg hF c198
      refine sd_iconst C (v := 0) dX11_goesOn_205 rfl rfl (n' := 206) ?_
      exact tb_X11_goesOn_206 C (sd_setI M 100 32 (xs1 - xs0)) x4 (0 : Int32) hF
    · replace hF := sd_pos hF c198
      refine sd_iconst C (v := 1) dX11_goesOn_201 rfl rfl (n' := 202) ?_
      refine sd_goto C (tgt := 206) dX11_goesOn_202 rfl ?_
      exact tb_X11_goesOn_206 C (sd_setI M 100 32 (xs1 - xs0)) x4 (1 : Int32) hF
set_option maxRecDepth 100000 in
set_option maxHeartbeats 4000000 in
theorem tb_X11_goesOn_167 {K : sd_K} {E : sd_Env}   {r : sd_Mem} (C : sd_C K E sd_LM RX11 cX11_goesOn 6 none)  : ∀ (M : sd_Mem) (x3 : Int32) (xs0 : Int32), fn_X11_goesOn_167 M x3 xs0 = some r → sd_Z K rm_X11_goesOn E sd_LM 6 (sd_QV K E sd_LM r) M 167 [(0, .ref (E.2.2 100)), (3, .int x3)] [.int xs0] := by
  intro M x3 xs0 hF
  unfold fn_X11_goesOn_167 at hF
  refine sd_istore [(4, .int xs0), (0, .ref (E.2.2 100)), (3, .int x3)] C dX11_goesOn_167 (by decide) rfl rfl (n' := 169) ?_
  refine sd_aload_n C 1 dX11_goesOn_169 rfl rfl rfl (n' := 170) ?_
  refine sd_dup C dX11_goesOn_170 rfl rfl (n' := 171) ?_
  refine sd_g11_32 C sd_i100 sd_k100 sd_w1073 dX11_goesOn_171 rfl (n' := 174) ?_
  refine sd_iload C 0 dX11_goesOn_174 rfl rfl (n' := 176) ?_
  refine sd_if_eq C (n' := 179) (tgt := 183) dX11_goesOn_176 rfl rfl (fun c176 => ?_) (fun c176 => ?_)
  · replace hF := sd_pos hF c176
    refine sd_iconst C (v := 0) dX11_goesOn_183 rfl rfl (n' := 184) ?_
    refine sd_sub [1, 0] rfl ?_
    exact tb_X11_goesOn_184 C M xs0 (0 : Int32) (M.1 100 32) hF
  · replace hF := sd_neg hF c176
    refine sd_iload_n C 2 dX11_goesOn_179 rfl rfl rfl (n' := 180) ?_
    refine sd_goto C (tgt := 184) dX11_goesOn_180 rfl ?_
    refine sd_sub [1, 0] rfl ?_
    exact tb_X11_goesOn_184 C M xs0 x3 (M.1 100 32) hF
set_option maxRecDepth 100000 in
set_option maxHeartbeats 4000000 in
theorem tb_X11_goesOn_128 {K : sd_K} {E : sd_Env}   {r : sd_Mem} (C : sd_C K E sd_LM RX11 cX11_goesOn 6 none)  : ∀ (M : sd_Mem) (x1 : Int32), fn_X11_goesOn_128 M x1 = some r → sd_Z K rm_X11_goesOn E sd_LM 6 (sd_QV K E sd_LM r) M 128 [(0, .ref (E.2.2 100)), (1, .int x1)] [] := by
  intro M x1 hF
  unfold fn_X11_goesOn_128 at hF
  refine sd_aload_n C 0 dX11_goesOn_128 rfl rfl rfl (n' := 129) ?_
  refine sd_bipush C (v := 63) dX11_goesOn_129 rfl rfl (n' := 131) ?_
  obtain ⟨q131, e131, hF⟩ := sd_bind hF
  refine sd_callVI [.int (63 : Int32)] [] C (ct_X11_menOf M (63 : Int32)  e131) sd_lX11_287 ⟨rfl, rfl, Nat.le_of_ble_eq_true rfl, Nat.le_of_ble_eq_true rfl⟩ sd_i100 (sd_e12 sd_k100) rfl rfl rfl (Nat.le_of_ble_eq_true rfl) dX11_goesOn_131 rfl (n' := 134) ?_
  refine sd_aload_n C 0 dX11_goesOn_134 rfl rfl rfl (n' := 135) ?_
  refine sd_aload_n C 0 dX11_goesOn_135 rfl rfl rfl (n' := 136) ?_
  refine sd_g11_30 C sd_i100 sd_k100 sd_w1071 dX11_goesOn_136 rfl (n' := 139) ?_
  obtain ⟨q139, e139, hF⟩ := sd_bind hF
  refine sd_callVI [.int (M.1 100 30)] [.int q131] C (ct_X11_menOf M (M.1 100 30)  e139) sd_lX11_287 ⟨rfl, rfl, Nat.le_of_ble_eq_true rfl, Nat.le_of_ble_eq_true rfl⟩ sd_i100 (sd_e12 sd_k100) rfl rfl rfl (Nat.le_of_ble_eq_true rfl) dX11_goesOn_139 rfl (n' := 142) ?_
  refine sd_isub C dX11_goesOn_142 rfl (n' := 143) ?_
  refine sd_istore_n [(3, .int (q131 - q139)), (0, .ref (E.2.2 100)), (1, .int x1)] C dX11_goesOn_143 rfl (by decide) rfl rfl (n' := 144) ?_
  refine sd_aload_n C 1 dX11_goesOn_144 rfl rfl rfl (n' := 145) ?_
  refine sd_dup C dX11_goesOn_145 rfl rfl (n' := 146) ?_
  refine sd_g11_32 C sd_i100 sd_k100 sd_w1073 dX11_goesOn_146 rfl (n' := 149) ?_
  refine sd_iload_n C 2 dX11_goesOn_149 rfl rfl rfl (n' := 150) ?_
  refine sd_iadd C dX11_goesOn_150 rfl (n' := 151) ?_
  refine sd_p11_32 C sd_i100 sd_k100 sd_w1073 dX11_goesOn_151 rfl (n' := 154) ?_
  refine sd_aload_n C 1 dX11_goesOn_154 rfl rfl rfl (n' := 155) ?_
  refine sd_g11_32 C sd_i100 sd_k100 sd_w1073 dX11_goesOn_155 rfl (n' := 158) ?_
  refine sd_iload_n C 0 dX11_goesOn_158 rfl rfl rfl (n' := 159) ?_
  refine sd_icmp_lt C (n' := 162) (tgt := 166) dX11_goesOn_159 rfl rfl (fun c159 => ?_) (fun c159 => ?_)
  · replace hF := sd_pos hF c159
    refine sd_iconst C (v := 0) dX11_goesOn_166 rfl rfl (n' := 167) ?_
    refine sd_sub [1, 0] rfl ?_
    exact tb_X11_goesOn_167 C (sd_setI M 100 32 ((M.1 100 32) + x1)) (q131 - q139) (0 : Int32) hF
  · replace hF := sd_neg hF c159
    refine sd_iconst C (v := 1) dX11_goesOn_162 rfl rfl (n' := 163) ?_
    refine sd_goto C (tgt := 167) dX11_goesOn_163 rfl ?_
    refine sd_sub [1, 0] rfl ?_
    exact tb_X11_goesOn_167 C (sd_setI M 100 32 ((M.1 100 32) + x1)) (q131 - q139) (1 : Int32) hF
set_option maxRecDepth 100000 in
set_option maxHeartbeats 4000000 in
theorem tb_X11_goesOn_41 {K : sd_K} {E : sd_Env}   {r : sd_Mem} (C : sd_C K E sd_LM RX11 cX11_goesOn 6 none)  : ∀ (n : Nat), ∀ (M : sd_Mem) (x1 : Int32) (x2 : Int32), fn_X11_goesOn_41 n M x1 x2 = some r → sd_Z K rm_X11_goesOn E sd_LM 6 (sd_QV K E sd_LM r) M 41 [(0, .ref (E.2.2 100)), (1, .int x1), (2, .int x2)] [] := by
  intro n
  induction n with
  | zero => intro M x1 x2 hF; cases hF
  | succ n ih =>
    intro M x1 x2 hF
    unfold fn_X11_goesOn_41 at hF
    refine sd_iload_n C 2 dX11_goesOn_41 rfl rfl rfl (n' := 42) ?_
    refine sd_if_eq C (n' := 45) (tgt := 128) dX11_goesOn_42 rfl rfl (fun c42 => ?_) (fun c42 => ?_)
    · replace hF := sd_pos hF c42
      refine sd_sub [0, 1] rfl ?_
      exact tb_X11_goesOn_128 C M x1 hF
    · replace hF := sd_neg hF c42
      refine sd_aload_n C 0 dX11_goesOn_45 rfl rfl rfl (n' := 46) ?_
      refine sd_g11_30 C sd_i100 sd_k100 sd_w1071 dX11_goesOn_46 rfl (n' := 49) ?_
      refine sd_istore_n [(3, .int (M.1 100 30)), (0, .ref (E.2.2 100)), (1, .int x1), (2, .int x2)] C dX11_goesOn_49 rfl (by decide) rfl rfl (n' := 50) ?_
      refine sd_iconst C (v := 0) dX11_goesOn_50 rfl rfl (n' := 51) ?_
      refine sd_istore [(4, .int (0 : Int32)), (3, .int (M.1 100 30)), (0, .ref (E.2.2 100)), (1, .int x1), (2, .int x2)] C dX11_goesOn_51 (by decide) rfl rfl (n' := 53) ?_
      refine sd_sub [2, 3, 1, 0] rfl ?_
      exact tb_X11_goesOn_53 C ih sd_FU M x1 (M.1 100 30) (0 : Int32) hF
set_option maxRecDepth 100000 in
set_option maxHeartbeats 4000000 in
theorem tb_X11_goesOn_2 {K : sd_K} {E : sd_Env}   {r : sd_Mem} (C : sd_C K E sd_LM RX11 cX11_goesOn 6 none)  : ∀ (n : Nat), ∀ (M : sd_Mem) (x1 : Int32) (x2 : Int32), fn_X11_goesOn_2 n M x1 x2 = some r → sd_Z K rm_X11_goesOn E sd_LM 6 (sd_QV K E sd_LM r) M 2 [(0, .ref (E.2.2 100)), (1, .int x1), (2, .int x2)] [] := by
  intro n
  induction n with
  | zero => intro M x1 x2 hF; cases hF
  | succ n ih =>
    intro M x1 x2 hF
    unfold fn_X11_goesOn_2 at hF
    refine sd_iload_n C 2 dX11_goesOn_2 rfl rfl rfl (n' := 3) ?_
    refine sd_bipush C (v := 6) dX11_goesOn_3 rfl rfl (n' := 5) ?_
    refine sd_icmp_ge C (n' := 8) (tgt := 39) dX11_goesOn_5 rfl rfl (fun c5 => ?_) (fun c5 => ?_)
    · replace hF := sd_pos hF c5
      refine sd_iconst C (v := 1) dX11_goesOn_39 rfl rfl (n' := 40) ?_
      refine sd_istore_n [(2, .int (1 : Int32)), (0, .ref (E.2.2 100)), (1, .int x1)] C dX11_goesOn_40 rfl (by decide) rfl rfl (n' := 41) ?_
      refine sd_sub [1, 2, 0] rfl ?_
      exact tb_X11_goesOn_41 C sd_FU M x1 (1 : Int32) hF
    · replace hF := sd_neg hF c5
      refine sd_aload_n C 0 dX11_goesOn_8 rfl rfl rfl (n' := 9) ?_
      refine sd_dup C dX11_goesOn_9 rfl rfl (n' := 10) ?_
      refine sd_g11_30 C sd_i100 sd_k100 sd_w1071 dX11_goesOn_10 rfl (n' := 13) ?_
      refine sd_aload_n C 0 dX11_goesOn_13 rfl rfl rfl (n' := 14) ?_
      refine sd_g11_31 C sd_i100 sd_k100 sd_w1072 dX11_goesOn_14 rfl (n' := 17) ?_
      refine sd_iload_n C 2 dX11_goesOn_17 rfl rfl rfl (n' := 18) ?_
      obtain ⟨b18, hF⟩ := sd_ok hF
      refine sd_iald C sd_i122 sd_k122 sd_n122 b18 dX11_goesOn_18 rfl (n' := 19) ?_
      refine sd_if_ne C (n' := 22) (tgt := 28) dX11_goesOn_19 rfl rfl (fun c19 => ?_) (fun c19 => ?_)
      · replace hF := sd_neg hF c19
        refine sd_iconst C (v := 0) dX11_goesOn_28 rfl rfl (n' := 29) ?_
        refine sd_ior C dX11_goesOn_29 rfl (n' := 30) ?_
        refine sd_p11_30 C sd_i100 sd_k100 sd_w1071 dX11_goesOn_30 rfl (n' := 33) ?_
        refine sd_iinc [(2, .int (x2 + (1 : Int32))), (0, .ref (E.2.2 100)), (1, .int x1)] 2 C dX11_goesOn_33 rfl rfl (by decide) rfl rfl (n' := 36) ?_
        refine sd_goto C (tgt := 2) dX11_goesOn_36 rfl ?_
        refine sd_sub [1, 2, 0] rfl ?_
        exact ih (sd_setI M 100 30 ((M.1 100 30) ||| (0 : Int32))) x1 (x2 + (1 : Int32)) hF
      · replace hF := sd_pos hF c19
        refine sd_iconst C (v := 1) dX11_goesOn_22 rfl rfl (n' := 23) ?_
        refine sd_iload_n C 2 dX11_goesOn_23 rfl rfl rfl (n' := 24) ?_
        refine sd_ishl C dX11_goesOn_24 rfl (n' := 25) ?_
        refine sd_goto C (tgt := 29) dX11_goesOn_25 rfl ?_
        refine sd_ior C dX11_goesOn_29 rfl (n' := 30) ?_
        refine sd_p11_30 C sd_i100 sd_k100 sd_w1071 dX11_goesOn_30 rfl (n' := 33) ?_
        refine sd_iinc [(2, .int (x2 + (1 : Int32))), (0, .ref (E.2.2 100)), (1, .int x1)] 2 C dX11_goesOn_33 rfl rfl (by decide) rfl rfl (n' := 36) ?_
        refine sd_goto C (tgt := 2) dX11_goesOn_36 rfl ?_
        refine sd_sub [1, 2, 0] rfl ?_
        exact ih (sd_setI M 100 30 ((M.1 100 30) ||| ((1 : Int32) <<< (x2 &&& 31)))) x1 (x2 + (1 : Int32)) hF
set_option maxRecDepth 100000 in
set_option maxHeartbeats 4000000 in
theorem tb_X11_goesOn_0 {K : sd_K} {E : sd_Env}   {r : sd_Mem} (C : sd_C K E sd_LM RX11 cX11_goesOn 6 none)  : ∀ (M : sd_Mem) (x1 : Int32), fn_X11_goesOn_0 M x1 = some r → sd_Z K rm_X11_goesOn E sd_LM 6 (sd_QV K E sd_LM r) M 0 [(0, .ref (E.2.2 100)), (1, .int x1)] [] := by
  intro M x1 hF
  unfold fn_X11_goesOn_0 at hF
  refine sd_iconst C (v := 0) dX11_goesOn_0 rfl rfl (n' := 1) ?_
  refine sd_istore_n [(2, .int (0 : Int32)), (0, .ref (E.2.2 100)), (1, .int x1)] C dX11_goesOn_1 rfl (by decide) rfl rfl (n' := 2) ?_
  refine sd_sub [1, 2, 0] rfl ?_
  exact tb_X11_goesOn_2 C sd_FU M x1 (0 : Int32) hF
theorem ct_X11_goesOn {l : Launch} {E : sd_Env} (M : sd_Mem) (x1 : Int32)  {r : sd_Mem} (hF : fn_X11_goesOn M x1 = some r) : sd_MV l E sd_LM yX11_goesOn cX11_goesOn 6 none rm_X11_goesOn [.ref (E.2.2 100), .int x1] M r := sd_ent0 (by decide +kernel) (Nat.le_of_ble_eq_true rfl) (fun p e s m below meth c C => tb_X11_goesOn_0 C M x1 hF)
theorem dX11_gone_0 : decode cX11_gone 0 = .ok (.iload_n 1, 1) := by decide +kernel
theorem dX11_gone_1 : decode cX11_gone 1 = .ok (.iconst 1, 1) := by decide +kernel
theorem dX11_gone_2 : decode cX11_gone 2 = .ok (.bipush 99, 2) := by decide +kernel
theorem dX11_gone_4 : decode cX11_gone 4 = .ok (.invokestatic 97, 3) := by decide +kernel
theorem dX11_gone_7 : decode cX11_gone 7 = .ok (.ifCond .eq 11, 3) := by decide +kernel
theorem dX11_gone_10 : decode cX11_gone 10 = .ok (.iload_n 2, 1) := by decide +kernel
theorem dX11_gone_11 : decode cX11_gone 11 = .ok (.iload_n 3, 1) := by decide +kernel
theorem dX11_gone_12 : decode cX11_gone 12 = .ok (.invokestatic 290, 3) := by decide +kernel
theorem dX11_gone_15 : decode cX11_gone 15 = .ok (.ifCond .ne 5, 3) := by decide +kernel
theorem dX11_gone_18 : decode cX11_gone 18 = .ok (.iconst (-1), 1) := by decide +kernel
theorem dX11_gone_19 : decode cX11_gone 19 = .ok (.ireturn, 1) := by decide +kernel
theorem dX11_gone_20 : decode cX11_gone 20 = .ok (.aload_n 0, 1) := by decide +kernel
theorem dX11_gone_21 : decode cX11_gone 21 = .ok (.iload_n 2, 1) := by decide +kernel
theorem dX11_gone_22 : decode cX11_gone 22 = .ok (.invokevirtual 293, 3) := by decide +kernel
theorem dX11_gone_25 : decode cX11_gone 25 = .ok (.iconst 1, 1) := by decide +kernel
theorem dX11_gone_26 : decode cX11_gone 26 = .ok (.istore 4, 2) := by decide +kernel
theorem dX11_gone_28 : decode cX11_gone 28 = .ok (.iload 4, 2) := by decide +kernel
theorem dX11_gone_30 : decode cX11_gone 30 = .ok (.iload_n 1, 1) := by decide +kernel
theorem dX11_gone_31 : decode cX11_gone 31 = .ok (.if_icmp .gt 14, 3) := by decide +kernel
theorem dX11_gone_34 : decode cX11_gone 34 = .ok (.aload_n 0, 1) := by decide +kernel
theorem dX11_gone_35 : decode cX11_gone 35 = .ok (.iload_n 3, 1) := by decide +kernel
theorem dX11_gone_36 : decode cX11_gone 36 = .ok (.invokevirtual 297, 3) := by decide +kernel
theorem dX11_gone_39 : decode cX11_gone 39 = .ok (.iinc 4 1, 3) := by decide +kernel
theorem dX11_gone_42 : decode cX11_gone 42 = .ok (.goto (-14), 3) := by decide +kernel
theorem dX11_gone_45 : decode cX11_gone 45 = .ok (.iconst 0, 1) := by decide +kernel
theorem dX11_gone_46 : decode cX11_gone 46 = .ok (.istore 4, 2) := by decide +kernel
theorem dX11_gone_48 : decode cX11_gone 48 = .ok (.iconst 0, 1) := by decide +kernel
theorem dX11_gone_49 : decode cX11_gone 49 = .ok (.istore 5, 2) := by decide +kernel
theorem dX11_gone_51 : decode cX11_gone 51 = .ok (.iload 5, 2) := by decide +kernel
theorem dX11_gone_53 : decode cX11_gone 53 = .ok (.bipush 6, 2) := by decide +kernel
theorem dX11_gone_55 : decode cX11_gone 55 = .ok (.if_icmp .ge 44, 3) := by decide +kernel
theorem dX11_gone_58 : decode cX11_gone 58 = .ok (.iload 4, 2) := by decide +kernel
theorem dX11_gone_60 : decode cX11_gone 60 = .ok (.aload_n 0, 1) := by decide +kernel
theorem dX11_gone_61 : decode cX11_gone 61 = .ok (.getfield 274, 3) := by decide +kernel
theorem dX11_gone_64 : decode cX11_gone 64 = .ok (.iload 5, 2) := by decide +kernel
theorem dX11_gone_66 : decode cX11_gone 66 = .ok (.invokestatic 159, 3) := by decide +kernel
theorem dX11_gone_69 : decode cX11_gone 69 = .ok (.ifCond .eq 20, 3) := by decide +kernel
theorem dX11_gone_72 : decode cX11_gone 72 = .ok (.aload_n 0, 1) := by decide +kernel
theorem dX11_gone_73 : decode cX11_gone 73 = .ok (.getfield 76, 3) := by decide +kernel
theorem dX11_gone_76 : decode cX11_gone 76 = .ok (.iload 5, 2) := by decide +kernel
theorem dX11_gone_78 : decode cX11_gone 78 = .ok (.iaload, 1) := by decide +kernel
theorem dX11_gone_79 : decode cX11_gone 79 = .ok (.ifCond .le 10, 3) := by decide +kernel
theorem dX11_gone_82 : decode cX11_gone 82 = .ok (.iconst 1, 1) := by decide +kernel
theorem dX11_gone_83 : decode cX11_gone 83 = .ok (.iload 5, 2) := by decide +kernel
theorem dX11_gone_85 : decode cX11_gone 85 = .ok (.ishl, 1) := by decide +kernel
theorem dX11_gone_86 : decode cX11_gone 86 = .ok (.goto 4, 3) := by decide +kernel
theorem dX11_gone_89 : decode cX11_gone 89 = .ok (.iconst 0, 1) := by decide +kernel
theorem dX11_gone_90 : decode cX11_gone 90 = .ok (.ior, 1) := by decide +kernel
theorem dX11_gone_91 : decode cX11_gone 91 = .ok (.istore 4, 2) := by decide +kernel
theorem dX11_gone_93 : decode cX11_gone 93 = .ok (.iinc 5 1, 3) := by decide +kernel
theorem dX11_gone_96 : decode cX11_gone 96 = .ok (.goto (-45), 3) := by decide +kernel
theorem dX11_gone_99 : decode cX11_gone 99 = .ok (.aload_n 0, 1) := by decide +kernel
theorem dX11_gone_100 : decode cX11_gone 100 = .ok (.iload 4, 2) := by decide +kernel
theorem dX11_gone_102 : decode cX11_gone 102 = .ok (.aload_n 0, 1) := by decide +kernel
theorem dX11_gone_103 : decode cX11_gone 103 = .ok (.aload_n 0, 1) := by decide +kernel
theorem dX11_gone_104 : decode cX11_gone 104 = .ok (.getfield 274, 3) := by decide +kernel
theorem dX11_gone_107 : decode cX11_gone 107 = .ok (.invokevirtual 287, 3) := by decide +kernel
theorem dX11_gone_110 : decode cX11_gone 110 = .ok (.invokevirtual 119, 3) := by decide +kernel
theorem dX11_gone_113 : decode cX11_gone 113 = .ok (.ireturn, 1) := by decide +kernel
set_option maxRecDepth 100000 in
set_option maxHeartbeats 4000000 in
theorem tb_X11_gone_99 {K : sd_K} {E : sd_Env}   {r : (Int32 × sd_Mem)} (C : sd_C K E sd_LM RX11 cX11_gone 6 (some .int))  : ∀ (M : sd_Mem) (x4 : Int32), fn_X11_gone_99 M x4 = some r → sd_Z K rm_X11_gone E sd_LM 6 (sd_QI K E sd_LM r.1 r.2) M 99 [(0, .ref (E.2.2 100)), (4, .int x4)] [] := by
  intro M x4 hF
  unfold fn_X11_gone_99 at hF
  refine sd_aload_n C 0 dX11_gone_99 rfl rfl rfl (n' := 100) ?_
  refine sd_iload C 1 dX11_gone_100 rfl rfl (n' := 102) ?_
  refine sd_aload_n C 0 dX11_gone_102 rfl rfl rfl (n' := 103) ?_
  refine sd_aload_n C 0 dX11_gone_103 rfl rfl rfl (n' := 104) ?_
  refine sd_g11_30 C sd_i100 sd_k100 sd_w1071 dX11_gone_104 rfl (n' := 107) ?_
  obtain ⟨q107, e107, hF⟩ := sd_bind hF
  refine sd_callVI [.int (M.1 100 30)] [.int x4, .ref (E.2.2 100)] C (ct_X11_menOf M (M.1 100 30)  e107) sd_lX11_287 ⟨rfl, rfl, Nat.le_of_ble_eq_true rfl, Nat.le_of_ble_eq_true rfl⟩ sd_i100 (sd_e12 sd_k100) rfl rfl rfl (Nat.le_of_ble_eq_true rfl) dX11_gone_107 rfl (n' := 110) ?_
  obtain ⟨q110, e110, hF⟩ := sd_bind hF
  refine sd_callVI [.int x4, .int q107] [] C (ct_X11_ask M x4 q107  e110) sd_lX11_119 ⟨rfl, rfl, Nat.le_of_ble_eq_true rfl, Nat.le_of_ble_eq_true rfl⟩ sd_i100 (sd_e12 sd_k100) rfl rfl rfl (Nat.le_of_ble_eq_true rfl) dX11_gone_110 rfl (n' := 113) ?_
  exact sd_iret C dX11_gone_113 (sd_fst hF) (sd_snd hF)
set_option maxRecDepth 100000 in
set_option maxHeartbeats 4000000 in
theorem tb_X11_gone_51 {K : sd_K} {E : sd_Env}   {r : (Int32 × sd_Mem)} (C : sd_C K E sd_LM RX11 cX11_gone 6 (some .int))  : ∀ (n : Nat), ∀ (M : sd_Mem) (x4 : Int32) (x5 : Int32), fn_X11_gone_51 n M x4 x5 = some r → sd_Z K rm_X11_gone E sd_LM 6 (sd_QI K E sd_LM r.1 r.2) M 51 [(0, .ref (E.2.2 100)), (4, .int x4), (5, .int x5)] [] := by
  intro n
  induction n with
  | zero => intro M x4 x5 hF; cases hF
  | succ n ih =>
    intro M x4 x5 hF
    unfold fn_X11_gone_51 at hF
    refine sd_iload C 2 dX11_gone_51 rfl rfl (n' := 53) ?_
    refine sd_bipush C (v := 6) dX11_gone_53 rfl rfl (n' := 55) ?_
    refine sd_icmp_ge C (n' := 58) (tgt := 99) dX11_gone_55 rfl rfl (fun c55 => ?_) (fun c55 => ?_)
    · replace hF := sd_pos hF c55
      refine sd_sub [0, 1] rfl ?_
      exact tb_X11_gone_99 C M x4 hF
    · replace hF := sd_neg hF c55
      refine sd_iload C 1 dX11_gone_58 rfl rfl (n' := 60) ?_
      refine sd_aload_n C 0 dX11_gone_60 rfl rfl rfl (n' := 61) ?_
      refine sd_g11_30 C sd_i100 sd_k100 sd_w1071 dX11_gone_61 rfl (n' := 64) ?_
      refine sd_iload C 2 dX11_gone_64 rfl rfl (n' := 66) ?_
      obtain ⟨q66, e66, hF⟩ := sd_bind hF
      refine sd_callSI [.int (M.1 100 30), .int x5] [.int x4] C (ct_X11_isIn M (M.1 100 30) x5  e66) sd_lX11_159 ⟨rfl, rfl, Nat.le_of_ble_eq_true rfl, Nat.le_of_ble_eq_true rfl⟩ rfl (Nat.le_of_ble_eq_true rfl) dX11_gone_66 rfl (n' := 69) ?_
      refine sd_if_eq C (n' := 72) (tgt := 89) dX11_gone_69 rfl rfl (fun c69 => ?_) (fun c69 => ?_)
      · replace hF := sd_pos hF c69
        refine sd_iconst C (v := 0) dX11_gone_89 rfl rfl (n' := 90) ?_
        refine sd_ior C dX11_gone_90 rfl (n' := 91) ?_
        refine sd_istore [(4, .int (x4 ||| (0 : Int32))), (0, .ref (E.2.2 100)), (5, .int x5)] C dX11_gone_91 (by decide) rfl rfl (n' := 93) ?_
        refine sd_iinc [(5, .int (x5 + (1 : Int32))), (4, .int (x4 ||| (0 : Int32))), (0, .ref (E.2.2 100))] 2 C dX11_gone_93 rfl rfl (by decide) rfl rfl (n' := 96) ?_
        refine sd_goto C (tgt := 51) dX11_gone_96 rfl ?_
        refine sd_sub [2, 1, 0] rfl ?_
        exact ih M (x4 ||| (0 : Int32)) (x5 + (1 : Int32)) hF
      · replace hF := sd_neg hF c69
        refine sd_aload_n C 0 dX11_gone_72 rfl rfl rfl (n' := 73) ?_
        refine sd_g11_27 C sd_i100 sd_k100 sd_w1068 dX11_gone_73 rfl (n' := 76) ?_
        refine sd_iload C 2 dX11_gone_76 rfl rfl (n' := 78) ?_
        obtain ⟨b78, hF⟩ := sd_ok hF
        refine sd_iald C sd_i119 sd_k119 sd_n119 b78 dX11_gone_78 rfl (n' := 79) ?_
        refine sd_if_le C (n' := 82) (tgt := 89) dX11_gone_79 rfl rfl (fun c79 => ?_) (fun c79 => ?_)
        · replace hF := sd_pos hF c79
          refine sd_iconst C (v := 0) dX11_gone_89 rfl rfl (n' := 90) ?_
          refine sd_ior C dX11_gone_90 rfl (n' := 91) ?_
          refine sd_istore [(4, .int (x4 ||| (0 : Int32))), (0, .ref (E.2.2 100)), (5, .int x5)] C dX11_gone_91 (by decide) rfl rfl (n' := 93) ?_
          refine sd_iinc [(5, .int (x5 + (1 : Int32))), (4, .int (x4 ||| (0 : Int32))), (0, .ref (E.2.2 100))] 2 C dX11_gone_93 rfl rfl (by decide) rfl rfl (n' := 96) ?_
          refine sd_goto C (tgt := 51) dX11_gone_96 rfl ?_
          refine sd_sub [2, 1, 0] rfl ?_
          exact ih M (x4 ||| (0 : Int32)) (x5 + (1 : Int32)) hF
        · replace hF := sd_neg hF c79
          refine sd_iconst C (v := 1) dX11_gone_82 rfl rfl (n' := 83) ?_
          refine sd_iload C 2 dX11_gone_83 rfl rfl (n' := 85) ?_
          refine sd_ishl C dX11_gone_85 rfl (n' := 86) ?_
          refine sd_goto C (tgt := 90) dX11_gone_86 rfl ?_
          refine sd_ior C dX11_gone_90 rfl (n' := 91) ?_
          refine sd_istore [(4, .int (x4 ||| ((1 : Int32) <<< (x5 &&& 31)))), (0, .ref (E.2.2 100)), (5, .int x5)] C dX11_gone_91 (by decide) rfl rfl (n' := 93) ?_
          refine sd_iinc [(5, .int (x5 + (1 : Int32))), (4, .int (x4 ||| ((1 : Int32) <<< (x5 &&& 31)))), (0, .ref (E.2.2 100))] 2 C dX11_gone_93 rfl rfl (by decide) rfl rfl (n' := 96) ?_
          refine sd_goto C (tgt := 51) dX11_gone_96 rfl ?_
          refine sd_sub [2, 1, 0] rfl ?_
          exact ih M (x4 ||| ((1 : Int32) <<< (x5 &&& 31))) (x5 + (1 : Int32)) hF
set_option maxRecDepth 100000 in
set_option maxHeartbeats 4000000 in
theorem tb_X11_gone_28 {K : sd_K} {E : sd_Env}   {r : (Int32 × sd_Mem)} (C : sd_C K E sd_LM RX11 cX11_gone 6 (some .int))  : ∀ (n : Nat), ∀ (M : sd_Mem) (x1 : Int32) (x3 : Int32) (x4 : Int32), fn_X11_gone_28 n M x1 x3 x4 = some r → sd_Z K rm_X11_gone E sd_LM 6 (sd_QI K E sd_LM r.1 r.2) M 28 [(0, .ref (E.2.2 100)), (1, .int x1), (3, .int x3), (4, .int x4)] [] := by
  intro n
  induction n with
  | zero => intro M x1 x3 x4 hF; cases hF
  | succ n ih =>
    intro M x1 x3 x4 hF
    unfold fn_X11_gone_28 at hF
    refine sd_iload C 3 dX11_gone_28 rfl rfl (n' := 30) ?_
    refine sd_iload_n C 1 dX11_gone_30 rfl rfl rfl (n' := 31) ?_
    refine sd_icmp_gt C (n' := 34) (tgt := 45) dX11_gone_31 rfl rfl (fun c31 => ?_) (fun c31 => ?_)
    · replace hF := sd_pos hF c31
      refine sd_iconst C (v := 0) dX11_gone_45 rfl rfl (n' := 46) ?_
      refine sd_istore [(4, .int (0 : Int32)), (0, .ref (E.2.2 100)), (1, .int x1), (3, .int x3)] C dX11_gone_46 (by decide) rfl rfl (n' := 48) ?_
      refine sd_iconst C (v := 0) dX11_gone_48 rfl rfl (n' := 49) ?_
      refine sd_istore [(5, .int (0 : Int32)), (4, .int (0 : Int32)), (0, .ref (E.2.2 100)), (1, .int x1), (3, .int x3)] C dX11_gone_49 (by decide) rfl rfl (n' := 51) ?_
      refine sd_sub [2, 1, 0] rfl ?_
      exact tb_X11_gone_51 C sd_FU M (0 : Int32) (0 : Int32) hF
    · replace hF := sd_neg hF c31
      refine sd_aload_n C 0 dX11_gone_34 rfl rfl rfl (n' := 35) ?_
      refine sd_iload_n C 2 dX11_gone_35 rfl rfl rfl (n' := 36) ?_
      obtain ⟨q36, e36, hF⟩ := sd_bind hF
      refine sd_callVV [.int x3] [] C (ct_X11_goesOn M x3  e36) sd_lX11_297 ⟨rfl, rfl, Nat.le_of_ble_eq_true rfl, Nat.le_of_ble_eq_true rfl⟩ sd_i100 (sd_e12 sd_k100) rfl rfl rfl (Nat.le_of_ble_eq_true rfl) dX11_gone_36 rfl (n' := 39) ?_
      refine sd_iinc [(4, .int (x4 + (1 : Int32))), (0, .ref (E.2.2 100)), (1, .int x1), (3, .int x3)] 3 C dX11_gone_39 rfl rfl (by decide) rfl rfl (n' := 42) ?_
      refine sd_goto C (tgt := 28) dX11_gone_42 rfl ?_
      refine sd_sub [1, 2, 3, 0] rfl ?_
      exact ih q36 x1 x3 (x4 + (1 : Int32)) hF
set_option maxRecDepth 100000 in
set_option maxHeartbeats 4000000 in
theorem tb_X11_gone_0 {K : sd_K} {E : sd_Env}   {r : (Int32 × sd_Mem)} (C : sd_C K E sd_LM RX11 cX11_gone 6 (some .int))  : ∀ (M : sd_Mem) (x1 : Int32) (x2 : Int32) (x3 : Int32), fn_X11_gone_0 M x1 x2 x3 = some r → sd_Z K rm_X11_gone E sd_LM 6 (sd_QI K E sd_LM r.1 r.2) M 0 [(0, .ref (E.2.2 100)), (1, .int x1), (2, .int x2), (3, .int x3)] [] := by
  intro M x1 x2 x3 hF
  unfold fn_X11_gone_0 at hF
  refine sd_iload_n C 1 dX11_gone_0 rfl rfl rfl (n' := 1) ?_
  refine sd_iconst C (v := 1) dX11_gone_1 rfl rfl (n' := 2) ?_
  refine sd_bipush C (v := 99) dX11_gone_2 rfl rfl (n' := 4) ?_
  obtain ⟨q4, e4, hF⟩ := sd_bind hF
  refine sd_callSI [.int x1, .int (1 : Int32), .int (99 : Int32)] [] C (ct_X11_in M x1 (1 : Int32) (99 : Int32)  e4) sd_lX11_97 ⟨rfl, rfl, Nat.le_of_ble_eq_true rfl, Nat.le_of_ble_eq_true rfl⟩ rfl (Nat.le_of_ble_eq_true rfl) dX11_gone_4 rfl (n' := 7) ?_
  refine sd_if_eq C (n' := 10) (tgt := 18) dX11_gone_7 rfl rfl (fun c7 => ?_) (fun c7 => ?_)
  · replace hF := sd_pos hF c7
    refine sd_iconst C (v := -1) dX11_gone_18 rfl rfl (n' := 19) ?_
    exact sd_iret C dX11_gone_19 (sd_fst hF) (sd_snd hF)
  · replace hF := sd_neg hF c7
    refine sd_iload_n C 2 dX11_gone_10 rfl rfl rfl (n' := 11) ?_
    refine sd_iload_n C 3 dX11_gone_11 rfl rfl rfl (n' := 12) ?_
    obtain ⟨q12, e12, hF⟩ := sd_bind hF
    refine sd_callSI [.int x2, .int x3] [] C (ct_X11_isFund M x2 x3  e12) sd_lX11_290 ⟨rfl, rfl, Nat.le_of_ble_eq_true rfl, Nat.le_of_ble_eq_true rfl⟩ rfl (Nat.le_of_ble_eq_true rfl) dX11_gone_12 rfl (n' := 15) ?_
    refine sd_if_ne C (n' := 18) (tgt := 20) dX11_gone_15 rfl rfl (fun c15 => ?_) (fun c15 => ?_)
    · replace hF := sd_neg hF c15
      refine sd_aload_n C 0 dX11_gone_20 rfl rfl rfl (n' := 21) ?_
      refine sd_iload_n C 2 dX11_gone_21 rfl rfl rfl (n' := 22) ?_
      obtain ⟨q22, e22, hF⟩ := sd_bind hF
      refine sd_callVV [.int x2] [] C (ct_X11_begins M x2  e22) sd_lX11_293 ⟨rfl, rfl, Nat.le_of_ble_eq_true rfl, Nat.le_of_ble_eq_true rfl⟩ sd_i100 (sd_e12 sd_k100) rfl rfl rfl (Nat.le_of_ble_eq_true rfl) dX11_gone_22 rfl (n' := 25) ?_
      refine sd_iconst C (v := 1) dX11_gone_25 rfl rfl (n' := 26) ?_
      refine sd_istore [(4, .int (1 : Int32)), (0, .ref (E.2.2 100)), (1, .int x1), (2, .int x2), (3, .int x3)] C dX11_gone_26 (by decide) rfl rfl (n' := 28) ?_
      refine sd_sub [1, 2, 4, 0] rfl ?_
      exact tb_X11_gone_28 C sd_FU q22 x1 x3 (1 : Int32) hF
    · replace hF := sd_pos hF c15
      refine sd_iconst C (v := -1) dX11_gone_18 rfl rfl (n' := 19) ?_
      exact sd_iret C dX11_gone_19 (sd_fst hF) (sd_snd hF)
theorem ct_X11_gone {l : Launch} {E : sd_Env} (M : sd_Mem) (x1 : Int32) (x2 : Int32) (x3 : Int32)  {r : (Int32 × sd_Mem)} (hF : fn_X11_gone M x1 x2 x3 = some r) : sd_MI l E sd_LM yX11_gone cX11_gone 6 (some .int) rm_X11_gone [.ref (E.2.2 100), .int x1, .int x2, .int x3] M r.1 r.2 := sd_ent0 (by decide +kernel) (Nat.le_of_ble_eq_true rfl) (fun p e s m below meth c C => tb_X11_gone_0 C M x1 x2 x3 hF)
theorem dX11_all_0 : decode cX11_all 0 = .ok (.iload_n 1, 1) := by decide +kernel
theorem dX11_all_1 : decode cX11_all 1 = .ok (.iload_n 2, 1) := by decide +kernel
theorem dX11_all_2 : decode cX11_all 2 = .ok (.invokestatic 290, 3) := by decide +kernel
theorem dX11_all_5 : decode cX11_all 5 = .ok (.ifCond .ne 5, 3) := by decide +kernel
theorem dX11_all_8 : decode cX11_all 8 = .ok (.iconst (-1), 1) := by decide +kernel
theorem dX11_all_9 : decode cX11_all 9 = .ok (.ireturn, 1) := by decide +kernel
theorem dX11_all_10 : decode cX11_all 10 = .ok (.aload_n 0, 1) := by decide +kernel
theorem dX11_all_11 : decode cX11_all 11 = .ok (.iload_n 1, 1) := by decide +kernel
theorem dX11_all_12 : decode cX11_all 12 = .ok (.invokevirtual 293, 3) := by decide +kernel
theorem dX11_all_15 : decode cX11_all 15 = .ok (.iconst 1, 1) := by decide +kernel
theorem dX11_all_16 : decode cX11_all 16 = .ok (.istore_n 3, 1) := by decide +kernel
theorem dX11_all_17 : decode cX11_all 17 = .ok (.iload_n 3, 1) := by decide +kernel
theorem dX11_all_18 : decode cX11_all 18 = .ok (.bipush 99, 2) := by decide +kernel
theorem dX11_all_20 : decode cX11_all 20 = .ok (.if_icmp .gt 33, 3) := by decide +kernel
theorem dX11_all_23 : decode cX11_all 23 = .ok (.aload_n 0, 1) := by decide +kernel
theorem dX11_all_24 : decode cX11_all 24 = .ok (.iload_n 2, 1) := by decide +kernel
theorem dX11_all_25 : decode cX11_all 25 = .ok (.invokevirtual 297, 3) := by decide +kernel
theorem dX11_all_28 : decode cX11_all 28 = .ok (.aload_n 0, 1) := by decide +kernel
theorem dX11_all_29 : decode cX11_all 29 = .ok (.aload_n 0, 1) := by decide +kernel
theorem dX11_all_30 : decode cX11_all 30 = .ok (.getfield 274, 3) := by decide +kernel
theorem dX11_all_33 : decode cX11_all 33 = .ok (.invokevirtual 287, 3) := by decide +kernel
theorem dX11_all_36 : decode cX11_all 36 = .ok (.aload_n 0, 1) := by decide +kernel
theorem dX11_all_37 : decode cX11_all 37 = .ok (.bipush 63, 2) := by decide +kernel
theorem dX11_all_39 : decode cX11_all 39 = .ok (.invokevirtual 287, 3) := by decide +kernel
theorem dX11_all_42 : decode cX11_all 42 = .ok (.if_icmp .ne 5, 3) := by decide +kernel
theorem dX11_all_45 : decode cX11_all 45 = .ok (.iload_n 3, 1) := by decide +kernel
theorem dX11_all_46 : decode cX11_all 46 = .ok (.ireturn, 1) := by decide +kernel
theorem dX11_all_47 : decode cX11_all 47 = .ok (.iinc 3 1, 3) := by decide +kernel
theorem dX11_all_50 : decode cX11_all 50 = .ok (.goto (-33), 3) := by decide +kernel
theorem dX11_all_53 : decode cX11_all 53 = .ok (.bipush (-9), 2) := by decide +kernel
theorem dX11_all_55 : decode cX11_all 55 = .ok (.ireturn, 1) := by decide +kernel
set_option maxRecDepth 100000 in
set_option maxHeartbeats 4000000 in
theorem tb_X11_all_17 {K : sd_K} {E : sd_Env}   {r : (Int32 × sd_Mem)} (C : sd_C K E sd_LM RX11 cX11_all 4 (some .int))  : ∀ (n : Nat), ∀ (M : sd_Mem) (x2 : Int32) (x3 : Int32), fn_X11_all_17 n M x2 x3 = some r → sd_Z K rm_X11_all E sd_LM 4 (sd_QI K E sd_LM r.1 r.2) M 17 [(0, .ref (E.2.2 100)), (2, .int x2), (3, .int x3)] [] := by
  intro n
  induction n with
  | zero => intro M x2 x3 hF; cases hF
  | succ n ih =>
    intro M x2 x3 hF
    unfold fn_X11_all_17 at hF
    refine sd_iload_n C 2 dX11_all_17 rfl rfl rfl (n' := 18) ?_
    refine sd_bipush C (v := 99) dX11_all_18 rfl rfl (n' := 20) ?_
    refine sd_icmp_gt C (n' := 23) (tgt := 53) dX11_all_20 rfl rfl (fun c20 => ?_) (fun c20 => ?_)
    · replace hF := sd_pos hF c20
      refine sd_bipush C (v := -9) dX11_all_53 rfl rfl (n' := 55) ?_
      exact sd_iret C dX11_all_55 (sd_fst hF) (sd_snd hF)
    · replace hF := sd_neg hF c20
      refine sd_aload_n C 0 dX11_all_23 rfl rfl rfl (n' := 24) ?_
      refine sd_iload_n C 1 dX11_all_24 rfl rfl rfl (n' := 25) ?_
      obtain ⟨q25, e25, hF⟩ := sd_bind hF
      refine sd_callVV [.int x2] [] C (ct_X11_goesOn M x2  e25) sd_lX11_297 ⟨rfl, rfl, Nat.le_of_ble_eq_true rfl, Nat.le_of_ble_eq_true rfl⟩ sd_i100 (sd_e12 sd_k100) rfl rfl rfl (Nat.le_of_ble_eq_true rfl) dX11_all_25 rfl (n' := 28) ?_
      refine sd_aload_n C 0 dX11_all_28 rfl rfl rfl (n' := 29) ?_
      refine sd_aload_n C 0 dX11_all_29 rfl rfl rfl (n' := 30) ?_
      refine sd_g11_30 C sd_i100 sd_k100 sd_w1071 dX11_all_30 rfl (n' := 33) ?_
      obtain ⟨q33, e33, hF⟩ := sd_bind hF
      refine sd_callVI [.int (q25.1 100 30)] [] C (ct_X11_menOf q25 (q25.1 100 30)  e33) sd_lX11_287 ⟨rfl, rfl, Nat.le_of_ble_eq_true rfl, Nat.le_of_ble_eq_true rfl⟩ sd_i100 (sd_e12 sd_k100) rfl rfl rfl (Nat.le_of_ble_eq_true rfl) dX11_all_33 rfl (n' := 36) ?_
      refine sd_aload_n C 0 dX11_all_36 rfl rfl rfl (n' := 37) ?_
      refine sd_bipush C (v := 63) dX11_all_37 rfl rfl (n' := 39) ?_
      obtain ⟨q39, e39, hF⟩ := sd_bind hF
      refine sd_callVI [.int (63 : Int32)] [.int q33] C (ct_X11_menOf q25 (63 : Int32)  e39) sd_lX11_287 ⟨rfl, rfl, Nat.le_of_ble_eq_true rfl, Nat.le_of_ble_eq_true rfl⟩ sd_i100 (sd_e12 sd_k100) rfl rfl rfl (Nat.le_of_ble_eq_true rfl) dX11_all_39 rfl (n' := 42) ?_
      refine sd_icmp_ne C (n' := 45) (tgt := 47) dX11_all_42 rfl rfl (fun c42 => ?_) (fun c42 => ?_)
      · replace hF := sd_neg hF c42
        refine sd_iinc [(3, .int (x3 + (1 : Int32))), (0, .ref (E.2.2 100)), (2, .int x2)] 2 C dX11_all_47 rfl rfl (by decide) rfl rfl (n' := 50) ?_
        refine sd_goto C (tgt := 17) dX11_all_50 rfl ?_
        refine sd_sub [1, 2, 0] rfl ?_
        exact ih q25 x2 (x3 + (1 : Int32)) hF
      · replace hF := sd_pos hF c42
        refine sd_iload_n C 2 dX11_all_45 rfl rfl rfl (n' := 46) ?_
        exact sd_iret C dX11_all_46 (sd_fst hF) (sd_snd hF)
set_option maxRecDepth 100000 in
set_option maxHeartbeats 4000000 in
theorem tb_X11_all_0 {K : sd_K} {E : sd_Env}   {r : (Int32 × sd_Mem)} (C : sd_C K E sd_LM RX11 cX11_all 4 (some .int))  : ∀ (M : sd_Mem) (x1 : Int32) (x2 : Int32), fn_X11_all_0 M x1 x2 = some r → sd_Z K rm_X11_all E sd_LM 4 (sd_QI K E sd_LM r.1 r.2) M 0 [(0, .ref (E.2.2 100)), (1, .int x1), (2, .int x2)] [] := by
  intro M x1 x2 hF
  unfold fn_X11_all_0 at hF
  refine sd_iload_n C 1 dX11_all_0 rfl rfl rfl (n' := 1) ?_
  refine sd_iload_n C 2 dX11_all_1 rfl rfl rfl (n' := 2) ?_
  obtain ⟨q2, e2, hF⟩ := sd_bind hF
  refine sd_callSI [.int x1, .int x2] [] C (ct_X11_isFund M x1 x2  e2) sd_lX11_290 ⟨rfl, rfl, Nat.le_of_ble_eq_true rfl, Nat.le_of_ble_eq_true rfl⟩ rfl (Nat.le_of_ble_eq_true rfl) dX11_all_2 rfl (n' := 5) ?_
  refine sd_if_ne C (n' := 8) (tgt := 10) dX11_all_5 rfl rfl (fun c5 => ?_) (fun c5 => ?_)
  · replace hF := sd_neg hF c5
    refine sd_aload_n C 0 dX11_all_10 rfl rfl rfl (n' := 11) ?_
    refine sd_iload_n C 1 dX11_all_11 rfl rfl rfl (n' := 12) ?_
    obtain ⟨q12, e12, hF⟩ := sd_bind hF
    refine sd_callVV [.int x1] [] C (ct_X11_begins M x1  e12) sd_lX11_293 ⟨rfl, rfl, Nat.le_of_ble_eq_true rfl, Nat.le_of_ble_eq_true rfl⟩ sd_i100 (sd_e12 sd_k100) rfl rfl rfl (Nat.le_of_ble_eq_true rfl) dX11_all_12 rfl (n' := 15) ?_
    refine sd_iconst C (v := 1) dX11_all_15 rfl rfl (n' := 16) ?_
    refine sd_istore_n [(3, .int (1 : Int32)), (0, .ref (E.2.2 100)), (1, .int x1), (2, .int x2)] C dX11_all_16 rfl (by decide) rfl rfl (n' := 17) ?_
    refine sd_sub [1, 3, 0] rfl ?_
    exact tb_X11_all_17 C sd_FU q12 x2 (1 : Int32) hF
  · replace hF := sd_pos hF c5
    refine sd_iconst C (v := -1) dX11_all_8 rfl rfl (n' := 9) ?_
    exact sd_iret C dX11_all_9 (sd_fst hF) (sd_snd hF)
theorem ct_X11_all {l : Launch} {E : sd_Env} (M : sd_Mem) (x1 : Int32) (x2 : Int32)  {r : (Int32 × sd_Mem)} (hF : fn_X11_all M x1 x2 = some r) : sd_MI l E sd_LM yX11_all cX11_all 4 (some .int) rm_X11_all [.ref (E.2.2 100), .int x1, .int x2] M r.1 r.2 := sd_ent0 (by decide +kernel) (Nat.le_of_ble_eq_true rfl) (fun p e s m below meth c C => tb_X11_all_0 C M x1 x2 hF)
theorem dX11_turnsAll_0 : decode cX11_turnsAll 0 = .ok (.aload_n 0, 1) := by decide +kernel
theorem dX11_turnsAll_1 : decode cX11_turnsAll 1 = .ok (.iconst 0, 1) := by decide +kernel
theorem dX11_turnsAll_2 : decode cX11_turnsAll 2 = .ok (.invokevirtual 293, 3) := by decide +kernel
theorem dX11_turnsAll_5 : decode cX11_turnsAll 5 = .ok (.iload_n 2, 1) := by decide +kernel
theorem dX11_turnsAll_6 : decode cX11_turnsAll 6 = .ok (.ifCond .lt 10, 3) := by decide +kernel
theorem dX11_turnsAll_9 : decode cX11_turnsAll 9 = .ok (.aload_n 0, 1) := by decide +kernel
theorem dX11_turnsAll_10 : decode cX11_turnsAll 10 = .ok (.getfield 85, 3) := by decide +kernel
theorem dX11_turnsAll_13 : decode cX11_turnsAll 13 = .ok (.iload_n 2, 1) := by decide +kernel
theorem dX11_turnsAll_14 : decode cX11_turnsAll 14 = .ok (.iconst 0, 1) := by decide +kernel
theorem dX11_turnsAll_15 : decode cX11_turnsAll 15 = .ok (.iastore, 1) := by decide +kernel
theorem dX11_turnsAll_16 : decode cX11_turnsAll 16 = .ok (.iconst 1, 1) := by decide +kernel
theorem dX11_turnsAll_17 : decode cX11_turnsAll 17 = .ok (.istore_n 3, 1) := by decide +kernel
theorem dX11_turnsAll_18 : decode cX11_turnsAll 18 = .ok (.iload_n 3, 1) := by decide +kernel
theorem dX11_turnsAll_19 : decode cX11_turnsAll 19 = .ok (.iload_n 1, 1) := by decide +kernel
theorem dX11_turnsAll_20 : decode cX11_turnsAll 20 = .ok (.if_icmp .gt 14, 3) := by decide +kernel
theorem dX11_turnsAll_23 : decode cX11_turnsAll 23 = .ok (.aload_n 0, 1) := by decide +kernel
theorem dX11_turnsAll_24 : decode cX11_turnsAll 24 = .ok (.iconst 0, 1) := by decide +kernel
theorem dX11_turnsAll_25 : decode cX11_turnsAll 25 = .ok (.invokevirtual 297, 3) := by decide +kernel
theorem dX11_turnsAll_28 : decode cX11_turnsAll 28 = .ok (.iinc 3 1, 3) := by decide +kernel
theorem dX11_turnsAll_31 : decode cX11_turnsAll 31 = .ok (.goto (-13), 3) := by decide +kernel
theorem dX11_turnsAll_34 : decode cX11_turnsAll 34 = .ok (.aload_n 0, 1) := by decide +kernel
theorem dX11_turnsAll_35 : decode cX11_turnsAll 35 = .ok (.aload_n 0, 1) := by decide +kernel
theorem dX11_turnsAll_36 : decode cX11_turnsAll 36 = .ok (.getfield 274, 3) := by decide +kernel
theorem dX11_turnsAll_39 : decode cX11_turnsAll 39 = .ok (.invokevirtual 287, 3) := by decide +kernel
theorem dX11_turnsAll_42 : decode cX11_turnsAll 42 = .ok (.aload_n 0, 1) := by decide +kernel
theorem dX11_turnsAll_43 : decode cX11_turnsAll 43 = .ok (.bipush 63, 2) := by decide +kernel
theorem dX11_turnsAll_45 : decode cX11_turnsAll 45 = .ok (.invokevirtual 287, 3) := by decide +kernel
theorem dX11_turnsAll_48 : decode cX11_turnsAll 48 = .ok (.if_icmp .ne 7, 3) := by decide +kernel
theorem dX11_turnsAll_51 : decode cX11_turnsAll 51 = .ok (.iconst 1, 1) := by decide +kernel
theorem dX11_turnsAll_52 : decode cX11_turnsAll 52 = .ok (.goto 4, 3) := by decide +kernel
theorem dX11_turnsAll_55 : decode cX11_turnsAll 55 = .ok (.iconst 0, 1) := by decide +kernel
theorem dX11_turnsAll_56 : decode cX11_turnsAll 56 = .ok (.ireturn, 1) := by decide +kernel
set_option maxRecDepth 100000 in
set_option maxHeartbeats 4000000 in
theorem tb_X11_turnsAll_34 {K : sd_K} {E : sd_Env}   {r : (Int32 × sd_Mem)} (C : sd_C K E sd_LM RX11 cX11_turnsAll 4 (some .boolean))  : ∀ (M : sd_Mem), fn_X11_turnsAll_34 M = some r → sd_Z K rm_X11_turnsAll E sd_LM 4 (sd_QI K E sd_LM r.1 r.2) M 34 [(0, .ref (E.2.2 100))] [] := by
  intro M hF
  unfold fn_X11_turnsAll_34 at hF
  refine sd_aload_n C 0 dX11_turnsAll_34 rfl rfl rfl (n' := 35) ?_
  refine sd_aload_n C 0 dX11_turnsAll_35 rfl rfl rfl (n' := 36) ?_
  refine sd_g11_30 C sd_i100 sd_k100 sd_w1071 dX11_turnsAll_36 rfl (n' := 39) ?_
  obtain ⟨q39, e39, hF⟩ := sd_bind hF
  refine sd_callVI [.int (M.1 100 30)] [] C (ct_X11_menOf M (M.1 100 30)  e39) sd_lX11_287 ⟨rfl, rfl, Nat.le_of_ble_eq_true rfl, Nat.le_of_ble_eq_true rfl⟩ sd_i100 (sd_e12 sd_k100) rfl rfl rfl (Nat.le_of_ble_eq_true rfl) dX11_turnsAll_39 rfl (n' := 42) ?_
  refine sd_aload_n C 0 dX11_turnsAll_42 rfl rfl rfl (n' := 43) ?_
  refine sd_bipush C (v := 63) dX11_turnsAll_43 rfl rfl (n' := 45) ?_
  obtain ⟨q45, e45, hF⟩ := sd_bind hF
  refine sd_callVI [.int (63 : Int32)] [.int q39] C (ct_X11_menOf M (63 : Int32)  e45) sd_lX11_287 ⟨rfl, rfl, Nat.le_of_ble_eq_true rfl, Nat.le_of_ble_eq_true rfl⟩ sd_i100 (sd_e12 sd_k100) rfl rfl rfl (Nat.le_of_ble_eq_true rfl) dX11_turnsAll_45 rfl (n' := 48) ?_
  refine sd_icmp_ne C (n' := 51) (tgt := 55) dX11_turnsAll_48 rfl rfl (fun c48 => ?_) (fun c48 => ?_)
  · replace hF := sd_neg hF c48
    refine sd_iconst C (v := 0) dX11_turnsAll_55 rfl rfl (n' := 56) ?_
    exact sd_zret C dX11_turnsAll_56 rfl (sd_fst hF) (sd_snd hF)
  · replace hF := sd_pos hF c48
    refine sd_iconst C (v := 1) dX11_turnsAll_51 rfl rfl (n' := 52) ?_
    refine sd_goto C (tgt := 56) dX11_turnsAll_52 rfl ?_
    exact sd_zret C dX11_turnsAll_56 rfl (sd_fst hF) (sd_snd hF)
set_option maxRecDepth 100000 in
set_option maxHeartbeats 4000000 in
theorem tb_X11_turnsAll_18 {K : sd_K} {E : sd_Env}   {r : (Int32 × sd_Mem)} (C : sd_C K E sd_LM RX11 cX11_turnsAll 4 (some .boolean))  : ∀ (n : Nat), ∀ (M : sd_Mem) (x1 : Int32) (x3 : Int32), fn_X11_turnsAll_18 n M x1 x3 = some r → sd_Z K rm_X11_turnsAll E sd_LM 4 (sd_QI K E sd_LM r.1 r.2) M 18 [(0, .ref (E.2.2 100)), (1, .int x1), (3, .int x3)] [] := by
  intro n
  induction n with
  | zero => intro M x1 x3 hF; cases hF
  | succ n ih =>
    intro M x1 x3 hF
    unfold fn_X11_turnsAll_18 at hF
    refine sd_iload_n C 2 dX11_turnsAll_18 rfl rfl rfl (n' := 19) ?_
    refine sd_iload_n C 1 dX11_turnsAll_19 rfl rfl rfl (n' := 20) ?_
    refine sd_icmp_gt C (n' := 23) (tgt := 34) dX11_turnsAll_20 rfl rfl (fun c20 => ?_) (fun c20 => ?_)
    · replace hF := sd_pos hF c20
      refine sd_sub [0] rfl ?_
      exact tb_X11_turnsAll_34 C M hF
    · replace hF := sd_neg hF c20
      refine sd_aload_n C 0 dX11_turnsAll_23 rfl rfl rfl (n' := 24) ?_
      refine sd_iconst C (v := 0) dX11_turnsAll_24 rfl rfl (n' := 25) ?_
      obtain ⟨q25, e25, hF⟩ := sd_bind hF
      refine sd_callVV [.int (0 : Int32)] [] C (ct_X11_goesOn M (0 : Int32)  e25) sd_lX11_297 ⟨rfl, rfl, Nat.le_of_ble_eq_true rfl, Nat.le_of_ble_eq_true rfl⟩ sd_i100 (sd_e12 sd_k100) rfl rfl rfl (Nat.le_of_ble_eq_true rfl) dX11_turnsAll_25 rfl (n' := 28) ?_
      refine sd_iinc [(3, .int (x3 + (1 : Int32))), (0, .ref (E.2.2 100)), (1, .int x1)] 2 C dX11_turnsAll_28 rfl rfl (by decide) rfl rfl (n' := 31) ?_
      refine sd_goto C (tgt := 18) dX11_turnsAll_31 rfl ?_
      refine sd_sub [1, 2, 0] rfl ?_
      exact ih q25 x1 (x3 + (1 : Int32)) hF
set_option maxRecDepth 100000 in
set_option maxHeartbeats 4000000 in
theorem tb_X11_turnsAll_0 {K : sd_K} {E : sd_Env}   {r : (Int32 × sd_Mem)} (C : sd_C K E sd_LM RX11 cX11_turnsAll 4 (some .boolean))  : ∀ (M : sd_Mem) (x1 : Int32) (x2 : Int32), fn_X11_turnsAll_0 M x1 x2 = some r → sd_Z K rm_X11_turnsAll E sd_LM 4 (sd_QI K E sd_LM r.1 r.2) M 0 [(0, .ref (E.2.2 100)), (1, .int x1), (2, .int x2)] [] := by
  intro M x1 x2 hF
  unfold fn_X11_turnsAll_0 at hF
  refine sd_aload_n C 0 dX11_turnsAll_0 rfl rfl rfl (n' := 1) ?_
  refine sd_iconst C (v := 0) dX11_turnsAll_1 rfl rfl (n' := 2) ?_
  obtain ⟨q2, e2, hF⟩ := sd_bind hF
  refine sd_callVV [.int (0 : Int32)] [] C (ct_X11_begins M (0 : Int32)  e2) sd_lX11_293 ⟨rfl, rfl, Nat.le_of_ble_eq_true rfl, Nat.le_of_ble_eq_true rfl⟩ sd_i100 (sd_e12 sd_k100) rfl rfl rfl (Nat.le_of_ble_eq_true rfl) dX11_turnsAll_2 rfl (n' := 5) ?_
  refine sd_iload_n C 2 dX11_turnsAll_5 rfl rfl rfl (n' := 6) ?_
  refine sd_if_lt C (n' := 9) (tgt := 16) dX11_turnsAll_6 rfl rfl (fun c6 => ?_) (fun c6 => ?_)
  · replace hF := sd_pos hF c6
    refine sd_iconst C (v := 1) dX11_turnsAll_16 rfl rfl (n' := 17) ?_
    refine sd_istore_n [(3, .int (1 : Int32)), (0, .ref (E.2.2 100)), (1, .int x1), (2, .int x2)] C dX11_turnsAll_17 rfl (by decide) rfl rfl (n' := 18) ?_
    refine sd_sub [1, 2, 0] rfl ?_
    exact tb_X11_turnsAll_18 C sd_FU q2 x1 (1 : Int32) hF
  · replace hF := sd_neg hF c6
    refine sd_aload_n C 0 dX11_turnsAll_9 rfl rfl rfl (n' := 10) ?_
    refine sd_g11_31 C sd_i100 sd_k100 sd_w1072 dX11_turnsAll_10 rfl (n' := 13) ?_
    refine sd_iload_n C 2 dX11_turnsAll_13 rfl rfl rfl (n' := 14) ?_
    refine sd_iconst C (v := 0) dX11_turnsAll_14 rfl rfl (n' := 15) ?_
    obtain ⟨b15, hF⟩ := sd_ok hF
    refine sd_iast C sd_i122 sd_k122 sd_n122 b15 dX11_turnsAll_15 rfl (n' := 16) ?_
    refine sd_iconst C (v := 1) dX11_turnsAll_16 rfl rfl (n' := 17) ?_
    refine sd_istore_n [(3, .int (1 : Int32)), (0, .ref (E.2.2 100)), (1, .int x1), (2, .int x2)] C dX11_turnsAll_17 rfl (by decide) rfl rfl (n' := 18) ?_
    refine sd_sub [1, 2, 0] rfl ?_
    exact tb_X11_turnsAll_18 C sd_FU (sd_setI q2 122 x2.toNatClampNeg (0 : Int32)) x1 (1 : Int32) hF
theorem ct_X11_turnsAll {l : Launch} {E : sd_Env} (M : sd_Mem) (x1 : Int32) (x2 : Int32)  {r : (Int32 × sd_Mem)} (hF : fn_X11_turnsAll M x1 x2 = some r) : sd_MI l E sd_LM yX11_turnsAll cX11_turnsAll 4 (some .boolean) rm_X11_turnsAll [.ref (E.2.2 100), .int x1, .int x2] M r.1 r.2 := sd_ent0 (by decide +kernel) (Nat.le_of_ble_eq_true rfl) (fun p e s m below meth c C => tb_X11_turnsAll_0 C M x1 x2 hF)
theorem dX11_turns_0 : decode cX11_turns 0 = .ok (.iload_n 1, 1) := by decide +kernel
theorem dX11_turns_1 : decode cX11_turns 1 = .ok (.iconst 1, 1) := by decide +kernel
theorem dX11_turns_2 : decode cX11_turns 2 = .ok (.bipush 99, 2) := by decide +kernel
theorem dX11_turns_4 : decode cX11_turns 4 = .ok (.invokestatic 97, 3) := by decide +kernel
theorem dX11_turns_7 : decode cX11_turns 7 = .ok (.ifCond .ne 5, 3) := by decide +kernel
theorem dX11_turns_10 : decode cX11_turns 10 = .ok (.iconst (-1), 1) := by decide +kernel
theorem dX11_turns_11 : decode cX11_turns 11 = .ok (.ireturn, 1) := by decide +kernel
theorem dX11_turns_12 : decode cX11_turns 12 = .ok (.bipush (-9), 2) := by decide +kernel
theorem dX11_turns_14 : decode cX11_turns 14 = .ok (.istore_n 2, 1) := by decide +kernel
theorem dX11_turns_15 : decode cX11_turns 15 = .ok (.iconst 0, 1) := by decide +kernel
theorem dX11_turns_16 : decode cX11_turns 16 = .ok (.istore_n 3, 1) := by decide +kernel
theorem dX11_turns_17 : decode cX11_turns 17 = .ok (.iload_n 3, 1) := by decide +kernel
theorem dX11_turns_18 : decode cX11_turns 18 = .ok (.bipush 6, 2) := by decide +kernel
theorem dX11_turns_20 : decode cX11_turns 20 = .ok (.if_icmp .ge 58, 3) := by decide +kernel
theorem dX11_turns_23 : decode cX11_turns 23 = .ok (.aload_n 0, 1) := by decide +kernel
theorem dX11_turns_24 : decode cX11_turns 24 = .ok (.iload_n 1, 1) := by decide +kernel
theorem dX11_turns_25 : decode cX11_turns 25 = .ok (.bipush (-9), 2) := by decide +kernel
theorem dX11_turns_27 : decode cX11_turns 27 = .ok (.invokevirtual 300, 3) := by decide +kernel
theorem dX11_turns_30 : decode cX11_turns 30 = .ok (.ifCond .ne 48, 3) := by decide +kernel
theorem dX11_turns_33 : decode cX11_turns 33 = .ok (.aload_n 0, 1) := by decide +kernel
theorem dX11_turns_34 : decode cX11_turns 34 = .ok (.getfield 76, 3) := by decide +kernel
theorem dX11_turns_37 : decode cX11_turns 37 = .ok (.iload_n 3, 1) := by decide +kernel
theorem dX11_turns_38 : decode cX11_turns 38 = .ok (.iaload, 1) := by decide +kernel
theorem dX11_turns_39 : decode cX11_turns 39 = .ok (.ifCond .le 33, 3) := by decide +kernel
theorem dX11_turns_42 : decode cX11_turns 42 = .ok (.aload_n 0, 1) := by decide +kernel
theorem dX11_turns_43 : decode cX11_turns 43 = .ok (.iload_n 1, 1) := by decide +kernel
theorem dX11_turns_44 : decode cX11_turns 44 = .ok (.iload_n 3, 1) := by decide +kernel
theorem dX11_turns_45 : decode cX11_turns 45 = .ok (.invokevirtual 300, 3) := by decide +kernel
theorem dX11_turns_48 : decode cX11_turns 48 = .ok (.ifCond .eq 24, 3) := by decide +kernel
theorem dX11_turns_51 : decode cX11_turns 51 = .ok (.iload_n 2, 1) := by decide +kernel
theorem dX11_turns_52 : decode cX11_turns 52 = .ok (.ifCond .lt 18, 3) := by decide +kernel
theorem dX11_turns_55 : decode cX11_turns 55 = .ok (.aload_n 0, 1) := by decide +kernel
theorem dX11_turns_56 : decode cX11_turns 56 = .ok (.getfield 76, 3) := by decide +kernel
theorem dX11_turns_59 : decode cX11_turns 59 = .ok (.iload_n 3, 1) := by decide +kernel
theorem dX11_turns_60 : decode cX11_turns 60 = .ok (.iaload, 1) := by decide +kernel
theorem dX11_turns_61 : decode cX11_turns 61 = .ok (.aload_n 0, 1) := by decide +kernel
theorem dX11_turns_62 : decode cX11_turns 62 = .ok (.getfield 76, 3) := by decide +kernel
theorem dX11_turns_65 : decode cX11_turns 65 = .ok (.iload_n 2, 1) := by decide +kernel
theorem dX11_turns_66 : decode cX11_turns 66 = .ok (.iaload, 1) := by decide +kernel
theorem dX11_turns_67 : decode cX11_turns 67 = .ok (.if_icmp .ge 5, 3) := by decide +kernel
theorem dX11_turns_70 : decode cX11_turns 70 = .ok (.iload_n 3, 1) := by decide +kernel
theorem dX11_turns_71 : decode cX11_turns 71 = .ok (.istore_n 2, 1) := by decide +kernel
theorem dX11_turns_72 : decode cX11_turns 72 = .ok (.iinc 3 1, 3) := by decide +kernel
theorem dX11_turns_75 : decode cX11_turns 75 = .ok (.goto (-58), 3) := by decide +kernel
theorem dX11_turns_78 : decode cX11_turns 78 = .ok (.iload_n 2, 1) := by decide +kernel
theorem dX11_turns_79 : decode cX11_turns 79 = .ok (.ireturn, 1) := by decide +kernel
set_option maxRecDepth 100000 in
set_option maxHeartbeats 4000000 in
theorem tb_X11_turns_17 {K : sd_K} {E : sd_Env}   {r : (Int32 × sd_Mem)} (C : sd_C K E sd_LM RX11 cX11_turns 4 (some .int))  : ∀ (n : Nat), ∀ (M : sd_Mem) (x1 : Int32) (x2 : Int32) (x3 : Int32), fn_X11_turns_17 n M x1 x2 x3 = some r → sd_Z K rm_X11_turns E sd_LM 4 (sd_QI K E sd_LM r.1 r.2) M 17 [(0, .ref (E.2.2 100)), (1, .int x1), (2, .int x2), (3, .int x3)] [] := by
  intro n
  induction n with
  | zero => intro M x1 x2 x3 hF; cases hF
  | succ n ih =>
    intro M x1 x2 x3 hF
    unfold fn_X11_turns_17 at hF
    refine sd_iload_n C 3 dX11_turns_17 rfl rfl rfl (n' := 18) ?_
    refine sd_bipush C (v := 6) dX11_turns_18 rfl rfl (n' := 20) ?_
    refine sd_icmp_ge C (n' := 23) (tgt := 78) dX11_turns_20 rfl rfl (fun c20 => ?_) (fun c20 => ?_)
    · replace hF := sd_pos hF c20
      refine sd_iload_n C 2 dX11_turns_78 rfl rfl rfl (n' := 79) ?_
      exact sd_iret C dX11_turns_79 (sd_fst hF) (sd_snd hF)
    · replace hF := sd_neg hF c20
      refine sd_aload_n C 0 dX11_turns_23 rfl rfl rfl (n' := 24) ?_
      refine sd_iload_n C 1 dX11_turns_24 rfl rfl rfl (n' := 25) ?_
      refine sd_bipush C (v := -9) dX11_turns_25 rfl rfl (n' := 27) ?_
      obtain ⟨q27, e27, hF⟩ := sd_bind hF
      refine sd_callVI [.int x1, .int (-9 : Int32)] [] C (ct_X11_turnsAll M x1 (-9 : Int32)  e27) sd_lX11_300 ⟨rfl, rfl, Nat.le_of_ble_eq_true rfl, Nat.le_of_ble_eq_true rfl⟩ sd_i100 (sd_e12 sd_k100) rfl rfl rfl (Nat.le_of_ble_eq_true rfl) dX11_turns_27 rfl (n' := 30) ?_
      refine sd_if_ne C (n' := 33) (tgt := 78) dX11_turns_30 rfl rfl (fun c30 => ?_) (fun c30 => ?_)
      · replace hF := sd_neg hF c30
        refine sd_iload_n C 2 dX11_turns_78 rfl rfl rfl (n' := 79) ?_
        exact sd_iret C dX11_turns_79 (sd_fst hF) (sd_snd hF)
      · replace hF := sd_pos hF c30
        refine sd_aload_n C 0 dX11_turns_33 rfl rfl rfl (n' := 34) ?_
        refine sd_g11_27 C sd_i100 sd_k100 sd_w1068 dX11_turns_34 rfl (n' := 37) ?_
        refine sd_iload_n C 3 dX11_turns_37 rfl rfl rfl (n' := 38) ?_
        obtain ⟨b38, hF⟩ := sd_ok hF
        refine sd_iald C sd_i119 sd_k119 sd_n119 b38 dX11_turns_38 rfl (n' := 39) ?_
        refine sd_if_le C (n' := 42) (tgt := 72) dX11_turns_39 rfl rfl (fun c39 => ?_) (fun c39 => ?_)
        · replace hF := sd_pos hF c39
          refine sd_iinc [(3, .int (x3 + (1 : Int32))), (0, .ref (E.2.2 100)), (1, .int x1), (2, .int x2)] 3 C dX11_turns_72 rfl rfl (by decide) rfl rfl (n' := 75) ?_
          refine sd_goto C (tgt := 17) dX11_turns_75 rfl ?_
          refine sd_sub [1, 2, 3, 0] rfl ?_
          exact ih q27.2 x1 x2 (x3 + (1 : Int32)) hF
        · replace hF := sd_neg hF c39
          refine sd_aload_n C 0 dX11_turns_42 rfl rfl rfl (n' := 43) ?_
          refine sd_iload_n C 1 dX11_turns_43 rfl rfl rfl (n' := 44) ?_
          refine sd_iload_n C 3 dX11_turns_44 rfl rfl rfl (n' := 45) ?_
          obtain ⟨q45, e45, hF⟩ := sd_bind hF
          refine sd_callVI [.int x1, .int x3] [] C (ct_X11_turnsAll q27.2 x1 x3  e45) sd_lX11_300 ⟨rfl, rfl, Nat.le_of_ble_eq_true rfl, Nat.le_of_ble_eq_true rfl⟩ sd_i100 (sd_e12 sd_k100) rfl rfl rfl (Nat.le_of_ble_eq_true rfl) dX11_turns_45 rfl (n' := 48) ?_
          refine sd_if_eq C (n' := 51) (tgt := 72) dX11_turns_48 rfl rfl (fun c48 => ?_) (fun c48 => ?_)
          · replace hF := sd_pos hF c48
            refine sd_iinc [(3, .int (x3 + (1 : Int32))), (0, .ref (E.2.2 100)), (1, .int x1), (2, .int x2)] 3 C dX11_turns_72 rfl rfl (by decide) rfl rfl (n' := 75) ?_
            refine sd_goto C (tgt := 17) dX11_turns_75 rfl ?_
            refine sd_sub [1, 2, 3, 0] rfl ?_
            exact ih q45.2 x1 x2 (x3 + (1 : Int32)) hF
          · replace hF := sd_neg hF c48
            refine sd_iload_n C 2 dX11_turns_51 rfl rfl rfl (n' := 52) ?_
            refine sd_if_lt C (n' := 55) (tgt := 70) dX11_turns_52 rfl rfl (fun c52 => ?_) (fun c52 => ?_)
            · replace hF := sd_pos hF c52
              refine sd_iload_n C 3 dX11_turns_70 rfl rfl rfl (n' := 71) ?_
              refine sd_istore_n [(2, .int x3), (0, .ref (E.2.2 100)), (1, .int x1), (3, .int x3)] C dX11_turns_71 rfl (by decide) rfl rfl (n' := 72) ?_
              refine sd_iinc [(3, .int (x3 + (1 : Int32))), (2, .int x3), (0, .ref (E.2.2 100)), (1, .int x1)] 3 C dX11_turns_72 rfl rfl (by decide) rfl rfl (n' := 75) ?_
              refine sd_goto C (tgt := 17) dX11_turns_75 rfl ?_
              refine sd_sub [2, 3, 1, 0] rfl ?_
              exact ih q45.2 x1 x3 (x3 + (1 : Int32)) hF
            · replace hF := sd_neg hF c52
              refine sd_aload_n C 0 dX11_turns_55 rfl rfl rfl (n' := 56) ?_
              refine sd_g11_27 C sd_i100 sd_k100 sd_w1068 dX11_turns_56 rfl (n' := 59) ?_
              refine sd_iload_n C 3 dX11_turns_59 rfl rfl rfl (n' := 60) ?_
              obtain ⟨b60, hF⟩ := sd_ok hF
              refine sd_iald C sd_i119 sd_k119 sd_n119 b60 dX11_turns_60 rfl (n' := 61) ?_
              refine sd_aload_n C 0 dX11_turns_61 rfl rfl rfl (n' := 62) ?_
              refine sd_g11_27 C sd_i100 sd_k100 sd_w1068 dX11_turns_62 rfl (n' := 65) ?_
              refine sd_iload_n C 2 dX11_turns_65 rfl rfl rfl (n' := 66) ?_
              obtain ⟨b66, hF⟩ := sd_ok hF
              refine sd_iald C sd_i119 sd_k119 sd_n119 b66 dX11_turns_66 rfl (n' := 67) ?_
              refine sd_icmp_ge C (n' := 70) (tgt := 72) dX11_turns_67 rfl rfl (fun c67 => ?_) (fun c67 => ?_)
              · replace hF := sd_pos hF c67
                refine sd_iinc [(3, .int (x3 + (1 : Int32))), (0, .ref (E.2.2 100)), (1, .int x1), (2, .int x2)] 3 C dX11_turns_72 rfl rfl (by decide) rfl rfl (n' := 75) ?_
                refine sd_goto C (tgt := 17) dX11_turns_75 rfl ?_
                refine sd_sub [1, 2, 3, 0] rfl ?_
                exact ih q45.2 x1 x2 (x3 + (1 : Int32)) hF
              · replace hF := sd_neg hF c67
                refine sd_iload_n C 3 dX11_turns_70 rfl rfl rfl (n' := 71) ?_
                refine sd_istore_n [(2, .int x3), (0, .ref (E.2.2 100)), (1, .int x1), (3, .int x3)] C dX11_turns_71 rfl (by decide) rfl rfl (n' := 72) ?_
                refine sd_iinc [(3, .int (x3 + (1 : Int32))), (2, .int x3), (0, .ref (E.2.2 100)), (1, .int x1)] 3 C dX11_turns_72 rfl rfl (by decide) rfl rfl (n' := 75) ?_
                refine sd_goto C (tgt := 17) dX11_turns_75 rfl ?_
                refine sd_sub [2, 3, 1, 0] rfl ?_
                exact ih q45.2 x1 x3 (x3 + (1 : Int32)) hF
set_option maxRecDepth 100000 in
set_option maxHeartbeats 4000000 in
theorem tb_X11_turns_0 {K : sd_K} {E : sd_Env}   {r : (Int32 × sd_Mem)} (C : sd_C K E sd_LM RX11 cX11_turns 4 (some .int))  : ∀ (M : sd_Mem) (x1 : Int32), fn_X11_turns_0 M x1 = some r → sd_Z K rm_X11_turns E sd_LM 4 (sd_QI K E sd_LM r.1 r.2) M 0 [(0, .ref (E.2.2 100)), (1, .int x1)] [] := by
  intro M x1 hF
  unfold fn_X11_turns_0 at hF
  refine sd_iload_n C 1 dX11_turns_0 rfl rfl rfl (n' := 1) ?_
  refine sd_iconst C (v := 1) dX11_turns_1 rfl rfl (n' := 2) ?_
  refine sd_bipush C (v := 99) dX11_turns_2 rfl rfl (n' := 4) ?_
  obtain ⟨q4, e4, hF⟩ := sd_bind hF
  refine sd_callSI [.int x1, .int (1 : Int32), .int (99 : Int32)] [] C (ct_X11_in M x1 (1 : Int32) (99 : Int32)  e4) sd_lX11_97 ⟨rfl, rfl, Nat.le_of_ble_eq_true rfl, Nat.le_of_ble_eq_true rfl⟩ rfl (Nat.le_of_ble_eq_true rfl) dX11_turns_4 rfl (n' := 7) ?_
  refine sd_if_ne C (n' := 10) (tgt := 12) dX11_turns_7 rfl rfl (fun c7 => ?_) (fun c7 => ?_)
  · replace hF := sd_neg hF c7
    refine sd_bipush C (v := -9) dX11_turns_12 rfl rfl (n' := 14) ?_
    refine sd_istore_n [(2, .int (-9 : Int32)), (0, .ref (E.2.2 100)), (1, .int x1)] C dX11_turns_14 rfl (by decide) rfl rfl (n' := 15) ?_
    refine sd_iconst C (v := 0) dX11_turns_15 rfl rfl (n' := 16) ?_
    refine sd_istore_n [(3, .int (0 : Int32)), (2, .int (-9 : Int32)), (0, .ref (E.2.2 100)), (1, .int x1)] C dX11_turns_16 rfl (by decide) rfl rfl (n' := 17) ?_
    refine sd_sub [2, 3, 1, 0] rfl ?_
    exact tb_X11_turns_17 C sd_FU M x1 (-9 : Int32) (0 : Int32) hF
  · replace hF := sd_pos hF c7
    refine sd_iconst C (v := -1) dX11_turns_10 rfl rfl (n' := 11) ?_
    exact sd_iret C dX11_turns_11 (sd_fst hF) (sd_snd hF)
theorem ct_X11_turns {l : Launch} {E : sd_Env} (M : sd_Mem) (x1 : Int32)  {r : (Int32 × sd_Mem)} (hF : fn_X11_turns M x1 = some r) : sd_MI l E sd_LM yX11_turns cX11_turns 4 (some .int) rm_X11_turns [.ref (E.2.2 100), .int x1] M r.1 r.2 := sd_ent0 (by decide +kernel) (Nat.le_of_ble_eq_true rfl) (fun p e s m below meth c C => tb_X11_turns_0 C M x1 hF)
theorem dX11_fund_0 : decode cX11_fund 0 = .ok (.iload_n 1, 1) := by decide +kernel
theorem dX11_fund_1 : decode cX11_fund 1 = .ok (.iload_n 2, 1) := by decide +kernel
theorem dX11_fund_2 : decode cX11_fund 2 = .ok (.invokestatic 290, 3) := by decide +kernel
theorem dX11_fund_5 : decode cX11_fund 5 = .ok (.ifCond .ne 5, 3) := by decide +kernel
theorem dX11_fund_8 : decode cX11_fund 8 = .ok (.iconst (-1), 1) := by decide +kernel
theorem dX11_fund_9 : decode cX11_fund 9 = .ok (.ireturn, 1) := by decide +kernel
theorem dX11_fund_10 : decode cX11_fund 10 = .ok (.aload_n 0, 1) := by decide +kernel
theorem dX11_fund_11 : decode cX11_fund 11 = .ok (.iload_n 1, 1) := by decide +kernel
theorem dX11_fund_12 : decode cX11_fund 12 = .ok (.invokevirtual 293, 3) := by decide +kernel
theorem dX11_fund_15 : decode cX11_fund 15 = .ok (.iconst 1, 1) := by decide +kernel
theorem dX11_fund_16 : decode cX11_fund 16 = .ok (.istore_n 3, 1) := by decide +kernel
theorem dX11_fund_17 : decode cX11_fund 17 = .ok (.iload_n 3, 1) := by decide +kernel
theorem dX11_fund_18 : decode cX11_fund 18 = .ok (.bipush 99, 2) := by decide +kernel
theorem dX11_fund_20 : decode cX11_fund 20 = .ok (.if_icmp .gt 14, 3) := by decide +kernel
theorem dX11_fund_23 : decode cX11_fund 23 = .ok (.aload_n 0, 1) := by decide +kernel
theorem dX11_fund_24 : decode cX11_fund 24 = .ok (.iload_n 2, 1) := by decide +kernel
theorem dX11_fund_25 : decode cX11_fund 25 = .ok (.invokevirtual 297, 3) := by decide +kernel
theorem dX11_fund_28 : decode cX11_fund 28 = .ok (.iinc 3 1, 3) := by decide +kernel
theorem dX11_fund_31 : decode cX11_fund 31 = .ok (.goto (-14), 3) := by decide +kernel
theorem dX11_fund_34 : decode cX11_fund 34 = .ok (.aload_n 0, 1) := by decide +kernel
theorem dX11_fund_35 : decode cX11_fund 35 = .ok (.getfield 280, 3) := by decide +kernel
theorem dX11_fund_38 : decode cX11_fund 38 = .ok (.ireturn, 1) := by decide +kernel
set_option maxRecDepth 100000 in
set_option maxHeartbeats 4000000 in
theorem tb_X11_fund_17 {K : sd_K} {E : sd_Env}   {r : (Int32 × sd_Mem)} (C : sd_C K E sd_LM RX11 cX11_fund 4 (some .int))  : ∀ (n : Nat), ∀ (M : sd_Mem) (x2 : Int32) (x3 : Int32), fn_X11_fund_17 n M x2 x3 = some r → sd_Z K rm_X11_fund E sd_LM 4 (sd_QI K E sd_LM r.1 r.2) M 17 [(0, .ref (E.2.2 100)), (2, .int x2), (3, .int x3)] [] := by
  intro n
  induction n with
  | zero => intro M x2 x3 hF; cases hF
  | succ n ih =>
    intro M x2 x3 hF
    unfold fn_X11_fund_17 at hF
    refine sd_iload_n C 2 dX11_fund_17 rfl rfl rfl (n' := 18) ?_
    refine sd_bipush C (v := 99) dX11_fund_18 rfl rfl (n' := 20) ?_
    refine sd_icmp_gt C (n' := 23) (tgt := 34) dX11_fund_20 rfl rfl (fun c20 => ?_) (fun c20 => ?_)
    · replace hF := sd_pos hF c20
      refine sd_aload_n C 0 dX11_fund_34 rfl rfl rfl (n' := 35) ?_
      refine sd_g11_33 C sd_i100 sd_k100 sd_w1074 dX11_fund_35 rfl (n' := 38) ?_
      exact sd_iret C dX11_fund_38 (sd_fst hF) (sd_snd hF)
    · replace hF := sd_neg hF c20
      refine sd_aload_n C 0 dX11_fund_23 rfl rfl rfl (n' := 24) ?_
      refine sd_iload_n C 1 dX11_fund_24 rfl rfl rfl (n' := 25) ?_
      obtain ⟨q25, e25, hF⟩ := sd_bind hF
      refine sd_callVV [.int x2] [] C (ct_X11_goesOn M x2  e25) sd_lX11_297 ⟨rfl, rfl, Nat.le_of_ble_eq_true rfl, Nat.le_of_ble_eq_true rfl⟩ sd_i100 (sd_e12 sd_k100) rfl rfl rfl (Nat.le_of_ble_eq_true rfl) dX11_fund_25 rfl (n' := 28) ?_
      refine sd_iinc [(3, .int (x3 + (1 : Int32))), (0, .ref (E.2.2 100)), (2, .int x2)] 2 C dX11_fund_28 rfl rfl (by decide) rfl rfl (n' := 31) ?_
      refine sd_goto C (tgt := 17) dX11_fund_31 rfl ?_
      refine sd_sub [1, 2, 0] rfl ?_
      exact ih q25 x2 (x3 + (1 : Int32)) hF
set_option maxRecDepth 100000 in
set_option maxHeartbeats 4000000 in
theorem tb_X11_fund_0 {K : sd_K} {E : sd_Env}   {r : (Int32 × sd_Mem)} (C : sd_C K E sd_LM RX11 cX11_fund 4 (some .int))  : ∀ (M : sd_Mem) (x1 : Int32) (x2 : Int32), fn_X11_fund_0 M x1 x2 = some r → sd_Z K rm_X11_fund E sd_LM 4 (sd_QI K E sd_LM r.1 r.2) M 0 [(0, .ref (E.2.2 100)), (1, .int x1), (2, .int x2)] [] := by
  intro M x1 x2 hF
  unfold fn_X11_fund_0 at hF
  refine sd_iload_n C 1 dX11_fund_0 rfl rfl rfl (n' := 1) ?_
  refine sd_iload_n C 2 dX11_fund_1 rfl rfl rfl (n' := 2) ?_
  obtain ⟨q2, e2, hF⟩ := sd_bind hF
  refine sd_callSI [.int x1, .int x2] [] C (ct_X11_isFund M x1 x2  e2) sd_lX11_290 ⟨rfl, rfl, Nat.le_of_ble_eq_true rfl, Nat.le_of_ble_eq_true rfl⟩ rfl (Nat.le_of_ble_eq_true rfl) dX11_fund_2 rfl (n' := 5) ?_
  refine sd_if_ne C (n' := 8) (tgt := 10) dX11_fund_5 rfl rfl (fun c5 => ?_) (fun c5 => ?_)
  · replace hF := sd_neg hF c5
    refine sd_aload_n C 0 dX11_fund_10 rfl rfl rfl (n' := 11) ?_
    refine sd_iload_n C 1 dX11_fund_11 rfl rfl rfl (n' := 12) ?_
    obtain ⟨q12, e12, hF⟩ := sd_bind hF
    refine sd_callVV [.int x1] [] C (ct_X11_begins M x1  e12) sd_lX11_293 ⟨rfl, rfl, Nat.le_of_ble_eq_true rfl, Nat.le_of_ble_eq_true rfl⟩ sd_i100 (sd_e12 sd_k100) rfl rfl rfl (Nat.le_of_ble_eq_true rfl) dX11_fund_12 rfl (n' := 15) ?_
    refine sd_iconst C (v := 1) dX11_fund_15 rfl rfl (n' := 16) ?_
    refine sd_istore_n [(3, .int (1 : Int32)), (0, .ref (E.2.2 100)), (1, .int x1), (2, .int x2)] C dX11_fund_16 rfl (by decide) rfl rfl (n' := 17) ?_
    refine sd_sub [1, 3, 0] rfl ?_
    exact tb_X11_fund_17 C sd_FU q12 x2 (1 : Int32) hF
  · replace hF := sd_pos hF c5
    refine sd_iconst C (v := -1) dX11_fund_8 rfl rfl (n' := 9) ?_
    exact sd_iret C dX11_fund_9 (sd_fst hF) (sd_snd hF)
theorem ct_X11_fund {l : Launch} {E : sd_Env} (M : sd_Mem) (x1 : Int32) (x2 : Int32)  {r : (Int32 × sd_Mem)} (hF : fn_X11_fund M x1 x2 = some r) : sd_MI l E sd_LM yX11_fund cX11_fund 4 (some .int) rm_X11_fund [.ref (E.2.2 100), .int x1, .int x2] M r.1 r.2 := sd_ent0 (by decide +kernel) (Nat.le_of_ble_eq_true rfl) (fun p e s m below meth c C => tb_X11_fund_0 C M x1 x2 hF)
theorem dX11_pact_0 : decode cX11_pact 0 = .ok (.iload_n 1, 1) := by decide +kernel
theorem dX11_pact_1 : decode cX11_pact 1 = .ok (.iconst 1, 1) := by decide +kernel
theorem dX11_pact_2 : decode cX11_pact 2 = .ok (.bipush 9, 2) := by decide +kernel
theorem dX11_pact_4 : decode cX11_pact 4 = .ok (.invokestatic 97, 3) := by decide +kernel
theorem dX11_pact_7 : decode cX11_pact 7 = .ok (.ifCond .eq 23, 3) := by decide +kernel
theorem dX11_pact_10 : decode cX11_pact 10 = .ok (.iload_n 2, 1) := by decide +kernel
theorem dX11_pact_11 : decode cX11_pact 11 = .ok (.iconst 0, 1) := by decide +kernel
theorem dX11_pact_12 : decode cX11_pact 12 = .ok (.bipush 99, 2) := by decide +kernel
theorem dX11_pact_14 : decode cX11_pact 14 = .ok (.invokestatic 97, 3) := by decide +kernel
theorem dX11_pact_17 : decode cX11_pact 17 = .ok (.ifCond .eq 13, 3) := by decide +kernel
theorem dX11_pact_20 : decode cX11_pact 20 = .ok (.iload_n 3, 1) := by decide +kernel
theorem dX11_pact_21 : decode cX11_pact 21 = .ok (.iconst 0, 1) := by decide +kernel
theorem dX11_pact_22 : decode cX11_pact 22 = .ok (.bipush 99, 2) := by decide +kernel
theorem dX11_pact_24 : decode cX11_pact 24 = .ok (.invokestatic 97, 3) := by decide +kernel
theorem dX11_pact_27 : decode cX11_pact 27 = .ok (.ifCond .ne 5, 3) := by decide +kernel
theorem dX11_pact_30 : decode cX11_pact 30 = .ok (.iconst (-1), 1) := by decide +kernel
theorem dX11_pact_31 : decode cX11_pact 31 = .ok (.ireturn, 1) := by decide +kernel
theorem dX11_pact_32 : decode cX11_pact 32 = .ok (.iconst 1, 1) := by decide +kernel
theorem dX11_pact_33 : decode cX11_pact 33 = .ok (.istore 4, 2) := by decide +kernel
theorem dX11_pact_35 : decode cX11_pact 35 = .ok (.iload 4, 2) := by decide +kernel
theorem dX11_pact_37 : decode cX11_pact 37 = .ok (.bipush 99, 2) := by decide +kernel
theorem dX11_pact_39 : decode cX11_pact 39 = .ok (.if_icmp .gt 24, 3) := by decide +kernel
theorem dX11_pact_42 : decode cX11_pact 42 = .ok (.iload_n 2, 1) := by decide +kernel
theorem dX11_pact_43 : decode cX11_pact 43 = .ok (.iload 4, 2) := by decide +kernel
theorem dX11_pact_45 : decode cX11_pact 45 = .ok (.imul, 1) := by decide +kernel
theorem dX11_pact_46 : decode cX11_pact 46 = .ok (.iload_n 3, 1) := by decide +kernel
theorem dX11_pact_47 : decode cX11_pact 47 = .ok (.iload_n 1, 1) := by decide +kernel
theorem dX11_pact_48 : decode cX11_pact 48 = .ok (.iconst 1, 1) := by decide +kernel
theorem dX11_pact_49 : decode cX11_pact 49 = .ok (.isub, 1) := by decide +kernel
theorem dX11_pact_50 : decode cX11_pact 50 = .ok (.imul, 1) := by decide +kernel
theorem dX11_pact_51 : decode cX11_pact 51 = .ok (.if_icmp .lt 6, 3) := by decide +kernel
theorem dX11_pact_54 : decode cX11_pact 54 = .ok (.iload 4, 2) := by decide +kernel
theorem dX11_pact_56 : decode cX11_pact 56 = .ok (.ireturn, 1) := by decide +kernel
theorem dX11_pact_57 : decode cX11_pact 57 = .ok (.iinc 4 1, 3) := by decide +kernel
theorem dX11_pact_60 : decode cX11_pact 60 = .ok (.goto (-25), 3) := by decide +kernel
theorem dX11_pact_63 : decode cX11_pact 63 = .ok (.bipush (-9), 2) := by decide +kernel
theorem dX11_pact_65 : decode cX11_pact 65 = .ok (.ireturn, 1) := by decide +kernel
set_option maxRecDepth 100000 in
set_option maxHeartbeats 4000000 in
theorem tb_X11_pact_35 {K : sd_K} {E : sd_Env} {M : sd_Mem}  {r : Int32} (C : sd_C K E sd_LM RX11 cX11_pact 5 (some .int))  : ∀ (n : Nat), ∀ (x1 : Int32) (x2 : Int32) (x3 : Int32) (x4 : Int32), fn_X11_pact_35 n x1 x2 x3 x4 = some r → sd_Z K rm_X11_pact E sd_LM 5 (sd_QI K E sd_LM r M) M 35 [(1, .int x1), (2, .int x2), (3, .int x3), (4, .int x4)] [] := by
  intro n
  induction n with
  | zero => intro x1 x2 x3 x4 hF; cases hF
  | succ n ih =>
    intro x1 x2 x3 x4 hF
    unfold fn_X11_pact_35 at hF
    refine sd_iload C 3 dX11_pact_35 rfl rfl (n' := 37) ?_
    refine sd_bipush C (v := 99) dX11_pact_37 rfl rfl (n' := 39) ?_
    refine sd_icmp_gt C (n' := 42) (tgt := 63) dX11_pact_39 rfl rfl (fun c39 => ?_) (fun c39 => ?_)
    · replace hF := sd_pos hF c39
      refine sd_bipush C (v := -9) dX11_pact_63 rfl rfl (n' := 65) ?_
      exact sd_iret C dX11_pact_65 (Option.some.inj hF) rfl
    · replace hF := sd_neg hF c39
      refine sd_iload_n C 1 dX11_pact_42 rfl rfl rfl (n' := 43) ?_
      refine sd_iload C 3 dX11_pact_43 rfl rfl (n' := 45) ?_
      refine sd_imul C dX11_pact_45 rfl (n' := 46) ?_
      refine sd_iload_n C 2 dX11_pact_46 rfl rfl rfl (n' := 47) ?_
      refine sd_iload_n C 0 dX11_pact_47 rfl rfl rfl (n' := 48) ?_
      refine sd_iconst C (v := 1) dX11_pact_48 rfl rfl (n' := 49) ?_
      refine sd_isub C dX11_pact_49 rfl (n' := 50) ?_
      refine sd_imul C dX11_pact_50 rfl (n' := 51) ?_
      refine sd_icmp_lt C (n' := 54) (tgt := 57) dX11_pact_51 rfl rfl (fun c51 => ?_) (fun c51 => ?_)
      · replace hF := sd_pos hF c51
        refine sd_iinc [(4, .int (x4 + (1 : Int32))), (1, .int x1), (2, .int x2), (3, .int x3)] 3 C dX11_pact_57 rfl rfl (by decide) rfl rfl (n' := 60) ?_
        refine sd_goto C (tgt := 35) dX11_pact_60 rfl ?_
        refine sd_sub [1, 2, 3, 0] rfl ?_
        exact ih x1 x2 x3 (x4 + (1 : Int32)) hF
      · replace hF := sd_neg hF c51
        refine sd_iload C 3 dX11_pact_54 rfl rfl (n' := 56) ?_
        exact sd_iret C dX11_pact_56 (Option.some.inj hF) rfl
set_option maxRecDepth 100000 in
set_option maxHeartbeats 4000000 in
theorem tb_X11_pact_0 {K : sd_K} {E : sd_Env} {M : sd_Mem}  {r : Int32} (C : sd_C K E sd_LM RX11 cX11_pact 5 (some .int))  : ∀ (x1 : Int32) (x2 : Int32) (x3 : Int32), fn_X11_pact_0 x1 x2 x3 = some r → sd_Z K rm_X11_pact E sd_LM 5 (sd_QI K E sd_LM r M) M 0 [(0, .ref (E.2.2 100)), (1, .int x1), (2, .int x2), (3, .int x3)] [] := by
  intro x1 x2 x3 hF
  unfold fn_X11_pact_0 at hF
  refine sd_iload_n C 1 dX11_pact_0 rfl rfl rfl (n' := 1) ?_
  refine sd_iconst C (v := 1) dX11_pact_1 rfl rfl (n' := 2) ?_
  refine sd_bipush C (v := 9) dX11_pact_2 rfl rfl (n' := 4) ?_
  obtain ⟨q4, e4, hF⟩ := sd_bind hF
  refine sd_callSI [.int x1, .int (1 : Int32), .int (9 : Int32)] [] C (ct_X11_in M x1 (1 : Int32) (9 : Int32)  e4) sd_lX11_97 ⟨rfl, rfl, Nat.le_of_ble_eq_true rfl, Nat.le_of_ble_eq_true rfl⟩ rfl (Nat.le_of_ble_eq_true rfl) dX11_pact_4 rfl (n' := 7) ?_
  refine sd_if_eq C (n' := 10) (tgt := 30) dX11_pact_7 rfl rfl (fun c7 => ?_) (fun c7 => ?_)
  · replace hF := sd_pos hF c7
    refine sd_iconst C (v := -1) dX11_pact_30 rfl rfl (n' := 31) ?_
    exact sd_iret C dX11_pact_31 (Option.some.inj hF) rfl
  · replace hF := sd_neg hF c7
    refine sd_iload_n C 2 dX11_pact_10 rfl rfl rfl (n' := 11) ?_
    refine sd_iconst C (v := 0) dX11_pact_11 rfl rfl (n' := 12) ?_
    refine sd_bipush C (v := 99) dX11_pact_12 rfl rfl (n' := 14) ?_
    obtain ⟨q14, e14, hF⟩ := sd_bind hF
    refine sd_callSI [.int x2, .int (0 : Int32), .int (99 : Int32)] [] C (ct_X11_in M x2 (0 : Int32) (99 : Int32)  e14) sd_lX11_97 ⟨rfl, rfl, Nat.le_of_ble_eq_true rfl, Nat.le_of_ble_eq_true rfl⟩ rfl (Nat.le_of_ble_eq_true rfl) dX11_pact_14 rfl (n' := 17) ?_
    refine sd_if_eq C (n' := 20) (tgt := 30) dX11_pact_17 rfl rfl (fun c17 => ?_) (fun c17 => ?_)
    · replace hF := sd_pos hF c17
      refine sd_iconst C (v := -1) dX11_pact_30 rfl rfl (n' := 31) ?_
      exact sd_iret C dX11_pact_31 (Option.some.inj hF) rfl
    · replace hF := sd_neg hF c17
      refine sd_iload_n C 3 dX11_pact_20 rfl rfl rfl (n' := 21) ?_
      refine sd_iconst C (v := 0) dX11_pact_21 rfl rfl (n' := 22) ?_
      refine sd_bipush C (v := 99) dX11_pact_22 rfl rfl (n' := 24) ?_
      obtain ⟨q24, e24, hF⟩ := sd_bind hF
      refine sd_callSI [.int x3, .int (0 : Int32), .int (99 : Int32)] [] C (ct_X11_in M x3 (0 : Int32) (99 : Int32)  e24) sd_lX11_97 ⟨rfl, rfl, Nat.le_of_ble_eq_true rfl, Nat.le_of_ble_eq_true rfl⟩ rfl (Nat.le_of_ble_eq_true rfl) dX11_pact_24 rfl (n' := 27) ?_
      refine sd_if_ne C (n' := 30) (tgt := 32) dX11_pact_27 rfl rfl (fun c27 => ?_) (fun c27 => ?_)
      · replace hF := sd_neg hF c27
        refine sd_iconst C (v := 1) dX11_pact_32 rfl rfl (n' := 33) ?_
        refine sd_istore [(4, .int (1 : Int32)), (0, .ref (E.2.2 100)), (1, .int x1), (2, .int x2), (3, .int x3)] C dX11_pact_33 (by decide) rfl rfl (n' := 35) ?_
        refine sd_sub [2, 3, 4, 0] rfl ?_
        exact tb_X11_pact_35 C sd_FU x1 x2 x3 (1 : Int32) hF
      · replace hF := sd_pos hF c27
        refine sd_iconst C (v := -1) dX11_pact_30 rfl rfl (n' := 31) ?_
        exact sd_iret C dX11_pact_31 (Option.some.inj hF) rfl
theorem ct_X11_pact {l : Launch} {E : sd_Env} (M : sd_Mem) (x1 : Int32) (x2 : Int32) (x3 : Int32)  {r : Int32} (hF : fn_X11_pact x1 x2 x3 = some r) : sd_MI l E sd_LM yX11_pact cX11_pact 5 (some .int) rm_X11_pact [.ref (E.2.2 100), .int x1, .int x2, .int x3] M r M := sd_ent0 (by decide +kernel) (Nat.le_of_ble_eq_true rfl) (fun p e s m below meth c C => tb_X11_pact_0 C x1 x2 x3 hF)
theorem dX11_asked_0 : decode cX11_asked 0 = .ok (.aload_n 0, 1) := by decide +kernel
theorem dX11_asked_1 : decode cX11_asked 1 = .ok (.getfield 91, 3) := by decide +kernel
theorem dX11_asked_4 : decode cX11_asked 4 = .ok (.ireturn, 1) := by decide +kernel
set_option maxRecDepth 100000 in
set_option maxHeartbeats 4000000 in
theorem tb_X11_asked_0 {K : sd_K} {E : sd_Env} {M : sd_Mem}  {r : Int32} (C : sd_C K E sd_LM RX11 cX11_asked 1 (some .int))  : fn_X11_asked_0 M = some r → sd_Z K rm_X11_asked E sd_LM 1 (sd_QI K E sd_LM r M) M 0 [(0, .ref (E.2.2 100))] [] := by
  intro hF
  unfold fn_X11_asked_0 at hF
  refine sd_aload_n C 0 dX11_asked_0 rfl rfl rfl (n' := 1) ?_
  refine sd_g11_2 C sd_i100 sd_k100 sd_w1043 dX11_asked_1 rfl (n' := 4) ?_
  exact sd_iret C dX11_asked_4 (Option.some.inj hF) rfl
theorem ct_X11_asked {l : Launch} {E : sd_Env} (M : sd_Mem)   {r : Int32} (hF : fn_X11_asked M = some r) : sd_MI l E sd_LM yX11_asked cX11_asked 1 (some .int) rm_X11_asked [.ref (E.2.2 100)] M r M := sd_ent0 (by decide +kernel) (Nat.le_of_ble_eq_true rfl) (fun p e s m below meth c C => tb_X11_asked_0 C hF)
theorem dX11_upper_0 : decode cX11_upper 0 = .ok (.aload_n 0, 1) := by decide +kernel
theorem dX11_upper_1 : decode cX11_upper 1 = .ok (.getfield 94, 3) := by decide +kernel
theorem dX11_upper_4 : decode cX11_upper 4 = .ok (.lreturn, 1) := by decide +kernel
set_option maxRecDepth 100000 in
set_option maxHeartbeats 4000000 in
theorem tb_X11_upper_0 {K : sd_K} {E : sd_Env} {M : sd_Mem}  {r : Int64} (C : sd_C K E sd_LM RX11 cX11_upper 1 (some .long))  : fn_X11_upper_0 M = some r → sd_Z K rm_X11_upper E sd_LM 1 (sd_QL K E sd_LM r M) M 0 [(0, .ref (E.2.2 100))] [] := by
  intro hF
  unfold fn_X11_upper_0 at hF
  refine sd_aload_n C 0 dX11_upper_0 rfl rfl rfl (n' := 1) ?_
  refine sd_g11_3 C sd_i100 sd_k100 sd_w1044 dX11_upper_1 rfl (n' := 4) ?_
  exact sd_lret C dX11_upper_4 (Option.some.inj hF) rfl
theorem ct_X11_upper {l : Launch} {E : sd_Env} (M : sd_Mem)   {r : Int64} (hF : fn_X11_upper M = some r) : sd_ML l E sd_LM yX11_upper cX11_upper 1 (some .long) rm_X11_upper [.ref (E.2.2 100)] M r M := sd_ent0 (by decide +kernel) (Nat.le_of_ble_eq_true rfl) (fun p e s m below meth c C => tb_X11_upper_0 C hF)
theorem dX11_lower_0 : decode cX11_lower 0 = .ok (.aload_n 0, 1) := by decide +kernel
theorem dX11_lower_1 : decode cX11_lower 1 = .ok (.getfield 13, 3) := by decide +kernel
theorem dX11_lower_4 : decode cX11_lower 4 = .ok (.lreturn, 1) := by decide +kernel
set_option maxRecDepth 100000 in
set_option maxHeartbeats 4000000 in
theorem tb_X11_lower_0 {K : sd_K} {E : sd_Env} {M : sd_Mem}  {r : Int64} (C : sd_C K E sd_LM RX11 cX11_lower 1 (some .long))  : fn_X11_lower_0 M = some r → sd_Z K rm_X11_lower E sd_LM 1 (sd_QL K E sd_LM r M) M 0 [(0, .ref (E.2.2 100))] [] := by
  intro hF
  unfold fn_X11_lower_0 at hF
  refine sd_aload_n C 0 dX11_lower_0 rfl rfl rfl (n' := 1) ?_
  refine sd_g11_4 C sd_i100 sd_k100 sd_w1045 dX11_lower_1 rfl (n' := 4) ?_
  exact sd_lret C dX11_lower_4 (Option.some.inj hF) rfl
theorem ct_X11_lower {l : Launch} {E : sd_Env} (M : sd_Mem)   {r : Int64} (hF : fn_X11_lower M = some r) : sd_ML l E sd_LM yX11_lower cX11_lower 1 (some .long) rm_X11_lower [.ref (E.2.2 100)] M r M := sd_ent0 (by decide +kernel) (Nat.le_of_ble_eq_true rfl) (fun p e s m below meth c C => tb_X11_lower_0 C hF)
theorem dX11_counts_0 : decode cX11_counts 0 = .ok (.iconst 0, 1) := by decide +kernel
theorem dX11_counts_1 : decode cX11_counts 1 = .ok (.istore_n 2, 1) := by decide +kernel
theorem dX11_counts_2 : decode cX11_counts 2 = .ok (.iconst 0, 1) := by decide +kernel
theorem dX11_counts_3 : decode cX11_counts 3 = .ok (.istore_n 3, 1) := by decide +kernel
theorem dX11_counts_4 : decode cX11_counts 4 = .ok (.iload_n 3, 1) := by decide +kernel
theorem dX11_counts_5 : decode cX11_counts 5 = .ok (.bipush 6, 2) := by decide +kernel
theorem dX11_counts_7 : decode cX11_counts 7 = .ok (.if_icmp .ge 30, 3) := by decide +kernel
theorem dX11_counts_10 : decode cX11_counts 10 = .ok (.iload_n 2, 1) := by decide +kernel
theorem dX11_counts_11 : decode cX11_counts 11 = .ok (.iload_n 1, 1) := by decide +kernel
theorem dX11_counts_12 : decode cX11_counts 12 = .ok (.ifCond .ne 16, 3) := by decide +kernel
theorem dX11_counts_15 : decode cX11_counts 15 = .ok (.aload_n 0, 1) := by decide +kernel
theorem dX11_counts_16 : decode cX11_counts 16 = .ok (.getfield 17, 3) := by decide +kernel
theorem dX11_counts_19 : decode cX11_counts 19 = .ok (.iload_n 3, 1) := by decide +kernel
theorem dX11_counts_20 : decode cX11_counts 20 = .ok (.iaload, 1) := by decide +kernel
theorem dX11_counts_21 : decode cX11_counts 21 = .ok (.ifCond .lt 7, 3) := by decide +kernel
theorem dX11_counts_24 : decode cX11_counts 24 = .ok (.iconst 1, 1) := by decide +kernel
theorem dX11_counts_25 : decode cX11_counts 25 = .ok (.goto 4, 3) := by decide +kernel
theorem dX11_counts_28 : decode cX11_counts 28 = .ok (.iconst 0, 1) := by decide +kernel
theorem dX11_counts_29 : decode cX11_counts 29 = .ok (.iadd, 1) := by decide +kernel
theorem dX11_counts_30 : decode cX11_counts 30 = .ok (.istore_n 2, 1) := by decide +kernel
theorem dX11_counts_31 : decode cX11_counts 31 = .ok (.iinc 3 1, 3) := by decide +kernel
theorem dX11_counts_34 : decode cX11_counts 34 = .ok (.goto (-30), 3) := by decide +kernel
theorem dX11_counts_37 : decode cX11_counts 37 = .ok (.iconst 0, 1) := by decide +kernel
theorem dX11_counts_38 : decode cX11_counts 38 = .ok (.istore_n 3, 1) := by decide +kernel
theorem dX11_counts_39 : decode cX11_counts 39 = .ok (.iload_n 3, 1) := by decide +kernel
theorem dX11_counts_40 : decode cX11_counts 40 = .ok (.iconst 4, 1) := by decide +kernel
theorem dX11_counts_41 : decode cX11_counts 41 = .ok (.if_icmp .ge 31, 3) := by decide +kernel
theorem dX11_counts_44 : decode cX11_counts 44 = .ok (.iload_n 2, 1) := by decide +kernel
theorem dX11_counts_45 : decode cX11_counts 45 = .ok (.iload_n 1, 1) := by decide +kernel
theorem dX11_counts_46 : decode cX11_counts 46 = .ok (.iconst 1, 1) := by decide +kernel
theorem dX11_counts_47 : decode cX11_counts 47 = .ok (.if_icmp .ne 16, 3) := by decide +kernel
theorem dX11_counts_50 : decode cX11_counts 50 = .ok (.aload_n 0, 1) := by decide +kernel
theorem dX11_counts_51 : decode cX11_counts 51 = .ok (.getfield 26, 3) := by decide +kernel
theorem dX11_counts_54 : decode cX11_counts 54 = .ok (.iload_n 3, 1) := by decide +kernel
theorem dX11_counts_55 : decode cX11_counts 55 = .ok (.iaload, 1) := by decide +kernel
theorem dX11_counts_56 : decode cX11_counts 56 = .ok (.ifCond .lt 7, 3) := by decide +kernel
theorem dX11_counts_59 : decode cX11_counts 59 = .ok (.iconst 1, 1) := by decide +kernel
theorem dX11_counts_60 : decode cX11_counts 60 = .ok (.goto 4, 3) := by decide +kernel
theorem dX11_counts_63 : decode cX11_counts 63 = .ok (.iconst 0, 1) := by decide +kernel
theorem dX11_counts_64 : decode cX11_counts 64 = .ok (.iadd, 1) := by decide +kernel
theorem dX11_counts_65 : decode cX11_counts 65 = .ok (.istore_n 2, 1) := by decide +kernel
theorem dX11_counts_66 : decode cX11_counts 66 = .ok (.iinc 3 1, 3) := by decide +kernel
theorem dX11_counts_69 : decode cX11_counts 69 = .ok (.goto (-30), 3) := by decide +kernel
theorem dX11_counts_72 : decode cX11_counts 72 = .ok (.iconst 0, 1) := by decide +kernel
theorem dX11_counts_73 : decode cX11_counts 73 = .ok (.istore_n 3, 1) := by decide +kernel
theorem dX11_counts_74 : decode cX11_counts 74 = .ok (.iload_n 3, 1) := by decide +kernel
theorem dX11_counts_75 : decode cX11_counts 75 = .ok (.bipush 8, 2) := by decide +kernel
theorem dX11_counts_77 : decode cX11_counts 77 = .ok (.if_icmp .ge 50, 3) := by decide +kernel
theorem dX11_counts_80 : decode cX11_counts 80 = .ok (.iload_n 2, 1) := by decide +kernel
theorem dX11_counts_81 : decode cX11_counts 81 = .ok (.iload_n 1, 1) := by decide +kernel
theorem dX11_counts_82 : decode cX11_counts 82 = .ok (.iconst 2, 1) := by decide +kernel
theorem dX11_counts_83 : decode cX11_counts 83 = .ok (.if_icmp .ne 12, 3) := by decide +kernel
theorem dX11_counts_86 : decode cX11_counts 86 = .ok (.aload_n 0, 1) := by decide +kernel
theorem dX11_counts_87 : decode cX11_counts 87 = .ok (.getfield 63, 3) := by decide +kernel
theorem dX11_counts_90 : decode cX11_counts 90 = .ok (.iload_n 3, 1) := by decide +kernel
theorem dX11_counts_91 : decode cX11_counts 91 = .ok (.iaload, 1) := by decide +kernel
theorem dX11_counts_92 : decode cX11_counts 92 = .ok (.ifCond .ge 22, 3) := by decide +kernel
theorem dX11_counts_95 : decode cX11_counts 95 = .ok (.iload_n 1, 1) := by decide +kernel
theorem dX11_counts_96 : decode cX11_counts 96 = .ok (.iconst 3, 1) := by decide +kernel
theorem dX11_counts_97 : decode cX11_counts 97 = .ok (.if_icmp .ne 21, 3) := by decide +kernel
theorem dX11_counts_100 : decode cX11_counts 100 = .ok (.aload_n 0, 1) := by decide +kernel
theorem dX11_counts_101 : decode cX11_counts 101 = .ok (.getfield 63, 3) := by decide +kernel
theorem dX11_counts_104 : decode cX11_counts 104 = .ok (.iload_n 3, 1) := by decide +kernel
theorem dX11_counts_105 : decode cX11_counts 105 = .ok (.iaload, 1) := by decide +kernel
theorem dX11_counts_106 : decode cX11_counts 106 = .ok (.iconst 2, 1) := by decide +kernel
theorem dX11_counts_107 : decode cX11_counts 107 = .ok (.iconst 3, 1) := by decide +kernel
theorem dX11_counts_108 : decode cX11_counts 108 = .ok (.invokestatic 97, 3) := by decide +kernel
theorem dX11_counts_111 : decode cX11_counts 111 = .ok (.ifCond .eq 7, 3) := by decide +kernel
theorem dX11_counts_114 : decode cX11_counts 114 = .ok (.iconst 1, 1) := by decide +kernel
theorem dX11_counts_115 : decode cX11_counts 115 = .ok (.goto 4, 3) := by decide +kernel
theorem dX11_counts_118 : decode cX11_counts 118 = .ok (.iconst 0, 1) := by decide +kernel
theorem dX11_counts_119 : decode cX11_counts 119 = .ok (.iadd, 1) := by decide +kernel
theorem dX11_counts_120 : decode cX11_counts 120 = .ok (.istore_n 2, 1) := by decide +kernel
theorem dX11_counts_121 : decode cX11_counts 121 = .ok (.iinc 3 1, 3) := by decide +kernel
theorem dX11_counts_124 : decode cX11_counts 124 = .ok (.goto (-50), 3) := by decide +kernel
theorem dX11_counts_127 : decode cX11_counts 127 = .ok (.iload_n 1, 1) := by decide +kernel
theorem dX11_counts_128 : decode cX11_counts 128 = .ok (.iconst 4, 1) := by decide +kernel
theorem dX11_counts_129 : decode cX11_counts 129 = .ok (.if_icmp .ne 12, 3) := by decide +kernel
theorem dX11_counts_132 : decode cX11_counts 132 = .ok (.aload_n 0, 1) := by decide +kernel
theorem dX11_counts_133 : decode cX11_counts 133 = .ok (.bipush 63, 2) := by decide +kernel
theorem dX11_counts_135 : decode cX11_counts 135 = .ok (.invokevirtual 287, 3) := by decide +kernel
theorem dX11_counts_138 : decode cX11_counts 138 = .ok (.goto 4, 3) := by decide +kernel
theorem dX11_counts_141 : decode cX11_counts 141 = .ok (.iload_n 2, 1) := by decide +kernel
theorem dX11_counts_142 : decode cX11_counts 142 = .ok (.ireturn, 1) := by decide +kernel
set_option maxRecDepth 100000 in
set_option maxHeartbeats 4000000 in
theorem tb_X11_counts_95 {K : sd_K} {E : sd_Env} {M : sd_Mem}  {r : Int32} (C : sd_C K E sd_LM RX11 cX11_counts 4 (some .int))  {k74 : Int32 → Int32 → Int32 → Option Int32} (hk74 : ∀ (x1 : Int32) (x2 : Int32) (x3 : Int32), k74 x1 x2 x3 = some r → sd_Z K rm_X11_counts E sd_LM 4 (sd_QI K E sd_LM r M) M 74 [(0, .ref (E.2.2 100)), (1, .int x1), (2, .int x2), (3, .int x3)] []) : ∀ (x1 : Int32) (x3 : Int32) (xs0 : Int32), fn_X11_counts_95 M k74 x1 x3 xs0 = some r → sd_Z K rm_X11_counts E sd_LM 4 (sd_QI K E sd_LM r M) M 95 [(0, .ref (E.2.2 100)), (1, .int x1), (3, .int x3)] [.int xs0] := by
  intro x1 x3 xs0 hF
  unfold fn_X11_counts_95 at hF
  refine sd_iload_n C 1 dX11_counts_95 rfl rfl rfl (n' := 96) ?_
  refine sd_iconst C (v := 3) dX11_counts_96 rfl rfl (n' := 97) ?_
  refine sd_icmp_ne C (n' := 100) (tgt := 118) dX11_counts_97 rfl rfl (fun c97 => ?_) (fun c97 => ?_)
  · replace hF := sd_neg hF c97
    refine sd_iconst C (v := 0) dX11_counts_118 rfl rfl (n' := 119) ?_
    refine sd_iadd C dX11_counts_119 rfl (n' := 120) ?_
    refine sd_istore_n [(2, .int (xs0 + (0 : Int32))), (0, .ref (E.2.2 100)), (1, .int x1), (3, .int x3)] C dX11_counts_120 rfl (by decide) rfl rfl (n' := 121) ?_
    refine sd_iinc [(3, .int (x3 + (1 : Int32))), (2, .int (xs0 + (0 : Int32))), (0, .ref (E.2.2 100)), (1, .int x1)] 3 C dX11_counts_121 rfl rfl (by decide) rfl rfl (n' := 124) ?_
    refine sd_goto C (tgt := 74) dX11_counts_124 rfl ?_
    refine sd_sub [2, 3, 1, 0] rfl ?_
    exact hk74 x1 (xs0 + (0 : Int32)) (x3 + (1 : Int32)) hF
  · replace hF := sd_pos hF c97
    refine sd_aload_n C 0 dX11_counts_100 rfl rfl rfl (n' := 101) ?_
    refine sd_g11_23 C sd_i100 sd_k100 sd_w1064 dX11_counts_101 rfl (n' := 104) ?_
    refine sd_iload_n C 2 dX11_counts_104 rfl rfl rfl (n' := 105) ?_
    obtain ⟨b105, hF⟩ := sd_ok hF
    refine sd_iald C sd_i115 sd_k115 sd_n115 b105 dX11_counts_105 rfl (n' := 106) ?_
    refine sd_iconst C (v := 2) dX11_counts_106 rfl rfl (n' := 107) ?_
    refine sd_iconst C (v := 3) dX11_counts_107 rfl rfl (n' := 108) ?_
    obtain ⟨q108, e108, hF⟩ := sd_bind hF
    refine sd_callSI [.int (M.1 115 x3.toNatClampNeg), .int (2 : Int32), .int (3 : Int32)] [.int xs0] C (ct_X11_in M (M.1 115 x3.toNatClampNeg) (2 : Int32) (3 : Int32)  e108) sd_lX11_97 ⟨rfl, rfl, Nat.le_of_ble_eq_true rfl, Nat.le_of_ble_eq_true rfl⟩ rfl (Nat.le_of_ble_eq_true rfl) dX11_counts_108 rfl (n' := 111) ?_
    refine sd_if_eq C (n' := 114) (tgt := 118) dX11_counts_111 rfl rfl (fun c111 => ?_) (fun c111 => ?_)
    · replace hF := sd_pos hF c111
      refine sd_iconst C (v := 0) dX11_counts_118 rfl rfl (n' := 119) ?_
      refine sd_iadd C dX11_counts_119 rfl (n' := 120) ?_
      refine sd_istore_n [(2, .int (xs0 + (0 : Int32))), (0, .ref (E.2.2 100)), (1, .int x1), (3, .int x3)] C dX11_counts_120 rfl (by decide) rfl rfl (n' := 121) ?_
      refine sd_iinc [(3, .int (x3 + (1 : Int32))), (2, .int (xs0 + (0 : Int32))), (0, .ref (E.2.2 100)), (1, .int x1)] 3 C dX11_counts_121 rfl rfl (by decide) rfl rfl (n' := 124) ?_
      refine sd_goto C (tgt := 74) dX11_counts_124 rfl ?_
      refine sd_sub [2, 3, 1, 0] rfl ?_
      exact hk74 x1 (xs0 + (0 : Int32)) (x3 + (1 : Int32)) hF
    · replace hF := sd_neg hF c111
      refine sd_iconst C (v := 1) dX11_counts_114 rfl rfl (n' := 115) ?_
      refine sd_goto C (tgt := 119) dX11_counts_115 rfl ?_
      refine sd_iadd C dX11_counts_119 rfl (n' := 120) ?_
      refine sd_istore_n [(2, .int (xs0 + (1 : Int32))), (0, .ref (E.2.2 100)), (1, .int x1), (3, .int x3)] C dX11_counts_120 rfl (by decide) rfl rfl (n' := 121) ?_
      refine sd_iinc [(3, .int (x3 + (1 : Int32))), (2, .int (xs0 + (1 : Int32))), (0, .ref (E.2.2 100)), (1, .int x1)] 3 C dX11_counts_121 rfl rfl (by decide) rfl rfl (n' := 124) ?_
      refine sd_goto C (tgt := 74) dX11_counts_124 rfl ?_
      refine sd_sub [2, 3, 1, 0] rfl ?_
      exact hk74 x1 (xs0 + (1 : Int32)) (x3 + (1 : Int32)) hF
set_option maxRecDepth 100000 in
set_option maxHeartbeats 4000000 in
theorem tb_X11_counts_127 {K : sd_K} {E : sd_Env} {M : sd_Mem}  {r : Int32} (C : sd_C K E sd_LM RX11 cX11_counts 4 (some .int))  : ∀ (x1 : Int32) (x2 : Int32), fn_X11_counts_127 M x1 x2 = some r → sd_Z K rm_X11_counts E sd_LM 4 (sd_QI K E sd_LM r M) M 127 [(0, .ref (E.2.2 100)), (1, .int x1), (2, .int x2)] [] := by
  intro x1 x2 hF
  unfold fn_X11_counts_127 at hF
  refine sd_iload_n C 1 dX11_counts_127 rfl rfl rfl (n' := 128) ?_
  refine sd_iconst C (v := 4) dX11_counts_128 rfl rfl (n' := 129) ?_
  refine sd_icmp_ne C (n' := 132) (tgt := 141) dX11_counts_129 rfl rfl (fun c129 => ?_) (fun c129 => ?_)
  · replace hF := sd_neg hF c129
    refine sd_iload_n C 2 dX11_counts_141 rfl rfl rfl (n' := 142) ?_
    exact sd_iret C dX11_counts_142 (Option.some.inj hF) rfl
  · replace hF := sd_pos hF c129
    refine sd_aload_n C 0 dX11_counts_132 rfl rfl rfl (n' := 133) ?_
    refine sd_bipush C (v := 63) dX11_counts_133 rfl rfl (n' := 135) ?_
    obtain ⟨q135, e135, hF⟩ := sd_bind hF
    refine sd_callVI [.int (63 : Int32)] [] C (ct_X11_menOf M (63 : Int32)  e135) sd_lX11_287 ⟨rfl, rfl, Nat.le_of_ble_eq_true rfl, Nat.le_of_ble_eq_true rfl⟩ sd_i100 (sd_e12 sd_k100) rfl rfl rfl (Nat.le_of_ble_eq_true rfl) dX11_counts_135 rfl (n' := 138) ?_
    refine sd_goto C (tgt := 142) dX11_counts_138 rfl ?_
    exact sd_iret C dX11_counts_142 (Option.some.inj hF) rfl
set_option maxRecDepth 100000 in
set_option maxHeartbeats 4000000 in
theorem tb_X11_counts_74 {K : sd_K} {E : sd_Env} {M : sd_Mem}  {r : Int32} (C : sd_C K E sd_LM RX11 cX11_counts 4 (some .int))  : ∀ (n : Nat), ∀ (x1 : Int32) (x2 : Int32) (x3 : Int32), fn_X11_counts_74 M n x1 x2 x3 = some r → sd_Z K rm_X11_counts E sd_LM 4 (sd_QI K E sd_LM r M) M 74 [(0, .ref (E.2.2 100)), (1, .int x1), (2, .int x2), (3, .int x3)] [] := by
  intro n
  induction n with
  | zero => intro x1 x2 x3 hF; cases hF
  | succ n ih =>
    intro x1 x2 x3 hF
    unfold fn_X11_counts_74 at hF
    refine sd_iload_n C 3 dX11_counts_74 rfl rfl rfl (n' := 75) ?_
    refine sd_bipush C (v := 8) dX11_counts_75 rfl rfl (n' := 77) ?_
    refine sd_icmp_ge C (n' := 80) (tgt := 127) dX11_counts_77 rfl rfl (fun c77 => ?_) (fun c77 => ?_)
    · replace hF := sd_pos hF c77
      refine sd_sub [0, 1, 2] rfl ?_
      exact tb_X11_counts_127 C x1 x2 hF
    · replace hF := sd_neg hF c77
      refine sd_iload_n C 2 dX11_counts_80 rfl rfl rfl (n' := 81) ?_
      refine sd_iload_n C 1 dX11_counts_81 rfl rfl rfl (n' := 82) ?_
      refine sd_iconst C (v := 2) dX11_counts_82 rfl rfl (n' := 83) ?_
      refine sd_icmp_ne C (n' := 86) (tgt := 95) dX11_counts_83 rfl rfl (fun c83 => ?_) (fun c83 => ?_)
      · replace hF := sd_neg hF c83
        refine sd_sub [0, 1, 3] rfl ?_
        exact tb_X11_counts_95 C ih x1 x3 x2 hF
      · replace hF := sd_pos hF c83
        refine sd_aload_n C 0 dX11_counts_86 rfl rfl rfl (n' := 87) ?_
        refine sd_g11_23 C sd_i100 sd_k100 sd_w1064 dX11_counts_87 rfl (n' := 90) ?_
        refine sd_iload_n C 3 dX11_counts_90 rfl rfl rfl (n' := 91) ?_
        obtain ⟨b91, hF⟩ := sd_ok hF
        refine sd_iald C sd_i115 sd_k115 sd_n115 b91 dX11_counts_91 rfl (n' := 92) ?_
        refine sd_if_ge C (n' := 95) (tgt := 114) dX11_counts_92 rfl rfl (fun c92 => ?_) (fun c92 => ?_)
        · replace hF := sd_pos hF c92
          refine sd_iconst C (v := 1) dX11_counts_114 rfl rfl (n' := 115) ?_
          refine sd_goto C (tgt := 119) dX11_counts_115 rfl ?_
          refine sd_iadd C dX11_counts_119 rfl (n' := 120) ?_
          refine sd_istore_n [(2, .int (x2 + (1 : Int32))), (0, .ref (E.2.2 100)), (1, .int x1), (3, .int x3)] C dX11_counts_120 rfl (by decide) rfl rfl (n' := 121) ?_
          refine sd_iinc [(3, .int (x3 + (1 : Int32))), (2, .int (x2 + (1 : Int32))), (0, .ref (E.2.2 100)), (1, .int x1)] 3 C dX11_counts_121 rfl rfl (by decide) rfl rfl (n' := 124) ?_
          refine sd_goto C (tgt := 74) dX11_counts_124 rfl ?_
          refine sd_sub [2, 3, 1, 0] rfl ?_
          exact ih x1 (x2 + (1 : Int32)) (x3 + (1 : Int32)) hF
        · replace hF := sd_neg hF c92
          refine sd_sub [0, 1, 3] rfl ?_
          exact tb_X11_counts_95 C ih x1 x3 x2 hF
set_option maxRecDepth 100000 in
set_option maxHeartbeats 4000000 in
theorem tb_X11_counts_39 {K : sd_K} {E : sd_Env} {M : sd_Mem}  {r : Int32} (C : sd_C K E sd_LM RX11 cX11_counts 4 (some .int))  : ∀ (n : Nat), ∀ (x1 : Int32) (x2 : Int32) (x3 : Int32), fn_X11_counts_39 M n x1 x2 x3 = some r → sd_Z K rm_X11_counts E sd_LM 4 (sd_QI K E sd_LM r M) M 39 [(0, .ref (E.2.2 100)), (1, .int x1), (2, .int x2), (3, .int x3)] [] := by
  intro n
  induction n with
  | zero => intro x1 x2 x3 hF; cases hF
  | succ n ih =>
    intro x1 x2 x3 hF
    unfold fn_X11_counts_39 at hF
    refine sd_iload_n C 3 dX11_counts_39 rfl rfl rfl (n' := 40) ?_
    refine sd_iconst C (v := 4) dX11_counts_40 rfl rfl (n' := 41) ?_
    refine sd_icmp_ge C (n' := 44) (tgt := 72) dX11_counts_41 rfl rfl (fun c41 => ?_) (fun c41 => ?_)
    · replace hF := sd_pos hF c41
      refine sd_iconst C (v := 0) dX11_counts_72 rfl rfl (n' := 73) ?_
      refine sd_istore_n [(3, .int (0 : Int32)), (0, .ref (E.2.2 100)), (1, .int x1), (2, .int x2)] C dX11_counts_73 rfl (by decide) rfl rfl (n' := 74) ?_
      refine sd_sub [1, 2, 3, 0] rfl ?_
      exact tb_X11_counts_74 C sd_FU x1 x2 (0 : Int32) hF
    · replace hF := sd_neg hF c41
      refine sd_iload_n C 2 dX11_counts_44 rfl rfl rfl (n' := 45) ?_
      refine sd_iload_n C 1 dX11_counts_45 rfl rfl rfl (n' := 46) ?_
      refine sd_iconst C (v := 1) dX11_counts_46 rfl rfl (n' := 47) ?_
      refine sd_icmp_ne C (n' := 50) (tgt := 63) dX11_counts_47 rfl rfl (fun c47 => ?_) (fun c47 => ?_)
      · replace hF := sd_neg hF c47
        refine sd_iconst C (v := 0) dX11_counts_63 rfl rfl (n' := 64) ?_
        refine sd_iadd C dX11_counts_64 rfl (n' := 65) ?_
        refine sd_istore_n [(2, .int (x2 + (0 : Int32))), (0, .ref (E.2.2 100)), (1, .int x1), (3, .int x3)] C dX11_counts_65 rfl (by decide) rfl rfl (n' := 66) ?_
        refine sd_iinc [(3, .int (x3 + (1 : Int32))), (2, .int (x2 + (0 : Int32))), (0, .ref (E.2.2 100)), (1, .int x1)] 3 C dX11_counts_66 rfl rfl (by decide) rfl rfl (n' := 69) ?_
        refine sd_goto C (tgt := 39) dX11_counts_69 rfl ?_
        refine sd_sub [2, 3, 1, 0] rfl ?_
        exact ih x1 (x2 + (0 : Int32)) (x3 + (1 : Int32)) hF
      · replace hF := sd_pos hF c47
        refine sd_aload_n C 0 dX11_counts_50 rfl rfl rfl (n' := 51) ?_
        refine sd_g11_8 C sd_i100 sd_k100 sd_w1049 dX11_counts_51 rfl (n' := 54) ?_
        refine sd_iload_n C 3 dX11_counts_54 rfl rfl rfl (n' := 55) ?_
        obtain ⟨b55, hF⟩ := sd_ok hF
        refine sd_iald C sd_i105 sd_k105 sd_n105 b55 dX11_counts_55 rfl (n' := 56) ?_
        refine sd_if_lt C (n' := 59) (tgt := 63) dX11_counts_56 rfl rfl (fun c56 => ?_) (fun c56 => ?_)
        · replace hF := sd_pos hF c56
          refine sd_iconst C (v := 0) dX11_counts_63 rfl rfl (n' := 64) ?_
          refine sd_iadd C dX11_counts_64 rfl (n' := 65) ?_
          refine sd_istore_n [(2, .int (x2 + (0 : Int32))), (0, .ref (E.2.2 100)), (1, .int x1), (3, .int x3)] C dX11_counts_65 rfl (by decide) rfl rfl (n' := 66) ?_
          refine sd_iinc [(3, .int (x3 + (1 : Int32))), (2, .int (x2 + (0 : Int32))), (0, .ref (E.2.2 100)), (1, .int x1)] 3 C dX11_counts_66 rfl rfl (by decide) rfl rfl (n' := 69) ?_
          refine sd_goto C (tgt := 39) dX11_counts_69 rfl ?_
          refine sd_sub [2, 3, 1, 0] rfl ?_
          exact ih x1 (x2 + (0 : Int32)) (x3 + (1 : Int32)) hF
        · replace hF := sd_neg hF c56
          refine sd_iconst C (v := 1) dX11_counts_59 rfl rfl (n' := 60) ?_
          refine sd_goto C (tgt := 64) dX11_counts_60 rfl ?_
          refine sd_iadd C dX11_counts_64 rfl (n' := 65) ?_
          refine sd_istore_n [(2, .int (x2 + (1 : Int32))), (0, .ref (E.2.2 100)), (1, .int x1), (3, .int x3)] C dX11_counts_65 rfl (by decide) rfl rfl (n' := 66) ?_
          refine sd_iinc [(3, .int (x3 + (1 : Int32))), (2, .int (x2 + (1 : Int32))), (0, .ref (E.2.2 100)), (1, .int x1)] 3 C dX11_counts_66 rfl rfl (by decide) rfl rfl (n' := 69) ?_
          refine sd_goto C (tgt := 39) dX11_counts_69 rfl ?_
          refine sd_sub [2, 3, 1, 0] rfl ?_
          exact ih x1 (x2 + (1 : Int32)) (x3 + (1 : Int32)) hF
set_option maxRecDepth 100000 in
set_option maxHeartbeats 4000000 in
theorem tb_X11_counts_4 {K : sd_K} {E : sd_Env} {M : sd_Mem}  {r : Int32} (C : sd_C K E sd_LM RX11 cX11_counts 4 (some .int))  : ∀ (n : Nat), ∀ (x1 : Int32) (x2 : Int32) (x3 : Int32), fn_X11_counts_4 M n x1 x2 x3 = some r → sd_Z K rm_X11_counts E sd_LM 4 (sd_QI K E sd_LM r M) M 4 [(0, .ref (E.2.2 100)), (1, .int x1), (2, .int x2), (3, .int x3)] [] := by
  intro n
  induction n with
  | zero => intro x1 x2 x3 hF; cases hF
  | succ n ih =>
    intro x1 x2 x3 hF
    unfold fn_X11_counts_4 at hF
    refine sd_iload_n C 3 dX11_counts_4 rfl rfl rfl (n' := 5) ?_
    refine sd_bipush C (v := 6) dX11_counts_5 rfl rfl (n' := 7) ?_
    refine sd_icmp_ge C (n' := 10) (tgt := 37) dX11_counts_7 rfl rfl (fun c7 => ?_) (fun c7 => ?_)
    · replace hF := sd_pos hF c7
      refine sd_iconst C (v := 0) dX11_counts_37 rfl rfl (n' := 38) ?_
      refine sd_istore_n [(3, .int (0 : Int32)), (0, .ref (E.2.2 100)), (1, .int x1), (2, .int x2)] C dX11_counts_38 rfl (by decide) rfl rfl (n' := 39) ?_
      refine sd_sub [1, 2, 3, 0] rfl ?_
      exact tb_X11_counts_39 C sd_FU x1 x2 (0 : Int32) hF
    · replace hF := sd_neg hF c7
      refine sd_iload_n C 2 dX11_counts_10 rfl rfl rfl (n' := 11) ?_
      refine sd_iload_n C 1 dX11_counts_11 rfl rfl rfl (n' := 12) ?_
      refine sd_if_ne C (n' := 15) (tgt := 28) dX11_counts_12 rfl rfl (fun c12 => ?_) (fun c12 => ?_)
      · replace hF := sd_neg hF c12
        refine sd_iconst C (v := 0) dX11_counts_28 rfl rfl (n' := 29) ?_
        refine sd_iadd C dX11_counts_29 rfl (n' := 30) ?_
        refine sd_istore_n [(2, .int (x2 + (0 : Int32))), (0, .ref (E.2.2 100)), (1, .int x1), (3, .int x3)] C dX11_counts_30 rfl (by decide) rfl rfl (n' := 31) ?_
        refine sd_iinc [(3, .int (x3 + (1 : Int32))), (2, .int (x2 + (0 : Int32))), (0, .ref (E.2.2 100)), (1, .int x1)] 3 C dX11_counts_31 rfl rfl (by decide) rfl rfl (n' := 34) ?_
        refine sd_goto C (tgt := 4) dX11_counts_34 rfl ?_
        refine sd_sub [2, 3, 1, 0] rfl ?_
        exact ih x1 (x2 + (0 : Int32)) (x3 + (1 : Int32)) hF
      · replace hF := sd_pos hF c12
        refine sd_aload_n C 0 dX11_counts_15 rfl rfl rfl (n' := 16) ?_
        refine sd_g11_5 C sd_i100 sd_k100 sd_w1046 dX11_counts_16 rfl (n' := 19) ?_
        refine sd_iload_n C 3 dX11_counts_19 rfl rfl rfl (n' := 20) ?_
        obtain ⟨b20, hF⟩ := sd_ok hF
        refine sd_iald C sd_i102 sd_k102 sd_n102 b20 dX11_counts_20 rfl (n' := 21) ?_
        refine sd_if_lt C (n' := 24) (tgt := 28) dX11_counts_21 rfl rfl (fun c21 => ?_) (fun c21 => ?_)
        · replace hF := sd_pos hF c21
          refine sd_iconst C (v := 0) dX11_counts_28 rfl rfl (n' := 29) ?_
          refine sd_iadd C dX11_counts_29 rfl (n' := 30) ?_
          refine sd_istore_n [(2, .int (x2 + (0 : Int32))), (0, .ref (E.2.2 100)), (1, .int x1), (3, .int x3)] C dX11_counts_30 rfl (by decide) rfl rfl (n' := 31) ?_
          refine sd_iinc [(3, .int (x3 + (1 : Int32))), (2, .int (x2 + (0 : Int32))), (0, .ref (E.2.2 100)), (1, .int x1)] 3 C dX11_counts_31 rfl rfl (by decide) rfl rfl (n' := 34) ?_
          refine sd_goto C (tgt := 4) dX11_counts_34 rfl ?_
          refine sd_sub [2, 3, 1, 0] rfl ?_
          exact ih x1 (x2 + (0 : Int32)) (x3 + (1 : Int32)) hF
        · replace hF := sd_neg hF c21
          refine sd_iconst C (v := 1) dX11_counts_24 rfl rfl (n' := 25) ?_
          refine sd_goto C (tgt := 29) dX11_counts_25 rfl ?_
          refine sd_iadd C dX11_counts_29 rfl (n' := 30) ?_
          refine sd_istore_n [(2, .int (x2 + (1 : Int32))), (0, .ref (E.2.2 100)), (1, .int x1), (3, .int x3)] C dX11_counts_30 rfl (by decide) rfl rfl (n' := 31) ?_
          refine sd_iinc [(3, .int (x3 + (1 : Int32))), (2, .int (x2 + (1 : Int32))), (0, .ref (E.2.2 100)), (1, .int x1)] 3 C dX11_counts_31 rfl rfl (by decide) rfl rfl (n' := 34) ?_
          refine sd_goto C (tgt := 4) dX11_counts_34 rfl ?_
          refine sd_sub [2, 3, 1, 0] rfl ?_
          exact ih x1 (x2 + (1 : Int32)) (x3 + (1 : Int32)) hF
set_option maxRecDepth 100000 in
set_option maxHeartbeats 4000000 in
theorem tb_X11_counts_0 {K : sd_K} {E : sd_Env} {M : sd_Mem}  {r : Int32} (C : sd_C K E sd_LM RX11 cX11_counts 4 (some .int))  : ∀ (x1 : Int32), fn_X11_counts_0 M x1 = some r → sd_Z K rm_X11_counts E sd_LM 4 (sd_QI K E sd_LM r M) M 0 [(0, .ref (E.2.2 100)), (1, .int x1)] [] := by
  intro x1 hF
  unfold fn_X11_counts_0 at hF
  refine sd_iconst C (v := 0) dX11_counts_0 rfl rfl (n' := 1) ?_
  refine sd_istore_n [(2, .int (0 : Int32)), (0, .ref (E.2.2 100)), (1, .int x1)] C dX11_counts_1 rfl (by decide) rfl rfl (n' := 2) ?_
  refine sd_iconst C (v := 0) dX11_counts_2 rfl rfl (n' := 3) ?_
  refine sd_istore_n [(3, .int (0 : Int32)), (2, .int (0 : Int32)), (0, .ref (E.2.2 100)), (1, .int x1)] C dX11_counts_3 rfl (by decide) rfl rfl (n' := 4) ?_
  refine sd_sub [2, 3, 1, 0] rfl ?_
  exact tb_X11_counts_4 C sd_FU x1 (0 : Int32) (0 : Int32) hF
theorem ct_X11_counts {l : Launch} {E : sd_Env} (M : sd_Mem) (x1 : Int32)  {r : Int32} (hF : fn_X11_counts M x1 = some r) : sd_MI l E sd_LM yX11_counts cX11_counts 4 (some .int) rm_X11_counts [.ref (E.2.2 100), .int x1] M r M := sd_ent0 (by decide +kernel) (Nat.le_of_ble_eq_true rfl) (fun p e s m below meth c C => tb_X11_counts_0 C x1 hF)
theorem dX11_count_0 : decode cX11_count 0 = .ok (.iload_n 1, 1) := by decide +kernel
theorem dX11_count_1 : decode cX11_count 1 = .ok (.iconst 0, 1) := by decide +kernel
theorem dX11_count_2 : decode cX11_count 2 = .ok (.iconst 4, 1) := by decide +kernel
theorem dX11_count_3 : decode cX11_count 3 = .ok (.invokestatic 97, 3) := by decide +kernel
theorem dX11_count_6 : decode cX11_count 6 = .ok (.ifCond .eq 11, 3) := by decide +kernel
theorem dX11_count_9 : decode cX11_count 9 = .ok (.aload_n 0, 1) := by decide +kernel
theorem dX11_count_10 : decode cX11_count 10 = .ok (.iload_n 1, 1) := by decide +kernel
theorem dX11_count_11 : decode cX11_count 11 = .ok (.invokevirtual 303, 3) := by decide +kernel
theorem dX11_count_14 : decode cX11_count 14 = .ok (.goto 4, 3) := by decide +kernel
theorem dX11_count_17 : decode cX11_count 17 = .ok (.iconst (-1), 1) := by decide +kernel
theorem dX11_count_18 : decode cX11_count 18 = .ok (.ireturn, 1) := by decide +kernel
set_option maxRecDepth 100000 in
set_option maxHeartbeats 4000000 in
theorem tb_X11_count_0 {K : sd_K} {E : sd_Env} {M : sd_Mem}  {r : Int32} (C : sd_C K E sd_LM RX11 cX11_count 2 (some .int))  : ∀ (x1 : Int32), fn_X11_count_0 M x1 = some r → sd_Z K rm_X11_count E sd_LM 2 (sd_QI K E sd_LM r M) M 0 [(0, .ref (E.2.2 100)), (1, .int x1)] [] := by
  intro x1 hF
  unfold fn_X11_count_0 at hF
  refine sd_iload_n C 1 dX11_count_0 rfl rfl rfl (n' := 1) ?_
  refine sd_iconst C (v := 0) dX11_count_1 rfl rfl (n' := 2) ?_
  refine sd_iconst C (v := 4) dX11_count_2 rfl rfl (n' := 3) ?_
  obtain ⟨q3, e3, hF⟩ := sd_bind hF
  refine sd_callSI [.int x1, .int (0 : Int32), .int (4 : Int32)] [] C (ct_X11_in M x1 (0 : Int32) (4 : Int32)  e3) sd_lX11_97 ⟨rfl, rfl, Nat.le_of_ble_eq_true rfl, Nat.le_of_ble_eq_true rfl⟩ rfl (Nat.le_of_ble_eq_true rfl) dX11_count_3 rfl (n' := 6) ?_
  refine sd_if_eq C (n' := 9) (tgt := 17) dX11_count_6 rfl rfl (fun c6 => ?_) (fun c6 => ?_)
  · replace hF := sd_pos hF c6
    refine sd_iconst C (v := -1) dX11_count_17 rfl rfl (n' := 18) ?_
    exact sd_iret C dX11_count_18 (Option.some.inj hF) rfl
  · replace hF := sd_neg hF c6
    refine sd_aload_n C 0 dX11_count_9 rfl rfl rfl (n' := 10) ?_
    refine sd_iload_n C 1 dX11_count_10 rfl rfl rfl (n' := 11) ?_
    obtain ⟨q11, e11, hF⟩ := sd_bind hF
    refine sd_callVI [.int x1] [] C (ct_X11_counts M x1  e11) sd_lX11_303 ⟨rfl, rfl, Nat.le_of_ble_eq_true rfl, Nat.le_of_ble_eq_true rfl⟩ sd_i100 (sd_e12 sd_k100) rfl rfl rfl (Nat.le_of_ble_eq_true rfl) dX11_count_11 rfl (n' := 14) ?_
    refine sd_goto C (tgt := 18) dX11_count_14 rfl ?_
    exact sd_iret C dX11_count_18 (Option.some.inj hF) rfl
theorem ct_X11_count {l : Launch} {E : sd_Env} (M : sd_Mem) (x1 : Int32)  {r : Int32} (hF : fn_X11_count M x1 = some r) : sd_MI l E sd_LM yX11_count cX11_count 2 (some .int) rm_X11_count [.ref (E.2.2 100), .int x1] M r M := sd_ent0 (by decide +kernel) (Nat.le_of_ble_eq_true rfl) (fun p e s m below meth c C => tb_X11_count_0 C x1 hF)
theorem dX11_finding_0 : decode cX11_finding 0 = .ok (.aload_n 0, 1) := by decide +kernel
theorem dX11_finding_1 : decode cX11_finding 1 = .ok (.getfield 88, 3) := by decide +kernel
theorem dX11_finding_4 : decode cX11_finding 4 = .ok (.ireturn, 1) := by decide +kernel
set_option maxRecDepth 100000 in
set_option maxHeartbeats 4000000 in
theorem tb_X11_finding_0 {K : sd_K} {E : sd_Env} {M : sd_Mem}  {r : Int32} (C : sd_C K E sd_LM RX11 cX11_finding 1 (some .int))  : fn_X11_finding_0 M = some r → sd_Z K rm_X11_finding E sd_LM 1 (sd_QI K E sd_LM r M) M 0 [(0, .ref (E.2.2 100))] [] := by
  intro hF
  unfold fn_X11_finding_0 at hF
  refine sd_aload_n C 0 dX11_finding_0 rfl rfl rfl (n' := 1) ?_
  refine sd_g11_0 C sd_i100 sd_k100 sd_w1041 dX11_finding_1 rfl (n' := 4) ?_
  exact sd_iret C dX11_finding_4 (Option.some.inj hF) rfl
theorem ct_X11_finding {l : Launch} {E : sd_Env} (M : sd_Mem)   {r : Int32} (hF : fn_X11_finding M = some r) : sd_MI l E sd_LM yX11_finding cX11_finding 1 (some .int) rm_X11_finding [.ref (E.2.2 100)] M r M := sd_ent0 (by decide +kernel) (Nat.le_of_ble_eq_true rfl) (fun p e s m below meth c C => tb_X11_finding_0 C hF)
theorem dX11_findings_0 : decode cX11_findings 0 = .ok (.iload_n 1, 1) := by decide +kernel
theorem dX11_findings_1 : decode cX11_findings 1 = .ok (.iconst 1, 1) := by decide +kernel
theorem dX11_findings_2 : decode cX11_findings 2 = .ok (.iconst 5, 1) := by decide +kernel
theorem dX11_findings_3 : decode cX11_findings 3 = .ok (.invokestatic 97, 3) := by decide +kernel
theorem dX11_findings_6 : decode cX11_findings 6 = .ok (.ifCond .eq 12, 3) := by decide +kernel
theorem dX11_findings_9 : decode cX11_findings 9 = .ok (.aload_n 0, 1) := by decide +kernel
theorem dX11_findings_10 : decode cX11_findings 10 = .ok (.getfield 7, 3) := by decide +kernel
theorem dX11_findings_13 : decode cX11_findings 13 = .ok (.iload_n 1, 1) := by decide +kernel
theorem dX11_findings_14 : decode cX11_findings 14 = .ok (.iaload, 1) := by decide +kernel
theorem dX11_findings_15 : decode cX11_findings 15 = .ok (.goto 4, 3) := by decide +kernel
theorem dX11_findings_18 : decode cX11_findings 18 = .ok (.iconst (-1), 1) := by decide +kernel
theorem dX11_findings_19 : decode cX11_findings 19 = .ok (.ireturn, 1) := by decide +kernel
set_option maxRecDepth 100000 in
set_option maxHeartbeats 4000000 in
theorem tb_X11_findings_0 {K : sd_K} {E : sd_Env} {M : sd_Mem}  {r : Int32} (C : sd_C K E sd_LM RX11 cX11_findings 2 (some .int))  : ∀ (x1 : Int32), fn_X11_findings_0 M x1 = some r → sd_Z K rm_X11_findings E sd_LM 2 (sd_QI K E sd_LM r M) M 0 [(0, .ref (E.2.2 100)), (1, .int x1)] [] := by
  intro x1 hF
  unfold fn_X11_findings_0 at hF
  refine sd_iload_n C 1 dX11_findings_0 rfl rfl rfl (n' := 1) ?_
  refine sd_iconst C (v := 1) dX11_findings_1 rfl rfl (n' := 2) ?_
  refine sd_iconst C (v := 5) dX11_findings_2 rfl rfl (n' := 3) ?_
  obtain ⟨q3, e3, hF⟩ := sd_bind hF
  refine sd_callSI [.int x1, .int (1 : Int32), .int (5 : Int32)] [] C (ct_X11_in M x1 (1 : Int32) (5 : Int32)  e3) sd_lX11_97 ⟨rfl, rfl, Nat.le_of_ble_eq_true rfl, Nat.le_of_ble_eq_true rfl⟩ rfl (Nat.le_of_ble_eq_true rfl) dX11_findings_3 rfl (n' := 6) ?_
  refine sd_if_eq C (n' := 9) (tgt := 18) dX11_findings_6 rfl rfl (fun c6 => ?_) (fun c6 => ?_)
  · replace hF := sd_pos hF c6
    refine sd_iconst C (v := -1) dX11_findings_18 rfl rfl (n' := 19) ?_
    exact sd_iret C dX11_findings_19 (Option.some.inj hF) rfl
  · replace hF := sd_neg hF c6
    refine sd_aload_n C 0 dX11_findings_9 rfl rfl rfl (n' := 10) ?_
    refine sd_g11_1 C sd_i100 sd_k100 sd_w1042 dX11_findings_10 rfl (n' := 13) ?_
    refine sd_iload_n C 1 dX11_findings_13 rfl rfl rfl (n' := 14) ?_
    obtain ⟨b14, hF⟩ := sd_ok hF
    refine sd_iald C sd_i101 sd_k101 sd_n101 b14 dX11_findings_14 rfl (n' := 15) ?_
    refine sd_goto C (tgt := 19) dX11_findings_15 rfl ?_
    exact sd_iret C dX11_findings_19 (Option.some.inj hF) rfl
theorem ct_X11_findings {l : Launch} {E : sd_Env} (M : sd_Mem) (x1 : Int32)  {r : Int32} (hF : fn_X11_findings M x1 = some r) : sd_MI l E sd_LM yX11_findings cX11_findings 2 (some .int) rm_X11_findings [.ref (E.2.2 100), .int x1] M r M := sd_ent0 (by decide +kernel) (Nat.le_of_ble_eq_true rfl) (fun p e s m below meth c C => tb_X11_findings_0 C x1 hF)
theorem dX11_mix_0 : decode cX11_mix 0 = .ok (.aload_n 0, 1) := by decide +kernel
theorem dX11_mix_1 : decode cX11_mix 1 = .ok (.ldc2_w 306, 3) := by decide +kernel
theorem dX11_mix_4 : decode cX11_mix 4 = .ok (.aload_n 0, 1) := by decide +kernel
theorem dX11_mix_5 : decode cX11_mix 5 = .ok (.getfield 308, 3) := by decide +kernel
theorem dX11_mix_8 : decode cX11_mix 8 = .ok (.lmul, 1) := by decide +kernel
theorem dX11_mix_9 : decode cX11_mix 9 = .ok (.iload_n 1, 1) := by decide +kernel
theorem dX11_mix_10 : decode cX11_mix 10 = .ok (.i2l, 1) := by decide +kernel
theorem dX11_mix_11 : decode cX11_mix 11 = .ok (.ladd, 1) := by decide +kernel
theorem dX11_mix_12 : decode cX11_mix 12 = .ok (.putfield 308, 3) := by decide +kernel
theorem dX11_mix_15 : decode cX11_mix 15 = .ok (.return_, 1) := by decide +kernel
set_option maxRecDepth 100000 in
set_option maxHeartbeats 4000000 in
theorem tb_X11_mix_0 {K : sd_K} {E : sd_Env}   {r : sd_Mem} (C : sd_C K E sd_LM RX11 cX11_mix 2 none)  : ∀ (M : sd_Mem) (x1 : Int32), fn_X11_mix_0 M x1 = some r → sd_Z K rm_X11_mix E sd_LM 2 (sd_QV K E sd_LM r) M 0 [(0, .ref (E.2.2 100)), (1, .int x1)] [] := by
  intro M x1 hF
  unfold fn_X11_mix_0 at hF
  refine sd_aload_n C 0 dX11_mix_0 rfl rfl rfl (n' := 1) ?_
  refine sd_ldc2 C (v := 31) sd_w1549 dX11_mix_1 rfl (n' := 4) ?_
  refine sd_aload_n C 0 dX11_mix_4 rfl rfl rfl (n' := 5) ?_
  refine sd_g11_35 C sd_i100 sd_k100 sd_w1076 dX11_mix_5 rfl (n' := 8) ?_
  refine sd_lmul C dX11_mix_8 rfl (n' := 9) ?_
  refine sd_iload_n C 1 dX11_mix_9 rfl rfl rfl (n' := 10) ?_
  refine sd_i2l C dX11_mix_10 rfl (n' := 11) ?_
  refine sd_ladd C dX11_mix_11 rfl (n' := 12) ?_
  refine sd_p11_35 C sd_i100 sd_k100 sd_w1076 dX11_mix_12 rfl (n' := 15) ?_
  exact sd_vret C dX11_mix_15 (Option.some.inj hF)
theorem ct_X11_mix {l : Launch} {E : sd_Env} (M : sd_Mem) (x1 : Int32)  {r : sd_Mem} (hF : fn_X11_mix M x1 = some r) : sd_MV l E sd_LM yX11_mix cX11_mix 2 none rm_X11_mix [.ref (E.2.2 100), .int x1] M r := sd_ent0 (by decide +kernel) (Nat.le_of_ble_eq_true rfl) (fun p e s m below meth c C => tb_X11_mix_0 C M x1 hF)
theorem dX11_mixQuarrel_0 : decode cX11_mixQuarrel 0 = .ok (.iconst 0, 1) := by decide +kernel
theorem dX11_mixQuarrel_1 : decode cX11_mixQuarrel 1 = .ok (.istore_n 1, 1) := by decide +kernel
theorem dX11_mixQuarrel_2 : decode cX11_mixQuarrel 2 = .ok (.iload_n 1, 1) := by decide +kernel
theorem dX11_mixQuarrel_3 : decode cX11_mixQuarrel 3 = .ok (.bipush 8, 2) := by decide +kernel
theorem dX11_mixQuarrel_5 : decode cX11_mixQuarrel 5 = .ok (.if_icmp .gt 18, 3) := by decide +kernel
theorem dX11_mixQuarrel_8 : decode cX11_mixQuarrel 8 = .ok (.aload_n 0, 1) := by decide +kernel
theorem dX11_mixQuarrel_9 : decode cX11_mixQuarrel 9 = .ok (.aload_n 0, 1) := by decide +kernel
theorem dX11_mixQuarrel_10 : decode cX11_mixQuarrel 10 = .ok (.iload_n 1, 1) := by decide +kernel
theorem dX11_mixQuarrel_11 : decode cX11_mixQuarrel 11 = .ok (.invokevirtual 150, 3) := by decide +kernel
theorem dX11_mixQuarrel_14 : decode cX11_mixQuarrel 14 = .ok (.invokevirtual 311, 3) := by decide +kernel
theorem dX11_mixQuarrel_17 : decode cX11_mixQuarrel 17 = .ok (.iinc 1 1, 3) := by decide +kernel
theorem dX11_mixQuarrel_20 : decode cX11_mixQuarrel 20 = .ok (.goto (-18), 3) := by decide +kernel
theorem dX11_mixQuarrel_23 : decode cX11_mixQuarrel 23 = .ok (.iconst 0, 1) := by decide +kernel
theorem dX11_mixQuarrel_24 : decode cX11_mixQuarrel 24 = .ok (.istore_n 1, 1) := by decide +kernel
theorem dX11_mixQuarrel_25 : decode cX11_mixQuarrel 25 = .ok (.iload_n 1, 1) := by decide +kernel
theorem dX11_mixQuarrel_26 : decode cX11_mixQuarrel 26 = .ok (.iconst 2, 1) := by decide +kernel
theorem dX11_mixQuarrel_27 : decode cX11_mixQuarrel 27 = .ok (.if_icmp .ge 55, 3) := by decide +kernel
theorem dX11_mixQuarrel_30 : decode cX11_mixQuarrel 30 = .ok (.iconst 0, 1) := by decide +kernel
theorem dX11_mixQuarrel_31 : decode cX11_mixQuarrel 31 = .ok (.istore_n 2, 1) := by decide +kernel
theorem dX11_mixQuarrel_32 : decode cX11_mixQuarrel 32 = .ok (.iload_n 2, 1) := by decide +kernel
theorem dX11_mixQuarrel_33 : decode cX11_mixQuarrel 33 = .ok (.aload_n 0, 1) := by decide +kernel
theorem dX11_mixQuarrel_34 : decode cX11_mixQuarrel 34 = .ok (.getfield 32, 3) := by decide +kernel
theorem dX11_mixQuarrel_37 : decode cX11_mixQuarrel 37 = .ok (.iload_n 1, 1) := by decide +kernel
theorem dX11_mixQuarrel_38 : decode cX11_mixQuarrel 38 = .ok (.iaload, 1) := by decide +kernel
theorem dX11_mixQuarrel_39 : decode cX11_mixQuarrel 39 = .ok (.if_icmp .ge 37, 3) := by decide +kernel
theorem dX11_mixQuarrel_42 : decode cX11_mixQuarrel 42 = .ok (.aload_n 0, 1) := by decide +kernel
theorem dX11_mixQuarrel_43 : decode cX11_mixQuarrel 43 = .ok (.aload_n 0, 1) := by decide +kernel
theorem dX11_mixQuarrel_44 : decode cX11_mixQuarrel 44 = .ok (.getfield 35, 3) := by decide +kernel
theorem dX11_mixQuarrel_47 : decode cX11_mixQuarrel 47 = .ok (.iconst 3, 1) := by decide +kernel
theorem dX11_mixQuarrel_48 : decode cX11_mixQuarrel 48 = .ok (.iload_n 1, 1) := by decide +kernel
theorem dX11_mixQuarrel_49 : decode cX11_mixQuarrel 49 = .ok (.imul, 1) := by decide +kernel
theorem dX11_mixQuarrel_50 : decode cX11_mixQuarrel 50 = .ok (.iload_n 2, 1) := by decide +kernel
theorem dX11_mixQuarrel_51 : decode cX11_mixQuarrel 51 = .ok (.iadd, 1) := by decide +kernel
theorem dX11_mixQuarrel_52 : decode cX11_mixQuarrel 52 = .ok (.iaload, 1) := by decide +kernel
theorem dX11_mixQuarrel_53 : decode cX11_mixQuarrel 53 = .ok (.invokevirtual 311, 3) := by decide +kernel
theorem dX11_mixQuarrel_56 : decode cX11_mixQuarrel 56 = .ok (.aload_n 0, 1) := by decide +kernel
theorem dX11_mixQuarrel_57 : decode cX11_mixQuarrel 57 = .ok (.aload_n 0, 1) := by decide +kernel
theorem dX11_mixQuarrel_58 : decode cX11_mixQuarrel 58 = .ok (.getfield 38, 3) := by decide +kernel
theorem dX11_mixQuarrel_61 : decode cX11_mixQuarrel 61 = .ok (.iconst 3, 1) := by decide +kernel
theorem dX11_mixQuarrel_62 : decode cX11_mixQuarrel 62 = .ok (.iload_n 1, 1) := by decide +kernel
theorem dX11_mixQuarrel_63 : decode cX11_mixQuarrel 63 = .ok (.imul, 1) := by decide +kernel
theorem dX11_mixQuarrel_64 : decode cX11_mixQuarrel 64 = .ok (.iload_n 2, 1) := by decide +kernel
theorem dX11_mixQuarrel_65 : decode cX11_mixQuarrel 65 = .ok (.iadd, 1) := by decide +kernel
theorem dX11_mixQuarrel_66 : decode cX11_mixQuarrel 66 = .ok (.iaload, 1) := by decide +kernel
theorem dX11_mixQuarrel_67 : decode cX11_mixQuarrel 67 = .ok (.invokevirtual 311, 3) := by decide +kernel
theorem dX11_mixQuarrel_70 : decode cX11_mixQuarrel 70 = .ok (.iinc 2 1, 3) := by decide +kernel
theorem dX11_mixQuarrel_73 : decode cX11_mixQuarrel 73 = .ok (.goto (-41), 3) := by decide +kernel
theorem dX11_mixQuarrel_76 : decode cX11_mixQuarrel 76 = .ok (.iinc 1 1, 3) := by decide +kernel
theorem dX11_mixQuarrel_79 : decode cX11_mixQuarrel 79 = .ok (.goto (-54), 3) := by decide +kernel
theorem dX11_mixQuarrel_82 : decode cX11_mixQuarrel 82 = .ok (.iconst 0, 1) := by decide +kernel
theorem dX11_mixQuarrel_83 : decode cX11_mixQuarrel 83 = .ok (.istore_n 1, 1) := by decide +kernel
theorem dX11_mixQuarrel_84 : decode cX11_mixQuarrel 84 = .ok (.iload_n 1, 1) := by decide +kernel
theorem dX11_mixQuarrel_85 : decode cX11_mixQuarrel 85 = .ok (.bipush 8, 2) := by decide +kernel
theorem dX11_mixQuarrel_87 : decode cX11_mixQuarrel 87 = .ok (.if_icmp .ge 70, 3) := by decide +kernel
theorem dX11_mixQuarrel_90 : decode cX11_mixQuarrel 90 = .ok (.aload_n 0, 1) := by decide +kernel
theorem dX11_mixQuarrel_91 : decode cX11_mixQuarrel 91 = .ok (.aload_n 0, 1) := by decide +kernel
theorem dX11_mixQuarrel_92 : decode cX11_mixQuarrel 92 = .ok (.getfield 63, 3) := by decide +kernel
theorem dX11_mixQuarrel_95 : decode cX11_mixQuarrel 95 = .ok (.iload_n 1, 1) := by decide +kernel
theorem dX11_mixQuarrel_96 : decode cX11_mixQuarrel 96 = .ok (.iaload, 1) := by decide +kernel
theorem dX11_mixQuarrel_97 : decode cX11_mixQuarrel 97 = .ok (.ifCond .ge 7, 3) := by decide +kernel
theorem dX11_mixQuarrel_100 : decode cX11_mixQuarrel 100 = .ok (.iconst (-1), 1) := by decide +kernel
theorem dX11_mixQuarrel_101 : decode cX11_mixQuarrel 101 = .ok (.goto 9, 3) := by decide +kernel
theorem dX11_mixQuarrel_104 : decode cX11_mixQuarrel 104 = .ok (.aload_n 0, 1) := by decide +kernel
theorem dX11_mixQuarrel_105 : decode cX11_mixQuarrel 105 = .ok (.getfield 63, 3) := by decide +kernel
theorem dX11_mixQuarrel_108 : decode cX11_mixQuarrel 108 = .ok (.iload_n 1, 1) := by decide +kernel
theorem dX11_mixQuarrel_109 : decode cX11_mixQuarrel 109 = .ok (.iaload, 1) := by decide +kernel
theorem dX11_mixQuarrel_110 : decode cX11_mixQuarrel 110 = .ok (.invokevirtual 311, 3) := by decide +kernel
theorem dX11_mixQuarrel_113 : decode cX11_mixQuarrel 113 = .ok (.iconst 0, 1) := by decide +kernel
theorem dX11_mixQuarrel_114 : decode cX11_mixQuarrel 114 = .ok (.istore_n 2, 1) := by decide +kernel
theorem dX11_mixQuarrel_115 : decode cX11_mixQuarrel 115 = .ok (.iload_n 2, 1) := by decide +kernel
theorem dX11_mixQuarrel_116 : decode cX11_mixQuarrel 116 = .ok (.bipush 30, 2) := by decide +kernel
theorem dX11_mixQuarrel_118 : decode cX11_mixQuarrel 118 = .ok (.if_icmp .ge 33, 3) := by decide +kernel
theorem dX11_mixQuarrel_121 : decode cX11_mixQuarrel 121 = .ok (.aload_n 0, 1) := by decide +kernel
theorem dX11_mixQuarrel_122 : decode cX11_mixQuarrel 122 = .ok (.getfield 63, 3) := by decide +kernel
theorem dX11_mixQuarrel_125 : decode cX11_mixQuarrel 125 = .ok (.iload_n 1, 1) := by decide +kernel
theorem dX11_mixQuarrel_126 : decode cX11_mixQuarrel 126 = .ok (.iaload, 1) := by decide +kernel
theorem dX11_mixQuarrel_127 : decode cX11_mixQuarrel 127 = .ok (.ifCond .lt 24, 3) := by decide +kernel
theorem dX11_mixQuarrel_130 : decode cX11_mixQuarrel 130 = .ok (.aload_n 0, 1) := by decide +kernel
theorem dX11_mixQuarrel_131 : decode cX11_mixQuarrel 131 = .ok (.aload_n 0, 1) := by decide +kernel
theorem dX11_mixQuarrel_132 : decode cX11_mixQuarrel 132 = .ok (.getfield 66, 3) := by decide +kernel
theorem dX11_mixQuarrel_135 : decode cX11_mixQuarrel 135 = .ok (.bipush 30, 2) := by decide +kernel
theorem dX11_mixQuarrel_137 : decode cX11_mixQuarrel 137 = .ok (.iload_n 1, 1) := by decide +kernel
theorem dX11_mixQuarrel_138 : decode cX11_mixQuarrel 138 = .ok (.imul, 1) := by decide +kernel
theorem dX11_mixQuarrel_139 : decode cX11_mixQuarrel 139 = .ok (.iload_n 2, 1) := by decide +kernel
theorem dX11_mixQuarrel_140 : decode cX11_mixQuarrel 140 = .ok (.iadd, 1) := by decide +kernel
theorem dX11_mixQuarrel_141 : decode cX11_mixQuarrel 141 = .ok (.iaload, 1) := by decide +kernel
theorem dX11_mixQuarrel_142 : decode cX11_mixQuarrel 142 = .ok (.invokevirtual 311, 3) := by decide +kernel
theorem dX11_mixQuarrel_145 : decode cX11_mixQuarrel 145 = .ok (.iinc 2 1, 3) := by decide +kernel
theorem dX11_mixQuarrel_148 : decode cX11_mixQuarrel 148 = .ok (.goto (-33), 3) := by decide +kernel
theorem dX11_mixQuarrel_151 : decode cX11_mixQuarrel 151 = .ok (.iinc 1 1, 3) := by decide +kernel
theorem dX11_mixQuarrel_154 : decode cX11_mixQuarrel 154 = .ok (.goto (-70), 3) := by decide +kernel
theorem dX11_mixQuarrel_157 : decode cX11_mixQuarrel 157 = .ok (.iconst 0, 1) := by decide +kernel
theorem dX11_mixQuarrel_158 : decode cX11_mixQuarrel 158 = .ok (.istore_n 1, 1) := by decide +kernel
theorem dX11_mixQuarrel_159 : decode cX11_mixQuarrel 159 = .ok (.iload_n 1, 1) := by decide +kernel
theorem dX11_mixQuarrel_160 : decode cX11_mixQuarrel 160 = .ok (.bipush 6, 2) := by decide +kernel
theorem dX11_mixQuarrel_162 : decode cX11_mixQuarrel 162 = .ok (.if_icmp .ge 39, 3) := by decide +kernel
theorem dX11_mixQuarrel_165 : decode cX11_mixQuarrel 165 = .ok (.aload_n 0, 1) := by decide +kernel
theorem dX11_mixQuarrel_166 : decode cX11_mixQuarrel 166 = .ok (.aload_n 0, 1) := by decide +kernel
theorem dX11_mixQuarrel_167 : decode cX11_mixQuarrel 167 = .ok (.getfield 76, 3) := by decide +kernel
theorem dX11_mixQuarrel_170 : decode cX11_mixQuarrel 170 = .ok (.iload_n 1, 1) := by decide +kernel
theorem dX11_mixQuarrel_171 : decode cX11_mixQuarrel 171 = .ok (.iaload, 1) := by decide +kernel
theorem dX11_mixQuarrel_172 : decode cX11_mixQuarrel 172 = .ok (.invokevirtual 311, 3) := by decide +kernel
theorem dX11_mixQuarrel_175 : decode cX11_mixQuarrel 175 = .ok (.aload_n 0, 1) := by decide +kernel
theorem dX11_mixQuarrel_176 : decode cX11_mixQuarrel 176 = .ok (.aload_n 0, 1) := by decide +kernel
theorem dX11_mixQuarrel_177 : decode cX11_mixQuarrel 177 = .ok (.getfield 79, 3) := by decide +kernel
theorem dX11_mixQuarrel_180 : decode cX11_mixQuarrel 180 = .ok (.iload_n 1, 1) := by decide +kernel
theorem dX11_mixQuarrel_181 : decode cX11_mixQuarrel 181 = .ok (.iaload, 1) := by decide +kernel
theorem dX11_mixQuarrel_182 : decode cX11_mixQuarrel 182 = .ok (.invokevirtual 311, 3) := by decide +kernel
theorem dX11_mixQuarrel_185 : decode cX11_mixQuarrel 185 = .ok (.aload_n 0, 1) := by decide +kernel
theorem dX11_mixQuarrel_186 : decode cX11_mixQuarrel 186 = .ok (.aload_n 0, 1) := by decide +kernel
theorem dX11_mixQuarrel_187 : decode cX11_mixQuarrel 187 = .ok (.getfield 82, 3) := by decide +kernel
theorem dX11_mixQuarrel_190 : decode cX11_mixQuarrel 190 = .ok (.iload_n 1, 1) := by decide +kernel
theorem dX11_mixQuarrel_191 : decode cX11_mixQuarrel 191 = .ok (.iaload, 1) := by decide +kernel
theorem dX11_mixQuarrel_192 : decode cX11_mixQuarrel 192 = .ok (.invokevirtual 311, 3) := by decide +kernel
theorem dX11_mixQuarrel_195 : decode cX11_mixQuarrel 195 = .ok (.iinc 1 1, 3) := by decide +kernel
theorem dX11_mixQuarrel_198 : decode cX11_mixQuarrel 198 = .ok (.goto (-39), 3) := by decide +kernel
theorem dX11_mixQuarrel_201 : decode cX11_mixQuarrel 201 = .ok (.return_, 1) := by decide +kernel
set_option maxRecDepth 100000 in
set_option maxHeartbeats 4000000 in
theorem tb_X11_mixQuarrel_32 {K : sd_K} {E : sd_Env}   {r : sd_Mem} (C : sd_C K E sd_LM RX11 cX11_mixQuarrel 3 none)  {k25 : sd_Mem → Int32 → Option sd_Mem} (hk25 : ∀ (M : sd_Mem) (x1 : Int32), k25 M x1 = some r → sd_Z K rm_X11_mixQuarrel E sd_LM 3 (sd_QV K E sd_LM r) M 25 [(0, .ref (E.2.2 100)), (1, .int x1)] []) : ∀ (n : Nat), ∀ (M : sd_Mem) (x1 : Int32) (x2 : Int32), fn_X11_mixQuarrel_32 k25 n M x1 x2 = some r → sd_Z K rm_X11_mixQuarrel E sd_LM 3 (sd_QV K E sd_LM r) M 32 [(0, .ref (E.2.2 100)), (1, .int x1), (2, .int x2)] [] := by
  intro n
  induction n with
  | zero => intro M x1 x2 hF; cases hF
  | succ n ih =>
    intro M x1 x2 hF
    unfold fn_X11_mixQuarrel_32 at hF
    refine sd_iload_n C 2 dX11_mixQuarrel_32 rfl rfl rfl (n' := 33) ?_
    refine sd_aload_n C 0 dX11_mixQuarrel_33 rfl rfl rfl (n' := 34) ?_
    refine sd_g11_10 C sd_i100 sd_k100 sd_w1051 dX11_mixQuarrel_34 rfl (n' := 37) ?_
    refine sd_iload_n C 1 dX11_mixQuarrel_37 rfl rfl rfl (n' := 38) ?_
    obtain ⟨b38, hF⟩ := sd_ok hF
    refine sd_iald C sd_i107 sd_k107 sd_n107 b38 dX11_mixQuarrel_38 rfl (n' := 39) ?_
    refine sd_icmp_ge C (n' := 42) (tgt := 76) dX11_mixQuarrel_39 rfl rfl (fun c39 => ?_) (fun c39 => ?_)
    · replace hF := sd_pos hF c39
      refine sd_iinc [(1, .int (x1 + (1 : Int32))), (0, .ref (E.2.2 100)), (2, .int x2)] 1 C dX11_mixQuarrel_76 rfl rfl (by decide) rfl rfl (n' := 79) ?_
      refine sd_goto C (tgt := 25) dX11_mixQuarrel_79 rfl ?_
      refine sd_sub [1, 0] rfl ?_
      exact hk25 M (x1 + (1 : Int32)) hF
    · replace hF := sd_neg hF c39
      refine sd_aload_n C 0 dX11_mixQuarrel_42 rfl rfl rfl (n' := 43) ?_
      refine sd_aload_n C 0 dX11_mixQuarrel_43 rfl rfl rfl (n' := 44) ?_
      refine sd_g11_11 C sd_i100 sd_k100 sd_w1052 dX11_mixQuarrel_44 rfl (n' := 47) ?_
      refine sd_iconst C (v := 3) dX11_mixQuarrel_47 rfl rfl (n' := 48) ?_
      refine sd_iload_n C 1 dX11_mixQuarrel_48 rfl rfl rfl (n' := 49) ?_
      refine sd_imul C dX11_mixQuarrel_49 rfl (n' := 50) ?_
      refine sd_iload_n C 2 dX11_mixQuarrel_50 rfl rfl rfl (n' := 51) ?_
      refine sd_iadd C dX11_mixQuarrel_51 rfl (n' := 52) ?_
      obtain ⟨b52, hF⟩ := sd_ok hF
      refine sd_iald C sd_i108 sd_k108 sd_n108 b52 dX11_mixQuarrel_52 rfl (n' := 53) ?_
      obtain ⟨q53, e53, hF⟩ := sd_bind hF
      refine sd_callVV [.int (M.1 108 (((3 : Int32) * x1) + x2).toNatClampNeg)] [] C (ct_X11_mix M (M.1 108 (((3 : Int32) * x1) + x2).toNatClampNeg)  e53) sd_lX11_311 ⟨rfl, rfl, Nat.le_of_ble_eq_true rfl, Nat.le_of_ble_eq_true rfl⟩ sd_i100 (sd_e12 sd_k100) rfl rfl rfl (Nat.le_of_ble_eq_true rfl) dX11_mixQuarrel_53 rfl (n' := 56) ?_
      refine sd_aload_n C 0 dX11_mixQuarrel_56 rfl rfl rfl (n' := 57) ?_
      refine sd_aload_n C 0 dX11_mixQuarrel_57 rfl rfl rfl (n' := 58) ?_
      refine sd_g11_12 C sd_i100 sd_k100 sd_w1053 dX11_mixQuarrel_58 rfl (n' := 61) ?_
      refine sd_iconst C (v := 3) dX11_mixQuarrel_61 rfl rfl (n' := 62) ?_
      refine sd_iload_n C 1 dX11_mixQuarrel_62 rfl rfl rfl (n' := 63) ?_
      refine sd_imul C dX11_mixQuarrel_63 rfl (n' := 64) ?_
      refine sd_iload_n C 2 dX11_mixQuarrel_64 rfl rfl rfl (n' := 65) ?_
      refine sd_iadd C dX11_mixQuarrel_65 rfl (n' := 66) ?_
      obtain ⟨b66, hF⟩ := sd_ok hF
      refine sd_iald C sd_i109 sd_k109 sd_n109 b66 dX11_mixQuarrel_66 rfl (n' := 67) ?_
      obtain ⟨q67, e67, hF⟩ := sd_bind hF
      refine sd_callVV [.int (q53.1 109 (((3 : Int32) * x1) + x2).toNatClampNeg)] [] C (ct_X11_mix q53 (q53.1 109 (((3 : Int32) * x1) + x2).toNatClampNeg)  e67) sd_lX11_311 ⟨rfl, rfl, Nat.le_of_ble_eq_true rfl, Nat.le_of_ble_eq_true rfl⟩ sd_i100 (sd_e12 sd_k100) rfl rfl rfl (Nat.le_of_ble_eq_true rfl) dX11_mixQuarrel_67 rfl (n' := 70) ?_
      refine sd_iinc [(2, .int (x2 + (1 : Int32))), (0, .ref (E.2.2 100)), (1, .int x1)] 2 C dX11_mixQuarrel_70 rfl rfl (by decide) rfl rfl (n' := 73) ?_
      refine sd_goto C (tgt := 32) dX11_mixQuarrel_73 rfl ?_
      refine sd_sub [1, 2, 0] rfl ?_
      exact ih q67 x1 (x2 + (1 : Int32)) hF
set_option maxRecDepth 100000 in
set_option maxHeartbeats 4000000 in
theorem tb_X11_mixQuarrel_115 {K : sd_K} {E : sd_Env}   {r : sd_Mem} (C : sd_C K E sd_LM RX11 cX11_mixQuarrel 3 none)  {k84 : sd_Mem → Int32 → Option sd_Mem} (hk84 : ∀ (M : sd_Mem) (x1 : Int32), k84 M x1 = some r → sd_Z K rm_X11_mixQuarrel E sd_LM 3 (sd_QV K E sd_LM r) M 84 [(0, .ref (E.2.2 100)), (1, .int x1)] []) : ∀ (n : Nat), ∀ (M : sd_Mem) (x1 : Int32) (x2 : Int32), fn_X11_mixQuarrel_115 k84 n M x1 x2 = some r → sd_Z K rm_X11_mixQuarrel E sd_LM 3 (sd_QV K E sd_LM r) M 115 [(0, .ref (E.2.2 100)), (1, .int x1), (2, .int x2)] [] := by
  intro n
  induction n with
  | zero => intro M x1 x2 hF; cases hF
  | succ n ih =>
    intro M x1 x2 hF
    unfold fn_X11_mixQuarrel_115 at hF
    refine sd_iload_n C 2 dX11_mixQuarrel_115 rfl rfl rfl (n' := 116) ?_
    refine sd_bipush C (v := 30) dX11_mixQuarrel_116 rfl rfl (n' := 118) ?_
    refine sd_icmp_ge C (n' := 121) (tgt := 151) dX11_mixQuarrel_118 rfl rfl (fun c118 => ?_) (fun c118 => ?_)
    · replace hF := sd_pos hF c118
      refine sd_iinc [(1, .int (x1 + (1 : Int32))), (0, .ref (E.2.2 100)), (2, .int x2)] 1 C dX11_mixQuarrel_151 rfl rfl (by decide) rfl rfl (n' := 154) ?_
      refine sd_goto C (tgt := 84) dX11_mixQuarrel_154 rfl ?_
      refine sd_sub [1, 0] rfl ?_
      exact hk84 M (x1 + (1 : Int32)) hF
    · replace hF := sd_neg hF c118
      refine sd_aload_n C 0 dX11_mixQuarrel_121 rfl rfl rfl (n' := 122) ?_
      refine sd_g11_23 C sd_i100 sd_k100 sd_w1064 dX11_mixQuarrel_122 rfl (n' := 125) ?_
      refine sd_iload_n C 1 dX11_mixQuarrel_125 rfl rfl rfl (n' := 126) ?_
      obtain ⟨b126, hF⟩ := sd_ok hF
      refine sd_iald C sd_i115 sd_k115 sd_n115 b126 dX11_mixQuarrel_126 rfl (n' := 127) ?_
      refine sd_if_lt C (n' := 130) (tgt := 151) dX11_mixQuarrel_127 rfl rfl (fun c127 => ?_) (fun c127 => ?_)
      · replace hF := sd_pos hF c127
        refine sd_iinc [(1, .int (x1 + (1 : Int32))), (0, .ref (E.2.2 100)), (2, .int x2)] 1 C dX11_mixQuarrel_151 rfl rfl (by decide) rfl rfl (n' := 154) ?_
        refine sd_goto C (tgt := 84) dX11_mixQuarrel_154 rfl ?_
        refine sd_sub [1, 0] rfl ?_
        exact hk84 M (x1 + (1 : Int32)) hF
      · replace hF := sd_neg hF c127
        refine sd_aload_n C 0 dX11_mixQuarrel_130 rfl rfl rfl (n' := 131) ?_
        refine sd_aload_n C 0 dX11_mixQuarrel_131 rfl rfl rfl (n' := 132) ?_
        refine sd_g11_24 C sd_i100 sd_k100 sd_w1065 dX11_mixQuarrel_132 rfl (n' := 135) ?_
        refine sd_bipush C (v := 30) dX11_mixQuarrel_135 rfl rfl (n' := 137) ?_
        refine sd_iload_n C 1 dX11_mixQuarrel_137 rfl rfl rfl (n' := 138) ?_
        refine sd_imul C dX11_mixQuarrel_138 rfl (n' := 139) ?_
        refine sd_iload_n C 2 dX11_mixQuarrel_139 rfl rfl rfl (n' := 140) ?_
        refine sd_iadd C dX11_mixQuarrel_140 rfl (n' := 141) ?_
        obtain ⟨b141, hF⟩ := sd_ok hF
        refine sd_iald C sd_i116 sd_k116 sd_n116 b141 dX11_mixQuarrel_141 rfl (n' := 142) ?_
        obtain ⟨q142, e142, hF⟩ := sd_bind hF
        refine sd_callVV [.int (M.1 116 (((30 : Int32) * x1) + x2).toNatClampNeg)] [] C (ct_X11_mix M (M.1 116 (((30 : Int32) * x1) + x2).toNatClampNeg)  e142) sd_lX11_311 ⟨rfl, rfl, Nat.le_of_ble_eq_true rfl, Nat.le_of_ble_eq_true rfl⟩ sd_i100 (sd_e12 sd_k100) rfl rfl rfl (Nat.le_of_ble_eq_true rfl) dX11_mixQuarrel_142 rfl (n' := 145) ?_
        refine sd_iinc [(2, .int (x2 + (1 : Int32))), (0, .ref (E.2.2 100)), (1, .int x1)] 2 C dX11_mixQuarrel_145 rfl rfl (by decide) rfl rfl (n' := 148) ?_
        refine sd_goto C (tgt := 115) dX11_mixQuarrel_148 rfl ?_
        refine sd_sub [1, 2, 0] rfl ?_
        exact ih q142 x1 (x2 + (1 : Int32)) hF
set_option maxRecDepth 100000 in
set_option maxHeartbeats 4000000 in
theorem tb_X11_mixQuarrel_159 {K : sd_K} {E : sd_Env}   {r : sd_Mem} (C : sd_C K E sd_LM RX11 cX11_mixQuarrel 3 none)  : ∀ (n : Nat), ∀ (M : sd_Mem) (x1 : Int32), fn_X11_mixQuarrel_159 n M x1 = some r → sd_Z K rm_X11_mixQuarrel E sd_LM 3 (sd_QV K E sd_LM r) M 159 [(0, .ref (E.2.2 100)), (1, .int x1)] [] := by
  intro n
  induction n with
  | zero => intro M x1 hF; cases hF
  | succ n ih =>
    intro M x1 hF
    unfold fn_X11_mixQuarrel_159 at hF
    refine sd_iload_n C 1 dX11_mixQuarrel_159 rfl rfl rfl (n' := 160) ?_
    refine sd_bipush C (v := 6) dX11_mixQuarrel_160 rfl rfl (n' := 162) ?_
    refine sd_icmp_ge C (n' := 165) (tgt := 201) dX11_mixQuarrel_162 rfl rfl (fun c162 => ?_) (fun c162 => ?_)
    · replace hF := sd_pos hF c162
      exact sd_vret C dX11_mixQuarrel_201 (Option.some.inj hF)
    · replace hF := sd_neg hF c162
      refine sd_aload_n C 0 dX11_mixQuarrel_165 rfl rfl rfl (n' := 166) ?_
      refine sd_aload_n C 0 dX11_mixQuarrel_166 rfl rfl rfl (n' := 167) ?_
      refine sd_g11_27 C sd_i100 sd_k100 sd_w1068 dX11_mixQuarrel_167 rfl (n' := 170) ?_
      refine sd_iload_n C 1 dX11_mixQuarrel_170 rfl rfl rfl (n' := 171) ?_
      obtain ⟨b171, hF⟩ := sd_ok hF
      refine sd_iald C sd_i119 sd_k119 sd_n119 b171 dX11_mixQuarrel_171 rfl (n' := 172) ?_
      obtain ⟨q172, e172, hF⟩ := sd_bind hF
      refine sd_callVV [.int (M.1 119 x1.toNatClampNeg)] [] C (ct_X11_mix M (M.1 119 x1.toNatClampNeg)  e172) sd_lX11_311 ⟨rfl, rfl, Nat.le_of_ble_eq_true rfl, Nat.le_of_ble_eq_true rfl⟩ sd_i100 (sd_e12 sd_k100) rfl rfl rfl (Nat.le_of_ble_eq_true rfl) dX11_mixQuarrel_172 rfl (n' := 175) ?_
      refine sd_aload_n C 0 dX11_mixQuarrel_175 rfl rfl rfl (n' := 176) ?_
      refine sd_aload_n C 0 dX11_mixQuarrel_176 rfl rfl rfl (n' := 177) ?_
      refine sd_g11_28 C sd_i100 sd_k100 sd_w1069 dX11_mixQuarrel_177 rfl (n' := 180) ?_
      refine sd_iload_n C 1 dX11_mixQuarrel_180 rfl rfl rfl (n' := 181) ?_
      obtain ⟨b181, hF⟩ := sd_ok hF
      refine sd_iald C sd_i120 sd_k120 sd_n120 b181 dX11_mixQuarrel_181 rfl (n' := 182) ?_
      obtain ⟨q182, e182, hF⟩ := sd_bind hF
      refine sd_callVV [.int (q172.1 120 x1.toNatClampNeg)] [] C (ct_X11_mix q172 (q172.1 120 x1.toNatClampNeg)  e182) sd_lX11_311 ⟨rfl, rfl, Nat.le_of_ble_eq_true rfl, Nat.le_of_ble_eq_true rfl⟩ sd_i100 (sd_e12 sd_k100) rfl rfl rfl (Nat.le_of_ble_eq_true rfl) dX11_mixQuarrel_182 rfl (n' := 185) ?_
      refine sd_aload_n C 0 dX11_mixQuarrel_185 rfl rfl rfl (n' := 186) ?_
      refine sd_aload_n C 0 dX11_mixQuarrel_186 rfl rfl rfl (n' := 187) ?_
      refine sd_g11_29 C sd_i100 sd_k100 sd_w1070 dX11_mixQuarrel_187 rfl (n' := 190) ?_
      refine sd_iload_n C 1 dX11_mixQuarrel_190 rfl rfl rfl (n' := 191) ?_
      obtain ⟨b191, hF⟩ := sd_ok hF
      refine sd_iald C sd_i121 sd_k121 sd_n121 b191 dX11_mixQuarrel_191 rfl (n' := 192) ?_
      obtain ⟨q192, e192, hF⟩ := sd_bind hF
      refine sd_callVV [.int (q182.1 121 x1.toNatClampNeg)] [] C (ct_X11_mix q182 (q182.1 121 x1.toNatClampNeg)  e192) sd_lX11_311 ⟨rfl, rfl, Nat.le_of_ble_eq_true rfl, Nat.le_of_ble_eq_true rfl⟩ sd_i100 (sd_e12 sd_k100) rfl rfl rfl (Nat.le_of_ble_eq_true rfl) dX11_mixQuarrel_192 rfl (n' := 195) ?_
      refine sd_iinc [(1, .int (x1 + (1 : Int32))), (0, .ref (E.2.2 100))] 1 C dX11_mixQuarrel_195 rfl rfl (by decide) rfl rfl (n' := 198) ?_
      refine sd_goto C (tgt := 159) dX11_mixQuarrel_198 rfl ?_
      refine sd_sub [1, 0] rfl ?_
      exact ih q192 (x1 + (1 : Int32)) hF
set_option maxRecDepth 100000 in
set_option maxHeartbeats 4000000 in
theorem tb_X11_mixQuarrel_84 {K : sd_K} {E : sd_Env}   {r : sd_Mem} (C : sd_C K E sd_LM RX11 cX11_mixQuarrel 3 none)  : ∀ (n : Nat), ∀ (M : sd_Mem) (x1 : Int32), fn_X11_mixQuarrel_84 n M x1 = some r → sd_Z K rm_X11_mixQuarrel E sd_LM 3 (sd_QV K E sd_LM r) M 84 [(0, .ref (E.2.2 100)), (1, .int x1)] [] := by
  intro n
  induction n with
  | zero => intro M x1 hF; cases hF
  | succ n ih =>
    intro M x1 hF
    unfold fn_X11_mixQuarrel_84 at hF
    refine sd_iload_n C 1 dX11_mixQuarrel_84 rfl rfl rfl (n' := 85) ?_
    refine sd_bipush C (v := 8) dX11_mixQuarrel_85 rfl rfl (n' := 87) ?_
    refine sd_icmp_ge C (n' := 90) (tgt := 157) dX11_mixQuarrel_87 rfl rfl (fun c87 => ?_) (fun c87 => ?_)
    · replace hF := sd_pos hF c87
      refine sd_iconst C (v := 0) dX11_mixQuarrel_157 rfl rfl (n' := 158) ?_
      refine sd_istore_n [(1, .int (0 : Int32)), (0, .ref (E.2.2 100))] C dX11_mixQuarrel_158 rfl (by decide) rfl rfl (n' := 159) ?_
      refine sd_sub [1, 0] rfl ?_
      exact tb_X11_mixQuarrel_159 C sd_FU M (0 : Int32) hF
    · replace hF := sd_neg hF c87
      refine sd_aload_n C 0 dX11_mixQuarrel_90 rfl rfl rfl (n' := 91) ?_
      refine sd_aload_n C 0 dX11_mixQuarrel_91 rfl rfl rfl (n' := 92) ?_
      refine sd_g11_23 C sd_i100 sd_k100 sd_w1064 dX11_mixQuarrel_92 rfl (n' := 95) ?_
      refine sd_iload_n C 1 dX11_mixQuarrel_95 rfl rfl rfl (n' := 96) ?_
      obtain ⟨b96, hF⟩ := sd_ok hF
      refine sd_iald C sd_i115 sd_k115 sd_n115 b96 dX11_mixQuarrel_96 rfl (n' := 97) ?_
      refine sd_if_ge C (n' := 100) (tgt := 104) dX11_mixQuarrel_97 rfl rfl (fun c97 => ?_) (fun c97 => ?_)
      · replace hF := sd_pos hF c97
        refine sd_aload_n C 0 dX11_mixQuarrel_104 rfl rfl rfl (n' := 105) ?_
        refine sd_g11_23 C sd_i100 sd_k100 sd_w1064 dX11_mixQuarrel_105 rfl (n' := 108) ?_
        refine sd_iload_n C 1 dX11_mixQuarrel_108 rfl rfl rfl (n' := 109) ?_
        obtain ⟨b109, hF⟩ := sd_ok hF
        refine sd_iald C sd_i115 sd_k115 sd_n115 b109 dX11_mixQuarrel_109 rfl (n' := 110) ?_
        obtain ⟨q110, e110, hF⟩ := sd_bind hF
        refine sd_callVV [.int (M.1 115 x1.toNatClampNeg)] [] C (ct_X11_mix M (M.1 115 x1.toNatClampNeg)  e110) sd_lX11_311 ⟨rfl, rfl, Nat.le_of_ble_eq_true rfl, Nat.le_of_ble_eq_true rfl⟩ sd_i100 (sd_e12 sd_k100) rfl rfl rfl (Nat.le_of_ble_eq_true rfl) dX11_mixQuarrel_110 rfl (n' := 113) ?_
        refine sd_iconst C (v := 0) dX11_mixQuarrel_113 rfl rfl (n' := 114) ?_
        refine sd_istore_n [(2, .int (0 : Int32)), (0, .ref (E.2.2 100)), (1, .int x1)] C dX11_mixQuarrel_114 rfl (by decide) rfl rfl (n' := 115) ?_
        refine sd_sub [1, 2, 0] rfl ?_
        exact tb_X11_mixQuarrel_115 C ih sd_FU q110 x1 (0 : Int32) hF
      · replace hF := sd_neg hF c97
        refine sd_iconst C (v := -1) dX11_mixQuarrel_100 rfl rfl (n' := 101) ?_
        refine sd_goto C (tgt := 110) dX11_mixQuarrel_101 rfl ?_
        obtain ⟨q110, e110, hF⟩ := sd_bind hF
        refine sd_callVV [.int (-1 : Int32)] [] C (ct_X11_mix M (-1 : Int32)  e110) sd_lX11_311 ⟨rfl, rfl, Nat.le_of_ble_eq_true rfl, Nat.le_of_ble_eq_true rfl⟩ sd_i100 (sd_e12 sd_k100) rfl rfl rfl (Nat.le_of_ble_eq_true rfl) dX11_mixQuarrel_110 rfl (n' := 113) ?_
        refine sd_iconst C (v := 0) dX11_mixQuarrel_113 rfl rfl (n' := 114) ?_
        refine sd_istore_n [(2, .int (0 : Int32)), (0, .ref (E.2.2 100)), (1, .int x1)] C dX11_mixQuarrel_114 rfl (by decide) rfl rfl (n' := 115) ?_
        refine sd_sub [1, 2, 0] rfl ?_
        exact tb_X11_mixQuarrel_115 C ih sd_FU q110 x1 (0 : Int32) hF
set_option maxRecDepth 100000 in
set_option maxHeartbeats 4000000 in
theorem tb_X11_mixQuarrel_25 {K : sd_K} {E : sd_Env}   {r : sd_Mem} (C : sd_C K E sd_LM RX11 cX11_mixQuarrel 3 none)  : ∀ (n : Nat), ∀ (M : sd_Mem) (x1 : Int32), fn_X11_mixQuarrel_25 n M x1 = some r → sd_Z K rm_X11_mixQuarrel E sd_LM 3 (sd_QV K E sd_LM r) M 25 [(0, .ref (E.2.2 100)), (1, .int x1)] [] := by
  intro n
  induction n with
  | zero => intro M x1 hF; cases hF
  | succ n ih =>
    intro M x1 hF
    unfold fn_X11_mixQuarrel_25 at hF
    refine sd_iload_n C 1 dX11_mixQuarrel_25 rfl rfl rfl (n' := 26) ?_
    refine sd_iconst C (v := 2) dX11_mixQuarrel_26 rfl rfl (n' := 27) ?_
    refine sd_icmp_ge C (n' := 30) (tgt := 82) dX11_mixQuarrel_27 rfl rfl (fun c27 => ?_) (fun c27 => ?_)
    · replace hF := sd_pos hF c27
      refine sd_iconst C (v := 0) dX11_mixQuarrel_82 rfl rfl (n' := 83) ?_
      refine sd_istore_n [(1, .int (0 : Int32)), (0, .ref (E.2.2 100))] C dX11_mixQuarrel_83 rfl (by decide) rfl rfl (n' := 84) ?_
      refine sd_sub [1, 0] rfl ?_
      exact tb_X11_mixQuarrel_84 C sd_FU M (0 : Int32) hF
    · replace hF := sd_neg hF c27
      refine sd_iconst C (v := 0) dX11_mixQuarrel_30 rfl rfl (n' := 31) ?_
      refine sd_istore_n [(2, .int (0 : Int32)), (0, .ref (E.2.2 100)), (1, .int x1)] C dX11_mixQuarrel_31 rfl (by decide) rfl rfl (n' := 32) ?_
      refine sd_sub [1, 2, 0] rfl ?_
      exact tb_X11_mixQuarrel_32 C ih sd_FU M x1 (0 : Int32) hF
set_option maxRecDepth 100000 in
set_option maxHeartbeats 4000000 in
theorem tb_X11_mixQuarrel_2 {K : sd_K} {E : sd_Env}   {r : sd_Mem} (C : sd_C K E sd_LM RX11 cX11_mixQuarrel 3 none)  : ∀ (n : Nat), ∀ (M : sd_Mem) (x1 : Int32), fn_X11_mixQuarrel_2 n M x1 = some r → sd_Z K rm_X11_mixQuarrel E sd_LM 3 (sd_QV K E sd_LM r) M 2 [(0, .ref (E.2.2 100)), (1, .int x1)] [] := by
  intro n
  induction n with
  | zero => intro M x1 hF; cases hF
  | succ n ih =>
    intro M x1 hF
    unfold fn_X11_mixQuarrel_2 at hF
    refine sd_iload_n C 1 dX11_mixQuarrel_2 rfl rfl rfl (n' := 3) ?_
    refine sd_bipush C (v := 8) dX11_mixQuarrel_3 rfl rfl (n' := 5) ?_
    refine sd_icmp_gt C (n' := 8) (tgt := 23) dX11_mixQuarrel_5 rfl rfl (fun c5 => ?_) (fun c5 => ?_)
    · replace hF := sd_pos hF c5
      refine sd_iconst C (v := 0) dX11_mixQuarrel_23 rfl rfl (n' := 24) ?_
      refine sd_istore_n [(1, .int (0 : Int32)), (0, .ref (E.2.2 100))] C dX11_mixQuarrel_24 rfl (by decide) rfl rfl (n' := 25) ?_
      refine sd_sub [1, 0] rfl ?_
      exact tb_X11_mixQuarrel_25 C sd_FU M (0 : Int32) hF
    · replace hF := sd_neg hF c5
      refine sd_aload_n C 0 dX11_mixQuarrel_8 rfl rfl rfl (n' := 9) ?_
      refine sd_aload_n C 0 dX11_mixQuarrel_9 rfl rfl rfl (n' := 10) ?_
      refine sd_iload_n C 1 dX11_mixQuarrel_10 rfl rfl rfl (n' := 11) ?_
      obtain ⟨q11, e11, hF⟩ := sd_bind hF
      refine sd_callVI [.int x1] [.ref (E.2.2 100)] C (ct_X11_tells M x1  e11) sd_lX11_150 ⟨rfl, rfl, Nat.le_of_ble_eq_true rfl, Nat.le_of_ble_eq_true rfl⟩ sd_i100 (sd_e12 sd_k100) rfl rfl rfl (Nat.le_of_ble_eq_true rfl) dX11_mixQuarrel_11 rfl (n' := 14) ?_
      obtain ⟨q14, e14, hF⟩ := sd_bind hF
      refine sd_callVV [.int q11] [] C (ct_X11_mix M q11  e14) sd_lX11_311 ⟨rfl, rfl, Nat.le_of_ble_eq_true rfl, Nat.le_of_ble_eq_true rfl⟩ sd_i100 (sd_e12 sd_k100) rfl rfl rfl (Nat.le_of_ble_eq_true rfl) dX11_mixQuarrel_14 rfl (n' := 17) ?_
      refine sd_iinc [(1, .int (x1 + (1 : Int32))), (0, .ref (E.2.2 100))] 1 C dX11_mixQuarrel_17 rfl rfl (by decide) rfl rfl (n' := 20) ?_
      refine sd_goto C (tgt := 2) dX11_mixQuarrel_20 rfl ?_
      refine sd_sub [1, 0] rfl ?_
      exact ih q14 (x1 + (1 : Int32)) hF
set_option maxRecDepth 100000 in
set_option maxHeartbeats 4000000 in
theorem tb_X11_mixQuarrel_0 {K : sd_K} {E : sd_Env}   {r : sd_Mem} (C : sd_C K E sd_LM RX11 cX11_mixQuarrel 3 none)  : ∀ (M : sd_Mem), fn_X11_mixQuarrel_0 M = some r → sd_Z K rm_X11_mixQuarrel E sd_LM 3 (sd_QV K E sd_LM r) M 0 [(0, .ref (E.2.2 100))] [] := by
  intro M hF
  unfold fn_X11_mixQuarrel_0 at hF
  refine sd_iconst C (v := 0) dX11_mixQuarrel_0 rfl rfl (n' := 1) ?_
  refine sd_istore_n [(1, .int (0 : Int32)), (0, .ref (E.2.2 100))] C dX11_mixQuarrel_1 rfl (by decide) rfl rfl (n' := 2) ?_
  refine sd_sub [1, 0] rfl ?_
  exact tb_X11_mixQuarrel_2 C sd_FU M (0 : Int32) hF
theorem ct_X11_mixQuarrel {l : Launch} {E : sd_Env} (M : sd_Mem)   {r : sd_Mem} (hF : fn_X11_mixQuarrel M = some r) : sd_MV l E sd_LM yX11_mixQuarrel cX11_mixQuarrel 3 none rm_X11_mixQuarrel [.ref (E.2.2 100)] M r := sd_ent0 (by decide +kernel) (Nat.le_of_ble_eq_true rfl) (fun p e s m below meth c C => tb_X11_mixQuarrel_0 C M hF)
