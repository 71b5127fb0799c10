theorem dX11_digest_0 : decode cX11_digest 0 = .ok (.aload_n 0, 1) := by decide +kernel
theorem dX11_digest_1 : decode cX11_digest 1 = .ok (.ldc2_w 314, 3) := by decide +kernel
theorem dX11_digest_4 : decode cX11_digest 4 = .ok (.putfield 308, 3) := by decide +kernel
theorem dX11_digest_7 : decode cX11_digest 7 = .ok (.iconst 0, 1) := by decide +kernel
theorem dX11_digest_8 : decode cX11_digest 8 = .ok (.istore_n 1, 1) := by decide +kernel
theorem dX11_digest_9 : decode cX11_digest 9 = .ok (.iload_n 1, 1) := by decide +kernel
theorem dX11_digest_10 : decode cX11_digest 10 = .ok (.iconst 4, 1) := by decide +kernel
theorem dX11_digest_11 : decode cX11_digest 11 = .ok (.if_icmp .gt 18, 3) := by decide +kernel
theorem dX11_digest_14 : decode cX11_digest 14 = .ok (.aload_n 0, 1) := by decide +kernel
theorem dX11_digest_15 : decode cX11_digest 15 = .ok (.aload_n 0, 1) := by decide +kernel
theorem dX11_digest_16 : decode cX11_digest 16 = .ok (.iload_n 1, 1) := by decide +kernel
theorem dX11_digest_17 : decode cX11_digest 17 = .ok (.invokevirtual 303, 3) := by decide +kernel
theorem dX11_digest_20 : decode cX11_digest 20 = .ok (.invokevirtual 311, 3) := by decide +kernel
theorem dX11_digest_23 : decode cX11_digest 23 = .ok (.iinc 1 1, 3) := by decide +kernel
theorem dX11_digest_26 : decode cX11_digest 26 = .ok (.goto (-17), 3) := by decide +kernel
theorem dX11_digest_29 : decode cX11_digest 29 = .ok (.aload_n 0, 1) := by decide +kernel
theorem dX11_digest_30 : decode cX11_digest 30 = .ok (.invokevirtual 316, 3) := by decide +kernel
theorem dX11_digest_33 : decode cX11_digest 33 = .ok (.iconst 0, 1) := by decide +kernel
theorem dX11_digest_34 : decode cX11_digest 34 = .ok (.istore_n 1, 1) := by decide +kernel
theorem dX11_digest_35 : decode cX11_digest 35 = .ok (.iload_n 1, 1) := by decide +kernel
theorem dX11_digest_36 : decode cX11_digest 36 = .ok (.bipush 6, 2) := by decide +kernel
theorem dX11_digest_38 : decode cX11_digest 38 = .ok (.if_icmp .ge 60, 3) := by decide +kernel
theorem dX11_digest_41 : decode cX11_digest 41 = .ok (.aload_n 0, 1) := by decide +kernel
theorem dX11_digest_42 : decode cX11_digest 42 = .ok (.aload_n 0, 1) := by decide +kernel
theorem dX11_digest_43 : decode cX11_digest 43 = .ok (.getfield 17, 3) := by decide +kernel
theorem dX11_digest_46 : decode cX11_digest 46 = .ok (.iload_n 1, 1) := by decide +kernel
theorem dX11_digest_47 : decode cX11_digest 47 = .ok (.iaload, 1) := by decide +kernel
theorem dX11_digest_48 : decode cX11_digest 48 = .ok (.ifCond .ge 7, 3) := by decide +kernel
theorem dX11_digest_51 : decode cX11_digest 51 = .ok (.iconst (-1), 1) := by decide +kernel
theorem dX11_digest_52 : decode cX11_digest 52 = .ok (.goto 9, 3) := by decide +kernel
theorem dX11_digest_55 : decode cX11_digest 55 = .ok (.aload_n 0, 1) := by decide +kernel
theorem dX11_digest_56 : decode cX11_digest 56 = .ok (.getfield 17, 3) := by decide +kernel
theorem dX11_digest_59 : decode cX11_digest 59 = .ok (.iload_n 1, 1) := by decide +kernel
theorem dX11_digest_60 : decode cX11_digest 60 = .ok (.iaload, 1) := by decide +kernel
theorem dX11_digest_61 : decode cX11_digest 61 = .ok (.invokevirtual 311, 3) := by decide +kernel
theorem dX11_digest_64 : decode cX11_digest 64 = .ok (.iconst 0, 1) := by decide +kernel
theorem dX11_digest_65 : decode cX11_digest 65 = .ok (.istore_n 2, 1) := by decide +kernel
theorem dX11_digest_66 : decode cX11_digest 66 = .ok (.iload_n 2, 1) := by decide +kernel
theorem dX11_digest_67 : decode cX11_digest 67 = .ok (.aload_n 0, 1) := by decide +kernel
theorem dX11_digest_68 : decode cX11_digest 68 = .ok (.getfield 17, 3) := by decide +kernel
theorem dX11_digest_71 : decode cX11_digest 71 = .ok (.iload_n 1, 1) := by decide +kernel
theorem dX11_digest_72 : decode cX11_digest 72 = .ok (.iaload, 1) := by decide +kernel
theorem dX11_digest_73 : decode cX11_digest 73 = .ok (.if_icmp .ge 19, 3) := by decide +kernel
theorem dX11_digest_76 : decode cX11_digest 76 = .ok (.aload_n 0, 1) := by decide +kernel
theorem dX11_digest_77 : decode cX11_digest 77 = .ok (.aload_n 0, 1) := by decide +kernel
theorem dX11_digest_78 : decode cX11_digest 78 = .ok (.iload_n 1, 1) := by decide +kernel
theorem dX11_digest_79 : decode cX11_digest 79 = .ok (.iload_n 2, 1) := by decide +kernel
theorem dX11_digest_80 : decode cX11_digest 80 = .ok (.invokevirtual 115, 3) := by decide +kernel
theorem dX11_digest_83 : decode cX11_digest 83 = .ok (.invokevirtual 311, 3) := by decide +kernel
theorem dX11_digest_86 : decode cX11_digest 86 = .ok (.iinc 2 1, 3) := by decide +kernel
theorem dX11_digest_89 : decode cX11_digest 89 = .ok (.goto (-23), 3) := by decide +kernel
theorem dX11_digest_92 : decode cX11_digest 92 = .ok (.iinc 1 1, 3) := by decide +kernel
theorem dX11_digest_95 : decode cX11_digest 95 = .ok (.goto (-60), 3) := by decide +kernel
theorem dX11_digest_98 : decode cX11_digest 98 = .ok (.iconst 0, 1) := by decide +kernel
theorem dX11_digest_99 : decode cX11_digest 99 = .ok (.istore_n 1, 1) := by decide +kernel
theorem dX11_digest_100 : decode cX11_digest 100 = .ok (.iload_n 1, 1) := by decide +kernel
theorem dX11_digest_101 : decode cX11_digest 101 = .ok (.iconst 4, 1) := by decide +kernel
theorem dX11_digest_102 : decode cX11_digest 102 = .ok (.if_icmp .ge 65, 3) := by decide +kernel
theorem dX11_digest_105 : decode cX11_digest 105 = .ok (.aload_n 0, 1) := by decide +kernel
theorem dX11_digest_106 : decode cX11_digest 106 = .ok (.aload_n 0, 1) := by decide +kernel
theorem dX11_digest_107 : decode cX11_digest 107 = .ok (.getfield 26, 3) := by decide +kernel
theorem dX11_digest_110 : decode cX11_digest 110 = .ok (.iload_n 1, 1) := by decide +kernel
theorem dX11_digest_111 : decode cX11_digest 111 = .ok (.iaload, 1) := by decide +kernel
theorem dX11_digest_112 : decode cX11_digest 112 = .ok (.ifCond .ge 7, 3) := by decide +kernel
theorem dX11_digest_115 : decode cX11_digest 115 = .ok (.iconst (-1), 1) := by decide +kernel
theorem dX11_digest_116 : decode cX11_digest 116 = .ok (.goto 9, 3) := by decide +kernel
theorem dX11_digest_119 : decode cX11_digest 119 = .ok (.aload_n 0, 1) := by decide +kernel
theorem dX11_digest_120 : decode cX11_digest 120 = .ok (.getfield 26, 3) := by decide +kernel
theorem dX11_digest_123 : decode cX11_digest 123 = .ok (.iload_n 1, 1) := by decide +kernel
theorem dX11_digest_124 : decode cX11_digest 124 = .ok (.iaload, 1) := by decide +kernel
theorem dX11_digest_125 : decode cX11_digest 125 = .ok (.invokevirtual 311, 3) := by decide +kernel
theorem dX11_digest_128 : decode cX11_digest 128 = .ok (.iconst 0, 1) := by decide +kernel
theorem dX11_digest_129 : decode cX11_digest 129 = .ok (.istore_n 2, 1) := by decide +kernel
theorem dX11_digest_130 : decode cX11_digest 130 = .ok (.iload_n 2, 1) := by decide +kernel
theorem dX11_digest_131 : decode cX11_digest 131 = .ok (.aload_n 0, 1) := by decide +kernel
theorem dX11_digest_132 : decode cX11_digest 132 = .ok (.getfield 26, 3) := by decide +kernel
theorem dX11_digest_135 : decode cX11_digest 135 = .ok (.iload_n 1, 1) := by decide +kernel
theorem dX11_digest_136 : decode cX11_digest 136 = .ok (.iaload, 1) := by decide +kernel
theorem dX11_digest_137 : decode cX11_digest 137 = .ok (.if_icmp .ge 24, 3) := by decide +kernel
theorem dX11_digest_140 : decode cX11_digest 140 = .ok (.aload_n 0, 1) := by decide +kernel
theorem dX11_digest_141 : decode cX11_digest 141 = .ok (.aload_n 0, 1) := by decide +kernel
theorem dX11_digest_142 : decode cX11_digest 142 = .ok (.getfield 29, 3) := by decide +kernel
theorem dX11_digest_145 : decode cX11_digest 145 = .ok (.bipush 60, 2) := by decide +kernel
theorem dX11_digest_147 : decode cX11_digest 147 = .ok (.iload_n 1, 1) := by decide +kernel
theorem dX11_digest_148 : decode cX11_digest 148 = .ok (.imul, 1) := by decide +kernel
theorem dX11_digest_149 : decode cX11_digest 149 = .ok (.iload_n 2, 1) := by decide +kernel
theorem dX11_digest_150 : decode cX11_digest 150 = .ok (.iadd, 1) := by decide +kernel
theorem dX11_digest_151 : decode cX11_digest 151 = .ok (.iaload, 1) := by decide +kernel
theorem dX11_digest_152 : decode cX11_digest 152 = .ok (.invokevirtual 311, 3) := by decide +kernel
theorem dX11_digest_155 : decode cX11_digest 155 = .ok (.iinc 2 1, 3) := by decide +kernel
theorem dX11_digest_158 : decode cX11_digest 158 = .ok (.goto (-28), 3) := by decide +kernel
theorem dX11_digest_161 : decode cX11_digest 161 = .ok (.iinc 1 1, 3) := by decide +kernel
theorem dX11_digest_164 : decode cX11_digest 164 = .ok (.goto (-64), 3) := by decide +kernel
theorem dX11_digest_167 : decode cX11_digest 167 = .ok (.aload_n 0, 1) := by decide +kernel
theorem dX11_digest_168 : decode cX11_digest 168 = .ok (.getfield 308, 3) := by decide +kernel
theorem dX11_digest_171 : decode cX11_digest 171 = .ok (.lreturn, 1) := by decide +kernel
set_option maxRecDepth 100000 in
set_option maxHeartbeats 4000000 in
theorem tb_X11_digest_66 {K : sd_K} {E : sd_Env}   {r : (Int64 × sd_Mem)} (C : sd_C K E sd_LM RX11 cX11_digest 3 (some .long))  {k35 : sd_Mem → Int32 → Option (Int64 × sd_Mem)} (hk35 : ∀ (M : sd_Mem) (x1 : Int32), k35 M x1 = some r → sd_Z K rm_X11_digest E sd_LM 3 (sd_QL K E sd_LM r.1 r.2) M 35 [(0, .ref (E.2.2 100)), (1, .int x1)] []) : ∀ (n : Nat), ∀ (M : sd_Mem) (x1 : Int32) (x2 : Int32), fn_X11_digest_66 k35 n M x1 x2 = some r → sd_Z K rm_X11_digest E sd_LM 3 (sd_QL K E sd_LM r.1 r.2) M 66 [(0, .ref (E.2.2 100)), (1, .int x1), (2, .int x2)] [] := by
  intro n
  induction n with
  | zero => intro M x1 x2 hF; cases hF
  | succ n ih =>
    intro M x1 x2 hF
    unfold fn_X11_digest_66 at hF
    refine sd_iload_n C 2 dX11_digest_66 rfl rfl rfl (n' := 67) ?_
    refine sd_aload_n C 0 dX11_digest_67 rfl rfl rfl (n' := 68) ?_
    refine sd_g11_5 C sd_i100 sd_k100 sd_w1046 dX11_digest_68 rfl (n' := 71) ?_
    refine sd_iload_n C 1 dX11_digest_71 rfl rfl rfl (n' := 72) ?_
    obtain ⟨b72, hF⟩ := sd_ok hF
    refine sd_iald C sd_i102 sd_k102 sd_n102 b72 dX11_digest_72 rfl (n' := 73) ?_
    refine sd_icmp_ge C (n' := 76) (tgt := 92) dX11_digest_73 rfl rfl (fun c73 => ?_) (fun c73 => ?_)
    · replace hF := sd_pos hF c73
      refine sd_iinc [(1, .int (x1 + (1 : Int32))), (0, .ref (E.2.2 100)), (2, .int x2)] 1 C dX11_digest_92 rfl rfl (by decide) rfl rfl (n' := 95) ?_
      refine sd_goto C (tgt := 35) dX11_digest_95 rfl ?_
      refine sd_sub [1, 0] rfl ?_
      exact hk35 M (x1 + (1 : Int32)) hF
    · replace hF := sd_neg hF c73
      refine sd_aload_n C 0 dX11_digest_76 rfl rfl rfl (n' := 77) ?_
      refine sd_aload_n C 0 dX11_digest_77 rfl rfl rfl (n' := 78) ?_
      refine sd_iload_n C 1 dX11_digest_78 rfl rfl rfl (n' := 79) ?_
      refine sd_iload_n C 2 dX11_digest_79 rfl rfl rfl (n' := 80) ?_
      obtain ⟨q80, e80, hF⟩ := sd_bind hF
      refine sd_callVI [.int x1, .int x2] [.ref (E.2.2 100)] C (ct_X11_rowAt M x1 x2  e80) sd_lX11_115 ⟨rfl, rfl, Nat.le_of_ble_eq_true rfl, Nat.le_of_ble_eq_true rfl⟩ sd_i100 (sd_e12 sd_k100) rfl rfl rfl (Nat.le_of_ble_eq_true rfl) dX11_digest_80 rfl (n' := 83) ?_
      obtain ⟨q83, e83, hF⟩ := sd_bind hF
      refine sd_callVV [.int q80] [] C (ct_X11_mix M q80  e83) sd_lX11_311 ⟨rfl, rfl, Nat.le_of_ble_eq_true rfl, Nat.le_of_ble_eq_true rfl⟩ sd_i100 (sd_e12 sd_k100) rfl rfl rfl (Nat.le_of_ble_eq_true rfl) dX11_digest_83 rfl (n' := 86) ?_
      refine sd_iinc [(2, .int (x2 + (1 : Int32))), (0, .ref (E.2.2 100)), (1, .int x1)] 2 C dX11_digest_86 rfl rfl (by decide) rfl rfl (n' := 89) ?_
      refine sd_goto C (tgt := 66) dX11_digest_89 rfl ?_
      refine sd_sub [1, 2, 0] rfl ?_
      exact ih q83 x1 (x2 + (1 : Int32)) hF
set_option maxRecDepth 100000 in
set_option maxHeartbeats 4000000 in
theorem tb_X11_digest_130 {K : sd_K} {E : sd_Env}   {r : (Int64 × sd_Mem)} (C : sd_C K E sd_LM RX11 cX11_digest 3 (some .long))  {k100 : sd_Mem → Int32 → Option (Int64 × sd_Mem)} (hk100 : ∀ (M : sd_Mem) (x1 : Int32), k100 M x1 = some r → sd_Z K rm_X11_digest E sd_LM 3 (sd_QL K E sd_LM r.1 r.2) M 100 [(0, .ref (E.2.2 100)), (1, .int x1)] []) : ∀ (n : Nat), ∀ (M : sd_Mem) (x1 : Int32) (x2 : Int32), fn_X11_digest_130 k100 n M x1 x2 = some r → sd_Z K rm_X11_digest E sd_LM 3 (sd_QL K E sd_LM r.1 r.2) M 130 [(0, .ref (E.2.2 100)), (1, .int x1), (2, .int x2)] [] := by
  intro n
  induction n with
  | zero => intro M x1 x2 hF; cases hF
  | succ n ih =>
    intro M x1 x2 hF
    unfold fn_X11_digest_130 at hF
    refine sd_iload_n C 2 dX11_digest_130 rfl rfl rfl (n' := 131) ?_
    refine sd_aload_n C 0 dX11_digest_131 rfl rfl rfl (n' := 132) ?_
    refine sd_g11_8 C sd_i100 sd_k100 sd_w1049 dX11_digest_132 rfl (n' := 135) ?_
    refine sd_iload_n C 1 dX11_digest_135 rfl rfl rfl (n' := 136) ?_
    obtain ⟨b136, hF⟩ := sd_ok hF
    refine sd_iald C sd_i105 sd_k105 sd_n105 b136 dX11_digest_136 rfl (n' := 137) ?_
    refine sd_icmp_ge C (n' := 140) (tgt := 161) dX11_digest_137 rfl rfl (fun c137 => ?_) (fun c137 => ?_)
    · replace hF := sd_pos hF c137
      refine sd_iinc [(1, .int (x1 + (1 : Int32))), (0, .ref (E.2.2 100)), (2, .int x2)] 1 C dX11_digest_161 rfl rfl (by decide) rfl rfl (n' := 164) ?_
      refine sd_goto C (tgt := 100) dX11_digest_164 rfl ?_
      refine sd_sub [1, 0] rfl ?_
      exact hk100 M (x1 + (1 : Int32)) hF
    · replace hF := sd_neg hF c137
      refine sd_aload_n C 0 dX11_digest_140 rfl rfl rfl (n' := 141) ?_
      refine sd_aload_n C 0 dX11_digest_141 rfl rfl rfl (n' := 142) ?_
      refine sd_g11_9 C sd_i100 sd_k100 sd_w1050 dX11_digest_142 rfl (n' := 145) ?_
      refine sd_bipush C (v := 60) dX11_digest_145 rfl rfl (n' := 147) ?_
      refine sd_iload_n C 1 dX11_digest_147 rfl rfl rfl (n' := 148) ?_
      refine sd_imul C dX11_digest_148 rfl (n' := 149) ?_
      refine sd_iload_n C 2 dX11_digest_149 rfl rfl rfl (n' := 150) ?_
      refine sd_iadd C dX11_digest_150 rfl (n' := 151) ?_
      obtain ⟨b151, hF⟩ := sd_ok hF
      refine sd_iald C sd_i106 sd_k106 sd_n106 b151 dX11_digest_151 rfl (n' := 152) ?_
      obtain ⟨q152, e152, hF⟩ := sd_bind hF
      refine sd_callVV [.int (M.1 106 (((60 : Int32) * x1) + x2).toNatClampNeg)] [] C (ct_X11_mix M (M.1 106 (((60 : Int32) * x1) + x2).toNatClampNeg)  e152) sd_lX11_311 ⟨rfl, rfl, Nat.le_of_ble_eq_true rfl, Nat.le_of_ble_eq_true rfl⟩ sd_i100 (sd_e12 sd_k100) rfl rfl rfl (Nat.le_of_ble_eq_true rfl) dX11_digest_152 rfl (n' := 155) ?_
      refine sd_iinc [(2, .int (x2 + (1 : Int32))), (0, .ref (E.2.2 100)), (1, .int x1)] 2 C dX11_digest_155 rfl rfl (by decide) rfl rfl (n' := 158) ?_
      refine sd_goto C (tgt := 130) dX11_digest_158 rfl ?_
      refine sd_sub [1, 2, 0] rfl ?_
      exact ih q152 x1 (x2 + (1 : Int32)) hF
set_option maxRecDepth 100000 in
set_option maxHeartbeats 4000000 in
theorem tb_X11_digest_100 {K : sd_K} {E : sd_Env}   {r : (Int64 × sd_Mem)} (C : sd_C K E sd_LM RX11 cX11_digest 3 (some .long))  : ∀ (n : Nat), ∀ (M : sd_Mem) (x1 : Int32), fn_X11_digest_100 n M x1 = some r → sd_Z K rm_X11_digest E sd_LM 3 (sd_QL K E sd_LM r.1 r.2) M 100 [(0, .ref (E.2.2 100)), (1, .int x1)] [] := by
  intro n
  induction n with
  | zero => intro M x1 hF; cases hF
  | succ n ih =>
    intro M x1 hF
    unfold fn_X11_digest_100 at hF
    refine sd_iload_n C 1 dX11_digest_100 rfl rfl rfl (n' := 101) ?_
    refine sd_iconst C (v := 4) dX11_digest_101 rfl rfl (n' := 102) ?_
    refine sd_icmp_ge C (n' := 105) (tgt := 167) dX11_digest_102 rfl rfl (fun c102 => ?_) (fun c102 => ?_)
    · replace hF := sd_pos hF c102
      refine sd_aload_n C 0 dX11_digest_167 rfl rfl rfl (n' := 168) ?_
      refine sd_g11_35 C sd_i100 sd_k100 sd_w1076 dX11_digest_168 rfl (n' := 171) ?_
      exact sd_lret C dX11_digest_171 (sd_fst hF) (sd_snd hF)
    · replace hF := sd_neg hF c102
      refine sd_aload_n C 0 dX11_digest_105 rfl rfl rfl (n' := 106) ?_
      refine sd_aload_n C 0 dX11_digest_106 rfl rfl rfl (n' := 107) ?_
      refine sd_g11_8 C sd_i100 sd_k100 sd_w1049 dX11_digest_107 rfl (n' := 110) ?_
      refine sd_iload_n C 1 dX11_digest_110 rfl rfl rfl (n' := 111) ?_
      obtain ⟨b111, hF⟩ := sd_ok hF
      refine sd_iald C sd_i105 sd_k105 sd_n105 b111 dX11_digest_111 rfl (n' := 112) ?_
      refine sd_if_ge C (n' := 115) (tgt := 119) dX11_digest_112 rfl rfl (fun c112 => ?_) (fun c112 => ?_)
      · replace hF := sd_pos hF c112
        refine sd_aload_n C 0 dX11_digest_119 rfl rfl rfl (n' := 120) ?_
        refine sd_g11_8 C sd_i100 sd_k100 sd_w1049 dX11_digest_120 rfl (n' := 123) ?_
        refine sd_iload_n C 1 dX11_digest_123 rfl rfl rfl (n' := 124) ?_
        obtain ⟨b124, hF⟩ := sd_ok hF
        refine sd_iald C sd_i105 sd_k105 sd_n105 b124 dX11_digest_124 rfl (n' := 125) ?_
        obtain ⟨q125, e125, hF⟩ := sd_bind hF
        refine sd_callVV [.int (M.1 105 x1.toNatClampNeg)] [] C (ct_X11_mix M (M.1 105 x1.toNatClampNeg)  e125) sd_lX11_311 ⟨rfl, rfl, Nat.le_of_ble_eq_true rfl, Nat.le_of_ble_eq_true rfl⟩ sd_i100 (sd_e12 sd_k100) rfl rfl rfl (Nat.le_of_ble_eq_true rfl) dX11_digest_125 rfl (n' := 128) ?_
        refine sd_iconst C (v := 0) dX11_digest_128 rfl rfl (n' := 129) ?_
        refine sd_istore_n [(2, .int (0 : Int32)), (0, .ref (E.2.2 100)), (1, .int x1)] C dX11_digest_129 rfl (by decide) rfl rfl (n' := 130) ?_
        refine sd_sub [1, 2, 0] rfl ?_
        exact tb_X11_digest_130 C ih sd_FU q125 x1 (0 : Int32) hF
      · replace hF := sd_neg hF c112
        refine sd_iconst C (v := -1) dX11_digest_115 rfl rfl (n' := 116) ?_
        refine sd_goto C (tgt := 125) dX11_digest_116 rfl ?_
        obtain ⟨q125, e125, hF⟩ := sd_bind hF
        refine sd_callVV [.int (-1 : Int32)] [] C (ct_X11_mix M (-1 : Int32)  e125) sd_lX11_311 ⟨rfl, rfl, Nat.le_of_ble_eq_true rfl, Nat.le_of_ble_eq_true rfl⟩ sd_i100 (sd_e12 sd_k100) rfl rfl rfl (Nat.le_of_ble_eq_true rfl) dX11_digest_125 rfl (n' := 128) ?_
        refine sd_iconst C (v := 0) dX11_digest_128 rfl rfl (n' := 129) ?_
        refine sd_istore_n [(2, .int (0 : Int32)), (0, .ref (E.2.2 100)), (1, .int x1)] C dX11_digest_129 rfl (by decide) rfl rfl (n' := 130) ?_
        refine sd_sub [1, 2, 0] rfl ?_
        exact tb_X11_digest_130 C ih sd_FU q125 x1 (0 : Int32) hF
set_option maxRecDepth 100000 in
set_option maxHeartbeats 4000000 in
theorem tb_X11_digest_35 {K : sd_K} {E : sd_Env}   {r : (Int64 × sd_Mem)} (C : sd_C K E sd_LM RX11 cX11_digest 3 (some .long))  : ∀ (n : Nat), ∀ (M : sd_Mem) (x1 : Int32), fn_X11_digest_35 n M x1 = some r → sd_Z K rm_X11_digest E sd_LM 3 (sd_QL K E sd_LM r.1 r.2) M 35 [(0, .ref (E.2.2 100)), (1, .int x1)] [] := by
  intro n
  induction n with
  | zero => intro M x1 hF; cases hF
  | succ n ih =>
    intro M x1 hF
    unfold fn_X11_digest_35 at hF
    refine sd_iload_n C 1 dX11_digest_35 rfl rfl rfl (n' := 36) ?_
    refine sd_bipush C (v := 6) dX11_digest_36 rfl rfl (n' := 38) ?_
    refine sd_icmp_ge C (n' := 41) (tgt := 98) dX11_digest_38 rfl rfl (fun c38 => ?_) (fun c38 => ?_)
    · replace hF := sd_pos hF c38
      refine sd_iconst C (v := 0) dX11_digest_98 rfl rfl (n' := 99) ?_
      refine sd_istore_n [(1, .int (0 : Int32)), (0, .ref (E.2.2 100))] C dX11_digest_99 rfl (by decide) rfl rfl (n' := 100) ?_
      refine sd_sub [1, 0] rfl ?_
      exact tb_X11_digest_100 C sd_FU M (0 : Int32) hF
    · replace hF := sd_neg hF c38
      refine sd_aload_n C 0 dX11_digest_41 rfl rfl rfl (n' := 42) ?_
      refine sd_aload_n C 0 dX11_digest_42 rfl rfl rfl (n' := 43) ?_
      refine sd_g11_5 C sd_i100 sd_k100 sd_w1046 dX11_digest_43 rfl (n' := 46) ?_
      refine sd_iload_n C 1 dX11_digest_46 rfl rfl rfl (n' := 47) ?_
      obtain ⟨b47, hF⟩ := sd_ok hF
      refine sd_iald C sd_i102 sd_k102 sd_n102 b47 dX11_digest_47 rfl (n' := 48) ?_
      refine sd_if_ge C (n' := 51) (tgt := 55) dX11_digest_48 rfl rfl (fun c48 => ?_) (fun c48 => ?_)
      · replace hF := sd_pos hF c48
        refine sd_aload_n C 0 dX11_digest_55 rfl rfl rfl (n' := 56) ?_
        refine sd_g11_5 C sd_i100 sd_k100 sd_w1046 dX11_digest_56 rfl (n' := 59) ?_
        refine sd_iload_n C 1 dX11_digest_59 rfl rfl rfl (n' := 60) ?_
        obtain ⟨b60, hF⟩ := sd_ok hF
        refine sd_iald C sd_i102 sd_k102 sd_n102 b60 dX11_digest_60 rfl (n' := 61) ?_
        obtain ⟨q61, e61, hF⟩ := sd_bind hF
        refine sd_callVV [.int (M.1 102 x1.toNatClampNeg)] [] C (ct_X11_mix M (M.1 102 x1.toNatClampNeg)  e61) sd_lX11_311 ⟨rfl, rfl, Nat.le_of_ble_eq_true rfl, Nat.le_of_ble_eq_true rfl⟩ sd_i100 (sd_e12 sd_k100) rfl rfl rfl (Nat.le_of_ble_eq_true rfl) dX11_digest_61 rfl (n' := 64) ?_
        refine sd_iconst C (v := 0) dX11_digest_64 rfl rfl (n' := 65) ?_
        refine sd_istore_n [(2, .int (0 : Int32)), (0, .ref (E.2.2 100)), (1, .int x1)] C dX11_digest_65 rfl (by decide) rfl rfl (n' := 66) ?_
        refine sd_sub [1, 2, 0] rfl ?_
        exact tb_X11_digest_66 C ih sd_FU q61 x1 (0 : Int32) hF
      · replace hF := sd_neg hF c48
        refine sd_iconst C (v := -1) dX11_digest_51 rfl rfl (n' := 52) ?_
        refine sd_goto C (tgt := 61) dX11_digest_52 rfl ?_
        obtain ⟨q61, e61, hF⟩ := sd_bind hF
        refine sd_callVV [.int (-1 : Int32)] [] C (ct_X11_mix M (-1 : Int32)  e61) sd_lX11_311 ⟨rfl, rfl, Nat.le_of_ble_eq_true rfl, Nat.le_of_ble_eq_true rfl⟩ sd_i100 (sd_e12 sd_k100) rfl rfl rfl (Nat.le_of_ble_eq_true rfl) dX11_digest_61 rfl (n' := 64) ?_
        refine sd_iconst C (v := 0) dX11_digest_64 rfl rfl (n' := 65) ?_
        refine sd_istore_n [(2, .int (0 : Int32)), (0, .ref (E.2.2 100)), (1, .int x1)] C dX11_digest_65 rfl (by decide) rfl rfl (n' := 66) ?_
        refine sd_sub [1, 2, 0] rfl ?_
        exact tb_X11_digest_66 C ih sd_FU q61 x1 (0 : Int32) hF
set_option maxRecDepth 100000 in
set_option maxHeartbeats 4000000 in
theorem tb_X11_digest_9 {K : sd_K} {E : sd_Env}   {r : (Int64 × sd_Mem)} (C : sd_C K E sd_LM RX11 cX11_digest 3 (some .long))  : ∀ (n : Nat), ∀ (M : sd_Mem) (x1 : Int32), fn_X11_digest_9 n M x1 = some r → sd_Z K rm_X11_digest E sd_LM 3 (sd_QL K E sd_LM r.1 r.2) M 9 [(0, .ref (E.2.2 100)), (1, .int x1)] [] := by
  intro n
  induction n with
  | zero => intro M x1 hF; cases hF
  | succ n ih =>
    intro M x1 hF
    unfold fn_X11_digest_9 at hF
    refine sd_iload_n C 1 dX11_digest_9 rfl rfl rfl (n' := 10) ?_
    refine sd_iconst C (v := 4) dX11_digest_10 rfl rfl (n' := 11) ?_
    refine sd_icmp_gt C (n' := 14) (tgt := 29) dX11_digest_11 rfl rfl (fun c11 => ?_) (fun c11 => ?_)
    · replace hF := sd_pos hF c11
      refine sd_aload_n C 0 dX11_digest_29 rfl rfl rfl (n' := 30) ?_
      obtain ⟨q30, e30, hF⟩ := sd_bind hF
      refine sd_callVV [] [] C (ct_X11_mixQuarrel M   e30) sd_lX11_316 ⟨rfl, rfl, Nat.le_of_ble_eq_true rfl, Nat.le_of_ble_eq_true rfl⟩ sd_i100 (sd_e12 sd_k100) rfl rfl rfl (Nat.le_of_ble_eq_true rfl) dX11_digest_30 rfl (n' := 33) ?_
      refine sd_iconst C (v := 0) dX11_digest_33 rfl rfl (n' := 34) ?_
      refine sd_istore_n [(1, .int (0 : Int32)), (0, .ref (E.2.2 100))] C dX11_digest_34 rfl (by decide) rfl rfl (n' := 35) ?_
      refine sd_sub [1, 0] rfl ?_
      exact tb_X11_digest_35 C sd_FU q30 (0 : Int32) hF
    · replace hF := sd_neg hF c11
      refine sd_aload_n C 0 dX11_digest_14 rfl rfl rfl (n' := 15) ?_
      refine sd_aload_n C 0 dX11_digest_15 rfl rfl rfl (n' := 16) ?_
      refine sd_iload_n C 1 dX11_digest_16 rfl rfl rfl (n' := 17) ?_
      obtain ⟨q17, e17, hF⟩ := sd_bind hF
      refine sd_callVI [.int x1] [.ref (E.2.2 100)] C (ct_X11_counts M x1  e17) sd_lX11_303 ⟨rfl, rfl, Nat.le_of_ble_eq_true rfl, Nat.le_of_ble_eq_true rfl⟩ sd_i100 (sd_e12 sd_k100) rfl rfl rfl (Nat.le_of_ble_eq_true rfl) dX11_digest_17 rfl (n' := 20) ?_
      obtain ⟨q20, e20, hF⟩ := sd_bind hF
      refine sd_callVV [.int q17] [] C (ct_X11_mix M q17  e20) sd_lX11_311 ⟨rfl, rfl, Nat.le_of_ble_eq_true rfl, Nat.le_of_ble_eq_true rfl⟩ sd_i100 (sd_e12 sd_k100) rfl rfl rfl (Nat.le_of_ble_eq_true rfl) dX11_digest_20 rfl (n' := 23) ?_
      refine sd_iinc [(1, .int (x1 + (1 : Int32))), (0, .ref (E.2.2 100))] 1 C dX11_digest_23 rfl rfl (by decide) rfl rfl (n' := 26) ?_
      refine sd_goto C (tgt := 9) dX11_digest_26 rfl ?_
      refine sd_sub [1, 0] rfl ?_
      exact ih q20 (x1 + (1 : Int32)) hF
set_option maxRecDepth 100000 in
set_option maxHeartbeats 4000000 in
theorem tb_X11_digest_0 {K : sd_K} {E : sd_Env}   {r : (Int64 × sd_Mem)} (C : sd_C K E sd_LM RX11 cX11_digest 3 (some .long))  : ∀ (M : sd_Mem), fn_X11_digest_0 M = some r → sd_Z K rm_X11_digest E sd_LM 3 (sd_QL K E sd_LM r.1 r.2) M 0 [(0, .ref (E.2.2 100))] [] := by
  intro M hF
  unfold fn_X11_digest_0 at hF
  refine sd_aload_n C 0 dX11_digest_0 rfl rfl rfl (n' := 1) ?_
  refine sd_ldc2 C (v := 17) sd_w1544 dX11_digest_1 rfl (n' := 4) ?_
  refine sd_p11_35 C sd_i100 sd_k100 sd_w1076 dX11_digest_4 rfl (n' := 7) ?_
  refine sd_iconst C (v := 0) dX11_digest_7 rfl rfl (n' := 8) ?_
  refine sd_istore_n [(1, .int (0 : Int32)), (0, .ref (E.2.2 100))] C dX11_digest_8 rfl (by decide) rfl rfl (n' := 9) ?_
  refine sd_sub [1, 0] rfl ?_
  exact tb_X11_digest_9 C sd_FU (sd_setL M 100 35 (17 : Int64)) (0 : Int32) hF
theorem ct_X11_digest {l : Launch} {E : sd_Env} (M : sd_Mem)   {r : (Int64 × sd_Mem)} (hF : fn_X11_digest M = some r) : sd_ML l E sd_LM yX11_digest cX11_digest 3 (some .long) rm_X11_digest [.ref (E.2.2 100)] M r.1 r.2 := sd_ent0 (by decide +kernel) (Nat.le_of_ble_eq_true rfl) (fun p e s m below meth c C => tb_X11_digest_0 C M hF)
