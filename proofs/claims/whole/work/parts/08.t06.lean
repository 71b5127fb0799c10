theorem dX8_turningKind_0 : decode cX8_turningKind 0 = .ok (.aload_n 0, 1) := by decide +kernel
theorem dX8_turningKind_1 : decode cX8_turningKind 1 = .ok (.iload_n 1, 1) := by decide +kernel
theorem dX8_turningKind_2 : decode cX8_turningKind 2 = .ok (.iconst 0, 1) := by decide +kernel
theorem dX8_turningKind_3 : decode cX8_turningKind 3 = .ok (.iconst 0, 1) := by decide +kernel
theorem dX8_turningKind_4 : decode cX8_turningKind 4 = .ok (.bipush (-9), 2) := by decide +kernel
theorem dX8_turningKind_6 : decode cX8_turningKind 6 = .ok (.invokevirtual 53, 3) := by decide +kernel
theorem dX8_turningKind_9 : decode cX8_turningKind 9 = .ok (.bipush (-9), 2) := by decide +kernel
theorem dX8_turningKind_11 : decode cX8_turningKind 11 = .ok (.if_icmp .eq 6, 3) := by decide +kernel
theorem dX8_turningKind_14 : decode cX8_turningKind 14 = .ok (.bipush (-9), 2) := by decide +kernel
theorem dX8_turningKind_16 : decode cX8_turningKind 16 = .ok (.ireturn, 1) := by decide +kernel
theorem dX8_turningKind_17 : decode cX8_turningKind 17 = .ok (.bipush (-9), 2) := by decide +kernel
theorem dX8_turningKind_19 : decode cX8_turningKind 19 = .ok (.istore_n 2, 1) := by decide +kernel
theorem dX8_turningKind_20 : decode cX8_turningKind 20 = .ok (.bipush 100, 2) := by decide +kernel
theorem dX8_turningKind_22 : decode cX8_turningKind 22 = .ok (.istore_n 3, 1) := by decide +kernel
theorem dX8_turningKind_23 : decode cX8_turningKind 23 = .ok (.iconst 0, 1) := by decide +kernel
theorem dX8_turningKind_24 : decode cX8_turningKind 24 = .ok (.istore 4, 2) := by decide +kernel
theorem dX8_turningKind_26 : decode cX8_turningKind 26 = .ok (.iload 4, 2) := by decide +kernel
theorem dX8_turningKind_28 : decode cX8_turningKind 28 = .ok (.bipush 6, 2) := by decide +kernel
theorem dX8_turningKind_30 : decode cX8_turningKind 30 = .ok (.if_icmp .ge 55, 3) := by decide +kernel
theorem dX8_turningKind_33 : decode cX8_turningKind 33 = .ok (.aload_n 0, 1) := by decide +kernel
theorem dX8_turningKind_34 : decode cX8_turningKind 34 = .ok (.getfield 9, 3) := by decide +kernel
theorem dX8_turningKind_37 : decode cX8_turningKind 37 = .ok (.iload 4, 2) := by decide +kernel
theorem dX8_turningKind_39 : decode cX8_turningKind 39 = .ok (.iaload, 1) := by decide +kernel
theorem dX8_turningKind_40 : decode cX8_turningKind 40 = .ok (.ifCond .le 39, 3) := by decide +kernel
theorem dX8_turningKind_43 : decode cX8_turningKind 43 = .ok (.aload_n 0, 1) := by decide +kernel
theorem dX8_turningKind_44 : decode cX8_turningKind 44 = .ok (.getfield 9, 3) := by decide +kernel
theorem dX8_turningKind_47 : decode cX8_turningKind 47 = .ok (.iload 4, 2) := by decide +kernel
theorem dX8_turningKind_49 : decode cX8_turningKind 49 = .ok (.iaload, 1) := by decide +kernel
theorem dX8_turningKind_50 : decode cX8_turningKind 50 = .ok (.iload_n 3, 1) := by decide +kernel
theorem dX8_turningKind_51 : decode cX8_turningKind 51 = .ok (.if_icmp .ge 28, 3) := by decide +kernel
theorem dX8_turningKind_54 : decode cX8_turningKind 54 = .ok (.aload_n 0, 1) := by decide +kernel
theorem dX8_turningKind_55 : decode cX8_turningKind 55 = .ok (.iload_n 1, 1) := by decide +kernel
theorem dX8_turningKind_56 : decode cX8_turningKind 56 = .ok (.iconst 0, 1) := by decide +kernel
theorem dX8_turningKind_57 : decode cX8_turningKind 57 = .ok (.iconst 0, 1) := by decide +kernel
theorem dX8_turningKind_58 : decode cX8_turningKind 58 = .ok (.iload 4, 2) := by decide +kernel
theorem dX8_turningKind_60 : decode cX8_turningKind 60 = .ok (.invokevirtual 53, 3) := by decide +kernel
theorem dX8_turningKind_63 : decode cX8_turningKind 63 = .ok (.bipush (-9), 2) := by decide +kernel
theorem dX8_turningKind_65 : decode cX8_turningKind 65 = .ok (.if_icmp .eq 14, 3) := by decide +kernel
theorem dX8_turningKind_68 : decode cX8_turningKind 68 = .ok (.iload 4, 2) := by decide +kernel
theorem dX8_turningKind_70 : decode cX8_turningKind 70 = .ok (.istore_n 2, 1) := by decide +kernel
theorem dX8_turningKind_71 : decode cX8_turningKind 71 = .ok (.aload_n 0, 1) := by decide +kernel
theorem dX8_turningKind_72 : decode cX8_turningKind 72 = .ok (.getfield 9, 3) := by decide +kernel
theorem dX8_turningKind_75 : decode cX8_turningKind 75 = .ok (.iload 4, 2) := by decide +kernel
theorem dX8_turningKind_77 : decode cX8_turningKind 77 = .ok (.iaload, 1) := by decide +kernel
theorem dX8_turningKind_78 : decode cX8_turningKind 78 = .ok (.istore_n 3, 1) := by decide +kernel
theorem dX8_turningKind_79 : decode cX8_turningKind 79 = .ok (.iinc 4 1, 3) := by decide +kernel
theorem dX8_turningKind_82 : decode cX8_turningKind 82 = .ok (.goto (-56), 3) := by decide +kernel
theorem dX8_turningKind_85 : decode cX8_turningKind 85 = .ok (.iload_n 2, 1) := by decide +kernel
theorem dX8_turningKind_86 : decode cX8_turningKind 86 = .ok (.ireturn, 1) := by decide +kernel
set_option maxRecDepth 100000 in
set_option maxHeartbeats 4000000 in
theorem tb_X8_turningKind_26 {K : sd_K} {E : sd_Env}   {r : (Int32 × sd_Mem)} (C : sd_C K E sd_LC RX8 cX8_turningKind 5 (some .int))  : ∀ (n : Nat), ∀ (M : sd_Mem) (x1 : Int32) (x2 : Int32) (x3 : Int32) (x4 : Int32), fn_X8_turningKind_26 n M x1 x2 x3 x4 = some r → sd_Z K rm_X8_turningKind E sd_LC 5 (sd_QI K E sd_LC r.1 r.2) M 26 [(0, .ref (E.2.2 90)), (1, .int x1), (2, .int x2), (3, .int x3), (4, .int x4)] [] := by
  intro n
  induction n with
  | zero => intro M x1 x2 x3 x4 hF; cases hF
  | succ n ih =>
    intro M x1 x2 x3 x4 hF
    unfold fn_X8_turningKind_26 at hF
    refine sd_iload C 4 dX8_turningKind_26 rfl rfl (n' := 28) ?_
    refine sd_bipush C (v := 6) dX8_turningKind_28 rfl rfl (n' := 30) ?_
    refine sd_icmp_ge C (n' := 33) (tgt := 85) dX8_turningKind_30 rfl rfl (fun c30 => ?_) (fun c30 => ?_)
    · replace hF := sd_pos hF c30
      refine sd_iload_n C 2 dX8_turningKind_85 rfl rfl rfl (n' := 86) ?_
      exact sd_iret C dX8_turningKind_86 (sd_fst hF) (sd_snd hF)
    · replace hF := sd_neg hF c30
      refine sd_aload_n C 0 dX8_turningKind_33 rfl rfl rfl (n' := 34) ?_
      refine sd_g8_0 C sd_i90 sd_k90 sd_w250 dX8_turningKind_34 rfl (n' := 37) ?_
      refine sd_iload C 4 dX8_turningKind_37 rfl rfl (n' := 39) ?_
      obtain ⟨b39, hF⟩ := sd_ok hF
      refine sd_iald C sd_i91 sd_k91 sd_n91 b39 dX8_turningKind_39 rfl (n' := 40) ?_
      refine sd_if_le C (n' := 43) (tgt := 79) dX8_turningKind_40 rfl rfl (fun c40 => ?_) (fun c40 => ?_)
      · replace hF := sd_pos hF c40
        refine sd_iinc [(4, .int (x4 + (1 : Int32))), (0, .ref (E.2.2 90)), (1, .int x1), (2, .int x2), (3, .int x3)] 4 C dX8_turningKind_79 rfl rfl (by decide) rfl rfl (n' := 82) ?_
        refine sd_goto C (tgt := 26) dX8_turningKind_82 rfl ?_
        refine sd_sub [1, 2, 3, 4, 0] rfl ?_
        exact ih M x1 x2 x3 (x4 + (1 : Int32)) hF
      · replace hF := sd_neg hF c40
        refine sd_aload_n C 0 dX8_turningKind_43 rfl rfl rfl (n' := 44) ?_
        refine sd_g8_0 C sd_i90 sd_k90 sd_w250 dX8_turningKind_44 rfl (n' := 47) ?_
        refine sd_iload C 4 dX8_turningKind_47 rfl rfl (n' := 49) ?_
        obtain ⟨b49, hF⟩ := sd_ok hF
        refine sd_iald C sd_i91 sd_k91 sd_n91 b49 dX8_turningKind_49 rfl (n' := 50) ?_
        refine sd_iload_n C 3 dX8_turningKind_50 rfl rfl rfl (n' := 51) ?_
        refine sd_icmp_ge C (n' := 54) (tgt := 79) dX8_turningKind_51 rfl rfl (fun c51 => ?_) (fun c51 => ?_)
        · replace hF := sd_pos hF c51
          refine sd_iinc [(4, .int (x4 + (1 : Int32))), (0, .ref (E.2.2 90)), (1, .int x1), (2, .int x2), (3, .int x3)] 4 C dX8_turningKind_79 rfl rfl (by decide) rfl rfl (n' := 82) ?_
          refine sd_goto C (tgt := 26) dX8_turningKind_82 rfl ?_
          refine sd_sub [1, 2, 3, 4, 0] rfl ?_
          exact ih M x1 x2 x3 (x4 + (1 : Int32)) hF
        · replace hF := sd_neg hF c51
          refine sd_aload_n C 0 dX8_turningKind_54 rfl rfl rfl (n' := 55) ?_
          refine sd_iload_n C 1 dX8_turningKind_55 rfl rfl rfl (n' := 56) ?_
          refine sd_iconst C (v := 0) dX8_turningKind_56 rfl rfl (n' := 57) ?_
          refine sd_iconst C (v := 0) dX8_turningKind_57 rfl rfl (n' := 58) ?_
          refine sd_iload C 4 dX8_turningKind_58 rfl rfl (n' := 60) ?_
          obtain ⟨q60, e60, hF⟩ := sd_bind hF
          refine sd_callVI [.int x1, .int (0 : Int32), .int (0 : Int32), .int x4] [] C (ct_X8_dayAllBack M x1 (0 : Int32) (0 : Int32) x4  e60) sd_lX8_53 ⟨rfl, rfl, Nat.le_of_ble_eq_true rfl, Nat.le_of_ble_eq_true rfl⟩ sd_i90 (sd_e9 sd_k90) rfl rfl rfl (Nat.le_of_ble_eq_true rfl) dX8_turningKind_60 rfl (n' := 63) ?_
          refine sd_bipush C (v := -9) dX8_turningKind_63 rfl rfl (n' := 65) ?_
          refine sd_icmp_eq C (n' := 68) (tgt := 79) dX8_turningKind_65 rfl rfl (fun c65 => ?_) (fun c65 => ?_)
          · replace hF := sd_pos hF c65
            refine sd_iinc [(4, .int (x4 + (1 : Int32))), (0, .ref (E.2.2 90)), (1, .int x1), (2, .int x2), (3, .int x3)] 4 C dX8_turningKind_79 rfl rfl (by decide) rfl rfl (n' := 82) ?_
            refine sd_goto C (tgt := 26) dX8_turningKind_82 rfl ?_
            refine sd_sub [1, 2, 3, 4, 0] rfl ?_
            exact ih q60.2 x1 x2 x3 (x4 + (1 : Int32)) hF
          · replace hF := sd_neg hF c65
            refine sd_iload C 4 dX8_turningKind_68 rfl rfl (n' := 70) ?_
            refine sd_istore_n [(2, .int x4), (0, .ref (E.2.2 90)), (1, .int x1), (3, .int x3), (4, .int x4)] C dX8_turningKind_70 rfl (by decide) rfl rfl (n' := 71) ?_
            refine sd_aload_n C 1 dX8_turningKind_71 rfl rfl rfl (n' := 72) ?_
            refine sd_g8_0 C sd_i90 sd_k90 sd_w250 dX8_turningKind_72 rfl (n' := 75) ?_
            refine sd_iload C 4 dX8_turningKind_75 rfl rfl (n' := 77) ?_
            obtain ⟨b77, hF⟩ := sd_ok hF
            refine sd_iald C sd_i91 sd_k91 sd_n91 b77 dX8_turningKind_77 rfl (n' := 78) ?_
            refine sd_istore_n [(3, .int (q60.2.1 91 x4.toNatClampNeg)), (2, .int x4), (0, .ref (E.2.2 90)), (1, .int x1), (4, .int x4)] C dX8_turningKind_78 rfl (by decide) rfl rfl (n' := 79) ?_
            refine sd_iinc [(4, .int (x4 + (1 : Int32))), (3, .int (q60.2.1 91 x4.toNatClampNeg)), (2, .int x4), (0, .ref (E.2.2 90)), (1, .int x1)] 4 C dX8_turningKind_79 rfl rfl (by decide) rfl rfl (n' := 82) ?_
            refine sd_goto C (tgt := 26) dX8_turningKind_82 rfl ?_
            refine sd_sub [3, 4, 2, 1, 0] rfl ?_
            exact ih q60.2 x1 x4 (q60.2.1 91 x4.toNatClampNeg) (x4 + (1 : Int32)) hF
set_option maxRecDepth 100000 in
set_option maxHeartbeats 4000000 in
theorem tb_X8_turningKind_0 {K : sd_K} {E : sd_Env}   {r : (Int32 × sd_Mem)} (C : sd_C K E sd_LC RX8 cX8_turningKind 5 (some .int))  : ∀ (M : sd_Mem) (x1 : Int32), fn_X8_turningKind_0 M x1 = some r → sd_Z K rm_X8_turningKind E sd_LC 5 (sd_QI K E sd_LC r.1 r.2) M 0 [(0, .ref (E.2.2 90)), (1, .int x1)] [] := by
  intro M x1 hF
  unfold fn_X8_turningKind_0 at hF
  refine sd_aload_n C 0 dX8_turningKind_0 rfl rfl rfl (n' := 1) ?_
  refine sd_iload_n C 1 dX8_turningKind_1 rfl rfl rfl (n' := 2) ?_
  refine sd_iconst C (v := 0) dX8_turningKind_2 rfl rfl (n' := 3) ?_
  refine sd_iconst C (v := 0) dX8_turningKind_3 rfl rfl (n' := 4) ?_
  refine sd_bipush C (v := -9) dX8_turningKind_4 rfl rfl (n' := 6) ?_
  obtain ⟨q6, e6, hF⟩ := sd_bind hF
  refine sd_callVI [.int x1, .int (0 : Int32), .int (0 : Int32), .int (-9 : Int32)] [] C (ct_X8_dayAllBack M x1 (0 : Int32) (0 : Int32) (-9 : Int32)  e6) sd_lX8_53 ⟨rfl, rfl, Nat.le_of_ble_eq_true rfl, Nat.le_of_ble_eq_true rfl⟩ sd_i90 (sd_e9 sd_k90) rfl rfl rfl (Nat.le_of_ble_eq_true rfl) dX8_turningKind_6 rfl (n' := 9) ?_
  refine sd_bipush C (v := -9) dX8_turningKind_9 rfl rfl (n' := 11) ?_
  refine sd_icmp_eq C (n' := 14) (tgt := 17) dX8_turningKind_11 rfl rfl (fun c11 => ?_) (fun c11 => ?_)
  · replace hF := sd_pos hF c11
    refine sd_bipush C (v := -9) dX8_turningKind_17 rfl rfl (n' := 19) ?_
    refine sd_istore_n [(2, .int (-9 : Int32)), (0, .ref (E.2.2 90)), (1, .int x1)] C dX8_turningKind_19 rfl (by decide) rfl rfl (n' := 20) ?_
    refine sd_bipush C (v := 100) dX8_turningKind_20 rfl rfl (n' := 22) ?_
    refine sd_istore_n [(3, .int (100 : Int32)), (2, .int (-9 : Int32)), (0, .ref (E.2.2 90)), (1, .int x1)] C dX8_turningKind_22 rfl (by decide) rfl rfl (n' := 23) ?_
    refine sd_iconst C (v := 0) dX8_turningKind_23 rfl rfl (n' := 24) ?_
    refine sd_istore [(4, .int (0 : Int32)), (3, .int (100 : Int32)), (2, .int (-9 : Int32)), (0, .ref (E.2.2 90)), (1, .int x1)] C dX8_turningKind_24 (by decide) rfl rfl (n' := 26) ?_
    refine sd_sub [3, 4, 2, 1, 0] rfl ?_
    exact tb_X8_turningKind_26 C sd_FU q6.2 x1 (-9 : Int32) (100 : Int32) (0 : Int32) hF
  · replace hF := sd_neg hF c11
    refine sd_bipush C (v := -9) dX8_turningKind_14 rfl rfl (n' := 16) ?_
    exact sd_iret C dX8_turningKind_16 (sd_fst hF) (sd_snd hF)
theorem ct_X8_turningKind {l : Launch} {E : sd_Env} (M : sd_Mem) (x1 : Int32)  {r : (Int32 × sd_Mem)} (hF : fn_X8_turningKind M x1 = some r) : sd_MI l E sd_LC yX8_turningKind cX8_turningKind 5 (some .int) rm_X8_turningKind [.ref (E.2.2 90), .int x1] M r.1 r.2 := sd_ent0 (by decide +kernel) (Nat.le_of_ble_eq_true rfl) (fun p e s m below meth c C => tb_X8_turningKind_0 C M x1 hF)
theorem dX10_turns_0 : decode cX10_turns 0 = .ok (.iload_n 1, 1) := by decide +kernel
theorem dX10_turns_1 : decode cX10_turns 1 = .ok (.iconst 1, 1) := by decide +kernel
theorem dX10_turns_2 : decode cX10_turns 2 = .ok (.bipush 99, 2) := by decide +kernel
theorem dX10_turns_4 : decode cX10_turns 4 = .ok (.invokestatic 152, 3) := by decide +kernel
theorem dX10_turns_7 : decode cX10_turns 7 = .ok (.ifCond .ne 5, 3) := by decide +kernel
theorem dX10_turns_10 : decode cX10_turns 10 = .ok (.iconst (-1), 1) := by decide +kernel
theorem dX10_turns_11 : decode cX10_turns 11 = .ok (.ireturn, 1) := by decide +kernel
theorem dX10_turns_12 : decode cX10_turns 12 = .ok (.aload_n 0, 1) := by decide +kernel
theorem dX10_turns_13 : decode cX10_turns 13 = .ok (.getfield 70, 3) := by decide +kernel
theorem dX10_turns_16 : decode cX10_turns 16 = .ok (.iload_n 1, 1) := by decide +kernel
theorem dX10_turns_17 : decode cX10_turns 17 = .ok (.invokevirtual 330, 3) := by decide +kernel
theorem dX10_turns_20 : decode cX10_turns 20 = .ok (.ireturn, 1) := by decide +kernel
set_option maxRecDepth 100000 in
set_option maxHeartbeats 4000000 in
theorem tb_X10_turns_0 {K : sd_K} {E : sd_Env}   {r : (Int32 × sd_Mem)} (C : sd_C K E sd_LC RX10 cX10_turns 2 (some .int))  : ∀ (M : sd_Mem) (x1 : Int32), fn_X10_turns_0 M x1 = some r → sd_Z K rm_X10_turns E sd_LC 2 (sd_QI K E sd_LC r.1 r.2) M 0 [(0, .ref (E.2.2 0)), (1, .int x1)] [] := by
  intro M x1 hF
  unfold fn_X10_turns_0 at hF
  refine sd_iload_n C 1 dX10_turns_0 rfl rfl rfl (n' := 1) ?_
  refine sd_iconst C (v := 1) dX10_turns_1 rfl rfl (n' := 2) ?_
  refine sd_bipush C (v := 99) dX10_turns_2 rfl rfl (n' := 4) ?_
  obtain ⟨q4, e4, hF⟩ := sd_bind hF
  refine sd_callSI [.int x1, .int (1 : Int32), .int (99 : Int32)] [] C (ct_X10_within M x1 (1 : Int32) (99 : Int32)  e4) sd_lX10_152 ⟨rfl, rfl, Nat.le_of_ble_eq_true rfl, Nat.le_of_ble_eq_true rfl⟩ rfl (Nat.le_of_ble_eq_true rfl) dX10_turns_4 rfl (n' := 7) ?_
  refine sd_if_ne C (n' := 10) (tgt := 12) dX10_turns_7 rfl rfl (fun c7 => ?_) (fun c7 => ?_)
  · replace hF := sd_neg hF c7
    refine sd_aload_n C 0 dX10_turns_12 rfl rfl rfl (n' := 13) ?_
    refine sd_g10_10 C sd_i0 sd_k0 sd_w338 dX10_turns_13 rfl (n' := 16) ?_
    refine sd_iload_n C 1 dX10_turns_16 rfl rfl rfl (n' := 17) ?_
    obtain ⟨q17, e17, hF⟩ := sd_bind hF
    refine sd_callVI [.int x1] [] C (ct_X8_turningKind M x1  e17) sd_lX10_330 ⟨rfl, rfl, Nat.le_of_ble_eq_true rfl, Nat.le_of_ble_eq_true rfl⟩ sd_i90 (sd_e9 sd_k90) rfl rfl rfl (Nat.le_of_ble_eq_true rfl) dX10_turns_17 rfl (n' := 20) ?_
    exact sd_iret C dX10_turns_20 (sd_fst hF) (sd_snd hF)
  · replace hF := sd_pos hF c7
    refine sd_iconst C (v := -1) dX10_turns_10 rfl rfl (n' := 11) ?_
    exact sd_iret C dX10_turns_11 (sd_fst hF) (sd_snd hF)
theorem ct_X10_turns {l : Launch} {E : sd_Env} (M : sd_Mem) (x1 : Int32)  {r : (Int32 × sd_Mem)} (hF : fn_X10_turns M x1 = some r) : sd_MI l E sd_LC yX10_turns cX10_turns 2 (some .int) rm_X10_turns [.ref (E.2.2 0), .int x1] M r.1 r.2 := sd_ent0 (by decide +kernel) (Nat.le_of_ble_eq_true rfl) (fun p e s m below meth c C => tb_X10_turns_0 C M x1 hF)
theorem dX8_daysPaid_0 : decode cX8_daysPaid 0 = .ok (.aload_n 0, 1) := by decide +kernel
theorem dX8_daysPaid_1 : decode cX8_daysPaid 1 = .ok (.iload_n 1, 1) := by decide +kernel
theorem dX8_daysPaid_2 : decode cX8_daysPaid 2 = .ok (.bipush (-9), 2) := by decide +kernel
theorem dX8_daysPaid_4 : decode cX8_daysPaid 4 = .ok (.invokevirtual 43, 3) := by decide +kernel
theorem dX8_daysPaid_7 : decode cX8_daysPaid 7 = .ok (.iconst 1, 1) := by decide +kernel
theorem dX8_daysPaid_8 : decode cX8_daysPaid 8 = .ok (.istore_n 3, 1) := by decide +kernel
theorem dX8_daysPaid_9 : decode cX8_daysPaid 9 = .ok (.iload_n 3, 1) := by decide +kernel
theorem dX8_daysPaid_10 : decode cX8_daysPaid 10 = .ok (.bipush 99, 2) := by decide +kernel
theorem dX8_daysPaid_12 : decode cX8_daysPaid 12 = .ok (.if_icmp .gt 25, 3) := by decide +kernel
theorem dX8_daysPaid_15 : decode cX8_daysPaid 15 = .ok (.aload_n 0, 1) := by decide +kernel
theorem dX8_daysPaid_16 : decode cX8_daysPaid 16 = .ok (.invokevirtual 46, 3) := by decide +kernel
theorem dX8_daysPaid_19 : decode cX8_daysPaid 19 = .ok (.aload_n 0, 1) := by decide +kernel
theorem dX8_daysPaid_20 : decode cX8_daysPaid 20 = .ok (.iload_n 2, 1) := by decide +kernel
theorem dX8_daysPaid_21 : decode cX8_daysPaid 21 = .ok (.invokevirtual 49, 3) := by decide +kernel
theorem dX8_daysPaid_24 : decode cX8_daysPaid 24 = .ok (.ifCond .ne 7, 3) := by decide +kernel
theorem dX8_daysPaid_27 : decode cX8_daysPaid 27 = .ok (.iload_n 3, 1) := by decide +kernel
theorem dX8_daysPaid_28 : decode cX8_daysPaid 28 = .ok (.iconst 1, 1) := by decide +kernel
theorem dX8_daysPaid_29 : decode cX8_daysPaid 29 = .ok (.isub, 1) := by decide +kernel
theorem dX8_daysPaid_30 : decode cX8_daysPaid 30 = .ok (.ireturn, 1) := by decide +kernel
theorem dX8_daysPaid_31 : decode cX8_daysPaid 31 = .ok (.iinc 3 1, 3) := by decide +kernel
theorem dX8_daysPaid_34 : decode cX8_daysPaid 34 = .ok (.goto (-25), 3) := by decide +kernel
theorem dX8_daysPaid_37 : decode cX8_daysPaid 37 = .ok (.bipush 99, 2) := by decide +kernel
theorem dX8_daysPaid_39 : decode cX8_daysPaid 39 = .ok (.ireturn, 1) := by decide +kernel
set_option maxRecDepth 100000 in
set_option maxHeartbeats 4000000 in
theorem tb_X8_daysPaid_9 {K : sd_K} {E : sd_Env}   {r : (Int32 × sd_Mem)} (C : sd_C K E sd_LC RX8 cX8_daysPaid 4 (some .int))  : ∀ (n : Nat), ∀ (M : sd_Mem) (x2 : Int32) (x3 : Int32), fn_X8_daysPaid_9 n M x2 x3 = some r → sd_Z K rm_X8_daysPaid E sd_LC 4 (sd_QI K E sd_LC r.1 r.2) M 9 [(0, .ref (E.2.2 90)), (2, .int x2), (3, .int x3)] [] := by
  intro n
  induction n with
  | zero => intro M x2 x3 hF; cases hF
  | succ n ih =>
    intro M x2 x3 hF
    unfold fn_X8_daysPaid_9 at hF
    refine sd_iload_n C 2 dX8_daysPaid_9 rfl rfl rfl (n' := 10) ?_
    refine sd_bipush C (v := 99) dX8_daysPaid_10 rfl rfl (n' := 12) ?_
    refine sd_icmp_gt C (n' := 15) (tgt := 37) dX8_daysPaid_12 rfl rfl (fun c12 => ?_) (fun c12 => ?_)
    · replace hF := sd_pos hF c12
      refine sd_bipush C (v := 99) dX8_daysPaid_37 rfl rfl (n' := 39) ?_
      exact sd_iret C dX8_daysPaid_39 (sd_fst hF) (sd_snd hF)
    · replace hF := sd_neg hF c12
      refine sd_aload_n C 0 dX8_daysPaid_15 rfl rfl rfl (n' := 16) ?_
      obtain ⟨q16, e16, hF⟩ := sd_bind hF
      refine sd_callVV [] [] C (ct_X8_goBack M   e16) sd_lX8_46 ⟨rfl, rfl, Nat.le_of_ble_eq_true rfl, Nat.le_of_ble_eq_true rfl⟩ sd_i90 (sd_e9 sd_k90) rfl rfl rfl (Nat.le_of_ble_eq_true rfl) dX8_daysPaid_16 rfl (n' := 19) ?_
      refine sd_aload_n C 0 dX8_daysPaid_19 rfl rfl rfl (n' := 20) ?_
      refine sd_iload_n C 1 dX8_daysPaid_20 rfl rfl rfl (n' := 21) ?_
      obtain ⟨q21, e21, hF⟩ := sd_bind hF
      refine sd_callVI [.int x2] [] C (ct_X8_payOut q16 x2  e21) sd_lX8_49 ⟨rfl, rfl, Nat.le_of_ble_eq_true rfl, Nat.le_of_ble_eq_true rfl⟩ sd_i90 (sd_e9 sd_k90) rfl rfl rfl (Nat.le_of_ble_eq_true rfl) dX8_daysPaid_21 rfl (n' := 24) ?_
      refine sd_if_ne C (n' := 27) (tgt := 31) dX8_daysPaid_24 rfl rfl (fun c24 => ?_) (fun c24 => ?_)
      · replace hF := sd_neg hF c24
        refine sd_iinc [(3, .int (x3 + (1 : Int32))), (0, .ref (E.2.2 90)), (2, .int x2)] 2 C dX8_daysPaid_31 rfl rfl (by decide) rfl rfl (n' := 34) ?_
        refine sd_goto C (tgt := 9) dX8_daysPaid_34 rfl ?_
        refine sd_sub [1, 2, 0] rfl ?_
        exact ih q21.2 x2 (x3 + (1 : Int32)) hF
      · replace hF := sd_pos hF c24
        refine sd_iload_n C 2 dX8_daysPaid_27 rfl rfl rfl (n' := 28) ?_
        refine sd_iconst C (v := 1) dX8_daysPaid_28 rfl rfl (n' := 29) ?_
        refine sd_isub C dX8_daysPaid_29 rfl (n' := 30) ?_
        exact sd_iret C dX8_daysPaid_30 (sd_fst hF) (sd_snd hF)
set_option maxRecDepth 100000 in
set_option maxHeartbeats 4000000 in
theorem tb_X8_daysPaid_0 {K : sd_K} {E : sd_Env}   {r : (Int32 × sd_Mem)} (C : sd_C K E sd_LC RX8 cX8_daysPaid 4 (some .int))  : ∀ (M : sd_Mem) (x1 : Int32) (x2 : Int32), fn_X8_daysPaid_0 M x1 x2 = some r → sd_Z K rm_X8_daysPaid E sd_LC 4 (sd_QI K E sd_LC r.1 r.2) M 0 [(0, .ref (E.2.2 90)), (1, .int x1), (2, .int x2)] [] := by
  intro M x1 x2 hF
  unfold fn_X8_daysPaid_0 at hF
  refine sd_aload_n C 0 dX8_daysPaid_0 rfl rfl rfl (n' := 1) ?_
  refine sd_iload_n C 1 dX8_daysPaid_1 rfl rfl rfl (n' := 2) ?_
  refine sd_bipush C (v := -9) dX8_daysPaid_2 rfl rfl (n' := 4) ?_
  obtain ⟨q4, e4, hF⟩ := sd_bind hF
  refine sd_callVV [.int x1, .int (-9 : Int32)] [] C (ct_X8_begin M x1 (-9 : Int32)  e4) sd_lX8_43 ⟨rfl, rfl, Nat.le_of_ble_eq_true rfl, Nat.le_of_ble_eq_true rfl⟩ sd_i90 (sd_e9 sd_k90) rfl rfl rfl (Nat.le_of_ble_eq_true rfl) dX8_daysPaid_4 rfl (n' := 7) ?_
  refine sd_iconst C (v := 1) dX8_daysPaid_7 rfl rfl (n' := 8) ?_
  refine sd_istore_n [(3, .int (1 : Int32)), (0, .ref (E.2.2 90)), (1, .int x1), (2, .int x2)] C dX8_daysPaid_8 rfl (by decide) rfl rfl (n' := 9) ?_
  refine sd_sub [1, 3, 0] rfl ?_
  exact tb_X8_daysPaid_9 C sd_FU q4 x2 (1 : Int32) hF
theorem ct_X8_daysPaid {l : Launch} {E : sd_Env} (M : sd_Mem) (x1 : Int32) (x2 : Int32)  {r : (Int32 × sd_Mem)} (hF : fn_X8_daysPaid M x1 x2 = some r) : sd_MI l E sd_LC yX8_daysPaid cX8_daysPaid 4 (some .int) rm_X8_daysPaid [.ref (E.2.2 90), .int x1, .int x2] M r.1 r.2 := sd_ent0 (by decide +kernel) (Nat.le_of_ble_eq_true rfl) (fun p e s m below meth c C => tb_X8_daysPaid_0 C M x1 x2 hF)
theorem dX10_fund_0 : decode cX10_fund 0 = .ok (.iload_n 1, 1) := by decide +kernel
theorem dX10_fund_1 : decode cX10_fund 1 = .ok (.iload_n 2, 1) := by decide +kernel
theorem dX10_fund_2 : decode cX10_fund 2 = .ok (.invokestatic 313, 3) := by decide +kernel
theorem dX10_fund_5 : decode cX10_fund 5 = .ok (.ifCond .ne 5, 3) := by decide +kernel
theorem dX10_fund_8 : decode cX10_fund 8 = .ok (.iconst (-1), 1) := by decide +kernel
theorem dX10_fund_9 : decode cX10_fund 9 = .ok (.ireturn, 1) := by decide +kernel
theorem dX10_fund_10 : decode cX10_fund 10 = .ok (.aload_n 0, 1) := by decide +kernel
theorem dX10_fund_11 : decode cX10_fund 11 = .ok (.getfield 70, 3) := by decide +kernel
theorem dX10_fund_14 : decode cX10_fund 14 = .ok (.iload_n 1, 1) := by decide +kernel
theorem dX10_fund_15 : decode cX10_fund 15 = .ok (.iload_n 2, 1) := by decide +kernel
theorem dX10_fund_16 : decode cX10_fund 16 = .ok (.invokevirtual 333, 3) := by decide +kernel
theorem dX10_fund_19 : decode cX10_fund 19 = .ok (.ireturn, 1) := by decide +kernel
set_option maxRecDepth 100000 in
set_option maxHeartbeats 4000000 in
theorem tb_X10_fund_0 {K : sd_K} {E : sd_Env}   {r : (Int32 × sd_Mem)} (C : sd_C K E sd_LC RX10 cX10_fund 3 (some .int))  : ∀ (M : sd_Mem) (x1 : Int32) (x2 : Int32), fn_X10_fund_0 M x1 x2 = some r → sd_Z K rm_X10_fund E sd_LC 3 (sd_QI K E sd_LC r.1 r.2) M 0 [(0, .ref (E.2.2 0)), (1, .int x1), (2, .int x2)] [] := by
  intro M x1 x2 hF
  unfold fn_X10_fund_0 at hF
  refine sd_iload_n C 1 dX10_fund_0 rfl rfl rfl (n' := 1) ?_
  refine sd_iload_n C 2 dX10_fund_1 rfl rfl rfl (n' := 2) ?_
  obtain ⟨q2, e2, hF⟩ := sd_bind hF
  refine sd_callSI [.int x1, .int x2] [] C (ct_X10_isFund M x1 x2  e2) sd_lX10_313 ⟨rfl, rfl, Nat.le_of_ble_eq_true rfl, Nat.le_of_ble_eq_true rfl⟩ rfl (Nat.le_of_ble_eq_true rfl) dX10_fund_2 rfl (n' := 5) ?_
  refine sd_if_ne C (n' := 8) (tgt := 10) dX10_fund_5 rfl rfl (fun c5 => ?_) (fun c5 => ?_)
  · replace hF := sd_neg hF c5
    refine sd_aload_n C 0 dX10_fund_10 rfl rfl rfl (n' := 11) ?_
    refine sd_g10_10 C sd_i0 sd_k0 sd_w338 dX10_fund_11 rfl (n' := 14) ?_
    refine sd_iload_n C 1 dX10_fund_14 rfl rfl rfl (n' := 15) ?_
    refine sd_iload_n C 2 dX10_fund_15 rfl rfl rfl (n' := 16) ?_
    obtain ⟨q16, e16, hF⟩ := sd_bind hF
    refine sd_callVI [.int x1, .int x2] [] C (ct_X8_daysPaid M x1 x2  e16) sd_lX10_333 ⟨rfl, rfl, Nat.le_of_ble_eq_true rfl, Nat.le_of_ble_eq_true rfl⟩ sd_i90 (sd_e9 sd_k90) rfl rfl rfl (Nat.le_of_ble_eq_true rfl) dX10_fund_16 rfl (n' := 19) ?_
    exact sd_iret C dX10_fund_19 (sd_fst hF) (sd_snd hF)
  · replace hF := sd_pos hF c5
    refine sd_iconst C (v := -1) dX10_fund_8 rfl rfl (n' := 9) ?_
    exact sd_iret C dX10_fund_9 (sd_fst hF) (sd_snd hF)
theorem ct_X10_fund {l : Launch} {E : sd_Env} (M : sd_Mem) (x1 : Int32) (x2 : Int32)  {r : (Int32 × sd_Mem)} (hF : fn_X10_fund M x1 x2 = some r) : sd_MI l E sd_LC yX10_fund cX10_fund 3 (some .int) rm_X10_fund [.ref (E.2.2 0), .int x1, .int x2] M r.1 r.2 := sd_ent0 (by decide +kernel) (Nat.le_of_ble_eq_true rfl) (fun p e s m below meth c C => tb_X10_fund_0 C M x1 x2 hF)
theorem dX10_pact_0 : decode cX10_pact 0 = .ok (.iload_n 1, 1) := by decide +kernel
theorem dX10_pact_1 : decode cX10_pact 1 = .ok (.iconst 1, 1) := by decide +kernel
theorem dX10_pact_2 : decode cX10_pact 2 = .ok (.bipush 9, 2) := by decide +kernel
theorem dX10_pact_4 : decode cX10_pact 4 = .ok (.invokestatic 152, 3) := by decide +kernel
theorem dX10_pact_7 : decode cX10_pact 7 = .ok (.ifCond .eq 23, 3) := by decide +kernel
theorem dX10_pact_10 : decode cX10_pact 10 = .ok (.iload_n 2, 1) := by decide +kernel
theorem dX10_pact_11 : decode cX10_pact 11 = .ok (.iconst 0, 1) := by decide +kernel
theorem dX10_pact_12 : decode cX10_pact 12 = .ok (.bipush 99, 2) := by decide +kernel
theorem dX10_pact_14 : decode cX10_pact 14 = .ok (.invokestatic 152, 3) := by decide +kernel
theorem dX10_pact_17 : decode cX10_pact 17 = .ok (.ifCond .eq 13, 3) := by decide +kernel
theorem dX10_pact_20 : decode cX10_pact 20 = .ok (.iload_n 3, 1) := by decide +kernel
theorem dX10_pact_21 : decode cX10_pact 21 = .ok (.iconst 0, 1) := by decide +kernel
theorem dX10_pact_22 : decode cX10_pact 22 = .ok (.bipush 99, 2) := by decide +kernel
theorem dX10_pact_24 : decode cX10_pact 24 = .ok (.invokestatic 152, 3) := by decide +kernel
theorem dX10_pact_27 : decode cX10_pact 27 = .ok (.ifCond .ne 5, 3) := by decide +kernel
theorem dX10_pact_30 : decode cX10_pact 30 = .ok (.iconst (-1), 1) := by decide +kernel
theorem dX10_pact_31 : decode cX10_pact 31 = .ok (.ireturn, 1) := by decide +kernel
theorem dX10_pact_32 : decode cX10_pact 32 = .ok (.iconst 1, 1) := by decide +kernel
theorem dX10_pact_33 : decode cX10_pact 33 = .ok (.istore 4, 2) := by decide +kernel
theorem dX10_pact_35 : decode cX10_pact 35 = .ok (.iload 4, 2) := by decide +kernel
theorem dX10_pact_37 : decode cX10_pact 37 = .ok (.bipush 99, 2) := by decide +kernel
theorem dX10_pact_39 : decode cX10_pact 39 = .ok (.if_icmp .gt 24, 3) := by decide +kernel
theorem dX10_pact_42 : decode cX10_pact 42 = .ok (.iload_n 2, 1) := by decide +kernel
theorem dX10_pact_43 : decode cX10_pact 43 = .ok (.iload 4, 2) := by decide +kernel
theorem dX10_pact_45 : decode cX10_pact 45 = .ok (.imul, 1) := by decide +kernel
theorem dX10_pact_46 : decode cX10_pact 46 = .ok (.iload_n 3, 1) := by decide +kernel
theorem dX10_pact_47 : decode cX10_pact 47 = .ok (.iload_n 1, 1) := by decide +kernel
theorem dX10_pact_48 : decode cX10_pact 48 = .ok (.iconst 1, 1) := by decide +kernel
theorem dX10_pact_49 : decode cX10_pact 49 = .ok (.isub, 1) := by decide +kernel
theorem dX10_pact_50 : decode cX10_pact 50 = .ok (.imul, 1) := by decide +kernel
theorem dX10_pact_51 : decode cX10_pact 51 = .ok (.if_icmp .lt 6, 3) := by decide +kernel
theorem dX10_pact_54 : decode cX10_pact 54 = .ok (.iload 4, 2) := by decide +kernel
theorem dX10_pact_56 : decode cX10_pact 56 = .ok (.ireturn, 1) := by decide +kernel
theorem dX10_pact_57 : decode cX10_pact 57 = .ok (.iinc 4 1, 3) := by decide +kernel
theorem dX10_pact_60 : decode cX10_pact 60 = .ok (.goto (-25), 3) := by decide +kernel
theorem dX10_pact_63 : decode cX10_pact 63 = .ok (.bipush (-9), 2) := by decide +kernel
theorem dX10_pact_65 : decode cX10_pact 65 = .ok (.ireturn, 1) := by decide +kernel
set_option maxRecDepth 100000 in
set_option maxHeartbeats 4000000 in
theorem tb_X10_pact_35 {K : sd_K} {E : sd_Env} {M : sd_Mem}  {r : Int32} (C : sd_C K E sd_LC RX10 cX10_pact 5 (some .int))  : ∀ (n : Nat), ∀ (x1 : Int32) (x2 : Int32) (x3 : Int32) (x4 : Int32), fn_X10_pact_35 n x1 x2 x3 x4 = some r → sd_Z K rm_X10_pact E sd_LC 5 (sd_QI K E sd_LC r M) M 35 [(1, .int x1), (2, .int x2), (3, .int x3), (4, .int x4)] [] := by
  intro n
  induction n with
  | zero => intro x1 x2 x3 x4 hF; cases hF
  | succ n ih =>
    intro x1 x2 x3 x4 hF
    unfold fn_X10_pact_35 at hF
    refine sd_iload C 3 dX10_pact_35 rfl rfl (n' := 37) ?_
    refine sd_bipush C (v := 99) dX10_pact_37 rfl rfl (n' := 39) ?_
    refine sd_icmp_gt C (n' := 42) (tgt := 63) dX10_pact_39 rfl rfl (fun c39 => ?_) (fun c39 => ?_)
    · replace hF := sd_pos hF c39
      refine sd_bipush C (v := -9) dX10_pact_63 rfl rfl (n' := 65) ?_
      exact sd_iret C dX10_pact_65 (Option.some.inj hF) rfl
    · replace hF := sd_neg hF c39
      refine sd_iload_n C 1 dX10_pact_42 rfl rfl rfl (n' := 43) ?_
      refine sd_iload C 3 dX10_pact_43 rfl rfl (n' := 45) ?_
      refine sd_imul C dX10_pact_45 rfl (n' := 46) ?_
      refine sd_iload_n C 2 dX10_pact_46 rfl rfl rfl (n' := 47) ?_
      refine sd_iload_n C 0 dX10_pact_47 rfl rfl rfl (n' := 48) ?_
      refine sd_iconst C (v := 1) dX10_pact_48 rfl rfl (n' := 49) ?_
      refine sd_isub C dX10_pact_49 rfl (n' := 50) ?_
      refine sd_imul C dX10_pact_50 rfl (n' := 51) ?_
      refine sd_icmp_lt C (n' := 54) (tgt := 57) dX10_pact_51 rfl rfl (fun c51 => ?_) (fun c51 => ?_)
      · replace hF := sd_pos hF c51
        refine sd_iinc [(4, .int (x4 + (1 : Int32))), (1, .int x1), (2, .int x2), (3, .int x3)] 3 C dX10_pact_57 rfl rfl (by decide) rfl rfl (n' := 60) ?_
        refine sd_goto C (tgt := 35) dX10_pact_60 rfl ?_
        refine sd_sub [1, 2, 3, 0] rfl ?_
        exact ih x1 x2 x3 (x4 + (1 : Int32)) hF
      · replace hF := sd_neg hF c51
        refine sd_iload C 3 dX10_pact_54 rfl rfl (n' := 56) ?_
        exact sd_iret C dX10_pact_56 (Option.some.inj hF) rfl
set_option maxRecDepth 100000 in
set_option maxHeartbeats 4000000 in
theorem tb_X10_pact_0 {K : sd_K} {E : sd_Env} {M : sd_Mem}  {r : Int32} (C : sd_C K E sd_LC RX10 cX10_pact 5 (some .int))  : ∀ (x1 : Int32) (x2 : Int32) (x3 : Int32), fn_X10_pact_0 x1 x2 x3 = some r → sd_Z K rm_X10_pact E sd_LC 5 (sd_QI K E sd_LC r M) M 0 [(0, .ref (E.2.2 0)), (1, .int x1), (2, .int x2), (3, .int x3)] [] := by
  intro x1 x2 x3 hF
  unfold fn_X10_pact_0 at hF
  refine sd_iload_n C 1 dX10_pact_0 rfl rfl rfl (n' := 1) ?_
  refine sd_iconst C (v := 1) dX10_pact_1 rfl rfl (n' := 2) ?_
  refine sd_bipush C (v := 9) dX10_pact_2 rfl rfl (n' := 4) ?_
  obtain ⟨q4, e4, hF⟩ := sd_bind hF
  refine sd_callSI [.int x1, .int (1 : Int32), .int (9 : Int32)] [] C (ct_X10_within M x1 (1 : Int32) (9 : Int32)  e4) sd_lX10_152 ⟨rfl, rfl, Nat.le_of_ble_eq_true rfl, Nat.le_of_ble_eq_true rfl⟩ rfl (Nat.le_of_ble_eq_true rfl) dX10_pact_4 rfl (n' := 7) ?_
  refine sd_if_eq C (n' := 10) (tgt := 30) dX10_pact_7 rfl rfl (fun c7 => ?_) (fun c7 => ?_)
  · replace hF := sd_pos hF c7
    refine sd_iconst C (v := -1) dX10_pact_30 rfl rfl (n' := 31) ?_
    exact sd_iret C dX10_pact_31 (Option.some.inj hF) rfl
  · replace hF := sd_neg hF c7
    refine sd_iload_n C 2 dX10_pact_10 rfl rfl rfl (n' := 11) ?_
    refine sd_iconst C (v := 0) dX10_pact_11 rfl rfl (n' := 12) ?_
    refine sd_bipush C (v := 99) dX10_pact_12 rfl rfl (n' := 14) ?_
    obtain ⟨q14, e14, hF⟩ := sd_bind hF
    refine sd_callSI [.int x2, .int (0 : Int32), .int (99 : Int32)] [] C (ct_X10_within M x2 (0 : Int32) (99 : Int32)  e14) sd_lX10_152 ⟨rfl, rfl, Nat.le_of_ble_eq_true rfl, Nat.le_of_ble_eq_true rfl⟩ rfl (Nat.le_of_ble_eq_true rfl) dX10_pact_14 rfl (n' := 17) ?_
    refine sd_if_eq C (n' := 20) (tgt := 30) dX10_pact_17 rfl rfl (fun c17 => ?_) (fun c17 => ?_)
    · replace hF := sd_pos hF c17
      refine sd_iconst C (v := -1) dX10_pact_30 rfl rfl (n' := 31) ?_
      exact sd_iret C dX10_pact_31 (Option.some.inj hF) rfl
    · replace hF := sd_neg hF c17
      refine sd_iload_n C 3 dX10_pact_20 rfl rfl rfl (n' := 21) ?_
      refine sd_iconst C (v := 0) dX10_pact_21 rfl rfl (n' := 22) ?_
      refine sd_bipush C (v := 99) dX10_pact_22 rfl rfl (n' := 24) ?_
      obtain ⟨q24, e24, hF⟩ := sd_bind hF
      refine sd_callSI [.int x3, .int (0 : Int32), .int (99 : Int32)] [] C (ct_X10_within M x3 (0 : Int32) (99 : Int32)  e24) sd_lX10_152 ⟨rfl, rfl, Nat.le_of_ble_eq_true rfl, Nat.le_of_ble_eq_true rfl⟩ rfl (Nat.le_of_ble_eq_true rfl) dX10_pact_24 rfl (n' := 27) ?_
      refine sd_if_ne C (n' := 30) (tgt := 32) dX10_pact_27 rfl rfl (fun c27 => ?_) (fun c27 => ?_)
      · replace hF := sd_neg hF c27
        refine sd_iconst C (v := 1) dX10_pact_32 rfl rfl (n' := 33) ?_
        refine sd_istore [(4, .int (1 : Int32)), (0, .ref (E.2.2 0)), (1, .int x1), (2, .int x2), (3, .int x3)] C dX10_pact_33 (by decide) rfl rfl (n' := 35) ?_
        refine sd_sub [2, 3, 4, 0] rfl ?_
        exact tb_X10_pact_35 C sd_FU x1 x2 x3 (1 : Int32) hF
      · replace hF := sd_pos hF c27
        refine sd_iconst C (v := -1) dX10_pact_30 rfl rfl (n' := 31) ?_
        exact sd_iret C dX10_pact_31 (Option.some.inj hF) rfl
theorem ct_X10_pact {l : Launch} {E : sd_Env} (M : sd_Mem) (x1 : Int32) (x2 : Int32) (x3 : Int32)  {r : Int32} (hF : fn_X10_pact x1 x2 x3 = some r) : sd_MI l E sd_LC yX10_pact cX10_pact 5 (some .int) rm_X10_pact [.ref (E.2.2 0), .int x1, .int x2, .int x3] M r M := sd_ent0 (by decide +kernel) (Nat.le_of_ble_eq_true rfl) (fun p e s m below meth c C => tb_X10_pact_0 C x1 x2 x3 hF)
theorem dX10_asked_0 : decode cX10_asked 0 = .ok (.aload_n 0, 1) := by decide +kernel
theorem dX10_asked_1 : decode cX10_asked 1 = .ok (.getfield 88, 3) := by decide +kernel
theorem dX10_asked_4 : decode cX10_asked 4 = .ok (.ireturn, 1) := by decide +kernel
set_option maxRecDepth 100000 in
set_option maxHeartbeats 4000000 in
theorem tb_X10_asked_0 {K : sd_K} {E : sd_Env} {M : sd_Mem}  {r : Int32} (C : sd_C K E sd_LC RX10 cX10_asked 1 (some .int))  : fn_X10_asked_0 M = some r → sd_Z K rm_X10_asked E sd_LC 1 (sd_QI K E sd_LC r M) M 0 [(0, .ref (E.2.2 0))] [] := by
  intro hF
  unfold fn_X10_asked_0 at hF
  refine sd_aload_n C 0 dX10_asked_0 rfl rfl rfl (n' := 1) ?_
  refine sd_g10_13 C sd_i0 sd_k0 sd_w341 dX10_asked_1 rfl (n' := 4) ?_
  exact sd_iret C dX10_asked_4 (Option.some.inj hF) rfl
theorem ct_X10_asked {l : Launch} {E : sd_Env} (M : sd_Mem)   {r : Int32} (hF : fn_X10_asked M = some r) : sd_MI l E sd_LC yX10_asked cX10_asked 1 (some .int) rm_X10_asked [.ref (E.2.2 0)] M r M := sd_ent0 (by decide +kernel) (Nat.le_of_ble_eq_true rfl) (fun p e s m below meth c C => tb_X10_asked_0 C hF)
theorem dX10_upper_0 : decode cX10_upper 0 = .ok (.aload_n 0, 1) := by decide +kernel
theorem dX10_upper_1 : decode cX10_upper 1 = .ok (.getfield 77, 3) := by decide +kernel
theorem dX10_upper_4 : decode cX10_upper 4 = .ok (.getfield 336, 3) := by decide +kernel
theorem dX10_upper_7 : decode cX10_upper 7 = .ok (.lreturn, 1) := by decide +kernel
set_option maxRecDepth 100000 in
set_option maxHeartbeats 4000000 in
theorem tb_X10_upper_0 {K : sd_K} {E : sd_Env} {M : sd_Mem}  {r : Int64} (C : sd_C K E sd_LC RX10 cX10_upper 1 (some .long))  : fn_X10_upper_0 M = some r → sd_Z K rm_X10_upper E sd_LC 1 (sd_QL K E sd_LC r M) M 0 [(0, .ref (E.2.2 0))] [] := by
  intro hF
  unfold fn_X10_upper_0 at hF
  refine sd_aload_n C 0 dX10_upper_0 rfl rfl rfl (n' := 1) ?_
  refine sd_g10_11 C sd_i0 sd_k0 sd_w339 dX10_upper_1 rfl (n' := 4) ?_
  refine sd_gN3_0 C sd_i96 sd_k96 sd_w280 dX10_upper_4 rfl (n' := 7) ?_
  exact sd_lret C dX10_upper_7 (Option.some.inj hF) rfl
theorem ct_X10_upper {l : Launch} {E : sd_Env} (M : sd_Mem)   {r : Int64} (hF : fn_X10_upper M = some r) : sd_ML l E sd_LC yX10_upper cX10_upper 1 (some .long) rm_X10_upper [.ref (E.2.2 0)] M r M := sd_ent0 (by decide +kernel) (Nat.le_of_ble_eq_true rfl) (fun p e s m below meth c C => tb_X10_upper_0 C hF)
theorem dX10_lower_0 : decode cX10_lower 0 = .ok (.aload_n 0, 1) := by decide +kernel
theorem dX10_lower_1 : decode cX10_lower 1 = .ok (.getfield 77, 3) := by decide +kernel
theorem dX10_lower_4 : decode cX10_lower 4 = .ok (.getfield 340, 3) := by decide +kernel
theorem dX10_lower_7 : decode cX10_lower 7 = .ok (.lreturn, 1) := by decide +kernel
set_option maxRecDepth 100000 in
set_option maxHeartbeats 4000000 in
theorem tb_X10_lower_0 {K : sd_K} {E : sd_Env} {M : sd_Mem}  {r : Int64} (C : sd_C K E sd_LC RX10 cX10_lower 1 (some .long))  : fn_X10_lower_0 M = some r → sd_Z K rm_X10_lower E sd_LC 1 (sd_QL K E sd_LC r M) M 0 [(0, .ref (E.2.2 0))] [] := by
  intro hF
  unfold fn_X10_lower_0 at hF
  refine sd_aload_n C 0 dX10_lower_0 rfl rfl rfl (n' := 1) ?_
  refine sd_g10_11 C sd_i0 sd_k0 sd_w339 dX10_lower_1 rfl (n' := 4) ?_
  refine sd_gN3_1 C sd_i96 sd_k96 sd_w282 dX10_lower_4 rfl (n' := 7) ?_
  exact sd_lret C dX10_lower_7 (Option.some.inj hF) rfl
theorem ct_X10_lower {l : Launch} {E : sd_Env} (M : sd_Mem)   {r : Int64} (hF : fn_X10_lower M = some r) : sd_ML l E sd_LC yX10_lower cX10_lower 1 (some .long) rm_X10_lower [.ref (E.2.2 0)] M r M := sd_ent0 (by decide +kernel) (Nat.le_of_ble_eq_true rfl) (fun p e s m below meth c C => tb_X10_lower_0 C hF)
theorem dX10_present_0 : decode cX10_present 0 = .ok (.iconst 0, 1) := by decide +kernel
theorem dX10_present_1 : decode cX10_present 1 = .ok (.istore_n 1, 1) := by decide +kernel
theorem dX10_present_2 : decode cX10_present 2 = .ok (.aload_n 0, 1) := by decide +kernel
theorem dX10_present_3 : decode cX10_present 3 = .ok (.astore_n 2, 1) := by decide +kernel
theorem dX10_present_4 : decode cX10_present 4 = .ok (.aload_n 2, 1) := by decide +kernel
theorem dX10_present_5 : decode cX10_present 5 = .ok (.arraylength, 1) := by decide +kernel
theorem dX10_present_6 : decode cX10_present 6 = .ok (.istore_n 3, 1) := by decide +kernel
theorem dX10_present_7 : decode cX10_present 7 = .ok (.iconst 0, 1) := by decide +kernel
theorem dX10_present_8 : decode cX10_present 8 = .ok (.istore 4, 2) := by decide +kernel
theorem dX10_present_10 : decode cX10_present 10 = .ok (.iload 4, 2) := by decide +kernel
theorem dX10_present_12 : decode cX10_present 12 = .ok (.iload_n 3, 1) := by decide +kernel
theorem dX10_present_13 : decode cX10_present 13 = .ok (.if_icmp .ge 31, 3) := by decide +kernel
theorem dX10_present_16 : decode cX10_present 16 = .ok (.aload_n 2, 1) := by decide +kernel
theorem dX10_present_17 : decode cX10_present 17 = .ok (.iload 4, 2) := by decide +kernel
theorem dX10_present_19 : decode cX10_present 19 = .ok (.aaload, 1) := by decide +kernel
theorem dX10_present_20 : decode cX10_present 20 = .ok (.astore 5, 2) := by decide +kernel
theorem dX10_present_22 : decode cX10_present 22 = .ok (.iload_n 1, 1) := by decide +kernel
theorem dX10_present_23 : decode cX10_present 23 = .ok (.aload 5, 2) := by decide +kernel
theorem dX10_present_25 : decode cX10_present 25 = .ok (.invokevirtual 108, 3) := by decide +kernel
theorem dX10_present_28 : decode cX10_present 28 = .ok (.ifCond .eq 7, 3) := by decide +kernel
theorem dX10_present_31 : decode cX10_present 31 = .ok (.iconst 0, 1) := by decide +kernel
theorem dX10_present_32 : decode cX10_present 32 = .ok (.goto 4, 3) := by decide +kernel
theorem dX10_present_35 : decode cX10_present 35 = .ok (.iconst 1, 1) := by decide +kernel
theorem dX10_present_36 : decode cX10_present 36 = .ok (.iadd, 1) := by decide +kernel
theorem dX10_present_37 : decode cX10_present 37 = .ok (.istore_n 1, 1) := by decide +kernel
theorem dX10_present_38 : decode cX10_present 38 = .ok (.iinc 4 1, 3) := by decide +kernel
theorem dX10_present_41 : decode cX10_present 41 = .ok (.goto (-31), 3) := by decide +kernel
theorem dX10_present_44 : decode cX10_present 44 = .ok (.iload_n 1, 1) := by decide +kernel
theorem dX10_present_45 : decode cX10_present 45 = .ok (.ireturn, 1) := by decide +kernel
set_option maxRecDepth 100000 in
set_option maxHeartbeats 4000000 in
theorem tb_X10_present_10 {K : sd_K} {E : sd_Env} {M : sd_Mem} {h0 : Nat} {r : Int32} (C : sd_C K E sd_LC RX10 cX10_present 6 (some .int)) (k0 : sd_kd h0 = 23) : ∀ (n : Nat), ∀ (x1 : Int32) (x3 : Int32) (x4 : Int32), fn_X10_present_10 M h0 n x1 x3 x4 = some r → sd_Z K rm_X10_present E sd_LC 6 (sd_QI K E sd_LC r M) M 10 [(1, .int x1), (2, .ref (E.2.2 h0)), (3, .int x3), (4, .int x4)] [] := by
  intro n
  induction n with
  | zero => intro x1 x3 x4 hF; cases hF
  | succ n ih =>
    intro x1 x3 x4 hF
    unfold fn_X10_present_10 at hF
    refine sd_iload C 3 dX10_present_10 rfl rfl (n' := 12) ?_
    refine sd_iload_n C 2 dX10_present_12 rfl rfl rfl (n' := 13) ?_
    refine sd_icmp_ge C (n' := 16) (tgt := 44) dX10_present_13 rfl rfl (fun c13 => ?_) (fun c13 => ?_)
    · replace hF := sd_pos hF c13
      refine sd_iload_n C 0 dX10_present_44 rfl rfl rfl (n' := 45) ?_
      exact sd_iret C dX10_present_45 (Option.some.inj hF) rfl
    · replace hF := sd_neg hF c13
      refine sd_aload_n C 1 dX10_present_16 rfl rfl rfl (n' := 17) ?_
      refine sd_iload C 3 dX10_present_17 rfl rfl (n' := 19) ?_
      obtain ⟨b19, hF⟩ := sd_ok hF
      refine sd_cald C (sd_mC (sd_m23 k0)) k0 rfl b19 dX10_present_19 rfl (n' := 20) ?_
      refine sd_astore [(5, .ref (E.2.2 (h0 + 1 + 2 * x4.toNatClampNeg))), (1, .int x1), (2, .ref (E.2.2 h0)), (3, .int x3), (4, .int x4)] C dX10_present_20 (by decide) rfl rfl (n' := 22) ?_
      refine sd_iload_n C 1 dX10_present_22 rfl rfl rfl (n' := 23) ?_
      refine sd_aload C 0 dX10_present_23 rfl rfl (n' := 25) ?_
      obtain ⟨q25, e25, hF⟩ := sd_bind hF
      refine sd_callVI [] [.int x1] C (ct_X1_isMissing M (h0 + 1 + 2 * x4.toNatClampNeg) ((sd_c23 k0 (sd_in_lt b19)).1) e25) sd_lX10_108 ⟨rfl, rfl, Nat.le_of_ble_eq_true rfl, Nat.le_of_ble_eq_true rfl⟩ (sd_mC (sd_c23 k0 (sd_in_lt b19)).2) (sd_e2 ((sd_c23 k0 (sd_in_lt b19)).1)) rfl rfl rfl (Nat.le_of_ble_eq_true rfl) dX10_present_25 rfl (n' := 28) ?_
      refine sd_if_eq C (n' := 31) (tgt := 35) dX10_present_28 rfl rfl (fun c28 => ?_) (fun c28 => ?_)
      · replace hF := sd_pos hF c28
        refine sd_iconst C (v := 1) dX10_present_35 rfl rfl (n' := 36) ?_
        refine sd_iadd C dX10_present_36 rfl (n' := 37) ?_
        refine sd_istore_n [(1, .int (x1 + (1 : Int32))), (5, .ref (E.2.2 (h0 + 1 + 2 * x4.toNatClampNeg))), (2, .ref (E.2.2 h0)), (3, .int x3), (4, .int x4)] C dX10_present_37 rfl (by decide) rfl rfl (n' := 38) ?_
        refine sd_iinc [(4, .int (x4 + (1 : Int32))), (1, .int (x1 + (1 : Int32))), (5, .ref (E.2.2 (h0 + 1 + 2 * x4.toNatClampNeg))), (2, .ref (E.2.2 h0)), (3, .int x3)] 4 C dX10_present_38 rfl rfl (by decide) rfl rfl (n' := 41) ?_
        refine sd_goto C (tgt := 10) dX10_present_41 rfl ?_
        refine sd_sub [1, 3, 4, 0] rfl ?_
        exact ih (x1 + (1 : Int32)) x3 (x4 + (1 : Int32)) hF
      · replace hF := sd_neg hF c28
        refine sd_iconst C (v := 0) dX10_present_31 rfl rfl (n' := 32) ?_
        refine sd_goto C (tgt := 36) dX10_present_32 rfl ?_
        refine sd_iadd C dX10_present_36 rfl (n' := 37) ?_
        refine sd_istore_n [(1, .int (x1 + (0 : Int32))), (5, .ref (E.2.2 (h0 + 1 + 2 * x4.toNatClampNeg))), (2, .ref (E.2.2 h0)), (3, .int x3), (4, .int x4)] C dX10_present_37 rfl (by decide) rfl rfl (n' := 38) ?_
        refine sd_iinc [(4, .int (x4 + (1 : Int32))), (1, .int (x1 + (0 : Int32))), (5, .ref (E.2.2 (h0 + 1 + 2 * x4.toNatClampNeg))), (2, .ref (E.2.2 h0)), (3, .int x3)] 4 C dX10_present_38 rfl rfl (by decide) rfl rfl (n' := 41) ?_
        refine sd_goto C (tgt := 10) dX10_present_41 rfl ?_
        refine sd_sub [1, 3, 4, 0] rfl ?_
        exact ih (x1 + (0 : Int32)) x3 (x4 + (1 : Int32)) hF
set_option maxRecDepth 100000 in
set_option maxHeartbeats 4000000 in
theorem tb_X10_present_0 {K : sd_K} {E : sd_Env} {M : sd_Mem} {h0 : Nat} {r : Int32} (C : sd_C K E sd_LC RX10 cX10_present 6 (some .int)) (k0 : sd_kd h0 = 23) : fn_X10_present_0 M h0 = some r → sd_Z K rm_X10_present E sd_LC 6 (sd_QI K E sd_LC r M) M 0 [(0, .ref (E.2.2 h0))] [] := by
  intro hF
  unfold fn_X10_present_0 at hF
  refine sd_iconst C (v := 0) dX10_present_0 rfl rfl (n' := 1) ?_
  refine sd_istore_n [(1, .int (0 : Int32)), (0, .ref (E.2.2 h0))] C dX10_present_1 rfl (by decide) rfl rfl (n' := 2) ?_
  refine sd_aload_n C 1 dX10_present_2 rfl rfl rfl (n' := 3) ?_
  refine sd_astore_n [(2, .ref (E.2.2 h0)), (1, .int (0 : Int32)), (0, .ref (E.2.2 h0))] C dX10_present_3 rfl (by decide) rfl rfl (n' := 4) ?_
  refine sd_aload_n C 0 dX10_present_4 rfl rfl rfl (n' := 5) ?_
  refine sd_alenC C (sd_mC (sd_m23 k0)) k0 rfl rfl dX10_present_5 rfl (n' := 6) ?_
  refine sd_istore_n [(3, .int (Int32.ofNat (sd_ln h0))), (2, .ref (E.2.2 h0)), (1, .int (0 : Int32)), (0, .ref (E.2.2 h0))] C dX10_present_6 rfl (by decide) rfl rfl (n' := 7) ?_
  refine sd_iconst C (v := 0) dX10_present_7 rfl rfl (n' := 8) ?_
  refine sd_istore [(4, .int (0 : Int32)), (3, .int (Int32.ofNat (sd_ln h0))), (2, .ref (E.2.2 h0)), (1, .int (0 : Int32)), (0, .ref (E.2.2 h0))] C dX10_present_8 (by decide) rfl rfl (n' := 10) ?_
  refine sd_sub [3, 2, 1, 0] rfl ?_
  exact tb_X10_present_10 C k0 sd_FU (0 : Int32) (Int32.ofNat (sd_ln h0)) (0 : Int32) hF
theorem ct_X10_present {l : Launch} {E : sd_Env} (M : sd_Mem) (h0 : Nat) (k0 : sd_kd h0 = 23) {r : Int32} (hF : fn_X10_present M h0 = some r) : sd_MI l E sd_LC yX10_present cX10_present 6 (some .int) rm_X10_present [.ref (E.2.2 h0)] M r M := sd_ent0 (by decide +kernel) (Nat.le_of_ble_eq_true rfl) (fun p e s m below meth c C => tb_X10_present_0 C k0 hF)
theorem dX10_waysOf_0 : decode cX10_waysOf 0 = .ok (.iconst 0, 1) := by decide +kernel
theorem dX10_waysOf_1 : decode cX10_waysOf 1 = .ok (.istore_n 2, 1) := by decide +kernel
theorem dX10_waysOf_2 : decode cX10_waysOf 2 = .ok (.aload_n 0, 1) := by decide +kernel
theorem dX10_waysOf_3 : decode cX10_waysOf 3 = .ok (.getfield 20, 3) := by decide +kernel
theorem dX10_waysOf_6 : decode cX10_waysOf 6 = .ok (.astore_n 3, 1) := by decide +kernel
theorem dX10_waysOf_7 : decode cX10_waysOf 7 = .ok (.aload_n 3, 1) := by decide +kernel
theorem dX10_waysOf_8 : decode cX10_waysOf 8 = .ok (.arraylength, 1) := by decide +kernel
theorem dX10_waysOf_9 : decode cX10_waysOf 9 = .ok (.istore 4, 2) := by decide +kernel
theorem dX10_waysOf_11 : decode cX10_waysOf 11 = .ok (.iconst 0, 1) := by decide +kernel
theorem dX10_waysOf_12 : decode cX10_waysOf 12 = .ok (.istore 5, 2) := by decide +kernel
theorem dX10_waysOf_14 : decode cX10_waysOf 14 = .ok (.iload 5, 2) := by decide +kernel
theorem dX10_waysOf_16 : decode cX10_waysOf 16 = .ok (.iload 4, 2) := by decide +kernel
theorem dX10_waysOf_18 : decode cX10_waysOf 18 = .ok (.if_icmp .ge 40, 3) := by decide +kernel
theorem dX10_waysOf_21 : decode cX10_waysOf 21 = .ok (.aload_n 3, 1) := by decide +kernel
theorem dX10_waysOf_22 : decode cX10_waysOf 22 = .ok (.iload 5, 2) := by decide +kernel
theorem dX10_waysOf_24 : decode cX10_waysOf 24 = .ok (.aaload, 1) := by decide +kernel
theorem dX10_waysOf_25 : decode cX10_waysOf 25 = .ok (.astore 6, 2) := by decide +kernel
theorem dX10_waysOf_27 : decode cX10_waysOf 27 = .ok (.iload_n 2, 1) := by decide +kernel
theorem dX10_waysOf_28 : decode cX10_waysOf 28 = .ok (.aload 6, 2) := by decide +kernel
theorem dX10_waysOf_30 : decode cX10_waysOf 30 = .ok (.invokevirtual 185, 3) := by decide +kernel
theorem dX10_waysOf_33 : decode cX10_waysOf 33 = .ok (.ifCond .ne 16, 3) := by decide +kernel
theorem dX10_waysOf_36 : decode cX10_waysOf 36 = .ok (.aload 6, 2) := by decide +kernel
theorem dX10_waysOf_38 : decode cX10_waysOf 38 = .ok (.iload_n 1, 1) := by decide +kernel
theorem dX10_waysOf_39 : decode cX10_waysOf 39 = .ok (.invokevirtual 201, 3) := by decide +kernel
theorem dX10_waysOf_42 : decode cX10_waysOf 42 = .ok (.ifCond .eq 7, 3) := by decide +kernel
theorem dX10_waysOf_45 : decode cX10_waysOf 45 = .ok (.iconst 1, 1) := by decide +kernel
theorem dX10_waysOf_46 : decode cX10_waysOf 46 = .ok (.goto 4, 3) := by decide +kernel
theorem dX10_waysOf_49 : decode cX10_waysOf 49 = .ok (.iconst 0, 1) := by decide +kernel
theorem dX10_waysOf_50 : decode cX10_waysOf 50 = .ok (.iadd, 1) := by decide +kernel
theorem dX10_waysOf_51 : decode cX10_waysOf 51 = .ok (.istore_n 2, 1) := by decide +kernel
theorem dX10_waysOf_52 : decode cX10_waysOf 52 = .ok (.iinc 5 1, 3) := by decide +kernel
theorem dX10_waysOf_55 : decode cX10_waysOf 55 = .ok (.goto (-41), 3) := by decide +kernel
theorem dX10_waysOf_58 : decode cX10_waysOf 58 = .ok (.iload_n 2, 1) := by decide +kernel
theorem dX10_waysOf_59 : decode cX10_waysOf 59 = .ok (.ireturn, 1) := by decide +kernel
set_option maxRecDepth 100000 in
set_option maxHeartbeats 4000000 in
theorem tb_X10_waysOf_14 {K : sd_K} {E : sd_Env} {M : sd_Mem}  {r : Int32} (C : sd_C K E sd_LC RX10 cX10_waysOf 7 (some .int))  : ∀ (n : Nat), ∀ (x1 : Int32) (x2 : Int32) (x4 : Int32) (x5 : Int32), fn_X10_waysOf_14 M n x1 x2 x4 x5 = some r → sd_Z K rm_X10_waysOf E sd_LC 7 (sd_QI K E sd_LC r M) M 14 [(1, .int x1), (2, .int x2), (3, .ref (E.2.2 23)), (4, .int x4), (5, .int x5)] [] := by
  intro n
  induction n with
  | zero => intro x1 x2 x4 x5 hF; cases hF
  | succ n ih =>
    intro x1 x2 x4 x5 hF
    unfold fn_X10_waysOf_14 at hF
    refine sd_iload C 4 dX10_waysOf_14 rfl rfl (n' := 16) ?_
    refine sd_iload C 3 dX10_waysOf_16 rfl rfl (n' := 18) ?_
    refine sd_icmp_ge C (n' := 21) (tgt := 58) dX10_waysOf_18 rfl rfl (fun c18 => ?_) (fun c18 => ?_)
    · replace hF := sd_pos hF c18
      refine sd_iload_n C 1 dX10_waysOf_58 rfl rfl rfl (n' := 59) ?_
      exact sd_iret C dX10_waysOf_59 (Option.some.inj hF) rfl
    · replace hF := sd_neg hF c18
      refine sd_aload_n C 2 dX10_waysOf_21 rfl rfl rfl (n' := 22) ?_
      refine sd_iload C 4 dX10_waysOf_22 rfl rfl (n' := 24) ?_
      obtain ⟨b24, hF⟩ := sd_ok hF
      refine sd_wald C sd_i23 sd_k23 sd_n23 b24 dX10_waysOf_24 rfl (n' := 25) ?_
      refine sd_astore [(6, .ref (E.2.2 (23 + 1 + 2 * x5.toNatClampNeg))), (1, .int x1), (2, .int x2), (3, .ref (E.2.2 23)), (4, .int x4), (5, .int x5)] C dX10_waysOf_25 (by decide) rfl rfl (n' := 27) ?_
      refine sd_iload_n C 2 dX10_waysOf_27 rfl rfl rfl (n' := 28) ?_
      refine sd_aload C 0 dX10_waysOf_28 rfl rfl (n' := 30) ?_
      obtain ⟨q30, e30, hF⟩ := sd_bind hF
      refine sd_callVI [] [.int x2] C (ct_X9_isMissing M (23 + 1 + 2 * x5.toNatClampNeg) ((sd_r23 _ (sd_in_lt b24)).1) e30) sd_lX10_185 ⟨rfl, rfl, Nat.le_of_ble_eq_true rfl, Nat.le_of_ble_eq_true rfl⟩ (sd_mC (sd_r23 _ (sd_in_lt b24)).2) (sd_e10 ((sd_r23 _ (sd_in_lt b24)).1)) rfl rfl rfl (Nat.le_of_ble_eq_true rfl) dX10_waysOf_30 rfl (n' := 33) ?_
      refine sd_if_ne C (n' := 36) (tgt := 49) dX10_waysOf_33 rfl rfl (fun c33 => ?_) (fun c33 => ?_)
      · replace hF := sd_neg hF c33
        refine sd_iconst C (v := 0) dX10_waysOf_49 rfl rfl (n' := 50) ?_
        refine sd_iadd C dX10_waysOf_50 rfl (n' := 51) ?_
        refine sd_istore_n [(2, .int (x2 + (0 : Int32))), (6, .ref (E.2.2 (23 + 1 + 2 * x5.toNatClampNeg))), (1, .int x1), (3, .ref (E.2.2 23)), (4, .int x4), (5, .int x5)] C dX10_waysOf_51 rfl (by decide) rfl rfl (n' := 52) ?_
        refine sd_iinc [(5, .int (x5 + (1 : Int32))), (2, .int (x2 + (0 : Int32))), (6, .ref (E.2.2 (23 + 1 + 2 * x5.toNatClampNeg))), (1, .int x1), (3, .ref (E.2.2 23)), (4, .int x4)] 5 C dX10_waysOf_52 rfl rfl (by decide) rfl rfl (n' := 55) ?_
        refine sd_goto C (tgt := 14) dX10_waysOf_55 rfl ?_
        refine sd_sub [3, 1, 4, 5, 0] rfl ?_
        exact ih x1 (x2 + (0 : Int32)) x4 (x5 + (1 : Int32)) hF
      · replace hF := sd_pos hF c33
        refine sd_aload C 0 dX10_waysOf_36 rfl rfl (n' := 38) ?_
        refine sd_iload_n C 1 dX10_waysOf_38 rfl rfl rfl (n' := 39) ?_
        obtain ⟨q39, e39, hF⟩ := sd_bind hF
        refine sd_callVI [.int x1] [.int x2] C (ct_X9_is M (23 + 1 + 2 * x5.toNatClampNeg) x1 ((sd_r23 _ (sd_in_lt b24)).1) e39) sd_lX10_201 ⟨rfl, rfl, Nat.le_of_ble_eq_true rfl, Nat.le_of_ble_eq_true rfl⟩ (sd_mC (sd_r23 _ (sd_in_lt b24)).2) (sd_e10 ((sd_r23 _ (sd_in_lt b24)).1)) rfl rfl rfl (Nat.le_of_ble_eq_true rfl) dX10_waysOf_39 rfl (n' := 42) ?_
        refine sd_if_eq C (n' := 45) (tgt := 49) dX10_waysOf_42 rfl rfl (fun c42 => ?_) (fun c42 => ?_)
        · replace hF := sd_pos hF c42
          refine sd_iconst C (v := 0) dX10_waysOf_49 rfl rfl (n' := 50) ?_
          refine sd_iadd C dX10_waysOf_50 rfl (n' := 51) ?_
          refine sd_istore_n [(2, .int (x2 + (0 : Int32))), (6, .ref (E.2.2 (23 + 1 + 2 * x5.toNatClampNeg))), (1, .int x1), (3, .ref (E.2.2 23)), (4, .int x4), (5, .int x5)] C dX10_waysOf_51 rfl (by decide) rfl rfl (n' := 52) ?_
          refine sd_iinc [(5, .int (x5 + (1 : Int32))), (2, .int (x2 + (0 : Int32))), (6, .ref (E.2.2 (23 + 1 + 2 * x5.toNatClampNeg))), (1, .int x1), (3, .ref (E.2.2 23)), (4, .int x4)] 5 C dX10_waysOf_52 rfl rfl (by decide) rfl rfl (n' := 55) ?_
          refine sd_goto C (tgt := 14) dX10_waysOf_55 rfl ?_
          refine sd_sub [3, 1, 4, 5, 0] rfl ?_
          exact ih x1 (x2 + (0 : Int32)) x4 (x5 + (1 : Int32)) hF
        · replace hF := sd_neg hF c42
          refine sd_iconst C (v := 1) dX10_waysOf_45 rfl rfl (n' := 46) ?_
          refine sd_goto C (tgt := 50) dX10_waysOf_46 rfl ?_
          refine sd_iadd C dX10_waysOf_50 rfl (n' := 51) ?_
          refine sd_istore_n [(2, .int (x2 + (1 : Int32))), (6, .ref (E.2.2 (23 + 1 + 2 * x5.toNatClampNeg))), (1, .int x1), (3, .ref (E.2.2 23)), (4, .int x4), (5, .int x5)] C dX10_waysOf_51 rfl (by decide) rfl rfl (n' := 52) ?_
          refine sd_iinc [(5, .int (x5 + (1 : Int32))), (2, .int (x2 + (1 : Int32))), (6, .ref (E.2.2 (23 + 1 + 2 * x5.toNatClampNeg))), (1, .int x1), (3, .ref (E.2.2 23)), (4, .int x4)] 5 C dX10_waysOf_52 rfl rfl (by decide) rfl rfl (n' := 55) ?_
          refine sd_goto C (tgt := 14) dX10_waysOf_55 rfl ?_
          refine sd_sub [3, 1, 4, 5, 0] rfl ?_
          exact ih x1 (x2 + (1 : Int32)) x4 (x5 + (1 : Int32)) hF
set_option maxRecDepth 100000 in
set_option maxHeartbeats 4000000 in
theorem tb_X10_waysOf_0 {K : sd_K} {E : sd_Env} {M : sd_Mem}  {r : Int32} (C : sd_C K E sd_LC RX10 cX10_waysOf 7 (some .int))  : ∀ (x1 : Int32), fn_X10_waysOf_0 M x1 = some r → sd_Z K rm_X10_waysOf E sd_LC 7 (sd_QI K E sd_LC r M) M 0 [(0, .ref (E.2.2 0)), (1, .int x1)] [] := by
  intro x1 hF
  unfold fn_X10_waysOf_0 at hF
  refine sd_iconst C (v := 0) dX10_waysOf_0 rfl rfl (n' := 1) ?_
  refine sd_istore_n [(2, .int (0 : Int32)), (0, .ref (E.2.2 0)), (1, .int x1)] C dX10_waysOf_1 rfl (by decide) rfl rfl (n' := 2) ?_
  refine sd_aload_n C 1 dX10_waysOf_2 rfl rfl rfl (n' := 3) ?_
  refine sd_g10_2 C sd_i0 sd_k0 sd_w330 dX10_waysOf_3 rfl (n' := 6) ?_
  refine sd_astore_n [(3, .ref (E.2.2 23)), (2, .int (0 : Int32)), (0, .ref (E.2.2 0)), (1, .int x1)] C dX10_waysOf_6 rfl (by decide) rfl rfl (n' := 7) ?_
  refine sd_aload_n C 0 dX10_waysOf_7 rfl rfl rfl (n' := 8) ?_
  refine sd_alenW C sd_i23 sd_k23 sd_n23 rfl dX10_waysOf_8 rfl (n' := 9) ?_
  refine sd_istore [(4, .int (8 : Int32)), (3, .ref (E.2.2 23)), (2, .int (0 : Int32)), (0, .ref (E.2.2 0)), (1, .int x1)] C dX10_waysOf_9 (by decide) rfl rfl (n' := 11) ?_
  refine sd_iconst C (v := 0) dX10_waysOf_11 rfl rfl (n' := 12) ?_
  refine sd_istore [(5, .int (0 : Int32)), (4, .int (8 : Int32)), (3, .ref (E.2.2 23)), (2, .int (0 : Int32)), (0, .ref (E.2.2 0)), (1, .int x1)] C dX10_waysOf_12 (by decide) rfl rfl (n' := 14) ?_
  refine sd_sub [5, 3, 2, 1, 0] rfl ?_
  exact tb_X10_waysOf_14 C sd_FU x1 (0 : Int32) (8 : Int32) (0 : Int32) hF
theorem ct_X10_waysOf {l : Launch} {E : sd_Env} (M : sd_Mem) (x1 : Int32)  {r : Int32} (hF : fn_X10_waysOf M x1 = some r) : sd_MI l E sd_LC yX10_waysOf cX10_waysOf 7 (some .int) rm_X10_waysOf [.ref (E.2.2 0), .int x1] M r M := sd_ent0 (by decide +kernel) (Nat.le_of_ble_eq_true rfl) (fun p e s m below meth c C => tb_X10_waysOf_0 C x1 hF)
theorem dX10_counted_0 : decode cX10_counted 0 = .ok (.iload_n 1, 1) := by decide +kernel
theorem dX10_counted_1 : decode cX10_counted 1 = .ok (.tableswitch 59 0 3 #[31, 39, 47, 53], 31) := by decide +kernel
theorem dX10_counted_32 : decode cX10_counted 32 = .ok (.aload_n 0, 1) := by decide +kernel
theorem dX10_counted_33 : decode cX10_counted 33 = .ok (.getfield 11, 3) := by decide +kernel
theorem dX10_counted_36 : decode cX10_counted 36 = .ok (.invokestatic 374, 3) := by decide +kernel
theorem dX10_counted_39 : decode cX10_counted 39 = .ok (.ireturn, 1) := by decide +kernel
theorem dX10_counted_40 : decode cX10_counted 40 = .ok (.aload_n 0, 1) := by decide +kernel
theorem dX10_counted_41 : decode cX10_counted 41 = .ok (.getfield 15, 3) := by decide +kernel
theorem dX10_counted_44 : decode cX10_counted 44 = .ok (.invokestatic 374, 3) := by decide +kernel
theorem dX10_counted_47 : decode cX10_counted 47 = .ok (.ireturn, 1) := by decide +kernel
theorem dX10_counted_48 : decode cX10_counted 48 = .ok (.aload_n 0, 1) := by decide +kernel
theorem dX10_counted_49 : decode cX10_counted 49 = .ok (.iconst 0, 1) := by decide +kernel
theorem dX10_counted_50 : decode cX10_counted 50 = .ok (.invokevirtual 378, 3) := by decide +kernel
theorem dX10_counted_53 : decode cX10_counted 53 = .ok (.ireturn, 1) := by decide +kernel
theorem dX10_counted_54 : decode cX10_counted 54 = .ok (.aload_n 0, 1) := by decide +kernel
theorem dX10_counted_55 : decode cX10_counted 55 = .ok (.iconst 2, 1) := by decide +kernel
theorem dX10_counted_56 : decode cX10_counted 56 = .ok (.invokevirtual 378, 3) := by decide +kernel
theorem dX10_counted_59 : decode cX10_counted 59 = .ok (.ireturn, 1) := by decide +kernel
theorem dX10_counted_60 : decode cX10_counted 60 = .ok (.aload_n 0, 1) := by decide +kernel
theorem dX10_counted_61 : decode cX10_counted 61 = .ok (.getfield 70, 3) := by decide +kernel
theorem dX10_counted_64 : decode cX10_counted 64 = .ok (.invokevirtual 381, 3) := by decide +kernel
theorem dX10_counted_67 : decode cX10_counted 67 = .ok (.ireturn, 1) := by decide +kernel
set_option maxRecDepth 100000 in
set_option maxHeartbeats 4000000 in
theorem tb_X10_counted_0 {K : sd_K} {E : sd_Env} {M : sd_Mem}  {r : Int32} (C : sd_C K E sd_LC RX10 cX10_counted 2 (some .int))  : ∀ (x1 : Int32), fn_X10_counted_0 M x1 = some r → sd_Z K rm_X10_counted E sd_LC 2 (sd_QI K E sd_LC r M) M 0 [(0, .ref (E.2.2 0)), (1, .int x1)] [] := by
  intro x1 hF
  unfold fn_X10_counted_0 at hF
  refine sd_iload_n C 1 dX10_counted_0 rfl rfl rfl (n' := 1) ?_
  by_cases c1 : x1.toInt < 0 ∨ 3 < x1.toInt
  · replace hF := sd_pos hF c1
    refine sd_tabOut C (tgt := 60) dX10_counted_1 c1 rfl ?_
    refine sd_aload_n C 0 dX10_counted_60 rfl rfl rfl (n' := 61) ?_
    refine sd_g10_10 C sd_i0 sd_k0 sd_w338 dX10_counted_61 rfl (n' := 64) ?_
    obtain ⟨q64, e64, hF⟩ := sd_bind hF
    refine sd_callVI [] [] C (ct_X8_menInAll M   e64) sd_lX10_381 ⟨rfl, rfl, Nat.le_of_ble_eq_true rfl, Nat.le_of_ble_eq_true rfl⟩ sd_i90 (sd_e9 sd_k90) rfl rfl rfl (Nat.le_of_ble_eq_true rfl) dX10_counted_64 rfl (n' := 67) ?_
    exact sd_iret C dX10_counted_67 (Option.some.inj hF) rfl
  replace hF := sd_neg hF c1
  by_cases c1_0 : x1 = 0
  · replace hF := sd_pos hF c1_0
    refine sd_tabIn C (v := 0) (tgt := 32) c1_0 dX10_counted_1 (by decide) (by decide) rfl rfl ?_
    refine sd_aload_n C 0 dX10_counted_32 rfl rfl rfl (n' := 33) ?_
    refine sd_g10_0 C sd_i0 sd_k0 sd_w328 dX10_counted_33 rfl (n' := 36) ?_
    obtain ⟨q36, e36, hF⟩ := sd_bind hF
    refine sd_callSI [.ref (E.2.2 1)] [] C (ct_X10_present M 1 sd_k1 e36) sd_lX10_374 ⟨rfl, rfl, Nat.le_of_ble_eq_true rfl, Nat.le_of_ble_eq_true rfl⟩ rfl (Nat.le_of_ble_eq_true rfl) dX10_counted_36 rfl (n' := 39) ?_
    exact sd_iret C dX10_counted_39 (Option.some.inj hF) rfl
  replace hF := sd_neg hF c1_0
  by_cases c1_1 : x1 = 1
  · replace hF := sd_pos hF c1_1
    refine sd_tabIn C (v := 1) (tgt := 40) c1_1 dX10_counted_1 (by decide) (by decide) rfl rfl ?_
    refine sd_aload_n C 0 dX10_counted_40 rfl rfl rfl (n' := 41) ?_
    refine sd_g10_1 C sd_i0 sd_k0 sd_w329 dX10_counted_41 rfl (n' := 44) ?_
    obtain ⟨q44, e44, hF⟩ := sd_bind hF
    refine sd_callSI [.ref (E.2.2 14)] [] C (ct_X10_present M 14 sd_k14 e44) sd_lX10_374 ⟨rfl, rfl, Nat.le_of_ble_eq_true rfl, Nat.le_of_ble_eq_true rfl⟩ rfl (Nat.le_of_ble_eq_true rfl) dX10_counted_44 rfl (n' := 47) ?_
    exact sd_iret C dX10_counted_47 (Option.some.inj hF) rfl
  replace hF := sd_neg hF c1_1
  by_cases c1_2 : x1 = 2
  · replace hF := sd_pos hF c1_2
    refine sd_tabIn C (v := 2) (tgt := 48) c1_2 dX10_counted_1 (by decide) (by decide) rfl rfl ?_
    refine sd_aload_n C 0 dX10_counted_48 rfl rfl rfl (n' := 49) ?_
    refine sd_iconst C (v := 0) dX10_counted_49 rfl rfl (n' := 50) ?_
    obtain ⟨q50, e50, hF⟩ := sd_bind hF
    refine sd_callVI [.int (0 : Int32)] [] C (ct_X10_waysOf M (0 : Int32)  e50) sd_lX10_378 ⟨rfl, rfl, Nat.le_of_ble_eq_true rfl, Nat.le_of_ble_eq_true rfl⟩ sd_i0 (sd_e11 sd_k0) rfl rfl rfl (Nat.le_of_ble_eq_true rfl) dX10_counted_50 rfl (n' := 53) ?_
    exact sd_iret C dX10_counted_53 (Option.some.inj hF) rfl
  replace hF := sd_neg hF c1_2
  by_cases c1_3 : x1 = 3
  · replace hF := sd_pos hF c1_3
    refine sd_tabIn C (v := 3) (tgt := 54) c1_3 dX10_counted_1 (by decide) (by decide) rfl rfl ?_
    refine sd_aload_n C 0 dX10_counted_54 rfl rfl rfl (n' := 55) ?_
    refine sd_iconst C (v := 2) dX10_counted_55 rfl rfl (n' := 56) ?_
    obtain ⟨q56, e56, hF⟩ := sd_bind hF
    refine sd_callVI [.int (2 : Int32)] [] C (ct_X10_waysOf M (2 : Int32)  e56) sd_lX10_378 ⟨rfl, rfl, Nat.le_of_ble_eq_true rfl, Nat.le_of_ble_eq_true rfl⟩ sd_i0 (sd_e11 sd_k0) rfl rfl rfl (Nat.le_of_ble_eq_true rfl) dX10_counted_56 rfl (n' := 59) ?_
    exact sd_iret C dX10_counted_59 (Option.some.inj hF) rfl
  replace hF := sd_neg hF c1_3
  cases hF
theorem ct_X10_counted {l : Launch} {E : sd_Env} (M : sd_Mem) (x1 : Int32)  {r : Int32} (hF : fn_X10_counted M x1 = some r) : sd_MI l E sd_LC yX10_counted cX10_counted 2 (some .int) rm_X10_counted [.ref (E.2.2 0), .int x1] M r M := sd_ent0 (by decide +kernel) (Nat.le_of_ble_eq_true rfl) (fun p e s m below meth c C => tb_X10_counted_0 C x1 hF)
theorem dX10_count_0 : decode cX10_count 0 = .ok (.iload_n 1, 1) := by decide +kernel
theorem dX10_count_1 : decode cX10_count 1 = .ok (.iconst 0, 1) := by decide +kernel
theorem dX10_count_2 : decode cX10_count 2 = .ok (.iconst 4, 1) := by decide +kernel
theorem dX10_count_3 : decode cX10_count 3 = .ok (.invokestatic 152, 3) := by decide +kernel
theorem dX10_count_6 : decode cX10_count 6 = .ok (.ifCond .ne 5, 3) := by decide +kernel
theorem dX10_count_9 : decode cX10_count 9 = .ok (.iconst (-1), 1) := by decide +kernel
theorem dX10_count_10 : decode cX10_count 10 = .ok (.ireturn, 1) := by decide +kernel
theorem dX10_count_11 : decode cX10_count 11 = .ok (.aload_n 0, 1) := by decide +kernel
theorem dX10_count_12 : decode cX10_count 12 = .ok (.iload_n 1, 1) := by decide +kernel
theorem dX10_count_13 : decode cX10_count 13 = .ok (.invokevirtual 343, 3) := by decide +kernel
theorem dX10_count_16 : decode cX10_count 16 = .ok (.ireturn, 1) := by decide +kernel
set_option maxRecDepth 100000 in
set_option maxHeartbeats 4000000 in
theorem tb_X10_count_0 {K : sd_K} {E : sd_Env} {M : sd_Mem}  {r : Int32} (C : sd_C K E sd_LC RX10 cX10_count 2 (some .int))  : ∀ (x1 : Int32), fn_X10_count_0 M x1 = some r → sd_Z K rm_X10_count E sd_LC 2 (sd_QI K E sd_LC r M) M 0 [(0, .ref (E.2.2 0)), (1, .int x1)] [] := by
  intro x1 hF
  unfold fn_X10_count_0 at hF
  refine sd_iload_n C 1 dX10_count_0 rfl rfl rfl (n' := 1) ?_
  refine sd_iconst C (v := 0) dX10_count_1 rfl rfl (n' := 2) ?_
  refine sd_iconst C (v := 4) dX10_count_2 rfl rfl (n' := 3) ?_
  obtain ⟨q3, e3, hF⟩ := sd_bind hF
  refine sd_callSI [.int x1, .int (0 : Int32), .int (4 : Int32)] [] C (ct_X10_within M x1 (0 : Int32) (4 : Int32)  e3) sd_lX10_152 ⟨rfl, rfl, Nat.le_of_ble_eq_true rfl, Nat.le_of_ble_eq_true rfl⟩ rfl (Nat.le_of_ble_eq_true rfl) dX10_count_3 rfl (n' := 6) ?_
  refine sd_if_ne C (n' := 9) (tgt := 11) dX10_count_6 rfl rfl (fun c6 => ?_) (fun c6 => ?_)
  · replace hF := sd_neg hF c6
    refine sd_aload_n C 0 dX10_count_11 rfl rfl rfl (n' := 12) ?_
    refine sd_iload_n C 1 dX10_count_12 rfl rfl rfl (n' := 13) ?_
    obtain ⟨q13, e13, hF⟩ := sd_bind hF
    refine sd_callVI [.int x1] [] C (ct_X10_counted M x1  e13) sd_lX10_343 ⟨rfl, rfl, Nat.le_of_ble_eq_true rfl, Nat.le_of_ble_eq_true rfl⟩ sd_i0 (sd_e11 sd_k0) rfl rfl rfl (Nat.le_of_ble_eq_true rfl) dX10_count_13 rfl (n' := 16) ?_
    exact sd_iret C dX10_count_16 (Option.some.inj hF) rfl
  · replace hF := sd_pos hF c6
    refine sd_iconst C (v := -1) dX10_count_9 rfl rfl (n' := 10) ?_
    exact sd_iret C dX10_count_10 (Option.some.inj hF) rfl
theorem ct_X10_count {l : Launch} {E : sd_Env} (M : sd_Mem) (x1 : Int32)  {r : Int32} (hF : fn_X10_count M x1 = some r) : sd_MI l E sd_LC yX10_count cX10_count 2 (some .int) rm_X10_count [.ref (E.2.2 0), .int x1] M r M := sd_ent0 (by decide +kernel) (Nat.le_of_ble_eq_true rfl) (fun p e s m below meth c C => tb_X10_count_0 C x1 hF)
theorem dX2_latest_0 : decode cX2_latest 0 = .ok (.aload_n 0, 1) := by decide +kernel
theorem dX2_latest_1 : decode cX2_latest 1 = .ok (.getfield 15, 3) := by decide +kernel
theorem dX2_latest_4 : decode cX2_latest 4 = .ok (.ireturn, 1) := by decide +kernel
set_option maxRecDepth 100000 in
set_option maxHeartbeats 4000000 in
theorem tb_X2_latest_0 {K : sd_K} {E : sd_Env} {M : sd_Mem}  {r : Int32} (C : sd_C K E sd_LC RX2 cX2_latest 1 (some .int))  : fn_X2_latest_0 M = some r → sd_Z K rm_X2_latest E sd_LC 1 (sd_QI K E sd_LC r M) M 0 [(0, .ref (E.2.2 97))] [] := by
  intro hF
  unfold fn_X2_latest_0 at hF
  refine sd_aload_n C 0 dX2_latest_0 rfl rfl rfl (n' := 1) ?_
  refine sd_g2_1 C sd_i97 sd_k97 sd_w295 dX2_latest_1 rfl (n' := 4) ?_
  exact sd_iret C dX2_latest_4 (Option.some.inj hF) rfl
theorem ct_X2_latest {l : Launch} {E : sd_Env} (M : sd_Mem)   {r : Int32} (hF : fn_X2_latest M = some r) : sd_MI l E sd_LC yX2_latest cX2_latest 1 (some .int) rm_X2_latest [.ref (E.2.2 97)] M r M := sd_ent0 (by decide +kernel) (Nat.le_of_ble_eq_true rfl) (fun p e s m below meth c C => tb_X2_latest_0 C hF)
theorem dX10_finding_0 : decode cX10_finding 0 = .ok (.aload_n 0, 1) := by decide +kernel
theorem dX10_finding_1 : decode cX10_finding 1 = .ok (.getfield 84, 3) := by decide +kernel
theorem dX10_finding_4 : decode cX10_finding 4 = .ok (.invokevirtual 346, 3) := by decide +kernel
theorem dX10_finding_7 : decode cX10_finding 7 = .ok (.ireturn, 1) := by decide +kernel
set_option maxRecDepth 100000 in
set_option maxHeartbeats 4000000 in
theorem tb_X10_finding_0 {K : sd_K} {E : sd_Env} {M : sd_Mem}  {r : Int32} (C : sd_C K E sd_LC RX10 cX10_finding 1 (some .int))  : fn_X10_finding_0 M = some r → sd_Z K rm_X10_finding E sd_LC 1 (sd_QI K E sd_LC r M) M 0 [(0, .ref (E.2.2 0))] [] := by
  intro hF
  unfold fn_X10_finding_0 at hF
  refine sd_aload_n C 0 dX10_finding_0 rfl rfl rfl (n' := 1) ?_
  refine sd_g10_12 C sd_i0 sd_k0 sd_w340 dX10_finding_1 rfl (n' := 4) ?_
  obtain ⟨q4, e4, hF⟩ := sd_bind hF
  refine sd_callVI [] [] C (ct_X2_latest M   e4) sd_lX10_346 ⟨rfl, rfl, Nat.le_of_ble_eq_true rfl, Nat.le_of_ble_eq_true rfl⟩ sd_i97 (sd_e3 sd_k97) rfl rfl rfl (Nat.le_of_ble_eq_true rfl) dX10_finding_4 rfl (n' := 7) ?_
  exact sd_iret C dX10_finding_7 (Option.some.inj hF) rfl
theorem ct_X10_finding {l : Launch} {E : sd_Env} (M : sd_Mem)   {r : Int32} (hF : fn_X10_finding M = some r) : sd_MI l E sd_LC yX10_finding cX10_finding 1 (some .int) rm_X10_finding [.ref (E.2.2 0)] M r M := sd_ent0 (by decide +kernel) (Nat.le_of_ble_eq_true rfl) (fun p e s m below meth c C => tb_X10_finding_0 C hF)
theorem dX2_often_0 : decode cX2_often 0 = .ok (.iload_n 1, 1) := by decide +kernel
theorem dX2_often_1 : decode cX2_often 1 = .ok (.iconst 1, 1) := by decide +kernel
theorem dX2_often_2 : decode cX2_often 2 = .ok (.iconst 5, 1) := by decide +kernel
theorem dX2_often_3 : decode cX2_often 3 = .ok (.invokestatic 19, 3) := by decide +kernel
theorem dX2_often_6 : decode cX2_often 6 = .ok (.ifCond .eq 12, 3) := by decide +kernel
theorem dX2_often_9 : decode cX2_often 9 = .ok (.aload_n 0, 1) := by decide +kernel
theorem dX2_often_10 : decode cX2_often 10 = .ok (.getfield 9, 3) := by decide +kernel
theorem dX2_often_13 : decode cX2_often 13 = .ok (.iload_n 1, 1) := by decide +kernel
theorem dX2_often_14 : decode cX2_often 14 = .ok (.iaload, 1) := by decide +kernel
theorem dX2_often_15 : decode cX2_often 15 = .ok (.goto 4, 3) := by decide +kernel
theorem dX2_often_18 : decode cX2_often 18 = .ok (.iconst 0, 1) := by decide +kernel
theorem dX2_often_19 : decode cX2_often 19 = .ok (.ireturn, 1) := by decide +kernel
set_option maxRecDepth 100000 in
set_option maxHeartbeats 4000000 in
theorem tb_X2_often_0 {K : sd_K} {E : sd_Env} {M : sd_Mem}  {r : Int32} (C : sd_C K E sd_LC RX2 cX2_often 2 (some .int))  : ∀ (x1 : Int32), fn_X2_often_0 M x1 = some r → sd_Z K rm_X2_often E sd_LC 2 (sd_QI K E sd_LC r M) M 0 [(0, .ref (E.2.2 97)), (1, .int x1)] [] := by
  intro x1 hF
  unfold fn_X2_often_0 at hF
  refine sd_iload_n C 1 dX2_often_0 rfl rfl rfl (n' := 1) ?_
  refine sd_iconst C (v := 1) dX2_often_1 rfl rfl (n' := 2) ?_
  refine sd_iconst C (v := 5) dX2_often_2 rfl rfl (n' := 3) ?_
  obtain ⟨q3, e3, hF⟩ := sd_bind hF
  refine sd_callNI [.int x1, .int (1 : Int32), .int (5 : Int32)] [] C (ct_X10_within M x1 (1 : Int32) (5 : Int32)  e3) sd_lX2_19 ⟨rfl, rfl, Nat.le_of_ble_eq_true rfl, Nat.le_of_ble_eq_true rfl⟩ rfl (Nat.le_of_ble_eq_true rfl) dX2_often_3 rfl (n' := 6) ?_
  refine sd_if_eq C (n' := 9) (tgt := 18) dX2_often_6 rfl rfl (fun c6 => ?_) (fun c6 => ?_)
  · replace hF := sd_pos hF c6
    refine sd_iconst C (v := 0) dX2_often_18 rfl rfl (n' := 19) ?_
    exact sd_iret C dX2_often_19 (Option.some.inj hF) rfl
  · replace hF := sd_neg hF c6
    refine sd_aload_n C 0 dX2_often_9 rfl rfl rfl (n' := 10) ?_
    refine sd_g2_0 C sd_i97 sd_k97 sd_w294 dX2_often_10 rfl (n' := 13) ?_
    refine sd_iload_n C 1 dX2_often_13 rfl rfl rfl (n' := 14) ?_
    obtain ⟨b14, hF⟩ := sd_ok hF
    refine sd_iald C sd_i98 sd_k98 sd_n98 b14 dX2_often_14 rfl (n' := 15) ?_
    refine sd_goto C (tgt := 19) dX2_often_15 rfl ?_
    exact sd_iret C dX2_often_19 (Option.some.inj hF) rfl
theorem ct_X2_often {l : Launch} {E : sd_Env} (M : sd_Mem) (x1 : Int32)  {r : Int32} (hF : fn_X2_often M x1 = some r) : sd_MI l E sd_LC yX2_often cX2_often 2 (some .int) rm_X2_often [.ref (E.2.2 97), .int x1] M r M := sd_ent0 (by decide +kernel) (Nat.le_of_ble_eq_true rfl) (fun p e s m below meth c C => tb_X2_often_0 C x1 hF)
theorem dX10_findings_0 : decode cX10_findings 0 = .ok (.iload_n 1, 1) := by decide +kernel
theorem dX10_findings_1 : decode cX10_findings 1 = .ok (.iconst 1, 1) := by decide +kernel
theorem dX10_findings_2 : decode cX10_findings 2 = .ok (.iconst 5, 1) := by decide +kernel
theorem dX10_findings_3 : decode cX10_findings 3 = .ok (.invokestatic 152, 3) := by decide +kernel
theorem dX10_findings_6 : decode cX10_findings 6 = .ok (.ifCond .ne 5, 3) := by decide +kernel
theorem dX10_findings_9 : decode cX10_findings 9 = .ok (.iconst (-1), 1) := by decide +kernel
theorem dX10_findings_10 : decode cX10_findings 10 = .ok (.ireturn, 1) := by decide +kernel
theorem dX10_findings_11 : decode cX10_findings 11 = .ok (.aload_n 0, 1) := by decide +kernel
theorem dX10_findings_12 : decode cX10_findings 12 = .ok (.getfield 84, 3) := by decide +kernel
theorem dX10_findings_15 : decode cX10_findings 15 = .ok (.iload_n 1, 1) := by decide +kernel
theorem dX10_findings_16 : decode cX10_findings 16 = .ok (.invokevirtual 349, 3) := by decide +kernel
theorem dX10_findings_19 : decode cX10_findings 19 = .ok (.ireturn, 1) := by decide +kernel
set_option maxRecDepth 100000 in
set_option maxHeartbeats 4000000 in
theorem tb_X10_findings_0 {K : sd_K} {E : sd_Env} {M : sd_Mem}  {r : Int32} (C : sd_C K E sd_LC RX10 cX10_findings 2 (some .int))  : ∀ (x1 : Int32), fn_X10_findings_0 M x1 = some r → sd_Z K rm_X10_findings E sd_LC 2 (sd_QI K E sd_LC r M) M 0 [(0, .ref (E.2.2 0)), (1, .int x1)] [] := by
  intro x1 hF
  unfold fn_X10_findings_0 at hF
  refine sd_iload_n C 1 dX10_findings_0 rfl rfl rfl (n' := 1) ?_
  refine sd_iconst C (v := 1) dX10_findings_1 rfl rfl (n' := 2) ?_
  refine sd_iconst C (v := 5) dX10_findings_2 rfl rfl (n' := 3) ?_
  obtain ⟨q3, e3, hF⟩ := sd_bind hF
  refine sd_callSI [.int x1, .int (1 : Int32), .int (5 : Int32)] [] C (ct_X10_within M x1 (1 : Int32) (5 : Int32)  e3) sd_lX10_152 ⟨rfl, rfl, Nat.le_of_ble_eq_true rfl, Nat.le_of_ble_eq_true rfl⟩ rfl (Nat.le_of_ble_eq_true rfl) dX10_findings_3 rfl (n' := 6) ?_
  refine sd_if_ne C (n' := 9) (tgt := 11) dX10_findings_6 rfl rfl (fun c6 => ?_) (fun c6 => ?_)
  · replace hF := sd_neg hF c6
    refine sd_aload_n C 0 dX10_findings_11 rfl rfl rfl (n' := 12) ?_
    refine sd_g10_12 C sd_i0 sd_k0 sd_w340 dX10_findings_12 rfl (n' := 15) ?_
    refine sd_iload_n C 1 dX10_findings_15 rfl rfl rfl (n' := 16) ?_
    obtain ⟨q16, e16, hF⟩ := sd_bind hF
    refine sd_callVI [.int x1] [] C (ct_X2_often M x1  e16) sd_lX10_349 ⟨rfl, rfl, Nat.le_of_ble_eq_true rfl, Nat.le_of_ble_eq_true rfl⟩ sd_i97 (sd_e3 sd_k97) rfl rfl rfl (Nat.le_of_ble_eq_true rfl) dX10_findings_16 rfl (n' := 19) ?_
    exact sd_iret C dX10_findings_19 (Option.some.inj hF) rfl
  · replace hF := sd_pos hF c6
    refine sd_iconst C (v := -1) dX10_findings_9 rfl rfl (n' := 10) ?_
    exact sd_iret C dX10_findings_10 (Option.some.inj hF) rfl
theorem ct_X10_findings {l : Launch} {E : sd_Env} (M : sd_Mem) (x1 : Int32)  {r : Int32} (hF : fn_X10_findings M x1 = some r) : sd_MI l E sd_LC yX10_findings cX10_findings 2 (some .int) rm_X10_findings [.ref (E.2.2 0), .int x1] M r M := sd_ent0 (by decide +kernel) (Nat.le_of_ble_eq_true rfl) (fun p e s m below meth c C => tb_X10_findings_0 C x1 hF)
theorem dX5_mixInto_0 : decode cX5_mixInto 0 = .ok (.lload_n 1, 1) := by decide +kernel
theorem dX5_mixInto_1 : decode cX5_mixInto 1 = .ok (.lstore_n 3, 1) := by decide +kernel
theorem dX5_mixInto_2 : decode cX5_mixInto 2 = .ok (.iconst 0, 1) := by decide +kernel
theorem dX5_mixInto_3 : decode cX5_mixInto 3 = .ok (.istore 5, 2) := by decide +kernel
theorem dX5_mixInto_5 : decode cX5_mixInto 5 = .ok (.iload 5, 2) := by decide +kernel
theorem dX5_mixInto_7 : decode cX5_mixInto 7 = .ok (.iconst 1, 1) := by decide +kernel
theorem dX5_mixInto_8 : decode cX5_mixInto 8 = .ok (.if_icmp .gt 61, 3) := by decide +kernel
theorem dX5_mixInto_11 : decode cX5_mixInto 11 = .ok (.iconst 0, 1) := by decide +kernel
theorem dX5_mixInto_12 : decode cX5_mixInto 12 = .ok (.istore 6, 2) := by decide +kernel
theorem dX5_mixInto_14 : decode cX5_mixInto 14 = .ok (.iload 6, 2) := by decide +kernel
theorem dX5_mixInto_16 : decode cX5_mixInto 16 = .ok (.aload_n 0, 1) := by decide +kernel
theorem dX5_mixInto_17 : decode cX5_mixInto 17 = .ok (.iload 5, 2) := by decide +kernel
theorem dX5_mixInto_19 : decode cX5_mixInto 19 = .ok (.invokevirtual 52, 3) := by decide +kernel
theorem dX5_mixInto_22 : decode cX5_mixInto 22 = .ok (.if_icmp .ge 41, 3) := by decide +kernel
theorem dX5_mixInto_25 : decode cX5_mixInto 25 = .ok (.ldc2_w 104, 3) := by decide +kernel
theorem dX5_mixInto_28 : decode cX5_mixInto 28 = .ok (.lload_n 3, 1) := by decide +kernel
theorem dX5_mixInto_29 : decode cX5_mixInto 29 = .ok (.lmul, 1) := by decide +kernel
theorem dX5_mixInto_30 : decode cX5_mixInto 30 = .ok (.aload_n 0, 1) := by decide +kernel
theorem dX5_mixInto_31 : decode cX5_mixInto 31 = .ok (.iload 5, 2) := by decide +kernel
theorem dX5_mixInto_33 : decode cX5_mixInto 33 = .ok (.iload 6, 2) := by decide +kernel
theorem dX5_mixInto_35 : decode cX5_mixInto 35 = .ok (.invokevirtual 59, 3) := by decide +kernel
theorem dX5_mixInto_38 : decode cX5_mixInto 38 = .ok (.i2l, 1) := by decide +kernel
theorem dX5_mixInto_39 : decode cX5_mixInto 39 = .ok (.ladd, 1) := by decide +kernel
theorem dX5_mixInto_40 : decode cX5_mixInto 40 = .ok (.lstore_n 3, 1) := by decide +kernel
theorem dX5_mixInto_41 : decode cX5_mixInto 41 = .ok (.ldc2_w 104, 3) := by decide +kernel
theorem dX5_mixInto_44 : decode cX5_mixInto 44 = .ok (.lload_n 3, 1) := by decide +kernel
theorem dX5_mixInto_45 : decode cX5_mixInto 45 = .ok (.lmul, 1) := by decide +kernel
theorem dX5_mixInto_46 : decode cX5_mixInto 46 = .ok (.aload_n 0, 1) := by decide +kernel
theorem dX5_mixInto_47 : decode cX5_mixInto 47 = .ok (.iload 5, 2) := by decide +kernel
theorem dX5_mixInto_49 : decode cX5_mixInto 49 = .ok (.iload 6, 2) := by decide +kernel
theorem dX5_mixInto_51 : decode cX5_mixInto 51 = .ok (.invokevirtual 63, 3) := by decide +kernel
theorem dX5_mixInto_54 : decode cX5_mixInto 54 = .ok (.i2l, 1) := by decide +kernel
theorem dX5_mixInto_55 : decode cX5_mixInto 55 = .ok (.ladd, 1) := by decide +kernel
theorem dX5_mixInto_56 : decode cX5_mixInto 56 = .ok (.lstore_n 3, 1) := by decide +kernel
theorem dX5_mixInto_57 : decode cX5_mixInto 57 = .ok (.iinc 6 1, 3) := by decide +kernel
theorem dX5_mixInto_60 : decode cX5_mixInto 60 = .ok (.goto (-46), 3) := by decide +kernel
theorem dX5_mixInto_63 : decode cX5_mixInto 63 = .ok (.iinc 5 1, 3) := by decide +kernel
theorem dX5_mixInto_66 : decode cX5_mixInto 66 = .ok (.goto (-61), 3) := by decide +kernel
theorem dX5_mixInto_69 : decode cX5_mixInto 69 = .ok (.lload_n 3, 1) := by decide +kernel
theorem dX5_mixInto_70 : decode cX5_mixInto 70 = .ok (.lreturn, 1) := by decide +kernel
set_option maxRecDepth 100000 in
set_option maxHeartbeats 4000000 in
theorem tb_X5_mixInto_14 {K : sd_K} {E : sd_Env} {M : sd_Mem} {h0 : Nat} {r : Int64} (C : sd_C K E sd_LC RX5 cX5_mixInto 7 (some .long)) (k0 : sd_kd h0 = 6) {k5 : Int64 → Int32 → Option Int64} (hk5 : ∀ (l3 : Int64) (x5 : Int32), k5 l3 x5 = some r → sd_Z K rm_X5_mixInto E sd_LC 7 (sd_QL K E sd_LC r M) M 5 [(0, .ref (E.2.2 h0)), (3, .long l3), (5, .int x5)] []) : ∀ (n : Nat), ∀ (l3 : Int64) (x5 : Int32) (x6 : Int32), fn_X5_mixInto_14 M h0 k5 n l3 x5 x6 = some r → sd_Z K rm_X5_mixInto E sd_LC 7 (sd_QL K E sd_LC r M) M 14 [(0, .ref (E.2.2 h0)), (3, .long l3), (5, .int x5), (6, .int x6)] [] := by
  intro n
  induction n with
  | zero => intro l3 x5 x6 hF; cases hF
  | succ n ih =>
    intro l3 x5 x6 hF
    unfold fn_X5_mixInto_14 at hF
    refine sd_iload C 3 dX5_mixInto_14 rfl rfl (n' := 16) ?_
    refine sd_aload_n C 0 dX5_mixInto_16 rfl rfl rfl (n' := 17) ?_
    refine sd_iload C 2 dX5_mixInto_17 rfl rfl (n' := 19) ?_
    obtain ⟨q19, e19, hF⟩ := sd_bind hF
    refine sd_callVI [.int x5] [.int x6] C (ct_X5_sorts M h0 x5 k0 e19) sd_lX5_52 ⟨rfl, rfl, Nat.le_of_ble_eq_true rfl, Nat.le_of_ble_eq_true rfl⟩ (sd_mC (sd_m6 k0)) (sd_e6 k0) rfl rfl rfl (Nat.le_of_ble_eq_true rfl) dX5_mixInto_19 rfl (n' := 22) ?_
    refine sd_icmp_ge C (n' := 25) (tgt := 63) dX5_mixInto_22 rfl rfl (fun c22 => ?_) (fun c22 => ?_)
    · replace hF := sd_pos hF c22
      refine sd_iinc [(5, .int (x5 + (1 : Int32))), (0, .ref (E.2.2 h0)), (3, .long l3), (6, .int x6)] 2 C dX5_mixInto_63 rfl rfl (by decide) rfl rfl (n' := 66) ?_
      refine sd_goto C (tgt := 5) dX5_mixInto_66 rfl ?_
      refine sd_sub [1, 2, 0] rfl ?_
      exact hk5 l3 (x5 + (1 : Int32)) hF
    · replace hF := sd_neg hF c22
      refine sd_ldc2 C (v := 31) sd_w1018 dX5_mixInto_25 rfl (n' := 28) ?_
      refine sd_lload_n C 1 dX5_mixInto_28 rfl rfl rfl (n' := 29) ?_
      refine sd_lmul C dX5_mixInto_29 rfl (n' := 30) ?_
      refine sd_aload_n C 0 dX5_mixInto_30 rfl rfl rfl (n' := 31) ?_
      refine sd_iload C 2 dX5_mixInto_31 rfl rfl (n' := 33) ?_
      refine sd_iload C 3 dX5_mixInto_33 rfl rfl (n' := 35) ?_
      obtain ⟨q35, e35, hF⟩ := sd_bind hF
      refine sd_callVI [.int x5, .int x6] [.long ((31 : Int64) * l3)] C (ct_X5_chance M h0 x5 x6 k0 e35) sd_lX5_59 ⟨rfl, rfl, Nat.le_of_ble_eq_true rfl, Nat.le_of_ble_eq_true rfl⟩ (sd_mC (sd_m6 k0)) (sd_e6 k0) rfl rfl rfl (Nat.le_of_ble_eq_true rfl) dX5_mixInto_35 rfl (n' := 38) ?_
      refine sd_i2l C dX5_mixInto_38 rfl (n' := 39) ?_
      refine sd_ladd C dX5_mixInto_39 rfl (n' := 40) ?_
      refine sd_lstore_n [(3, .long (((31 : Int64) * l3) + q35.toInt64)), (0, .ref (E.2.2 h0)), (5, .int x5), (6, .int x6)] C dX5_mixInto_40 rfl (by decide) rfl rfl (n' := 41) ?_
      refine sd_ldc2 C (v := 31) sd_w1018 dX5_mixInto_41 rfl (n' := 44) ?_
      refine sd_lload_n C 0 dX5_mixInto_44 rfl rfl rfl (n' := 45) ?_
      refine sd_lmul C dX5_mixInto_45 rfl (n' := 46) ?_
      refine sd_aload_n C 1 dX5_mixInto_46 rfl rfl rfl (n' := 47) ?_
      refine sd_iload C 2 dX5_mixInto_47 rfl rfl (n' := 49) ?_
      refine sd_iload C 3 dX5_mixInto_49 rfl rfl (n' := 51) ?_
      obtain ⟨q51, e51, hF⟩ := sd_bind hF
      refine sd_callVI [.int x5, .int x6] [.long ((31 : Int64) * (((31 : Int64) * l3) + q35.toInt64))] C (ct_X5_cost M h0 x5 x6 k0 e51) sd_lX5_63 ⟨rfl, rfl, Nat.le_of_ble_eq_true rfl, Nat.le_of_ble_eq_true rfl⟩ (sd_mC (sd_m6 k0)) (sd_e6 k0) rfl rfl rfl (Nat.le_of_ble_eq_true rfl) dX5_mixInto_51 rfl (n' := 54) ?_
      refine sd_i2l C dX5_mixInto_54 rfl (n' := 55) ?_
      refine sd_ladd C dX5_mixInto_55 rfl (n' := 56) ?_
      refine sd_lstore_n [(3, .long (((31 : Int64) * (((31 : Int64) * l3) + q35.toInt64)) + q51.toInt64)), (0, .ref (E.2.2 h0)), (5, .int x5), (6, .int x6)] C dX5_mixInto_56 rfl (by decide) rfl rfl (n' := 57) ?_
      refine sd_iinc [(6, .int (x6 + (1 : Int32))), (3, .long (((31 : Int64) * (((31 : Int64) * l3) + q35.toInt64)) + q51.toInt64)), (0, .ref (E.2.2 h0)), (5, .int x5)] 3 C dX5_mixInto_57 rfl rfl (by decide) rfl rfl (n' := 60) ?_
      refine sd_goto C (tgt := 14) dX5_mixInto_60 rfl ?_
      refine sd_sub [2, 1, 3, 0] rfl ?_
      exact ih (((31 : Int64) * (((31 : Int64) * l3) + q35.toInt64)) + q51.toInt64) x5 (x6 + (1 : Int32)) hF
set_option maxRecDepth 100000 in
set_option maxHeartbeats 4000000 in
theorem tb_X5_mixInto_5 {K : sd_K} {E : sd_Env} {M : sd_Mem} {h0 : Nat} {r : Int64} (C : sd_C K E sd_LC RX5 cX5_mixInto 7 (some .long)) (k0 : sd_kd h0 = 6) : ∀ (n : Nat), ∀ (l3 : Int64) (x5 : Int32), fn_X5_mixInto_5 M h0 n l3 x5 = some r → sd_Z K rm_X5_mixInto E sd_LC 7 (sd_QL K E sd_LC r M) M 5 [(0, .ref (E.2.2 h0)), (3, .long l3), (5, .int x5)] [] := by
  intro n
  induction n with
  | zero => intro l3 x5 hF; cases hF
  | succ n ih =>
    intro l3 x5 hF
    unfold fn_X5_mixInto_5 at hF
    refine sd_iload C 2 dX5_mixInto_5 rfl rfl (n' := 7) ?_
    refine sd_iconst C (v := 1) dX5_mixInto_7 rfl rfl (n' := 8) ?_
    refine sd_icmp_gt C (n' := 11) (tgt := 69) dX5_mixInto_8 rfl rfl (fun c8 => ?_) (fun c8 => ?_)
    · replace hF := sd_pos hF c8
      refine sd_lload_n C 1 dX5_mixInto_69 rfl rfl rfl (n' := 70) ?_
      exact sd_lret C dX5_mixInto_70 (Option.some.inj hF) rfl
    · replace hF := sd_neg hF c8
      refine sd_iconst C (v := 0) dX5_mixInto_11 rfl rfl (n' := 12) ?_
      refine sd_istore [(6, .int (0 : Int32)), (0, .ref (E.2.2 h0)), (3, .long l3), (5, .int x5)] C dX5_mixInto_12 (by decide) rfl rfl (n' := 14) ?_
      refine sd_sub [1, 2, 3, 0] rfl ?_
      exact tb_X5_mixInto_14 C k0 ih sd_FU l3 x5 (0 : Int32) hF
set_option maxRecDepth 100000 in
set_option maxHeartbeats 4000000 in
theorem tb_X5_mixInto_0 {K : sd_K} {E : sd_Env} {M : sd_Mem} {h0 : Nat} {r : Int64} (C : sd_C K E sd_LC RX5 cX5_mixInto 7 (some .long)) (k0 : sd_kd h0 = 6) : ∀ (l1 : Int64), fn_X5_mixInto_0 M h0 l1 = some r → sd_Z K rm_X5_mixInto E sd_LC 7 (sd_QL K E sd_LC r M) M 0 [(0, .ref (E.2.2 h0)), (1, .long l1)] [] := by
  intro l1 hF
  unfold fn_X5_mixInto_0 at hF
  refine sd_lload_n C 1 dX5_mixInto_0 rfl rfl rfl (n' := 1) ?_
  refine sd_lstore_n [(3, .long l1), (0, .ref (E.2.2 h0)), (1, .long l1)] C dX5_mixInto_1 rfl (by decide) rfl rfl (n' := 2) ?_
  refine sd_iconst C (v := 0) dX5_mixInto_2 rfl rfl (n' := 3) ?_
  refine sd_istore [(5, .int (0 : Int32)), (3, .long l1), (0, .ref (E.2.2 h0)), (1, .long l1)] C dX5_mixInto_3 (by decide) rfl rfl (n' := 5) ?_
  refine sd_sub [2, 1, 0] rfl ?_
  exact tb_X5_mixInto_5 C k0 sd_FU l1 (0 : Int32) hF
theorem ct_X5_mixInto {l : Launch} {E : sd_Env} (M : sd_Mem) (h0 : Nat) (l1 : Int64) (k0 : sd_kd h0 = 6) {r : Int64} (hF : fn_X5_mixInto M h0 l1 = some r) : sd_ML l E sd_LC yX5_mixInto cX5_mixInto 7 (some .long) rm_X5_mixInto [.ref (E.2.2 h0), .long l1] M r M := sd_ent0 (by decide +kernel) (Nat.le_of_ble_eq_true rfl) (fun p e s m below meth c C => tb_X5_mixInto_0 C k0 l1 hF)
theorem dX9_mixInto_0 : decode cX9_mixInto 0 = .ok (.ldc2_w 49, 3) := by decide +kernel
theorem dX9_mixInto_3 : decode cX9_mixInto 3 = .ok (.lload_n 1, 1) := by decide +kernel
theorem dX9_mixInto_4 : decode cX9_mixInto 4 = .ok (.lmul, 1) := by decide +kernel
theorem dX9_mixInto_5 : decode cX9_mixInto 5 = .ok (.aload_n 0, 1) := by decide +kernel
theorem dX9_mixInto_6 : decode cX9_mixInto 6 = .ok (.getfield 15, 3) := by decide +kernel
theorem dX9_mixInto_9 : decode cX9_mixInto 9 = .ok (.i2l, 1) := by decide +kernel
theorem dX9_mixInto_10 : decode cX9_mixInto 10 = .ok (.ladd, 1) := by decide +kernel
theorem dX9_mixInto_11 : decode cX9_mixInto 11 = .ok (.lstore_n 3, 1) := by decide +kernel
theorem dX9_mixInto_12 : decode cX9_mixInto 12 = .ok (.aload_n 0, 1) := by decide +kernel
theorem dX9_mixInto_13 : decode cX9_mixInto 13 = .ok (.invokevirtual 51, 3) := by decide +kernel
theorem dX9_mixInto_16 : decode cX9_mixInto 16 = .ok (.ifCond .eq 5, 3) := by decide +kernel
theorem dX9_mixInto_19 : decode cX9_mixInto 19 = .ok (.lload_n 3, 1) := by decide +kernel
theorem dX9_mixInto_20 : decode cX9_mixInto 20 = .ok (.lreturn, 1) := by decide +kernel
theorem dX9_mixInto_21 : decode cX9_mixInto 21 = .ok (.aload_n 0, 1) := by decide +kernel
theorem dX9_mixInto_22 : decode cX9_mixInto 22 = .ok (.getfield 9, 3) := by decide +kernel
theorem dX9_mixInto_25 : decode cX9_mixInto 25 = .ok (.astore 5, 2) := by decide +kernel
theorem dX9_mixInto_27 : decode cX9_mixInto 27 = .ok (.aload 5, 2) := by decide +kernel
theorem dX9_mixInto_29 : decode cX9_mixInto 29 = .ok (.arraylength, 1) := by decide +kernel
theorem dX9_mixInto_30 : decode cX9_mixInto 30 = .ok (.istore 6, 2) := by decide +kernel
theorem dX9_mixInto_32 : decode cX9_mixInto 32 = .ok (.iconst 0, 1) := by decide +kernel
theorem dX9_mixInto_33 : decode cX9_mixInto 33 = .ok (.istore 7, 2) := by decide +kernel
theorem dX9_mixInto_35 : decode cX9_mixInto 35 = .ok (.iload 7, 2) := by decide +kernel
theorem dX9_mixInto_37 : decode cX9_mixInto 37 = .ok (.iload 6, 2) := by decide +kernel
theorem dX9_mixInto_39 : decode cX9_mixInto 39 = .ok (.if_icmp .ge 26, 3) := by decide +kernel
theorem dX9_mixInto_42 : decode cX9_mixInto 42 = .ok (.aload 5, 2) := by decide +kernel
theorem dX9_mixInto_44 : decode cX9_mixInto 44 = .ok (.iload 7, 2) := by decide +kernel
theorem dX9_mixInto_46 : decode cX9_mixInto 46 = .ok (.iaload, 1) := by decide +kernel
theorem dX9_mixInto_47 : decode cX9_mixInto 47 = .ok (.istore 8, 2) := by decide +kernel
theorem dX9_mixInto_49 : decode cX9_mixInto 49 = .ok (.ldc2_w 49, 3) := by decide +kernel
theorem dX9_mixInto_52 : decode cX9_mixInto 52 = .ok (.lload_n 3, 1) := by decide +kernel
theorem dX9_mixInto_53 : decode cX9_mixInto 53 = .ok (.lmul, 1) := by decide +kernel
theorem dX9_mixInto_54 : decode cX9_mixInto 54 = .ok (.iload 8, 2) := by decide +kernel
theorem dX9_mixInto_56 : decode cX9_mixInto 56 = .ok (.i2l, 1) := by decide +kernel
theorem dX9_mixInto_57 : decode cX9_mixInto 57 = .ok (.ladd, 1) := by decide +kernel
theorem dX9_mixInto_58 : decode cX9_mixInto 58 = .ok (.lstore_n 3, 1) := by decide +kernel
theorem dX9_mixInto_59 : decode cX9_mixInto 59 = .ok (.iinc 7 1, 3) := by decide +kernel
theorem dX9_mixInto_62 : decode cX9_mixInto 62 = .ok (.goto (-27), 3) := by decide +kernel
theorem dX9_mixInto_65 : decode cX9_mixInto 65 = .ok (.lload_n 3, 1) := by decide +kernel
theorem dX9_mixInto_66 : decode cX9_mixInto 66 = .ok (.lreturn, 1) := by decide +kernel
set_option maxRecDepth 100000 in
set_option maxHeartbeats 4000000 in
theorem tb_X9_mixInto_35 {K : sd_K} {E : sd_Env} {M : sd_Mem} {h0 : Nat} {r : Int64} (C : sd_C K E sd_LC RX9 cX9_mixInto 9 (some .long)) (k0 : sd_kd h0 = 10) : ∀ (n : Nat), ∀ (l3 : Int64) (x6 : Int32) (x7 : Int32), fn_X9_mixInto_35 M h0 n l3 x6 x7 = some r → sd_Z K rm_X9_mixInto E sd_LC 9 (sd_QL K E sd_LC r M) M 35 [(3, .long l3), (5, .ref (E.2.2 (h0 + 1))), (6, .int x6), (7, .int x7)] [] := by
  intro n
  induction n with
  | zero => intro l3 x6 x7 hF; cases hF
  | succ n ih =>
    intro l3 x6 x7 hF
    unfold fn_X9_mixInto_35 at hF
    refine sd_iload C 3 dX9_mixInto_35 rfl rfl (n' := 37) ?_
    refine sd_iload C 2 dX9_mixInto_37 rfl rfl (n' := 39) ?_
    refine sd_icmp_ge C (n' := 42) (tgt := 65) dX9_mixInto_39 rfl rfl (fun c39 => ?_) (fun c39 => ?_)
    · replace hF := sd_pos hF c39
      refine sd_lload_n C 0 dX9_mixInto_65 rfl rfl rfl (n' := 66) ?_
      exact sd_lret C dX9_mixInto_66 (Option.some.inj hF) rfl
    · replace hF := sd_neg hF c39
      refine sd_aload C 1 dX9_mixInto_42 rfl rfl (n' := 44) ?_
      refine sd_iload C 3 dX9_mixInto_44 rfl rfl (n' := 46) ?_
      obtain ⟨b46, hF⟩ := sd_ok hF
      refine sd_iald C (sd_mC (sd_c10 k0).2.2) ((sd_c10 k0).1) ((sd_c10 k0).2.1) b46 dX9_mixInto_46 rfl (n' := 47) ?_
      refine sd_istore [(8, .int (M.1 (h0 + 1) x7.toNatClampNeg)), (3, .long l3), (5, .ref (E.2.2 (h0 + 1))), (6, .int x6), (7, .int x7)] C dX9_mixInto_47 (by decide) rfl rfl (n' := 49) ?_
      refine sd_ldc2 C (v := 31) sd_w1023 dX9_mixInto_49 rfl (n' := 52) ?_
      refine sd_lload_n C 1 dX9_mixInto_52 rfl rfl rfl (n' := 53) ?_
      refine sd_lmul C dX9_mixInto_53 rfl (n' := 54) ?_
      refine sd_iload C 0 dX9_mixInto_54 rfl rfl (n' := 56) ?_
      refine sd_i2l C dX9_mixInto_56 rfl (n' := 57) ?_
      refine sd_ladd C dX9_mixInto_57 rfl (n' := 58) ?_
      refine sd_lstore_n [(3, .long (((31 : Int64) * l3) + ((M.1 (h0 + 1) x7.toNatClampNeg).toInt64))), (8, .int (M.1 (h0 + 1) x7.toNatClampNeg)), (5, .ref (E.2.2 (h0 + 1))), (6, .int x6), (7, .int x7)] C dX9_mixInto_58 rfl (by decide) rfl rfl (n' := 59) ?_
      refine sd_iinc [(7, .int (x7 + (1 : Int32))), (3, .long (((31 : Int64) * l3) + ((M.1 (h0 + 1) x7.toNatClampNeg).toInt64))), (8, .int (M.1 (h0 + 1) x7.toNatClampNeg)), (5, .ref (E.2.2 (h0 + 1))), (6, .int x6)] 4 C dX9_mixInto_59 rfl rfl (by decide) rfl rfl (n' := 62) ?_
      refine sd_goto C (tgt := 35) dX9_mixInto_62 rfl ?_
      refine sd_sub [1, 3, 4, 0] rfl ?_
      exact ih (((31 : Int64) * l3) + ((M.1 (h0 + 1) x7.toNatClampNeg).toInt64)) x6 (x7 + (1 : Int32)) hF
set_option maxRecDepth 100000 in
set_option maxHeartbeats 4000000 in
theorem tb_X9_mixInto_0 {K : sd_K} {E : sd_Env} {M : sd_Mem} {h0 : Nat} {r : Int64} (C : sd_C K E sd_LC RX9 cX9_mixInto 9 (some .long)) (k0 : sd_kd h0 = 10) : ∀ (l1 : Int64), fn_X9_mixInto_0 M h0 l1 = some r → sd_Z K rm_X9_mixInto E sd_LC 9 (sd_QL K E sd_LC r M) M 0 [(0, .ref (E.2.2 h0)), (1, .long l1)] [] := by
  intro l1 hF
  unfold fn_X9_mixInto_0 at hF
  refine sd_ldc2 C (v := 31) sd_w1023 dX9_mixInto_0 rfl (n' := 3) ?_
  refine sd_lload_n C 1 dX9_mixInto_3 rfl rfl rfl (n' := 4) ?_
  refine sd_lmul C dX9_mixInto_4 rfl (n' := 5) ?_
  refine sd_aload_n C 0 dX9_mixInto_5 rfl rfl rfl (n' := 6) ?_
  refine sd_g9_1 C (sd_mC (sd_m10 k0)) k0 sd_w322 dX9_mixInto_6 rfl (n' := 9) ?_
  refine sd_i2l C dX9_mixInto_9 rfl (n' := 10) ?_
  refine sd_ladd C dX9_mixInto_10 rfl (n' := 11) ?_
  refine sd_lstore_n [(3, .long (((31 : Int64) * l1) + ((M.1 h0 1).toInt64))), (0, .ref (E.2.2 h0)), (1, .long l1)] C dX9_mixInto_11 rfl (by decide) rfl rfl (n' := 12) ?_
  refine sd_aload_n C 1 dX9_mixInto_12 rfl rfl rfl (n' := 13) ?_
  obtain ⟨q13, e13, hF⟩ := sd_bind hF
  refine sd_callVI [] [] C (ct_X9_isMissing M h0 k0 e13) sd_lX9_51 ⟨rfl, rfl, Nat.le_of_ble_eq_true rfl, Nat.le_of_ble_eq_true rfl⟩ (sd_mC (sd_m10 k0)) (sd_e10 k0) rfl rfl rfl (Nat.le_of_ble_eq_true rfl) dX9_mixInto_13 rfl (n' := 16) ?_
  refine sd_if_eq C (n' := 19) (tgt := 21) dX9_mixInto_16 rfl rfl (fun c16 => ?_) (fun c16 => ?_)
  · replace hF := sd_pos hF c16
    refine sd_aload_n C 1 dX9_mixInto_21 rfl rfl rfl (n' := 22) ?_
    refine sd_g9_0 C (sd_mC (sd_m10 k0)) k0 sd_w321 dX9_mixInto_22 rfl (n' := 25) ?_
    refine sd_astore [(5, .ref (E.2.2 (h0 + 1))), (3, .long (((31 : Int64) * l1) + ((M.1 h0 1).toInt64))), (0, .ref (E.2.2 h0)), (1, .long l1)] C dX9_mixInto_25 (by decide) rfl rfl (n' := 27) ?_
    refine sd_aload C 0 dX9_mixInto_27 rfl rfl (n' := 29) ?_
    refine sd_alen C (sd_mC (sd_c10 k0).2.2) ((sd_c10 k0).1) ((sd_c10 k0).2.1) rfl dX9_mixInto_29 rfl (n' := 30) ?_
    refine sd_istore [(6, .int (30 : Int32)), (5, .ref (E.2.2 (h0 + 1))), (3, .long (((31 : Int64) * l1) + ((M.1 h0 1).toInt64))), (0, .ref (E.2.2 h0)), (1, .long l1)] C dX9_mixInto_30 (by decide) rfl rfl (n' := 32) ?_
    refine sd_iconst C (v := 0) dX9_mixInto_32 rfl rfl (n' := 33) ?_
    refine sd_istore [(7, .int (0 : Int32)), (6, .int (30 : Int32)), (5, .ref (E.2.2 (h0 + 1))), (3, .long (((31 : Int64) * l1) + ((M.1 h0 1).toInt64))), (0, .ref (E.2.2 h0)), (1, .long l1)] C dX9_mixInto_33 (by decide) rfl rfl (n' := 35) ?_
    refine sd_sub [3, 2, 1, 0] rfl ?_
    exact tb_X9_mixInto_35 C k0 sd_FU (((31 : Int64) * l1) + ((M.1 h0 1).toInt64)) (30 : Int32) (0 : Int32) hF
  · replace hF := sd_neg hF c16
    refine sd_lload_n C 0 dX9_mixInto_19 rfl rfl rfl (n' := 20) ?_
    exact sd_lret C dX9_mixInto_20 (Option.some.inj hF) rfl
theorem ct_X9_mixInto {l : Launch} {E : sd_Env} (M : sd_Mem) (h0 : Nat) (l1 : Int64) (k0 : sd_kd h0 = 10) {r : Int64} (hF : fn_X9_mixInto M h0 l1 = some r) : sd_ML l E sd_LC yX9_mixInto cX9_mixInto 9 (some .long) rm_X9_mixInto [.ref (E.2.2 h0), .long l1] M r M := sd_ent0 (by decide +kernel) (Nat.le_of_ble_eq_true rfl) (fun p e s m below meth c C => tb_X9_mixInto_0 C k0 l1 hF)
theorem dX8_mixInto_0 : decode cX8_mixInto 0 = .ok (.lload_n 1, 1) := by decide +kernel
theorem dX8_mixInto_1 : decode cX8_mixInto 1 = .ok (.lstore_n 3, 1) := by decide +kernel
theorem dX8_mixInto_2 : decode cX8_mixInto 2 = .ok (.iconst 0, 1) := by decide +kernel
theorem dX8_mixInto_3 : decode cX8_mixInto 3 = .ok (.istore 5, 2) := by decide +kernel
theorem dX8_mixInto_5 : decode cX8_mixInto 5 = .ok (.iload 5, 2) := by decide +kernel
theorem dX8_mixInto_7 : decode cX8_mixInto 7 = .ok (.bipush 6, 2) := by decide +kernel
theorem dX8_mixInto_9 : decode cX8_mixInto 9 = .ok (.if_icmp .ge 54, 3) := by decide +kernel
theorem dX8_mixInto_12 : decode cX8_mixInto 12 = .ok (.ldc2_w 57, 3) := by decide +kernel
theorem dX8_mixInto_15 : decode cX8_mixInto 15 = .ok (.lload_n 3, 1) := by decide +kernel
theorem dX8_mixInto_16 : decode cX8_mixInto 16 = .ok (.lmul, 1) := by decide +kernel
theorem dX8_mixInto_17 : decode cX8_mixInto 17 = .ok (.aload_n 0, 1) := by decide +kernel
theorem dX8_mixInto_18 : decode cX8_mixInto 18 = .ok (.getfield 9, 3) := by decide +kernel
theorem dX8_mixInto_21 : decode cX8_mixInto 21 = .ok (.iload 5, 2) := by decide +kernel
theorem dX8_mixInto_23 : decode cX8_mixInto 23 = .ok (.iaload, 1) := by decide +kernel
theorem dX8_mixInto_24 : decode cX8_mixInto 24 = .ok (.i2l, 1) := by decide +kernel
theorem dX8_mixInto_25 : decode cX8_mixInto 25 = .ok (.ladd, 1) := by decide +kernel
theorem dX8_mixInto_26 : decode cX8_mixInto 26 = .ok (.lstore_n 3, 1) := by decide +kernel
theorem dX8_mixInto_27 : decode cX8_mixInto 27 = .ok (.ldc2_w 57, 3) := by decide +kernel
theorem dX8_mixInto_30 : decode cX8_mixInto 30 = .ok (.lload_n 3, 1) := by decide +kernel
theorem dX8_mixInto_31 : decode cX8_mixInto 31 = .ok (.lmul, 1) := by decide +kernel
theorem dX8_mixInto_32 : decode cX8_mixInto 32 = .ok (.aload_n 0, 1) := by decide +kernel
theorem dX8_mixInto_33 : decode cX8_mixInto 33 = .ok (.getfield 15, 3) := by decide +kernel
theorem dX8_mixInto_36 : decode cX8_mixInto 36 = .ok (.iload 5, 2) := by decide +kernel
theorem dX8_mixInto_38 : decode cX8_mixInto 38 = .ok (.iaload, 1) := by decide +kernel
theorem dX8_mixInto_39 : decode cX8_mixInto 39 = .ok (.i2l, 1) := by decide +kernel
theorem dX8_mixInto_40 : decode cX8_mixInto 40 = .ok (.ladd, 1) := by decide +kernel
theorem dX8_mixInto_41 : decode cX8_mixInto 41 = .ok (.lstore_n 3, 1) := by decide +kernel
theorem dX8_mixInto_42 : decode cX8_mixInto 42 = .ok (.ldc2_w 57, 3) := by decide +kernel
theorem dX8_mixInto_45 : decode cX8_mixInto 45 = .ok (.lload_n 3, 1) := by decide +kernel
theorem dX8_mixInto_46 : decode cX8_mixInto 46 = .ok (.lmul, 1) := by decide +kernel
theorem dX8_mixInto_47 : decode cX8_mixInto 47 = .ok (.aload_n 0, 1) := by decide +kernel
theorem dX8_mixInto_48 : decode cX8_mixInto 48 = .ok (.getfield 18, 3) := by decide +kernel
theorem dX8_mixInto_51 : decode cX8_mixInto 51 = .ok (.iload 5, 2) := by decide +kernel
theorem dX8_mixInto_53 : decode cX8_mixInto 53 = .ok (.iaload, 1) := by decide +kernel
theorem dX8_mixInto_54 : decode cX8_mixInto 54 = .ok (.i2l, 1) := by decide +kernel
theorem dX8_mixInto_55 : decode cX8_mixInto 55 = .ok (.ladd, 1) := by decide +kernel
theorem dX8_mixInto_56 : decode cX8_mixInto 56 = .ok (.lstore_n 3, 1) := by decide +kernel
theorem dX8_mixInto_57 : decode cX8_mixInto 57 = .ok (.iinc 5 1, 3) := by decide +kernel
theorem dX8_mixInto_60 : decode cX8_mixInto 60 = .ok (.goto (-55), 3) := by decide +kernel
theorem dX8_mixInto_63 : decode cX8_mixInto 63 = .ok (.lload_n 3, 1) := by decide +kernel
theorem dX8_mixInto_64 : decode cX8_mixInto 64 = .ok (.lreturn, 1) := by decide +kernel
set_option maxRecDepth 100000 in
set_option maxHeartbeats 4000000 in
theorem tb_X8_mixInto_5 {K : sd_K} {E : sd_Env} {M : sd_Mem}  {r : Int64} (C : sd_C K E sd_LC RX8 cX8_mixInto 6 (some .long))  : ∀ (n : Nat), ∀ (l3 : Int64) (x5 : Int32), fn_X8_mixInto_5 M n l3 x5 = some r → sd_Z K rm_X8_mixInto E sd_LC 6 (sd_QL K E sd_LC r M) M 5 [(0, .ref (E.2.2 90)), (3, .long l3), (5, .int x5)] [] := by
  intro n
  induction n with
  | zero => intro l3 x5 hF; cases hF
  | succ n ih =>
    intro l3 x5 hF
    unfold fn_X8_mixInto_5 at hF
    refine sd_iload C 2 dX8_mixInto_5 rfl rfl (n' := 7) ?_
    refine sd_bipush C (v := 6) dX8_mixInto_7 rfl rfl (n' := 9) ?_
    refine sd_icmp_ge C (n' := 12) (tgt := 63) dX8_mixInto_9 rfl rfl (fun c9 => ?_) (fun c9 => ?_)
    · replace hF := sd_pos hF c9
      refine sd_lload_n C 1 dX8_mixInto_63 rfl rfl rfl (n' := 64) ?_
      exact sd_lret C dX8_mixInto_64 (Option.some.inj hF) rfl
    · replace hF := sd_neg hF c9
      refine sd_ldc2 C (v := 31) sd_w1029 dX8_mixInto_12 rfl (n' := 15) ?_
      refine sd_lload_n C 1 dX8_mixInto_15 rfl rfl rfl (n' := 16) ?_
      refine sd_lmul C dX8_mixInto_16 rfl (n' := 17) ?_
      refine sd_aload_n C 0 dX8_mixInto_17 rfl rfl rfl (n' := 18) ?_
      refine sd_g8_0 C sd_i90 sd_k90 sd_w250 dX8_mixInto_18 rfl (n' := 21) ?_
      refine sd_iload C 2 dX8_mixInto_21 rfl rfl (n' := 23) ?_
      obtain ⟨b23, hF⟩ := sd_ok hF
      refine sd_iald C sd_i91 sd_k91 sd_n91 b23 dX8_mixInto_23 rfl (n' := 24) ?_
      refine sd_i2l C dX8_mixInto_24 rfl (n' := 25) ?_
      refine sd_ladd C dX8_mixInto_25 rfl (n' := 26) ?_
      refine sd_lstore_n [(3, .long (((31 : Int64) * l3) + ((M.1 91 x5.toNatClampNeg).toInt64))), (0, .ref (E.2.2 90)), (5, .int x5)] C dX8_mixInto_26 rfl (by decide) rfl rfl (n' := 27) ?_
      refine sd_ldc2 C (v := 31) sd_w1029 dX8_mixInto_27 rfl (n' := 30) ?_
      refine sd_lload_n C 0 dX8_mixInto_30 rfl rfl rfl (n' := 31) ?_
      refine sd_lmul C dX8_mixInto_31 rfl (n' := 32) ?_
      refine sd_aload_n C 1 dX8_mixInto_32 rfl rfl rfl (n' := 33) ?_
      refine sd_g8_1 C sd_i90 sd_k90 sd_w252 dX8_mixInto_33 rfl (n' := 36) ?_
      refine sd_iload C 2 dX8_mixInto_36 rfl rfl (n' := 38) ?_
      obtain ⟨b38, hF⟩ := sd_ok hF
      refine sd_iald C sd_i92 sd_k92 sd_n92 b38 dX8_mixInto_38 rfl (n' := 39) ?_
      refine sd_i2l C dX8_mixInto_39 rfl (n' := 40) ?_
      refine sd_ladd C dX8_mixInto_40 rfl (n' := 41) ?_
      refine sd_lstore_n [(3, .long (((31 : Int64) * (((31 : Int64) * l3) + ((M.1 91 x5.toNatClampNeg).toInt64))) + ((M.1 92 x5.toNatClampNeg).toInt64))), (0, .ref (E.2.2 90)), (5, .int x5)] C dX8_mixInto_41 rfl (by decide) rfl rfl (n' := 42) ?_
      refine sd_ldc2 C (v := 31) sd_w1029 dX8_mixInto_42 rfl (n' := 45) ?_
      refine sd_lload_n C 0 dX8_mixInto_45 rfl rfl rfl (n' := 46) ?_
      refine sd_lmul C dX8_mixInto_46 rfl (n' := 47) ?_
      refine sd_aload_n C 1 dX8_mixInto_47 rfl rfl rfl (n' := 48) ?_
      refine sd_g8_2 C sd_i90 sd_k90 sd_w254 dX8_mixInto_48 rfl (n' := 51) ?_
      refine sd_iload C 2 dX8_mixInto_51 rfl rfl (n' := 53) ?_
      obtain ⟨b53, hF⟩ := sd_ok hF
      refine sd_iald C sd_i93 sd_k93 sd_n93 b53 dX8_mixInto_53 rfl (n' := 54) ?_
      refine sd_i2l C dX8_mixInto_54 rfl (n' := 55) ?_
      refine sd_ladd C dX8_mixInto_55 rfl (n' := 56) ?_
      refine sd_lstore_n [(3, .long (((31 : Int64) * (((31 : Int64) * (((31 : Int64) * l3) + ((M.1 91 x5.toNatClampNeg).toInt64))) + ((M.1 92 x5.toNatClampNeg).toInt64))) + ((M.1 93 x5.toNatClampNeg).toInt64))), (0, .ref (E.2.2 90)), (5, .int x5)] C dX8_mixInto_56 rfl (by decide) rfl rfl (n' := 57) ?_
      refine sd_iinc [(5, .int (x5 + (1 : Int32))), (3, .long (((31 : Int64) * (((31 : Int64) * (((31 : Int64) * l3) + ((M.1 91 x5.toNatClampNeg).toInt64))) + ((M.1 92 x5.toNatClampNeg).toInt64))) + ((M.1 93 x5.toNatClampNeg).toInt64))), (0, .ref (E.2.2 90))] 2 C dX8_mixInto_57 rfl rfl (by decide) rfl rfl (n' := 60) ?_
      refine sd_goto C (tgt := 5) dX8_mixInto_60 rfl ?_
      refine sd_sub [2, 1, 0] rfl ?_
      exact ih (((31 : Int64) * (((31 : Int64) * (((31 : Int64) * l3) + ((M.1 91 x5.toNatClampNeg).toInt64))) + ((M.1 92 x5.toNatClampNeg).toInt64))) + ((M.1 93 x5.toNatClampNeg).toInt64)) (x5 + (1 : Int32)) hF
set_option maxRecDepth 100000 in
set_option maxHeartbeats 4000000 in
theorem tb_X8_mixInto_0 {K : sd_K} {E : sd_Env} {M : sd_Mem}  {r : Int64} (C : sd_C K E sd_LC RX8 cX8_mixInto 6 (some .long))  : ∀ (l1 : Int64), fn_X8_mixInto_0 M l1 = some r → sd_Z K rm_X8_mixInto E sd_LC 6 (sd_QL K E sd_LC r M) M 0 [(0, .ref (E.2.2 90)), (1, .long l1)] [] := by
  intro l1 hF
  unfold fn_X8_mixInto_0 at hF
  refine sd_lload_n C 1 dX8_mixInto_0 rfl rfl rfl (n' := 1) ?_
  refine sd_lstore_n [(3, .long l1), (0, .ref (E.2.2 90)), (1, .long l1)] C dX8_mixInto_1 rfl (by decide) rfl rfl (n' := 2) ?_
  refine sd_iconst C (v := 0) dX8_mixInto_2 rfl rfl (n' := 3) ?_
  refine sd_istore [(5, .int (0 : Int32)), (3, .long l1), (0, .ref (E.2.2 90)), (1, .long l1)] C dX8_mixInto_3 (by decide) rfl rfl (n' := 5) ?_
  refine sd_sub [2, 1, 0] rfl ?_
  exact tb_X8_mixInto_5 C sd_FU l1 (0 : Int32) hF
theorem ct_X8_mixInto {l : Launch} {E : sd_Env} (M : sd_Mem) (l1 : Int64)  {r : Int64} (hF : fn_X8_mixInto M l1 = some r) : sd_ML l E sd_LC yX8_mixInto cX8_mixInto 6 (some .long) rm_X8_mixInto [.ref (E.2.2 90), .long l1] M r M := sd_ent0 (by decide +kernel) (Nat.le_of_ble_eq_true rfl) (fun p e s m below meth c C => tb_X8_mixInto_0 C l1 hF)
theorem dX1_mixInto_0 : decode cX1_mixInto 0 = .ok (.ldc2_w 44, 3) := by decide +kernel
theorem dX1_mixInto_3 : decode cX1_mixInto 3 = .ok (.lload_n 1, 1) := by decide +kernel
theorem dX1_mixInto_4 : decode cX1_mixInto 4 = .ok (.lmul, 1) := by decide +kernel
theorem dX1_mixInto_5 : decode cX1_mixInto 5 = .ok (.aload_n 0, 1) := by decide +kernel
theorem dX1_mixInto_6 : decode cX1_mixInto 6 = .ok (.getfield 9, 3) := by decide +kernel
theorem dX1_mixInto_9 : decode cX1_mixInto 9 = .ok (.i2l, 1) := by decide +kernel
theorem dX1_mixInto_10 : decode cX1_mixInto 10 = .ok (.ladd, 1) := by decide +kernel
theorem dX1_mixInto_11 : decode cX1_mixInto 11 = .ok (.lstore_n 3, 1) := by decide +kernel
theorem dX1_mixInto_12 : decode cX1_mixInto 12 = .ok (.iconst 0, 1) := by decide +kernel
theorem dX1_mixInto_13 : decode cX1_mixInto 13 = .ok (.istore 5, 2) := by decide +kernel
theorem dX1_mixInto_15 : decode cX1_mixInto 15 = .ok (.iload 5, 2) := by decide +kernel
theorem dX1_mixInto_17 : decode cX1_mixInto 17 = .ok (.aload_n 0, 1) := by decide +kernel
theorem dX1_mixInto_18 : decode cX1_mixInto 18 = .ok (.getfield 9, 3) := by decide +kernel
theorem dX1_mixInto_21 : decode cX1_mixInto 21 = .ok (.if_icmp .ge 24, 3) := by decide +kernel
theorem dX1_mixInto_24 : decode cX1_mixInto 24 = .ok (.ldc2_w 44, 3) := by decide +kernel
theorem dX1_mixInto_27 : decode cX1_mixInto 27 = .ok (.lload_n 3, 1) := by decide +kernel
theorem dX1_mixInto_28 : decode cX1_mixInto 28 = .ok (.lmul, 1) := by decide +kernel
theorem dX1_mixInto_29 : decode cX1_mixInto 29 = .ok (.aload_n 0, 1) := by decide +kernel
theorem dX1_mixInto_30 : decode cX1_mixInto 30 = .ok (.getfield 21, 3) := by decide +kernel
theorem dX1_mixInto_33 : decode cX1_mixInto 33 = .ok (.iload 5, 2) := by decide +kernel
theorem dX1_mixInto_35 : decode cX1_mixInto 35 = .ok (.iaload, 1) := by decide +kernel
theorem dX1_mixInto_36 : decode cX1_mixInto 36 = .ok (.i2l, 1) := by decide +kernel
theorem dX1_mixInto_37 : decode cX1_mixInto 37 = .ok (.ladd, 1) := by decide +kernel
theorem dX1_mixInto_38 : decode cX1_mixInto 38 = .ok (.lstore_n 3, 1) := by decide +kernel
theorem dX1_mixInto_39 : decode cX1_mixInto 39 = .ok (.iinc 5 1, 3) := by decide +kernel
theorem dX1_mixInto_42 : decode cX1_mixInto 42 = .ok (.goto (-27), 3) := by decide +kernel
theorem dX1_mixInto_45 : decode cX1_mixInto 45 = .ok (.lload_n 3, 1) := by decide +kernel
theorem dX1_mixInto_46 : decode cX1_mixInto 46 = .ok (.lreturn, 1) := by decide +kernel
set_option maxRecDepth 100000 in
set_option maxHeartbeats 4000000 in
theorem tb_X1_mixInto_15 {K : sd_K} {E : sd_Env} {M : sd_Mem} {h0 : Nat} {r : Int64} (C : sd_C K E sd_LC RX1 cX1_mixInto 6 (some .long)) (k0 : sd_kd h0 = 2) : ∀ (n : Nat), ∀ (l3 : Int64) (x5 : Int32), fn_X1_mixInto_15 M h0 n l3 x5 = some r → sd_Z K rm_X1_mixInto E sd_LC 6 (sd_QL K E sd_LC r M) M 15 [(0, .ref (E.2.2 h0)), (3, .long l3), (5, .int x5)] [] := by
  intro n
  induction n with
  | zero => intro l3 x5 hF; cases hF
  | succ n ih =>
    intro l3 x5 hF
    unfold fn_X1_mixInto_15 at hF
    refine sd_iload C 2 dX1_mixInto_15 rfl rfl (n' := 17) ?_
    refine sd_aload_n C 0 dX1_mixInto_17 rfl rfl rfl (n' := 18) ?_
    refine sd_g1_1 C (sd_mC (sd_m2 k0)) k0 sd_w310 dX1_mixInto_18 rfl (n' := 21) ?_
    refine sd_icmp_ge C (n' := 24) (tgt := 45) dX1_mixInto_21 rfl rfl (fun c21 => ?_) (fun c21 => ?_)
    · replace hF := sd_pos hF c21
      refine sd_lload_n C 1 dX1_mixInto_45 rfl rfl rfl (n' := 46) ?_
      exact sd_lret C dX1_mixInto_46 (Option.some.inj hF) rfl
    · replace hF := sd_neg hF c21
      refine sd_ldc2 C (v := 31) sd_w1034 dX1_mixInto_24 rfl (n' := 27) ?_
      refine sd_lload_n C 1 dX1_mixInto_27 rfl rfl rfl (n' := 28) ?_
      refine sd_lmul C dX1_mixInto_28 rfl (n' := 29) ?_
      refine sd_aload_n C 0 dX1_mixInto_29 rfl rfl rfl (n' := 30) ?_
      refine sd_g1_0 C (sd_mC (sd_m2 k0)) k0 sd_w309 dX1_mixInto_30 rfl (n' := 33) ?_
      refine sd_iload C 2 dX1_mixInto_33 rfl rfl (n' := 35) ?_
      obtain ⟨b35, hF⟩ := sd_ok hF
      refine sd_iald C (sd_mC (sd_c2 k0).2.2) ((sd_c2 k0).1) rfl b35 dX1_mixInto_35 rfl (n' := 36) ?_
      refine sd_i2l C dX1_mixInto_36 rfl (n' := 37) ?_
      refine sd_ladd C dX1_mixInto_37 rfl (n' := 38) ?_
      refine sd_lstore_n [(3, .long (((31 : Int64) * l3) + ((M.1 (h0 + 1) x5.toNatClampNeg).toInt64))), (0, .ref (E.2.2 h0)), (5, .int x5)] C dX1_mixInto_38 rfl (by decide) rfl rfl (n' := 39) ?_
      refine sd_iinc [(5, .int (x5 + (1 : Int32))), (3, .long (((31 : Int64) * l3) + ((M.1 (h0 + 1) x5.toNatClampNeg).toInt64))), (0, .ref (E.2.2 h0))] 2 C dX1_mixInto_39 rfl rfl (by decide) rfl rfl (n' := 42) ?_
      refine sd_goto C (tgt := 15) dX1_mixInto_42 rfl ?_
      refine sd_sub [2, 1, 0] rfl ?_
      exact ih (((31 : Int64) * l3) + ((M.1 (h0 + 1) x5.toNatClampNeg).toInt64)) (x5 + (1 : Int32)) hF
set_option maxRecDepth 100000 in
set_option maxHeartbeats 4000000 in
theorem tb_X1_mixInto_0 {K : sd_K} {E : sd_Env} {M : sd_Mem} {h0 : Nat} {r : Int64} (C : sd_C K E sd_LC RX1 cX1_mixInto 6 (some .long)) (k0 : sd_kd h0 = 2) : ∀ (l1 : Int64), fn_X1_mixInto_0 M h0 l1 = some r → sd_Z K rm_X1_mixInto E sd_LC 6 (sd_QL K E sd_LC r M) M 0 [(0, .ref (E.2.2 h0)), (1, .long l1)] [] := by
  intro l1 hF
  unfold fn_X1_mixInto_0 at hF
  refine sd_ldc2 C (v := 31) sd_w1034 dX1_mixInto_0 rfl (n' := 3) ?_
  refine sd_lload_n C 1 dX1_mixInto_3 rfl rfl rfl (n' := 4) ?_
  refine sd_lmul C dX1_mixInto_4 rfl (n' := 5) ?_
  refine sd_aload_n C 0 dX1_mixInto_5 rfl rfl rfl (n' := 6) ?_
  refine sd_g1_1 C (sd_mC (sd_m2 k0)) k0 sd_w310 dX1_mixInto_6 rfl (n' := 9) ?_
  refine sd_i2l C dX1_mixInto_9 rfl (n' := 10) ?_
  refine sd_ladd C dX1_mixInto_10 rfl (n' := 11) ?_
  refine sd_lstore_n [(3, .long (((31 : Int64) * l1) + ((M.1 h0 1).toInt64))), (0, .ref (E.2.2 h0)), (1, .long l1)] C dX1_mixInto_11 rfl (by decide) rfl rfl (n' := 12) ?_
  refine sd_iconst C (v := 0) dX1_mixInto_12 rfl rfl (n' := 13) ?_
  refine sd_istore [(5, .int (0 : Int32)), (3, .long (((31 : Int64) * l1) + ((M.1 h0 1).toInt64))), (0, .ref (E.2.2 h0)), (1, .long l1)] C dX1_mixInto_13 (by decide) rfl rfl (n' := 15) ?_
  refine sd_sub [2, 1, 0] rfl ?_
  exact tb_X1_mixInto_15 C k0 sd_FU (((31 : Int64) * l1) + ((M.1 h0 1).toInt64)) (0 : Int32) hF
theorem ct_X1_mixInto {l : Launch} {E : sd_Env} (M : sd_Mem) (h0 : Nat) (l1 : Int64) (k0 : sd_kd h0 = 2) {r : Int64} (hF : fn_X1_mixInto M h0 l1 = some r) : sd_ML l E sd_LC yX1_mixInto cX1_mixInto 6 (some .long) rm_X1_mixInto [.ref (E.2.2 h0), .long l1] M r M := sd_ent0 (by decide +kernel) (Nat.le_of_ble_eq_true rfl) (fun p e s m below meth c C => tb_X1_mixInto_0 C k0 l1 hF)
theorem dX10_digest_0 : decode cX10_digest 0 = .ok (.ldc2_w 352, 3) := by decide +kernel
theorem dX10_digest_3 : decode cX10_digest 3 = .ok (.lstore_n 1, 1) := by decide +kernel
theorem dX10_digest_4 : decode cX10_digest 4 = .ok (.iconst 0, 1) := by decide +kernel
theorem dX10_digest_5 : decode cX10_digest 5 = .ok (.istore_n 3, 1) := by decide +kernel
theorem dX10_digest_6 : decode cX10_digest 6 = .ok (.iload_n 3, 1) := by decide +kernel
theorem dX10_digest_7 : decode cX10_digest 7 = .ok (.iconst 4, 1) := by decide +kernel
theorem dX10_digest_8 : decode cX10_digest 8 = .ok (.if_icmp .gt 22, 3) := by decide +kernel
theorem dX10_digest_11 : decode cX10_digest 11 = .ok (.ldc2_w 354, 3) := by decide +kernel
theorem dX10_digest_14 : decode cX10_digest 14 = .ok (.lload_n 1, 1) := by decide +kernel
theorem dX10_digest_15 : decode cX10_digest 15 = .ok (.lmul, 1) := by decide +kernel
theorem dX10_digest_16 : decode cX10_digest 16 = .ok (.aload_n 0, 1) := by decide +kernel
theorem dX10_digest_17 : decode cX10_digest 17 = .ok (.iload_n 3, 1) := by decide +kernel
theorem dX10_digest_18 : decode cX10_digest 18 = .ok (.invokevirtual 343, 3) := by decide +kernel
theorem dX10_digest_21 : decode cX10_digest 21 = .ok (.i2l, 1) := by decide +kernel
theorem dX10_digest_22 : decode cX10_digest 22 = .ok (.ladd, 1) := by decide +kernel
theorem dX10_digest_23 : decode cX10_digest 23 = .ok (.lstore_n 1, 1) := by decide +kernel
theorem dX10_digest_24 : decode cX10_digest 24 = .ok (.iinc 3 1, 3) := by decide +kernel
theorem dX10_digest_27 : decode cX10_digest 27 = .ok (.goto (-21), 3) := by decide +kernel
theorem dX10_digest_30 : decode cX10_digest 30 = .ok (.iconst 0, 1) := by decide +kernel
theorem dX10_digest_31 : decode cX10_digest 31 = .ok (.istore_n 3, 1) := by decide +kernel
theorem dX10_digest_32 : decode cX10_digest 32 = .ok (.iload_n 3, 1) := by decide +kernel
theorem dX10_digest_33 : decode cX10_digest 33 = .ok (.bipush 8, 2) := by decide +kernel
theorem dX10_digest_35 : decode cX10_digest 35 = .ok (.if_icmp .gt 22, 3) := by decide +kernel
theorem dX10_digest_38 : decode cX10_digest 38 = .ok (.ldc2_w 354, 3) := by decide +kernel
theorem dX10_digest_41 : decode cX10_digest 41 = .ok (.lload_n 1, 1) := by decide +kernel
theorem dX10_digest_42 : decode cX10_digest 42 = .ok (.lmul, 1) := by decide +kernel
theorem dX10_digest_43 : decode cX10_digest 43 = .ok (.aload_n 0, 1) := by decide +kernel
theorem dX10_digest_44 : decode cX10_digest 44 = .ok (.iload_n 3, 1) := by decide +kernel
theorem dX10_digest_45 : decode cX10_digest 45 = .ok (.invokevirtual 156, 3) := by decide +kernel
theorem dX10_digest_48 : decode cX10_digest 48 = .ok (.i2l, 1) := by decide +kernel
theorem dX10_digest_49 : decode cX10_digest 49 = .ok (.ladd, 1) := by decide +kernel
theorem dX10_digest_50 : decode cX10_digest 50 = .ok (.lstore_n 1, 1) := by decide +kernel
theorem dX10_digest_51 : decode cX10_digest 51 = .ok (.iinc 3 1, 3) := by decide +kernel
theorem dX10_digest_54 : decode cX10_digest 54 = .ok (.goto (-22), 3) := by decide +kernel
theorem dX10_digest_57 : decode cX10_digest 57 = .ok (.aload_n 0, 1) := by decide +kernel
theorem dX10_digest_58 : decode cX10_digest 58 = .ok (.getfield 27, 3) := by decide +kernel
theorem dX10_digest_61 : decode cX10_digest 61 = .ok (.lload_n 1, 1) := by decide +kernel
theorem dX10_digest_62 : decode cX10_digest 62 = .ok (.invokevirtual 356, 3) := by decide +kernel
theorem dX10_digest_65 : decode cX10_digest 65 = .ok (.lstore_n 1, 1) := by decide +kernel
theorem dX10_digest_66 : decode cX10_digest 66 = .ok (.aload_n 0, 1) := by decide +kernel
theorem dX10_digest_67 : decode cX10_digest 67 = .ok (.getfield 20, 3) := by decide +kernel
theorem dX10_digest_70 : decode cX10_digest 70 = .ok (.astore_n 3, 1) := by decide +kernel
theorem dX10_digest_71 : decode cX10_digest 71 = .ok (.aload_n 3, 1) := by decide +kernel
theorem dX10_digest_72 : decode cX10_digest 72 = .ok (.arraylength, 1) := by decide +kernel
theorem dX10_digest_73 : decode cX10_digest 73 = .ok (.istore 4, 2) := by decide +kernel
theorem dX10_digest_75 : decode cX10_digest 75 = .ok (.iconst 0, 1) := by decide +kernel
theorem dX10_digest_76 : decode cX10_digest 76 = .ok (.istore 5, 2) := by decide +kernel
theorem dX10_digest_78 : decode cX10_digest 78 = .ok (.iload 5, 2) := by decide +kernel
theorem dX10_digest_80 : decode cX10_digest 80 = .ok (.iload 4, 2) := by decide +kernel
theorem dX10_digest_82 : decode cX10_digest 82 = .ok (.if_icmp .ge 22, 3) := by decide +kernel
theorem dX10_digest_85 : decode cX10_digest 85 = .ok (.aload_n 3, 1) := by decide +kernel
theorem dX10_digest_86 : decode cX10_digest 86 = .ok (.iload 5, 2) := by decide +kernel
theorem dX10_digest_88 : decode cX10_digest 88 = .ok (.aaload, 1) := by decide +kernel
theorem dX10_digest_89 : decode cX10_digest 89 = .ok (.astore 6, 2) := by decide +kernel
theorem dX10_digest_91 : decode cX10_digest 91 = .ok (.aload 6, 2) := by decide +kernel
theorem dX10_digest_93 : decode cX10_digest 93 = .ok (.lload_n 1, 1) := by decide +kernel
theorem dX10_digest_94 : decode cX10_digest 94 = .ok (.invokevirtual 360, 3) := by decide +kernel
theorem dX10_digest_97 : decode cX10_digest 97 = .ok (.lstore_n 1, 1) := by decide +kernel
theorem dX10_digest_98 : decode cX10_digest 98 = .ok (.iinc 5 1, 3) := by decide +kernel
theorem dX10_digest_101 : decode cX10_digest 101 = .ok (.goto (-23), 3) := by decide +kernel
theorem dX10_digest_104 : decode cX10_digest 104 = .ok (.aload_n 0, 1) := by decide +kernel
theorem dX10_digest_105 : decode cX10_digest 105 = .ok (.getfield 70, 3) := by decide +kernel
theorem dX10_digest_108 : decode cX10_digest 108 = .ok (.lload_n 1, 1) := by decide +kernel
theorem dX10_digest_109 : decode cX10_digest 109 = .ok (.invokevirtual 361, 3) := by decide +kernel
theorem dX10_digest_112 : decode cX10_digest 112 = .ok (.lstore_n 1, 1) := by decide +kernel
theorem dX10_digest_113 : decode cX10_digest 113 = .ok (.aload_n 0, 1) := by decide +kernel
theorem dX10_digest_114 : decode cX10_digest 114 = .ok (.getfield 11, 3) := by decide +kernel
theorem dX10_digest_117 : decode cX10_digest 117 = .ok (.astore_n 3, 1) := by decide +kernel
theorem dX10_digest_118 : decode cX10_digest 118 = .ok (.aload_n 3, 1) := by decide +kernel
theorem dX10_digest_119 : decode cX10_digest 119 = .ok (.arraylength, 1) := by decide +kernel
theorem dX10_digest_120 : decode cX10_digest 120 = .ok (.istore 4, 2) := by decide +kernel
theorem dX10_digest_122 : decode cX10_digest 122 = .ok (.iconst 0, 1) := by decide +kernel
theorem dX10_digest_123 : decode cX10_digest 123 = .ok (.istore 5, 2) := by decide +kernel
theorem dX10_digest_125 : decode cX10_digest 125 = .ok (.iload 5, 2) := by decide +kernel
theorem dX10_digest_127 : decode cX10_digest 127 = .ok (.iload 4, 2) := by decide +kernel
theorem dX10_digest_129 : decode cX10_digest 129 = .ok (.if_icmp .ge 22, 3) := by decide +kernel
theorem dX10_digest_132 : decode cX10_digest 132 = .ok (.aload_n 3, 1) := by decide +kernel
theorem dX10_digest_133 : decode cX10_digest 133 = .ok (.iload 5, 2) := by decide +kernel
theorem dX10_digest_135 : decode cX10_digest 135 = .ok (.aaload, 1) := by decide +kernel
theorem dX10_digest_136 : decode cX10_digest 136 = .ok (.astore 6, 2) := by decide +kernel
theorem dX10_digest_138 : decode cX10_digest 138 = .ok (.aload 6, 2) := by decide +kernel
theorem dX10_digest_140 : decode cX10_digest 140 = .ok (.lload_n 1, 1) := by decide +kernel
theorem dX10_digest_141 : decode cX10_digest 141 = .ok (.invokevirtual 362, 3) := by decide +kernel
theorem dX10_digest_144 : decode cX10_digest 144 = .ok (.lstore_n 1, 1) := by decide +kernel
theorem dX10_digest_145 : decode cX10_digest 145 = .ok (.iinc 5 1, 3) := by decide +kernel
theorem dX10_digest_148 : decode cX10_digest 148 = .ok (.goto (-23), 3) := by decide +kernel
theorem dX10_digest_151 : decode cX10_digest 151 = .ok (.aload_n 0, 1) := by decide +kernel
theorem dX10_digest_152 : decode cX10_digest 152 = .ok (.getfield 15, 3) := by decide +kernel
theorem dX10_digest_155 : decode cX10_digest 155 = .ok (.astore_n 3, 1) := by decide +kernel
theorem dX10_digest_156 : decode cX10_digest 156 = .ok (.aload_n 3, 1) := by decide +kernel
theorem dX10_digest_157 : decode cX10_digest 157 = .ok (.arraylength, 1) := by decide +kernel
theorem dX10_digest_158 : decode cX10_digest 158 = .ok (.istore 4, 2) := by decide +kernel
theorem dX10_digest_160 : decode cX10_digest 160 = .ok (.iconst 0, 1) := by decide +kernel
theorem dX10_digest_161 : decode cX10_digest 161 = .ok (.istore 5, 2) := by decide +kernel
theorem dX10_digest_163 : decode cX10_digest 163 = .ok (.iload 5, 2) := by decide +kernel
theorem dX10_digest_165 : decode cX10_digest 165 = .ok (.iload 4, 2) := by decide +kernel
theorem dX10_digest_167 : decode cX10_digest 167 = .ok (.if_icmp .ge 22, 3) := by decide +kernel
theorem dX10_digest_170 : decode cX10_digest 170 = .ok (.aload_n 3, 1) := by decide +kernel
theorem dX10_digest_171 : decode cX10_digest 171 = .ok (.iload 5, 2) := by decide +kernel
theorem dX10_digest_173 : decode cX10_digest 173 = .ok (.aaload, 1) := by decide +kernel
theorem dX10_digest_174 : decode cX10_digest 174 = .ok (.astore 6, 2) := by decide +kernel
theorem dX10_digest_176 : decode cX10_digest 176 = .ok (.aload 6, 2) := by decide +kernel
theorem dX10_digest_178 : decode cX10_digest 178 = .ok (.lload_n 1, 1) := by decide +kernel
theorem dX10_digest_179 : decode cX10_digest 179 = .ok (.invokevirtual 362, 3) := by decide +kernel
theorem dX10_digest_182 : decode cX10_digest 182 = .ok (.lstore_n 1, 1) := by decide +kernel
theorem dX10_digest_183 : decode cX10_digest 183 = .ok (.iinc 5 1, 3) := by decide +kernel
theorem dX10_digest_186 : decode cX10_digest 186 = .ok (.goto (-23), 3) := by decide +kernel
theorem dX10_digest_189 : decode cX10_digest 189 = .ok (.lload_n 1, 1) := by decide +kernel
theorem dX10_digest_190 : decode cX10_digest 190 = .ok (.lreturn, 1) := by decide +kernel
set_option maxRecDepth 100000 in
set_option maxHeartbeats 4000000 in
theorem tb_X10_digest_163 {K : sd_K} {E : sd_Env} {M : sd_Mem}  {r : Int64} (C : sd_C K E sd_LC RX10 cX10_digest 7 (some .long))  : ∀ (n : Nat), ∀ (l1 : Int64) (x4 : Int32) (x5 : Int32), fn_X10_digest_163 M n l1 x4 x5 = some r → sd_Z K rm_X10_digest E sd_LC 7 (sd_QL K E sd_LC r M) M 163 [(1, .long l1), (3, .ref (E.2.2 14)), (4, .int x4), (5, .int x5)] [] := by
  intro n
  induction n with
  | zero => intro l1 x4 x5 hF; cases hF
  | succ n ih =>
    intro l1 x4 x5 hF
    unfold fn_X10_digest_163 at hF
    refine sd_iload C 3 dX10_digest_163 rfl rfl (n' := 165) ?_
    refine sd_iload C 2 dX10_digest_165 rfl rfl (n' := 167) ?_
    refine sd_icmp_ge C (n' := 170) (tgt := 189) dX10_digest_167 rfl rfl (fun c167 => ?_) (fun c167 => ?_)
    · replace hF := sd_pos hF c167
      refine sd_lload_n C 0 dX10_digest_189 rfl rfl rfl (n' := 190) ?_
      exact sd_lret C dX10_digest_190 (Option.some.inj hF) rfl
    · replace hF := sd_neg hF c167
      refine sd_aload_n C 1 dX10_digest_170 rfl rfl rfl (n' := 171) ?_
      refine sd_iload C 3 dX10_digest_171 rfl rfl (n' := 173) ?_
      obtain ⟨b173, hF⟩ := sd_ok hF
      refine sd_cald C sd_i14 sd_k14 sd_n14 b173 dX10_digest_173 rfl (n' := 174) ?_
      refine sd_astore [(6, .ref (E.2.2 (14 + 1 + 2 * x5.toNatClampNeg))), (1, .long l1), (3, .ref (E.2.2 14)), (4, .int x4), (5, .int x5)] C dX10_digest_174 (by decide) rfl rfl (n' := 176) ?_
      refine sd_aload C 0 dX10_digest_176 rfl rfl (n' := 178) ?_
      refine sd_lload_n C 1 dX10_digest_178 rfl rfl rfl (n' := 179) ?_
      obtain ⟨q179, e179, hF⟩ := sd_bind hF
      refine sd_callVL [.long l1] [] C (ct_X1_mixInto M (14 + 1 + 2 * x5.toNatClampNeg) l1 ((sd_r14 _ (sd_in_lt b173)).1) e179) sd_lX10_362 ⟨rfl, rfl, Nat.le_of_ble_eq_true rfl, Nat.le_of_ble_eq_true rfl⟩ (sd_mC (sd_r14 _ (sd_in_lt b173)).2) (sd_e2 ((sd_r14 _ (sd_in_lt b173)).1)) rfl rfl rfl (Nat.le_of_ble_eq_true rfl) dX10_digest_179 rfl (n' := 182) ?_
      refine sd_lstore_n [(1, .long q179), (6, .ref (E.2.2 (14 + 1 + 2 * x5.toNatClampNeg))), (3, .ref (E.2.2 14)), (4, .int x4), (5, .int x5)] C dX10_digest_182 rfl (by decide) rfl rfl (n' := 183) ?_
      refine sd_iinc [(5, .int (x5 + (1 : Int32))), (1, .long q179), (6, .ref (E.2.2 (14 + 1 + 2 * x5.toNatClampNeg))), (3, .ref (E.2.2 14)), (4, .int x4)] 4 C dX10_digest_183 rfl rfl (by decide) rfl rfl (n' := 186) ?_
      refine sd_goto C (tgt := 163) dX10_digest_186 rfl ?_
      refine sd_sub [1, 3, 4, 0] rfl ?_
      exact ih q179 x4 (x5 + (1 : Int32)) hF
set_option maxRecDepth 100000 in
set_option maxHeartbeats 4000000 in
theorem tb_X10_digest_151 {K : sd_K} {E : sd_Env} {M : sd_Mem}  {r : Int64} (C : sd_C K E sd_LC RX10 cX10_digest 7 (some .long))  : ∀ (l1 : Int64), fn_X10_digest_151 M l1 = some r → sd_Z K rm_X10_digest E sd_LC 7 (sd_QL K E sd_LC r M) M 151 [(0, .ref (E.2.2 0)), (1, .long l1)] [] := by
  intro l1 hF
  unfold fn_X10_digest_151 at hF
  refine sd_aload_n C 0 dX10_digest_151 rfl rfl rfl (n' := 152) ?_
  refine sd_g10_1 C sd_i0 sd_k0 sd_w329 dX10_digest_152 rfl (n' := 155) ?_
  refine sd_astore_n [(3, .ref (E.2.2 14)), (0, .ref (E.2.2 0)), (1, .long l1)] C dX10_digest_155 rfl (by decide) rfl rfl (n' := 156) ?_
  refine sd_aload_n C 0 dX10_digest_156 rfl rfl rfl (n' := 157) ?_
  refine sd_alenC C sd_i14 sd_k14 sd_n14 rfl dX10_digest_157 rfl (n' := 158) ?_
  refine sd_istore [(4, .int (4 : Int32)), (3, .ref (E.2.2 14)), (0, .ref (E.2.2 0)), (1, .long l1)] C dX10_digest_158 (by decide) rfl rfl (n' := 160) ?_
  refine sd_iconst C (v := 0) dX10_digest_160 rfl rfl (n' := 161) ?_
  refine sd_istore [(5, .int (0 : Int32)), (4, .int (4 : Int32)), (3, .ref (E.2.2 14)), (0, .ref (E.2.2 0)), (1, .long l1)] C dX10_digest_161 (by decide) rfl rfl (n' := 163) ?_
  refine sd_sub [4, 2, 1, 0] rfl ?_
  exact tb_X10_digest_163 C sd_FU l1 (4 : Int32) (0 : Int32) hF
set_option maxRecDepth 100000 in
set_option maxHeartbeats 4000000 in
theorem tb_X10_digest_125 {K : sd_K} {E : sd_Env} {M : sd_Mem}  {r : Int64} (C : sd_C K E sd_LC RX10 cX10_digest 7 (some .long))  : ∀ (n : Nat), ∀ (l1 : Int64) (x4 : Int32) (x5 : Int32), fn_X10_digest_125 M n l1 x4 x5 = some r → sd_Z K rm_X10_digest E sd_LC 7 (sd_QL K E sd_LC r M) M 125 [(0, .ref (E.2.2 0)), (1, .long l1), (3, .ref (E.2.2 1)), (4, .int x4), (5, .int x5)] [] := by
  intro n
  induction n with
  | zero => intro l1 x4 x5 hF; cases hF
  | succ n ih =>
    intro l1 x4 x5 hF
    unfold fn_X10_digest_125 at hF
    refine sd_iload C 4 dX10_digest_125 rfl rfl (n' := 127) ?_
    refine sd_iload C 3 dX10_digest_127 rfl rfl (n' := 129) ?_
    refine sd_icmp_ge C (n' := 132) (tgt := 151) dX10_digest_129 rfl rfl (fun c129 => ?_) (fun c129 => ?_)
    · replace hF := sd_pos hF c129
      refine sd_sub [0, 1] rfl ?_
      exact tb_X10_digest_151 C l1 hF
    · replace hF := sd_neg hF c129
      refine sd_aload_n C 2 dX10_digest_132 rfl rfl rfl (n' := 133) ?_
      refine sd_iload C 4 dX10_digest_133 rfl rfl (n' := 135) ?_
      obtain ⟨b135, hF⟩ := sd_ok hF
      refine sd_cald C sd_i1 sd_k1 sd_n1 b135 dX10_digest_135 rfl (n' := 136) ?_
      refine sd_astore [(6, .ref (E.2.2 (1 + 1 + 2 * x5.toNatClampNeg))), (0, .ref (E.2.2 0)), (1, .long l1), (3, .ref (E.2.2 1)), (4, .int x4), (5, .int x5)] C dX10_digest_136 (by decide) rfl rfl (n' := 138) ?_
      refine sd_aload C 0 dX10_digest_138 rfl rfl (n' := 140) ?_
      refine sd_lload_n C 2 dX10_digest_140 rfl rfl rfl (n' := 141) ?_
      obtain ⟨q141, e141, hF⟩ := sd_bind hF
      refine sd_callVL [.long l1] [] C (ct_X1_mixInto M (1 + 1 + 2 * x5.toNatClampNeg) l1 ((sd_r1 _ (sd_in_lt b135)).1) e141) sd_lX10_362 ⟨rfl, rfl, Nat.le_of_ble_eq_true rfl, Nat.le_of_ble_eq_true rfl⟩ (sd_mC (sd_r1 _ (sd_in_lt b135)).2) (sd_e2 ((sd_r1 _ (sd_in_lt b135)).1)) rfl rfl rfl (Nat.le_of_ble_eq_true rfl) dX10_digest_141 rfl (n' := 144) ?_
      refine sd_lstore_n [(1, .long q141), (6, .ref (E.2.2 (1 + 1 + 2 * x5.toNatClampNeg))), (0, .ref (E.2.2 0)), (3, .ref (E.2.2 1)), (4, .int x4), (5, .int x5)] C dX10_digest_144 rfl (by decide) rfl rfl (n' := 145) ?_
      refine sd_iinc [(5, .int (x5 + (1 : Int32))), (1, .long q141), (6, .ref (E.2.2 (1 + 1 + 2 * x5.toNatClampNeg))), (0, .ref (E.2.2 0)), (3, .ref (E.2.2 1)), (4, .int x4)] 5 C dX10_digest_145 rfl rfl (by decide) rfl rfl (n' := 148) ?_
      refine sd_goto C (tgt := 125) dX10_digest_148 rfl ?_
      refine sd_sub [3, 1, 4, 5, 0] rfl ?_
      exact ih q141 x4 (x5 + (1 : Int32)) hF
set_option maxRecDepth 100000 in
set_option maxHeartbeats 4000000 in
theorem tb_X10_digest_104 {K : sd_K} {E : sd_Env} {M : sd_Mem}  {r : Int64} (C : sd_C K E sd_LC RX10 cX10_digest 7 (some .long))  : ∀ (l1 : Int64), fn_X10_digest_104 M l1 = some r → sd_Z K rm_X10_digest E sd_LC 7 (sd_QL K E sd_LC r M) M 104 [(0, .ref (E.2.2 0)), (1, .long l1)] [] := by
  intro l1 hF
  unfold fn_X10_digest_104 at hF
  refine sd_aload_n C 0 dX10_digest_104 rfl rfl rfl (n' := 105) ?_
  refine sd_g10_10 C sd_i0 sd_k0 sd_w338 dX10_digest_105 rfl (n' := 108) ?_
  refine sd_lload_n C 1 dX10_digest_108 rfl rfl rfl (n' := 109) ?_
  obtain ⟨q109, e109, hF⟩ := sd_bind hF
  refine sd_callVL [.long l1] [] C (ct_X8_mixInto M l1  e109) sd_lX10_361 ⟨rfl, rfl, Nat.le_of_ble_eq_true rfl, Nat.le_of_ble_eq_true rfl⟩ sd_i90 (sd_e9 sd_k90) rfl rfl rfl (Nat.le_of_ble_eq_true rfl) dX10_digest_109 rfl (n' := 112) ?_
  refine sd_lstore_n [(1, .long q109), (0, .ref (E.2.2 0))] C dX10_digest_112 rfl (by decide) rfl rfl (n' := 113) ?_
  refine sd_aload_n C 1 dX10_digest_113 rfl rfl rfl (n' := 114) ?_
  refine sd_g10_0 C sd_i0 sd_k0 sd_w328 dX10_digest_114 rfl (n' := 117) ?_
  refine sd_astore_n [(3, .ref (E.2.2 1)), (1, .long q109), (0, .ref (E.2.2 0))] C dX10_digest_117 rfl (by decide) rfl rfl (n' := 118) ?_
  refine sd_aload_n C 0 dX10_digest_118 rfl rfl rfl (n' := 119) ?_
  refine sd_alenC C sd_i1 sd_k1 sd_n1 rfl dX10_digest_119 rfl (n' := 120) ?_
  refine sd_istore [(4, .int (6 : Int32)), (3, .ref (E.2.2 1)), (1, .long q109), (0, .ref (E.2.2 0))] C dX10_digest_120 (by decide) rfl rfl (n' := 122) ?_
  refine sd_iconst C (v := 0) dX10_digest_122 rfl rfl (n' := 123) ?_
  refine sd_istore [(5, .int (0 : Int32)), (4, .int (6 : Int32)), (3, .ref (E.2.2 1)), (1, .long q109), (0, .ref (E.2.2 0))] C dX10_digest_123 (by decide) rfl rfl (n' := 125) ?_
  refine sd_sub [4, 3, 2, 1, 0] rfl ?_
  exact tb_X10_digest_125 C sd_FU q109 (6 : Int32) (0 : Int32) hF
set_option maxRecDepth 100000 in
set_option maxHeartbeats 4000000 in
theorem tb_X10_digest_78 {K : sd_K} {E : sd_Env} {M : sd_Mem}  {r : Int64} (C : sd_C K E sd_LC RX10 cX10_digest 7 (some .long))  : ∀ (n : Nat), ∀ (l1 : Int64) (x4 : Int32) (x5 : Int32), fn_X10_digest_78 M n l1 x4 x5 = some r → sd_Z K rm_X10_digest E sd_LC 7 (sd_QL K E sd_LC r M) M 78 [(0, .ref (E.2.2 0)), (1, .long l1), (3, .ref (E.2.2 23)), (4, .int x4), (5, .int x5)] [] := by
  intro n
  induction n with
  | zero => intro l1 x4 x5 hF; cases hF
  | succ n ih =>
    intro l1 x4 x5 hF
    unfold fn_X10_digest_78 at hF
    refine sd_iload C 4 dX10_digest_78 rfl rfl (n' := 80) ?_
    refine sd_iload C 3 dX10_digest_80 rfl rfl (n' := 82) ?_
    refine sd_icmp_ge C (n' := 85) (tgt := 104) dX10_digest_82 rfl rfl (fun c82 => ?_) (fun c82 => ?_)
    · replace hF := sd_pos hF c82
      refine sd_sub [0, 1] rfl ?_
      exact tb_X10_digest_104 C l1 hF
    · replace hF := sd_neg hF c82
      refine sd_aload_n C 2 dX10_digest_85 rfl rfl rfl (n' := 86) ?_
      refine sd_iload C 4 dX10_digest_86 rfl rfl (n' := 88) ?_
      obtain ⟨b88, hF⟩ := sd_ok hF
      refine sd_wald C sd_i23 sd_k23 sd_n23 b88 dX10_digest_88 rfl (n' := 89) ?_
      refine sd_astore [(6, .ref (E.2.2 (23 + 1 + 2 * x5.toNatClampNeg))), (0, .ref (E.2.2 0)), (1, .long l1), (3, .ref (E.2.2 23)), (4, .int x4), (5, .int x5)] C dX10_digest_89 (by decide) rfl rfl (n' := 91) ?_
      refine sd_aload C 0 dX10_digest_91 rfl rfl (n' := 93) ?_
      refine sd_lload_n C 2 dX10_digest_93 rfl rfl rfl (n' := 94) ?_
      obtain ⟨q94, e94, hF⟩ := sd_bind hF
      refine sd_callVL [.long l1] [] C (ct_X9_mixInto M (23 + 1 + 2 * x5.toNatClampNeg) l1 ((sd_r23 _ (sd_in_lt b88)).1) e94) sd_lX10_360 ⟨rfl, rfl, Nat.le_of_ble_eq_true rfl, Nat.le_of_ble_eq_true rfl⟩ (sd_mC (sd_r23 _ (sd_in_lt b88)).2) (sd_e10 ((sd_r23 _ (sd_in_lt b88)).1)) rfl rfl rfl (Nat.le_of_ble_eq_true rfl) dX10_digest_94 rfl (n' := 97) ?_
      refine sd_lstore_n [(1, .long q94), (6, .ref (E.2.2 (23 + 1 + 2 * x5.toNatClampNeg))), (0, .ref (E.2.2 0)), (3, .ref (E.2.2 23)), (4, .int x4), (5, .int x5)] C dX10_digest_97 rfl (by decide) rfl rfl (n' := 98) ?_
      refine sd_iinc [(5, .int (x5 + (1 : Int32))), (1, .long q94), (6, .ref (E.2.2 (23 + 1 + 2 * x5.toNatClampNeg))), (0, .ref (E.2.2 0)), (3, .ref (E.2.2 23)), (4, .int x4)] 5 C dX10_digest_98 rfl rfl (by decide) rfl rfl (n' := 101) ?_
      refine sd_goto C (tgt := 78) dX10_digest_101 rfl ?_
      refine sd_sub [3, 1, 4, 5, 0] rfl ?_
      exact ih q94 x4 (x5 + (1 : Int32)) hF
set_option maxRecDepth 100000 in
set_option maxHeartbeats 4000000 in
theorem tb_X10_digest_57 {K : sd_K} {E : sd_Env} {M : sd_Mem}  {r : Int64} (C : sd_C K E sd_LC RX10 cX10_digest 7 (some .long))  : ∀ (l1 : Int64), fn_X10_digest_57 M l1 = some r → sd_Z K rm_X10_digest E sd_LC 7 (sd_QL K E sd_LC r M) M 57 [(0, .ref (E.2.2 0)), (1, .long l1)] [] := by
  intro l1 hF
  unfold fn_X10_digest_57 at hF
  refine sd_aload_n C 0 dX10_digest_57 rfl rfl rfl (n' := 58) ?_
  refine sd_g10_3 C sd_i0 sd_k0 sd_w331 dX10_digest_58 rfl (n' := 61) ?_
  refine sd_lload_n C 1 dX10_digest_61 rfl rfl rfl (n' := 62) ?_
  obtain ⟨q62, e62, hF⟩ := sd_bind hF
  refine sd_callVL [.long l1] [] C (ct_X5_mixInto M 40 l1 sd_k40 e62) sd_lX10_356 ⟨rfl, rfl, Nat.le_of_ble_eq_true rfl, Nat.le_of_ble_eq_true rfl⟩ sd_i40 (sd_e6 sd_k40) rfl rfl rfl (Nat.le_of_ble_eq_true rfl) dX10_digest_62 rfl (n' := 65) ?_
  refine sd_lstore_n [(1, .long q62), (0, .ref (E.2.2 0))] C dX10_digest_65 rfl (by decide) rfl rfl (n' := 66) ?_
  refine sd_aload_n C 1 dX10_digest_66 rfl rfl rfl (n' := 67) ?_
  refine sd_g10_2 C sd_i0 sd_k0 sd_w330 dX10_digest_67 rfl (n' := 70) ?_
  refine sd_astore_n [(3, .ref (E.2.2 23)), (1, .long q62), (0, .ref (E.2.2 0))] C dX10_digest_70 rfl (by decide) rfl rfl (n' := 71) ?_
  refine sd_aload_n C 0 dX10_digest_71 rfl rfl rfl (n' := 72) ?_
  refine sd_alenW C sd_i23 sd_k23 sd_n23 rfl dX10_digest_72 rfl (n' := 73) ?_
  refine sd_istore [(4, .int (8 : Int32)), (3, .ref (E.2.2 23)), (1, .long q62), (0, .ref (E.2.2 0))] C dX10_digest_73 (by decide) rfl rfl (n' := 75) ?_
  refine sd_iconst C (v := 0) dX10_digest_75 rfl rfl (n' := 76) ?_
  refine sd_istore [(5, .int (0 : Int32)), (4, .int (8 : Int32)), (3, .ref (E.2.2 23)), (1, .long q62), (0, .ref (E.2.2 0))] C dX10_digest_76 (by decide) rfl rfl (n' := 78) ?_
  refine sd_sub [4, 3, 2, 1, 0] rfl ?_
  exact tb_X10_digest_78 C sd_FU q62 (8 : Int32) (0 : Int32) hF
set_option maxRecDepth 100000 in
set_option maxHeartbeats 4000000 in
theorem tb_X10_digest_32 {K : sd_K} {E : sd_Env} {M : sd_Mem}  {r : Int64} (C : sd_C K E sd_LC RX10 cX10_digest 7 (some .long))  : ∀ (n : Nat), ∀ (l1 : Int64) (x3 : Int32), fn_X10_digest_32 M n l1 x3 = some r → sd_Z K rm_X10_digest E sd_LC 7 (sd_QL K E sd_LC r M) M 32 [(0, .ref (E.2.2 0)), (1, .long l1), (3, .int x3)] [] := by
  intro n
  induction n with
  | zero => intro l1 x3 hF; cases hF
  | succ n ih =>
    intro l1 x3 hF
    unfold fn_X10_digest_32 at hF
    refine sd_iload_n C 2 dX10_digest_32 rfl rfl rfl (n' := 33) ?_
    refine sd_bipush C (v := 8) dX10_digest_33 rfl rfl (n' := 35) ?_
    refine sd_icmp_gt C (n' := 38) (tgt := 57) dX10_digest_35 rfl rfl (fun c35 => ?_) (fun c35 => ?_)
    · replace hF := sd_pos hF c35
      refine sd_sub [0, 1] rfl ?_
      exact tb_X10_digest_57 C l1 hF
    · replace hF := sd_neg hF c35
      refine sd_ldc2 C (v := 31) sd_w1013 dX10_digest_38 rfl (n' := 41) ?_
      refine sd_lload_n C 1 dX10_digest_41 rfl rfl rfl (n' := 42) ?_
      refine sd_lmul C dX10_digest_42 rfl (n' := 43) ?_
      refine sd_aload_n C 0 dX10_digest_43 rfl rfl rfl (n' := 44) ?_
      refine sd_iload_n C 2 dX10_digest_44 rfl rfl rfl (n' := 45) ?_
      obtain ⟨q45, e45, hF⟩ := sd_bind hF
      refine sd_callVI [.int x3] [.long ((31 : Int64) * l1)] C (ct_X10_ofQuarrel M x3  e45) sd_lX10_156 ⟨rfl, rfl, Nat.le_of_ble_eq_true rfl, Nat.le_of_ble_eq_true rfl⟩ sd_i0 (sd_e11 sd_k0) rfl rfl rfl (Nat.le_of_ble_eq_true rfl) dX10_digest_45 rfl (n' := 48) ?_
      refine sd_i2l C dX10_digest_48 rfl (n' := 49) ?_
      refine sd_ladd C dX10_digest_49 rfl (n' := 50) ?_
      refine sd_lstore_n [(1, .long (((31 : Int64) * l1) + q45.toInt64)), (0, .ref (E.2.2 0)), (3, .int x3)] C dX10_digest_50 rfl (by decide) rfl rfl (n' := 51) ?_
      refine sd_iinc [(3, .int (x3 + (1 : Int32))), (1, .long (((31 : Int64) * l1) + q45.toInt64)), (0, .ref (E.2.2 0))] 2 C dX10_digest_51 rfl rfl (by decide) rfl rfl (n' := 54) ?_
      refine sd_goto C (tgt := 32) dX10_digest_54 rfl ?_
      refine sd_sub [2, 1, 0] rfl ?_
      exact ih (((31 : Int64) * l1) + q45.toInt64) (x3 + (1 : Int32)) hF
set_option maxRecDepth 100000 in
set_option maxHeartbeats 4000000 in
theorem tb_X10_digest_6 {K : sd_K} {E : sd_Env} {M : sd_Mem}  {r : Int64} (C : sd_C K E sd_LC RX10 cX10_digest 7 (some .long))  : ∀ (n : Nat), ∀ (l1 : Int64) (x3 : Int32), fn_X10_digest_6 M n l1 x3 = some r → sd_Z K rm_X10_digest E sd_LC 7 (sd_QL K E sd_LC r M) M 6 [(0, .ref (E.2.2 0)), (1, .long l1), (3, .int x3)] [] := by
  intro n
  induction n with
  | zero => intro l1 x3 hF; cases hF
  | succ n ih =>
    intro l1 x3 hF
    unfold fn_X10_digest_6 at hF
    refine sd_iload_n C 2 dX10_digest_6 rfl rfl rfl (n' := 7) ?_
    refine sd_iconst C (v := 4) dX10_digest_7 rfl rfl (n' := 8) ?_
    refine sd_icmp_gt C (n' := 11) (tgt := 30) dX10_digest_8 rfl rfl (fun c8 => ?_) (fun c8 => ?_)
    · replace hF := sd_pos hF c8
      refine sd_iconst C (v := 0) dX10_digest_30 rfl rfl (n' := 31) ?_
      refine sd_istore_n [(3, .int (0 : Int32)), (0, .ref (E.2.2 0)), (1, .long l1)] C dX10_digest_31 rfl (by decide) rfl rfl (n' := 32) ?_
      refine sd_sub [1, 2, 0] rfl ?_
      exact tb_X10_digest_32 C sd_FU l1 (0 : Int32) hF
    · replace hF := sd_neg hF c8
      refine sd_ldc2 C (v := 31) sd_w1013 dX10_digest_11 rfl (n' := 14) ?_
      refine sd_lload_n C 1 dX10_digest_14 rfl rfl rfl (n' := 15) ?_
      refine sd_lmul C dX10_digest_15 rfl (n' := 16) ?_
      refine sd_aload_n C 0 dX10_digest_16 rfl rfl rfl (n' := 17) ?_
      refine sd_iload_n C 2 dX10_digest_17 rfl rfl rfl (n' := 18) ?_
      obtain ⟨q18, e18, hF⟩ := sd_bind hF
      refine sd_callVI [.int x3] [.long ((31 : Int64) * l1)] C (ct_X10_counted M x3  e18) sd_lX10_343 ⟨rfl, rfl, Nat.le_of_ble_eq_true rfl, Nat.le_of_ble_eq_true rfl⟩ sd_i0 (sd_e11 sd_k0) rfl rfl rfl (Nat.le_of_ble_eq_true rfl) dX10_digest_18 rfl (n' := 21) ?_
      refine sd_i2l C dX10_digest_21 rfl (n' := 22) ?_
      refine sd_ladd C dX10_digest_22 rfl (n' := 23) ?_
      refine sd_lstore_n [(1, .long (((31 : Int64) * l1) + q18.toInt64)), (0, .ref (E.2.2 0)), (3, .int x3)] C dX10_digest_23 rfl (by decide) rfl rfl (n' := 24) ?_
      refine sd_iinc [(3, .int (x3 + (1 : Int32))), (1, .long (((31 : Int64) * l1) + q18.toInt64)), (0, .ref (E.2.2 0))] 2 C dX10_digest_24 rfl rfl (by decide) rfl rfl (n' := 27) ?_
      refine sd_goto C (tgt := 6) dX10_digest_27 rfl ?_
      refine sd_sub [2, 1, 0] rfl ?_
      exact ih (((31 : Int64) * l1) + q18.toInt64) (x3 + (1 : Int32)) hF
set_option maxRecDepth 100000 in
set_option maxHeartbeats 4000000 in
theorem tb_X10_digest_0 {K : sd_K} {E : sd_Env} {M : sd_Mem}  {r : Int64} (C : sd_C K E sd_LC RX10 cX10_digest 7 (some .long))  : fn_X10_digest_0 M = some r → sd_Z K rm_X10_digest E sd_LC 7 (sd_QL K E sd_LC r M) M 0 [(0, .ref (E.2.2 0))] [] := by
  intro hF
  unfold fn_X10_digest_0 at hF
  refine sd_ldc2 C (v := 17) sd_w1012 dX10_digest_0 rfl (n' := 3) ?_
  refine sd_lstore_n [(1, .long (17 : Int64)), (0, .ref (E.2.2 0))] C dX10_digest_3 rfl (by decide) rfl rfl (n' := 4) ?_
  refine sd_iconst C (v := 0) dX10_digest_4 rfl rfl (n' := 5) ?_
  refine sd_istore_n [(3, .int (0 : Int32)), (1, .long (17 : Int64)), (0, .ref (E.2.2 0))] C dX10_digest_5 rfl (by decide) rfl rfl (n' := 6) ?_
  refine sd_sub [2, 1, 0] rfl ?_
  exact tb_X10_digest_6 C sd_FU (17 : Int64) (0 : Int32) hF
theorem ct_X10_digest {l : Launch} {E : sd_Env} (M : sd_Mem)   {r : Int64} (hF : fn_X10_digest M = some r) : sd_ML l E sd_LC yX10_digest cX10_digest 7 (some .long) rm_X10_digest [.ref (E.2.2 0)] M r M := sd_ent0 (by decide +kernel) (Nat.le_of_ble_eq_true rfl) (fun p e s m below meth c C => tb_X10_digest_0 C hF)
theorem dX11_in_0 : decode cX11_in 0 = .ok (.iload_n 0, 1) := by decide +kernel
theorem dX11_in_1 : decode cX11_in 1 = .ok (.iload_n 1, 1) := by decide +kernel
theorem dX11_in_2 : decode cX11_in 2 = .ok (.if_icmp .lt 12, 3) := by decide +kernel
theorem dX11_in_5 : decode cX11_in 5 = .ok (.iload_n 0, 1) := by decide +kernel
theorem dX11_in_6 : decode cX11_in 6 = .ok (.iload_n 2, 1) := by decide +kernel
theorem dX11_in_7 : decode cX11_in 7 = .ok (.if_icmp .gt 7, 3) := by decide +kernel
theorem dX11_in_10 : decode cX11_in 10 = .ok (.iconst 1, 1) := by decide +kernel
theorem dX11_in_11 : decode cX11_in 11 = .ok (.goto 4, 3) := by decide +kernel
theorem dX11_in_14 : decode cX11_in 14 = .ok (.iconst 0, 1) := by decide +kernel
theorem dX11_in_15 : decode cX11_in 15 = .ok (.ireturn, 1) := by decide +kernel
set_option maxRecDepth 100000 in
set_option maxHeartbeats 4000000 in
theorem tb_X11_in_0 {K : sd_K} {E : sd_Env} {M : sd_Mem}  {r : Int32} (C : sd_C K E sd_LM RX11 cX11_in 3 (some .boolean))  : ∀ (x0 : Int32) (x1 : Int32) (x2 : Int32), fn_X11_in_0 x0 x1 x2 = some r → sd_Z K rm_X11_in E sd_LM 3 (sd_QI K E sd_LM r M) M 0 [(0, .int x0), (1, .int x1), (2, .int x2)] [] := by
  intro x0 x1 x2 hF
  unfold fn_X11_in_0 at hF
  refine sd_iload_n C 0 dX11_in_0 rfl rfl rfl (n' := 1) ?_
  refine sd_iload_n C 1 dX11_in_1 rfl rfl rfl (n' := 2) ?_
  refine sd_icmp_lt C (n' := 5) (tgt := 14) dX11_in_2 rfl rfl (fun c2 => ?_) (fun c2 => ?_)
  · replace hF := sd_pos hF c2
    refine sd_iconst C (v := 0) dX11_in_14 rfl rfl (n' := 15) ?_
    exact sd_zret C dX11_in_15 rfl (Option.some.inj hF) rfl
  · replace hF := sd_neg hF c2
    refine sd_iload_n C 0 dX11_in_5 rfl rfl rfl (n' := 6) ?_
    refine sd_iload_n C 2 dX11_in_6 rfl rfl rfl (n' := 7) ?_
    refine sd_icmp_gt C (n' := 10) (tgt := 14) dX11_in_7 rfl rfl (fun c7 => ?_) (fun c7 => ?_)
    · replace hF := sd_pos hF c7
      refine sd_iconst C (v := 0) dX11_in_14 rfl rfl (n' := 15) ?_
      exact sd_zret C dX11_in_15 rfl (Option.some.inj hF) rfl
    · replace hF := sd_neg hF c7
      refine sd_iconst C (v := 1) dX11_in_10 rfl rfl (n' := 11) ?_
      refine sd_goto C (tgt := 15) dX11_in_11 rfl ?_
      exact sd_zret C dX11_in_15 rfl (Option.some.inj hF) rfl
theorem ct_X11_in {l : Launch} {E : sd_Env} (M : sd_Mem) (x0 : Int32) (x1 : Int32) (x2 : Int32)  {r : Int32} (hF : fn_X11_in x0 x1 x2 = some r) : sd_MI l E sd_LM yX11_in cX11_in 3 (some .boolean) rm_X11_in [.int x0, .int x1, .int x2] M r M := sd_ent0 (by decide +kernel) (Nat.le_of_ble_eq_true rfl) (fun p e s m below meth c C => tb_X11_in_0 C x0 x1 x2 hF)
theorem dX11_isRow_0 : decode cX11_isRow 0 = .ok (.iload_n 0, 1) := by decide +kernel
theorem dX11_isRow_1 : decode cX11_isRow 1 = .ok (.iconst 0, 1) := by decide +kernel
theorem dX11_isRow_2 : decode cX11_isRow 2 = .ok (.iconst 5, 1) := by decide +kernel
theorem dX11_isRow_3 : decode cX11_isRow 3 = .ok (.invokestatic 97, 3) := by decide +kernel
theorem dX11_isRow_6 : decode cX11_isRow 6 = .ok (.ireturn, 1) := by decide +kernel
set_option maxRecDepth 100000 in
set_option maxHeartbeats 4000000 in
theorem tb_X11_isRow_0 {K : sd_K} {E : sd_Env} {M : sd_Mem}  {r : Int32} (C : sd_C K E sd_LM RX11 cX11_isRow 1 (some .boolean))  : ∀ (x0 : Int32), fn_X11_isRow_0 x0 = some r → sd_Z K rm_X11_isRow E sd_LM 1 (sd_QI K E sd_LM r M) M 0 [(0, .int x0)] [] := by
  intro x0 hF
  unfold fn_X11_isRow_0 at hF
  refine sd_iload_n C 0 dX11_isRow_0 rfl rfl rfl (n' := 1) ?_
  refine sd_iconst C (v := 0) dX11_isRow_1 rfl rfl (n' := 2) ?_
  refine sd_iconst C (v := 5) dX11_isRow_2 rfl rfl (n' := 3) ?_
  obtain ⟨q3, e3, hF⟩ := sd_bind hF
  refine sd_callSI [.int x0, .int (0 : Int32), .int (5 : Int32)] [] C (ct_X11_in M x0 (0 : Int32) (5 : Int32)  e3) sd_lX11_97 ⟨rfl, rfl, Nat.le_of_ble_eq_true rfl, Nat.le_of_ble_eq_true rfl⟩ rfl (Nat.le_of_ble_eq_true rfl) dX11_isRow_3 rfl (n' := 6) ?_
  obtain ⟨b6, hF⟩ := sd_ok hF
  exact sd_zret C dX11_isRow_6 (Decidable.of_not_not b6) (Option.some.inj hF) rfl
theorem ct_X11_isRow {l : Launch} {E : sd_Env} (M : sd_Mem) (x0 : Int32)  {r : Int32} (hF : fn_X11_isRow x0 = some r) : sd_MI l E sd_LM yX11_isRow cX11_isRow 1 (some .boolean) rm_X11_isRow [.int x0] M r M := sd_ent0 (by decide +kernel) (Nat.le_of_ble_eq_true rfl) (fun p e s m below meth c C => tb_X11_isRow_0 C x0 hF)
theorem dX11_meets_0 : decode cX11_meets 0 = .ok (.aload_n 0, 1) := by decide +kernel
theorem dX11_meets_1 : decode cX11_meets 1 = .ok (.iload_n 1, 1) := by decide +kernel
theorem dX11_meets_2 : decode cX11_meets 2 = .ok (.putfield 88, 3) := by decide +kernel
theorem dX11_meets_5 : decode cX11_meets 5 = .ok (.aload_n 0, 1) := by decide +kernel
theorem dX11_meets_6 : decode cX11_meets 6 = .ok (.getfield 7, 3) := by decide +kernel
theorem dX11_meets_9 : decode cX11_meets 9 = .ok (.iload_n 1, 1) := by decide +kernel
theorem dX11_meets_10 : decode cX11_meets 10 = .ok (.dup2, 1) := by decide +kernel
theorem dX11_meets_11 : decode cX11_meets 11 = .ok (.iaload, 1) := by decide +kernel
theorem dX11_meets_12 : decode cX11_meets 12 = .ok (.iconst 1, 1) := by decide +kernel
theorem dX11_meets_13 : decode cX11_meets 13 = .ok (.iadd, 1) := by decide +kernel
theorem dX11_meets_14 : decode cX11_meets 14 = .ok (.iastore, 1) := by decide +kernel
theorem dX11_meets_15 : decode cX11_meets 15 = .ok (.bipush (-3), 2) := by decide +kernel
theorem dX11_meets_17 : decode cX11_meets 17 = .ok (.ireturn, 1) := by decide +kernel
set_option maxRecDepth 100000 in
set_option maxHeartbeats 4000000 in
theorem tb_X11_meets_0 {K : sd_K} {E : sd_Env}   {r : (Int32 × sd_Mem)} (C : sd_C K E sd_LM RX11 cX11_meets 2 (some .int))  : ∀ (M : sd_Mem) (x1 : Int32), fn_X11_meets_0 M x1 = some r → sd_Z K rm_X11_meets E sd_LM 2 (sd_QI K E sd_LM r.1 r.2) M 0 [(0, .ref (E.2.2 100)), (1, .int x1)] [] := by
  intro M x1 hF
  unfold fn_X11_meets_0 at hF
  refine sd_aload_n C 0 dX11_meets_0 rfl rfl rfl (n' := 1) ?_
  refine sd_iload_n C 1 dX11_meets_1 rfl rfl rfl (n' := 2) ?_
  refine sd_p11_0 C sd_i100 sd_k100 sd_w1041 dX11_meets_2 rfl (n' := 5) ?_
  refine sd_aload_n C 0 dX11_meets_5 rfl rfl rfl (n' := 6) ?_
  refine sd_g11_1 C sd_i100 sd_k100 sd_w1042 dX11_meets_6 rfl (n' := 9) ?_
  refine sd_iload_n C 1 dX11_meets_9 rfl rfl rfl (n' := 10) ?_
  refine sd_dup2 C dX11_meets_10 rfl rfl rfl (n' := 11) ?_
  obtain ⟨b11, hF⟩ := sd_ok hF
  refine sd_iald C sd_i101 sd_k101 sd_n101 b11 dX11_meets_11 rfl (n' := 12) ?_
  refine sd_iconst C (v := 1) dX11_meets_12 rfl rfl (n' := 13) ?_
  refine sd_iadd C dX11_meets_13 rfl (n' := 14) ?_
  obtain ⟨b14, hF⟩ := sd_ok hF
  refine sd_iast C sd_i101 sd_k101 sd_n101 b14 dX11_meets_14 rfl (n' := 15) ?_
  refine sd_bipush C (v := -3) dX11_meets_15 rfl rfl (n' := 17) ?_
  exact sd_iret C dX11_meets_17 (sd_fst hF) (sd_snd hF)
theorem ct_X11_meets {l : Launch} {E : sd_Env} (M : sd_Mem) (x1 : Int32)  {r : (Int32 × sd_Mem)} (hF : fn_X11_meets M x1 = some r) : sd_MI l E sd_LM yX11_meets cX11_meets 2 (some .int) rm_X11_meets [.ref (E.2.2 100), .int x1] M r.1 r.2 := sd_ent0 (by decide +kernel) (Nat.le_of_ble_eq_true rfl) (fun p e s m below meth c C => tb_X11_meets_0 C M x1 hF)
theorem dX11_row_0 : decode cX11_row 0 = .ok (.iload_n 1, 1) := by decide +kernel
theorem dX11_row_1 : decode cX11_row 1 = .ok (.invokestatic 101, 3) := by decide +kernel
theorem dX11_row_4 : decode cX11_row 4 = .ok (.ifCond .eq 9, 3) := by decide +kernel
theorem dX11_row_7 : decode cX11_row 7 = .ok (.iload_n 2, 1) := by decide +kernel
theorem dX11_row_8 : decode cX11_row 8 = .ok (.bipush 40, 2) := by decide +kernel
theorem dX11_row_10 : decode cX11_row 10 = .ok (.if_icmp .le 5, 3) := by decide +kernel
theorem dX11_row_13 : decode cX11_row 13 = .ok (.iconst (-1), 1) := by decide +kernel
theorem dX11_row_14 : decode cX11_row 14 = .ok (.ireturn, 1) := by decide +kernel
theorem dX11_row_15 : decode cX11_row 15 = .ok (.iload_n 2, 1) := by decide +kernel
theorem dX11_row_16 : decode cX11_row 16 = .ok (.ifCond .ge 9, 3) := by decide +kernel
theorem dX11_row_19 : decode cX11_row 19 = .ok (.aload_n 0, 1) := by decide +kernel
theorem dX11_row_20 : decode cX11_row 20 = .ok (.iconst 5, 1) := by decide +kernel
theorem dX11_row_21 : decode cX11_row 21 = .ok (.invokevirtual 105, 3) := by decide +kernel
theorem dX11_row_24 : decode cX11_row 24 = .ok (.ireturn, 1) := by decide +kernel
theorem dX11_row_25 : decode cX11_row 25 = .ok (.aload_n 0, 1) := by decide +kernel
theorem dX11_row_26 : decode cX11_row 26 = .ok (.getfield 17, 3) := by decide +kernel
theorem dX11_row_29 : decode cX11_row 29 = .ok (.iload_n 1, 1) := by decide +kernel
theorem dX11_row_30 : decode cX11_row 30 = .ok (.iload_n 2, 1) := by decide +kernel
theorem dX11_row_31 : decode cX11_row 31 = .ok (.iastore, 1) := by decide +kernel
theorem dX11_row_32 : decode cX11_row 32 = .ok (.iconst 0, 1) := by decide +kernel
theorem dX11_row_33 : decode cX11_row 33 = .ok (.istore_n 3, 1) := by decide +kernel
theorem dX11_row_34 : decode cX11_row 34 = .ok (.iload_n 3, 1) := by decide +kernel
theorem dX11_row_35 : decode cX11_row 35 = .ok (.bipush 40, 2) := by decide +kernel
theorem dX11_row_37 : decode cX11_row 37 = .ok (.if_icmp .ge 21, 3) := by decide +kernel
theorem dX11_row_40 : decode cX11_row 40 = .ok (.aload_n 0, 1) := by decide +kernel
theorem dX11_row_41 : decode cX11_row 41 = .ok (.getfield 20, 3) := by decide +kernel
theorem dX11_row_44 : decode cX11_row 44 = .ok (.bipush 40, 2) := by decide +kernel
theorem dX11_row_46 : decode cX11_row 46 = .ok (.iload_n 1, 1) := by decide +kernel
theorem dX11_row_47 : decode cX11_row 47 = .ok (.imul, 1) := by decide +kernel
theorem dX11_row_48 : decode cX11_row 48 = .ok (.iload_n 3, 1) := by decide +kernel
theorem dX11_row_49 : decode cX11_row 49 = .ok (.iadd, 1) := by decide +kernel
theorem dX11_row_50 : decode cX11_row 50 = .ok (.iconst 0, 1) := by decide +kernel
theorem dX11_row_51 : decode cX11_row 51 = .ok (.iastore, 1) := by decide +kernel
theorem dX11_row_52 : decode cX11_row 52 = .ok (.iinc 3 1, 3) := by decide +kernel
theorem dX11_row_55 : decode cX11_row 55 = .ok (.goto (-21), 3) := by decide +kernel
theorem dX11_row_58 : decode cX11_row 58 = .ok (.iload_n 2, 1) := by decide +kernel
theorem dX11_row_59 : decode cX11_row 59 = .ok (.ireturn, 1) := by decide +kernel
set_option maxRecDepth 100000 in
set_option maxHeartbeats 4000000 in
theorem tb_X11_row_34 {K : sd_K} {E : sd_Env}   {r : (Int32 × sd_Mem)} (C : sd_C K E sd_LM RX11 cX11_row 4 (some .int))  : ∀ (n : Nat), ∀ (M : sd_Mem) (x1 : Int32) (x2 : Int32) (x3 : Int32), fn_X11_row_34 n M x1 x2 x3 = some r → sd_Z K rm_X11_row E sd_LM 4 (sd_QI K E sd_LM r.1 r.2) M 34 [(0, .ref (E.2.2 100)), (1, .int x1), (2, .int x2), (3, .int x3)] [] := by
  intro n
  induction n with
  | zero => intro M x1 x2 x3 hF; cases hF
  | succ n ih =>
    intro M x1 x2 x3 hF
    unfold fn_X11_row_34 at hF
    refine sd_iload_n C 3 dX11_row_34 rfl rfl rfl (n' := 35) ?_
    refine sd_bipush C (v := 40) dX11_row_35 rfl rfl (n' := 37) ?_
    refine sd_icmp_ge C (n' := 40) (tgt := 58) dX11_row_37 rfl rfl (fun c37 => ?_) (fun c37 => ?_)
    · replace hF := sd_pos hF c37
      refine sd_iload_n C 2 dX11_row_58 rfl rfl rfl (n' := 59) ?_
      exact sd_iret C dX11_row_59 (sd_fst hF) (sd_snd hF)
    · replace hF := sd_neg hF c37
      refine sd_aload_n C 0 dX11_row_40 rfl rfl rfl (n' := 41) ?_
      refine sd_g11_6 C sd_i100 sd_k100 sd_w1047 dX11_row_41 rfl (n' := 44) ?_
      refine sd_bipush C (v := 40) dX11_row_44 rfl rfl (n' := 46) ?_
      refine sd_iload_n C 1 dX11_row_46 rfl rfl rfl (n' := 47) ?_
      refine sd_imul C dX11_row_47 rfl (n' := 48) ?_
      refine sd_iload_n C 3 dX11_row_48 rfl rfl rfl (n' := 49) ?_
      refine sd_iadd C dX11_row_49 rfl (n' := 50) ?_
      refine sd_iconst C (v := 0) dX11_row_50 rfl rfl (n' := 51) ?_
      obtain ⟨b51, hF⟩ := sd_ok hF
      refine sd_iast C sd_i103 sd_k103 sd_n103 b51 dX11_row_51 rfl (n' := 52) ?_
      refine sd_iinc [(3, .int (x3 + (1 : Int32))), (0, .ref (E.2.2 100)), (1, .int x1), (2, .int x2)] 3 C dX11_row_52 rfl rfl (by decide) rfl rfl (n' := 55) ?_
      refine sd_goto C (tgt := 34) dX11_row_55 rfl ?_
      refine sd_sub [1, 2, 3, 0] rfl ?_
      exact ih (sd_setI M 103 (((40 : Int32) * x1) + x3).toNatClampNeg (0 : Int32)) x1 x2 (x3 + (1 : Int32)) hF
set_option maxRecDepth 100000 in
set_option maxHeartbeats 4000000 in
theorem tb_X11_row_0 {K : sd_K} {E : sd_Env}   {r : (Int32 × sd_Mem)} (C : sd_C K E sd_LM RX11 cX11_row 4 (some .int))  : ∀ (M : sd_Mem) (x1 : Int32) (x2 : Int32), fn_X11_row_0 M x1 x2 = some r → sd_Z K rm_X11_row E sd_LM 4 (sd_QI K E sd_LM r.1 r.2) M 0 [(0, .ref (E.2.2 100)), (1, .int x1), (2, .int x2)] [] := by
  intro M x1 x2 hF
  unfold fn_X11_row_0 at hF
  refine sd_iload_n C 1 dX11_row_0 rfl rfl rfl (n' := 1) ?_
  obtain ⟨q1, e1, hF⟩ := sd_bind hF
  refine sd_callSI [.int x1] [] C (ct_X11_isRow M x1  e1) sd_lX11_101 ⟨rfl, rfl, Nat.le_of_ble_eq_true rfl, Nat.le_of_ble_eq_true rfl⟩ rfl (Nat.le_of_ble_eq_true rfl) dX11_row_1 rfl (n' := 4) ?_
  refine sd_if_eq C (n' := 7) (tgt := 13) dX11_row_4 rfl rfl (fun c4 => ?_) (fun c4 => ?_)
  · replace hF := sd_pos hF c4
    refine sd_iconst C (v := -1) dX11_row_13 rfl rfl (n' := 14) ?_
    exact sd_iret C dX11_row_14 (sd_fst hF) (sd_snd hF)
  · replace hF := sd_neg hF c4
    refine sd_iload_n C 2 dX11_row_7 rfl rfl rfl (n' := 8) ?_
    refine sd_bipush C (v := 40) dX11_row_8 rfl rfl (n' := 10) ?_
    refine sd_icmp_le C (n' := 13) (tgt := 15) dX11_row_10 rfl rfl (fun c10 => ?_) (fun c10 => ?_)
    · replace hF := sd_pos hF c10
      refine sd_iload_n C 2 dX11_row_15 rfl rfl rfl (n' := 16) ?_
      refine sd_if_ge C (n' := 19) (tgt := 25) dX11_row_16 rfl rfl (fun c16 => ?_) (fun c16 => ?_)
      · replace hF := sd_pos hF c16
        refine sd_aload_n C 0 dX11_row_25 rfl rfl rfl (n' := 26) ?_
        refine sd_g11_5 C sd_i100 sd_k100 sd_w1046 dX11_row_26 rfl (n' := 29) ?_
        refine sd_iload_n C 1 dX11_row_29 rfl rfl rfl (n' := 30) ?_
        refine sd_iload_n C 2 dX11_row_30 rfl rfl rfl (n' := 31) ?_
        obtain ⟨b31, hF⟩ := sd_ok hF
        refine sd_iast C sd_i102 sd_k102 sd_n102 b31 dX11_row_31 rfl (n' := 32) ?_
        refine sd_iconst C (v := 0) dX11_row_32 rfl rfl (n' := 33) ?_
        refine sd_istore_n [(3, .int (0 : Int32)), (0, .ref (E.2.2 100)), (1, .int x1), (2, .int x2)] C dX11_row_33 rfl (by decide) rfl rfl (n' := 34) ?_
        refine sd_sub [1, 2, 3, 0] rfl ?_
        exact tb_X11_row_34 C sd_FU (sd_setI M 102 x1.toNatClampNeg x2) x1 x2 (0 : Int32) hF
      · replace hF := sd_neg hF c16
        refine sd_aload_n C 0 dX11_row_19 rfl rfl rfl (n' := 20) ?_
        refine sd_iconst C (v := 5) dX11_row_20 rfl rfl (n' := 21) ?_
        obtain ⟨q21, e21, hF⟩ := sd_bind hF
        refine sd_callVI [.int (5 : Int32)] [] C (ct_X11_meets M (5 : Int32)  e21) sd_lX11_105 ⟨rfl, rfl, Nat.le_of_ble_eq_true rfl, Nat.le_of_ble_eq_true rfl⟩ sd_i100 (sd_e12 sd_k100) rfl rfl rfl (Nat.le_of_ble_eq_true rfl) dX11_row_21 rfl (n' := 24) ?_
        exact sd_iret C dX11_row_24 (sd_fst hF) (sd_snd hF)
    · replace hF := sd_neg hF c10
      refine sd_iconst C (v := -1) dX11_row_13 rfl rfl (n' := 14) ?_
      exact sd_iret C dX11_row_14 (sd_fst hF) (sd_snd hF)
theorem ct_X11_row {l : Launch} {E : sd_Env} (M : sd_Mem) (x1 : Int32) (x2 : Int32)  {r : (Int32 × sd_Mem)} (hF : fn_X11_row M x1 x2 = some r) : sd_MI l E sd_LM yX11_row cX11_row 4 (some .int) rm_X11_row [.ref (E.2.2 100), .int x1, .int x2] M r.1 r.2 := sd_ent0 (by decide +kernel) (Nat.le_of_ble_eq_true rfl) (fun p e s m below meth c C => tb_X11_row_0 C M x1 x2 hF)
theorem dX11_askedRow_0 : decode cX11_askedRow 0 = .ok (.iload_n 1, 1) := by decide +kernel
theorem dX11_askedRow_1 : decode cX11_askedRow 1 = .ok (.invokestatic 101, 3) := by decide +kernel
theorem dX11_askedRow_4 : decode cX11_askedRow 4 = .ok (.ifCond .ne 7, 3) := by decide +kernel
theorem dX11_askedRow_7 : decode cX11_askedRow 7 = .ok (.iconst (-1), 1) := by decide +kernel
theorem dX11_askedRow_8 : decode cX11_askedRow 8 = .ok (.goto 21, 3) := by decide +kernel
theorem dX11_askedRow_11 : decode cX11_askedRow 11 = .ok (.aload_n 0, 1) := by decide +kernel
theorem dX11_askedRow_12 : decode cX11_askedRow 12 = .ok (.getfield 17, 3) := by decide +kernel
theorem dX11_askedRow_15 : decode cX11_askedRow 15 = .ok (.iload_n 1, 1) := by decide +kernel
theorem dX11_askedRow_16 : decode cX11_askedRow 16 = .ok (.iaload, 1) := by decide +kernel
theorem dX11_askedRow_17 : decode cX11_askedRow 17 = .ok (.ifCond .ge 11, 3) := by decide +kernel
theorem dX11_askedRow_20 : decode cX11_askedRow 20 = .ok (.aload_n 0, 1) := by decide +kernel
theorem dX11_askedRow_21 : decode cX11_askedRow 21 = .ok (.iconst 1, 1) := by decide +kernel
theorem dX11_askedRow_22 : decode cX11_askedRow 22 = .ok (.invokevirtual 105, 3) := by decide +kernel
theorem dX11_askedRow_25 : decode cX11_askedRow 25 = .ok (.goto 4, 3) := by decide +kernel
theorem dX11_askedRow_28 : decode cX11_askedRow 28 = .ok (.iconst 0, 1) := by decide +kernel
theorem dX11_askedRow_29 : decode cX11_askedRow 29 = .ok (.ireturn, 1) := by decide +kernel
set_option maxRecDepth 100000 in
set_option maxHeartbeats 4000000 in
theorem tb_X11_askedRow_0 {K : sd_K} {E : sd_Env}   {r : (Int32 × sd_Mem)} (C : sd_C K E sd_LM RX11 cX11_askedRow 2 (some .int))  : ∀ (M : sd_Mem) (x1 : Int32), fn_X11_askedRow_0 M x1 = some r → sd_Z K rm_X11_askedRow E sd_LM 2 (sd_QI K E sd_LM r.1 r.2) M 0 [(0, .ref (E.2.2 100)), (1, .int x1)] [] := by
  intro M x1 hF
  unfold fn_X11_askedRow_0 at hF
  refine sd_iload_n C 1 dX11_askedRow_0 rfl rfl rfl (n' := 1) ?_
  obtain ⟨q1, e1, hF⟩ := sd_bind hF
  refine sd_callSI [.int x1] [] C (ct_X11_isRow M x1  e1) sd_lX11_101 ⟨rfl, rfl, Nat.le_of_ble_eq_true rfl, Nat.le_of_ble_eq_true rfl⟩ rfl (Nat.le_of_ble_eq_true rfl) dX11_askedRow_1 rfl (n' := 4) ?_
  refine sd_if_ne C (n' := 7) (tgt := 11) dX11_askedRow_4 rfl rfl (fun c4 => ?_) (fun c4 => ?_)
  · replace hF := sd_neg hF c4
    refine sd_aload_n C 0 dX11_askedRow_11 rfl rfl rfl (n' := 12) ?_
    refine sd_g11_5 C sd_i100 sd_k100 sd_w1046 dX11_askedRow_12 rfl (n' := 15) ?_
    refine sd_iload_n C 1 dX11_askedRow_15 rfl rfl rfl (n' := 16) ?_
    obtain ⟨b16, hF⟩ := sd_ok hF
    refine sd_iald C sd_i102 sd_k102 sd_n102 b16 dX11_askedRow_16 rfl (n' := 17) ?_
    refine sd_if_ge C (n' := 20) (tgt := 28) dX11_askedRow_17 rfl rfl (fun c17 => ?_) (fun c17 => ?_)
    · replace hF := sd_pos hF c17
      refine sd_iconst C (v := 0) dX11_askedRow_28 rfl rfl (n' := 29) ?_
      exact sd_iret C dX11_askedRow_29 (sd_fst hF) (sd_snd hF)
    · replace hF := sd_neg hF c17
      refine sd_aload_n C 0 dX11_askedRow_20 rfl rfl rfl (n' := 21) ?_
      refine sd_iconst C (v := 1) dX11_askedRow_21 rfl rfl (n' := 22) ?_
      obtain ⟨q22, e22, hF⟩ := sd_bind hF
      refine sd_callVI [.int (1 : Int32)] [] C (ct_X11_meets M (1 : Int32)  e22) sd_lX11_105 ⟨rfl, rfl, Nat.le_of_ble_eq_true rfl, Nat.le_of_ble_eq_true rfl⟩ sd_i100 (sd_e12 sd_k100) rfl rfl rfl (Nat.le_of_ble_eq_true rfl) dX11_askedRow_22 rfl (n' := 25) ?_
      refine sd_goto C (tgt := 29) dX11_askedRow_25 rfl ?_
      exact sd_iret C dX11_askedRow_29 (sd_fst hF) (sd_snd hF)
  · replace hF := sd_pos hF c4
    refine sd_iconst C (v := -1) dX11_askedRow_7 rfl rfl (n' := 8) ?_
    refine sd_goto C (tgt := 29) dX11_askedRow_8 rfl ?_
    exact sd_iret C dX11_askedRow_29 (sd_fst hF) (sd_snd hF)
theorem ct_X11_askedRow {l : Launch} {E : sd_Env} (M : sd_Mem) (x1 : Int32)  {r : (Int32 × sd_Mem)} (hF : fn_X11_askedRow M x1 = some r) : sd_MI l E sd_LM yX11_askedRow cX11_askedRow 2 (some .int) rm_X11_askedRow [.ref (E.2.2 100), .int x1] M r.1 r.2 := sd_ent0 (by decide +kernel) (Nat.le_of_ble_eq_true rfl) (fun p e s m below meth c C => tb_X11_askedRow_0 C M x1 hF)
theorem dX11_rowAt_0 : decode cX11_rowAt 0 = .ok (.aload_n 0, 1) := by decide +kernel
theorem dX11_rowAt_1 : decode cX11_rowAt 1 = .ok (.getfield 20, 3) := by decide +kernel
theorem dX11_rowAt_4 : decode cX11_rowAt 4 = .ok (.bipush 40, 2) := by decide +kernel
theorem dX11_rowAt_6 : decode cX11_rowAt 6 = .ok (.iload_n 1, 1) := by decide +kernel
theorem dX11_rowAt_7 : decode cX11_rowAt 7 = .ok (.imul, 1) := by decide +kernel
theorem dX11_rowAt_8 : decode cX11_rowAt 8 = .ok (.iload_n 2, 1) := by decide +kernel
theorem dX11_rowAt_9 : decode cX11_rowAt 9 = .ok (.iadd, 1) := by decide +kernel
theorem dX11_rowAt_10 : decode cX11_rowAt 10 = .ok (.iaload, 1) := by decide +kernel
theorem dX11_rowAt_11 : decode cX11_rowAt 11 = .ok (.ireturn, 1) := by decide +kernel
set_option maxRecDepth 100000 in
set_option maxHeartbeats 4000000 in
theorem tb_X11_rowAt_0 {K : sd_K} {E : sd_Env} {M : sd_Mem}  {r : Int32} (C : sd_C K E sd_LM RX11 cX11_rowAt 3 (some .int))  : ∀ (x1 : Int32) (x2 : Int32), fn_X11_rowAt_0 M x1 x2 = some r → sd_Z K rm_X11_rowAt E sd_LM 3 (sd_QI K E sd_LM r M) M 0 [(0, .ref (E.2.2 100)), (1, .int x1), (2, .int x2)] [] := by
  intro x1 x2 hF
  unfold fn_X11_rowAt_0 at hF
  refine sd_aload_n C 0 dX11_rowAt_0 rfl rfl rfl (n' := 1) ?_
  refine sd_g11_6 C sd_i100 sd_k100 sd_w1047 dX11_rowAt_1 rfl (n' := 4) ?_
  refine sd_bipush C (v := 40) dX11_rowAt_4 rfl rfl (n' := 6) ?_
  refine sd_iload_n C 1 dX11_rowAt_6 rfl rfl rfl (n' := 7) ?_
  refine sd_imul C dX11_rowAt_7 rfl (n' := 8) ?_
  refine sd_iload_n C 2 dX11_rowAt_8 rfl rfl rfl (n' := 9) ?_
  refine sd_iadd C dX11_rowAt_9 rfl (n' := 10) ?_
  obtain ⟨b10, hF⟩ := sd_ok hF
  refine sd_iald C sd_i103 sd_k103 sd_n103 b10 dX11_rowAt_10 rfl (n' := 11) ?_
  exact sd_iret C dX11_rowAt_11 (Option.some.inj hF) rfl
theorem ct_X11_rowAt {l : Launch} {E : sd_Env} (M : sd_Mem) (x1 : Int32) (x2 : Int32)  {r : Int32} (hF : fn_X11_rowAt M x1 x2 = some r) : sd_MI l E sd_LM yX11_rowAt cX11_rowAt 3 (some .int) rm_X11_rowAt [.ref (E.2.2 100), .int x1, .int x2] M r M := sd_ent0 (by decide +kernel) (Nat.le_of_ble_eq_true rfl) (fun p e s m below meth c C => tb_X11_rowAt_0 C x1 x2 hF)
theorem dX11_lay_0 : decode cX11_lay 0 = .ok (.aload_n 0, 1) := by decide +kernel
theorem dX11_lay_1 : decode cX11_lay 1 = .ok (.iload_n 1, 1) := by decide +kernel
theorem dX11_lay_2 : decode cX11_lay 2 = .ok (.invokevirtual 112, 3) := by decide +kernel
theorem dX11_lay_5 : decode cX11_lay 5 = .ok (.istore 4, 2) := by decide +kernel
theorem dX11_lay_7 : decode cX11_lay 7 = .ok (.iload 4, 2) := by decide +kernel
theorem dX11_lay_9 : decode cX11_lay 9 = .ok (.ifCond .ge 6, 3) := by decide +kernel
theorem dX11_lay_12 : decode cX11_lay 12 = .ok (.iload 4, 2) := by decide +kernel
theorem dX11_lay_14 : decode cX11_lay 14 = .ok (.ireturn, 1) := by decide +kernel
theorem dX11_lay_15 : decode cX11_lay 15 = .ok (.iload_n 2, 1) := by decide +kernel
theorem dX11_lay_16 : decode cX11_lay 16 = .ok (.iconst 0, 1) := by decide +kernel
theorem dX11_lay_17 : decode cX11_lay 17 = .ok (.aload_n 0, 1) := by decide +kernel
theorem dX11_lay_18 : decode cX11_lay 18 = .ok (.getfield 17, 3) := by decide +kernel
theorem dX11_lay_21 : decode cX11_lay 21 = .ok (.iload_n 1, 1) := by decide +kernel
theorem dX11_lay_22 : decode cX11_lay 22 = .ok (.iaload, 1) := by decide +kernel
theorem dX11_lay_23 : decode cX11_lay 23 = .ok (.iconst 1, 1) := by decide +kernel
theorem dX11_lay_24 : decode cX11_lay 24 = .ok (.isub, 1) := by decide +kernel
theorem dX11_lay_25 : decode cX11_lay 25 = .ok (.invokestatic 97, 3) := by decide +kernel
theorem dX11_lay_28 : decode cX11_lay 28 = .ok (.ifCond .ne 9, 3) := by decide +kernel
theorem dX11_lay_31 : decode cX11_lay 31 = .ok (.aload_n 0, 1) := by decide +kernel
theorem dX11_lay_32 : decode cX11_lay 32 = .ok (.iconst 2, 1) := by decide +kernel
theorem dX11_lay_33 : decode cX11_lay 33 = .ok (.invokevirtual 105, 3) := by decide +kernel
theorem dX11_lay_36 : decode cX11_lay 36 = .ok (.ireturn, 1) := by decide +kernel
theorem dX11_lay_37 : decode cX11_lay 37 = .ok (.aload_n 0, 1) := by decide +kernel
theorem dX11_lay_38 : decode cX11_lay 38 = .ok (.aload_n 0, 1) := by decide +kernel
theorem dX11_lay_39 : decode cX11_lay 39 = .ok (.iload_n 1, 1) := by decide +kernel
theorem dX11_lay_40 : decode cX11_lay 40 = .ok (.iload_n 2, 1) := by decide +kernel
theorem dX11_lay_41 : decode cX11_lay 41 = .ok (.invokevirtual 115, 3) := by decide +kernel
theorem dX11_lay_44 : decode cX11_lay 44 = .ok (.putfield 91, 3) := by decide +kernel
theorem dX11_lay_47 : decode cX11_lay 47 = .ok (.aload_n 0, 1) := by decide +kernel
theorem dX11_lay_48 : decode cX11_lay 48 = .ok (.getfield 20, 3) := by decide +kernel
theorem dX11_lay_51 : decode cX11_lay 51 = .ok (.bipush 40, 2) := by decide +kernel
theorem dX11_lay_53 : decode cX11_lay 53 = .ok (.iload_n 1, 1) := by decide +kernel
theorem dX11_lay_54 : decode cX11_lay 54 = .ok (.imul, 1) := by decide +kernel
theorem dX11_lay_55 : decode cX11_lay 55 = .ok (.iload_n 2, 1) := by decide +kernel
theorem dX11_lay_56 : decode cX11_lay 56 = .ok (.iadd, 1) := by decide +kernel
theorem dX11_lay_57 : decode cX11_lay 57 = .ok (.iload_n 3, 1) := by decide +kernel
theorem dX11_lay_58 : decode cX11_lay 58 = .ok (.iastore, 1) := by decide +kernel
theorem dX11_lay_59 : decode cX11_lay 59 = .ok (.iconst 1, 1) := by decide +kernel
theorem dX11_lay_60 : decode cX11_lay 60 = .ok (.ireturn, 1) := by decide +kernel
set_option maxRecDepth 100000 in
set_option maxHeartbeats 4000000 in
theorem tb_X11_lay_0 {K : sd_K} {E : sd_Env}   {r : (Int32 × sd_Mem)} (C : sd_C K E sd_LM RX11 cX11_lay 5 (some .int))  : ∀ (M : sd_Mem) (x1 : Int32) (x2 : Int32) (x3 : Int32), fn_X11_lay_0 M x1 x2 x3 = some r → sd_Z K rm_X11_lay E sd_LM 5 (sd_QI K E sd_LM r.1 r.2) M 0 [(0, .ref (E.2.2 100)), (1, .int x1), (2, .int x2), (3, .int x3)] [] := by
  intro M x1 x2 x3 hF
  unfold fn_X11_lay_0 at hF
  refine sd_aload_n C 0 dX11_lay_0 rfl rfl rfl (n' := 1) ?_
  refine sd_iload_n C 1 dX11_lay_1 rfl rfl rfl (n' := 2) ?_
  obtain ⟨q2, e2, hF⟩ := sd_bind hF
  refine sd_callVI [.int x1] [] C (ct_X11_askedRow M x1  e2) sd_lX11_112 ⟨rfl, rfl, Nat.le_of_ble_eq_true rfl, Nat.le_of_ble_eq_true rfl⟩ sd_i100 (sd_e12 sd_k100) rfl rfl rfl (Nat.le_of_ble_eq_true rfl) dX11_lay_2 rfl (n' := 5) ?_
  refine sd_istore [(4, .int q2.1), (0, .ref (E.2.2 100)), (1, .int x1), (2, .int x2), (3, .int x3)] C dX11_lay_5 (by decide) rfl rfl (n' := 7) ?_
  refine sd_iload C 0 dX11_lay_7 rfl rfl (n' := 9) ?_
  refine sd_if_ge C (n' := 12) (tgt := 15) dX11_lay_9 rfl rfl (fun c9 => ?_) (fun c9 => ?_)
  · replace hF := sd_pos hF c9
    refine sd_iload_n C 3 dX11_lay_15 rfl rfl rfl (n' := 16) ?_
    refine sd_iconst C (v := 0) dX11_lay_16 rfl rfl (n' := 17) ?_
    refine sd_aload_n C 1 dX11_lay_17 rfl rfl rfl (n' := 18) ?_
    refine sd_g11_5 C sd_i100 sd_k100 sd_w1046 dX11_lay_18 rfl (n' := 21) ?_
    refine sd_iload_n C 2 dX11_lay_21 rfl rfl rfl (n' := 22) ?_
    obtain ⟨b22, hF⟩ := sd_ok hF
    refine sd_iald C sd_i102 sd_k102 sd_n102 b22 dX11_lay_22 rfl (n' := 23) ?_
    refine sd_iconst C (v := 1) dX11_lay_23 rfl rfl (n' := 24) ?_
    refine sd_isub C dX11_lay_24 rfl (n' := 25) ?_
    obtain ⟨q25, e25, hF⟩ := sd_bind hF
    refine sd_callSI [.int x2, .int (0 : Int32), .int ((q2.2.1 102 x1.toNatClampNeg) - (1 : Int32))] [] C (ct_X11_in q2.2 x2 (0 : Int32) ((q2.2.1 102 x1.toNatClampNeg) - (1 : Int32))  e25) sd_lX11_97 ⟨rfl, rfl, Nat.le_of_ble_eq_true rfl, Nat.le_of_ble_eq_true rfl⟩ rfl (Nat.le_of_ble_eq_true rfl) dX11_lay_25 rfl (n' := 28) ?_
    refine sd_if_ne C (n' := 31) (tgt := 37) dX11_lay_28 rfl rfl (fun c28 => ?_) (fun c28 => ?_)
    · replace hF := sd_neg hF c28
      refine sd_aload_n C 1 dX11_lay_37 rfl rfl rfl (n' := 38) ?_
      refine sd_aload_n C 1 dX11_lay_38 rfl rfl rfl (n' := 39) ?_
      refine sd_iload_n C 2 dX11_lay_39 rfl rfl rfl (n' := 40) ?_
      refine sd_iload_n C 3 dX11_lay_40 rfl rfl rfl (n' := 41) ?_
      obtain ⟨q41, e41, hF⟩ := sd_bind hF
      refine sd_callVI [.int x1, .int x2] [.ref (E.2.2 100)] C (ct_X11_rowAt q2.2 x1 x2  e41) sd_lX11_115 ⟨rfl, rfl, Nat.le_of_ble_eq_true rfl, Nat.le_of_ble_eq_true rfl⟩ sd_i100 (sd_e12 sd_k100) rfl rfl rfl (Nat.le_of_ble_eq_true rfl) dX11_lay_41 rfl (n' := 44) ?_
      refine sd_p11_2 C sd_i100 sd_k100 sd_w1043 dX11_lay_44 rfl (n' := 47) ?_
      refine sd_aload_n C 1 dX11_lay_47 rfl rfl rfl (n' := 48) ?_
      refine sd_g11_6 C sd_i100 sd_k100 sd_w1047 dX11_lay_48 rfl (n' := 51) ?_
      refine sd_bipush C (v := 40) dX11_lay_51 rfl rfl (n' := 53) ?_
      refine sd_iload_n C 2 dX11_lay_53 rfl rfl rfl (n' := 54) ?_
      refine sd_imul C dX11_lay_54 rfl (n' := 55) ?_
      refine sd_iload_n C 3 dX11_lay_55 rfl rfl rfl (n' := 56) ?_
      refine sd_iadd C dX11_lay_56 rfl (n' := 57) ?_
      refine sd_iload_n C 4 dX11_lay_57 rfl rfl rfl (n' := 58) ?_
      obtain ⟨b58, hF⟩ := sd_ok hF
      refine sd_iast C sd_i103 sd_k103 sd_n103 b58 dX11_lay_58 rfl (n' := 59) ?_
      refine sd_iconst C (v := 1) dX11_lay_59 rfl rfl (n' := 60) ?_
      exact sd_iret C dX11_lay_60 (sd_fst hF) (sd_snd hF)
    · replace hF := sd_pos hF c28
      refine sd_aload_n C 1 dX11_lay_31 rfl rfl rfl (n' := 32) ?_
      refine sd_iconst C (v := 2) dX11_lay_32 rfl rfl (n' := 33) ?_
      obtain ⟨q33, e33, hF⟩ := sd_bind hF
      refine sd_callVI [.int (2 : Int32)] [] C (ct_X11_meets q2.2 (2 : Int32)  e33) sd_lX11_105 ⟨rfl, rfl, Nat.le_of_ble_eq_true rfl, Nat.le_of_ble_eq_true rfl⟩ sd_i100 (sd_e12 sd_k100) rfl rfl rfl (Nat.le_of_ble_eq_true rfl) dX11_lay_33 rfl (n' := 36) ?_
      exact sd_iret C dX11_lay_36 (sd_fst hF) (sd_snd hF)
  · replace hF := sd_neg hF c9
    refine sd_iload C 0 dX11_lay_12 rfl rfl (n' := 14) ?_
    exact sd_iret C dX11_lay_14 (sd_fst hF) (sd_snd hF)
theorem ct_X11_lay {l : Launch} {E : sd_Env} (M : sd_Mem) (x1 : Int32) (x2 : Int32) (x3 : Int32)  {r : (Int32 × sd_Mem)} (hF : fn_X11_lay M x1 x2 x3 = some r) : sd_MI l E sd_LM yX11_lay cX11_lay 5 (some .int) rm_X11_lay [.ref (E.2.2 100), .int x1, .int x2, .int x3] M r.1 r.2 := sd_ent0 (by decide +kernel) (Nat.le_of_ble_eq_true rfl) (fun p e s m below meth c C => tb_X11_lay_0 C M x1 x2 x3 hF)
theorem dX11_tear_0 : decode cX11_tear 0 = .ok (.aload_n 0, 1) := by decide +kernel
theorem dX11_tear_1 : decode cX11_tear 1 = .ok (.iload_n 1, 1) := by decide +kernel
theorem dX11_tear_2 : decode cX11_tear 2 = .ok (.invokevirtual 112, 3) := by decide +kernel
theorem dX11_tear_5 : decode cX11_tear 5 = .ok (.istore_n 2, 1) := by decide +kernel
theorem dX11_tear_6 : decode cX11_tear 6 = .ok (.iload_n 2, 1) := by decide +kernel
theorem dX11_tear_7 : decode cX11_tear 7 = .ok (.ifCond .ge 5, 3) := by decide +kernel
theorem dX11_tear_10 : decode cX11_tear 10 = .ok (.iload_n 2, 1) := by decide +kernel
theorem dX11_tear_11 : decode cX11_tear 11 = .ok (.ireturn, 1) := by decide +kernel
theorem dX11_tear_12 : decode cX11_tear 12 = .ok (.aload_n 0, 1) := by decide +kernel
theorem dX11_tear_13 : decode cX11_tear 13 = .ok (.getfield 17, 3) := by decide +kernel
theorem dX11_tear_16 : decode cX11_tear 16 = .ok (.iload_n 1, 1) := by decide +kernel
theorem dX11_tear_17 : decode cX11_tear 17 = .ok (.bipush (-9), 2) := by decide +kernel
theorem dX11_tear_19 : decode cX11_tear 19 = .ok (.iastore, 1) := by decide +kernel
theorem dX11_tear_20 : decode cX11_tear 20 = .ok (.iconst 1, 1) := by decide +kernel
theorem dX11_tear_21 : decode cX11_tear 21 = .ok (.ireturn, 1) := by decide +kernel
set_option maxRecDepth 100000 in
set_option maxHeartbeats 4000000 in
theorem tb_X11_tear_0 {K : sd_K} {E : sd_Env}   {r : (Int32 × sd_Mem)} (C : sd_C K E sd_LM RX11 cX11_tear 3 (some .int))  : ∀ (M : sd_Mem) (x1 : Int32), fn_X11_tear_0 M x1 = some r → sd_Z K rm_X11_tear E sd_LM 3 (sd_QI K E sd_LM r.1 r.2) M 0 [(0, .ref (E.2.2 100)), (1, .int x1)] [] := by
  intro M x1 hF
  unfold fn_X11_tear_0 at hF
  refine sd_aload_n C 0 dX11_tear_0 rfl rfl rfl (n' := 1) ?_
  refine sd_iload_n C 1 dX11_tear_1 rfl rfl rfl (n' := 2) ?_
  obtain ⟨q2, e2, hF⟩ := sd_bind hF
  refine sd_callVI [.int x1] [] C (ct_X11_askedRow M x1  e2) sd_lX11_112 ⟨rfl, rfl, Nat.le_of_ble_eq_true rfl, Nat.le_of_ble_eq_true rfl⟩ sd_i100 (sd_e12 sd_k100) rfl rfl rfl (Nat.le_of_ble_eq_true rfl) dX11_tear_2 rfl (n' := 5) ?_
  refine sd_istore_n [(2, .int q2.1), (0, .ref (E.2.2 100)), (1, .int x1)] C dX11_tear_5 rfl (by decide) rfl rfl (n' := 6) ?_
  refine sd_iload_n C 0 dX11_tear_6 rfl rfl rfl (n' := 7) ?_
  refine sd_if_ge C (n' := 10) (tgt := 12) dX11_tear_7 rfl rfl (fun c7 => ?_) (fun c7 => ?_)
  · replace hF := sd_pos hF c7
    refine sd_aload_n C 1 dX11_tear_12 rfl rfl rfl (n' := 13) ?_
    refine sd_g11_5 C sd_i100 sd_k100 sd_w1046 dX11_tear_13 rfl (n' := 16) ?_
    refine sd_iload_n C 2 dX11_tear_16 rfl rfl rfl (n' := 17) ?_
    refine sd_bipush C (v := -9) dX11_tear_17 rfl rfl (n' := 19) ?_
    obtain ⟨b19, hF⟩ := sd_ok hF
    refine sd_iast C sd_i102 sd_k102 sd_n102 b19 dX11_tear_19 rfl (n' := 20) ?_
    refine sd_iconst C (v := 1) dX11_tear_20 rfl rfl (n' := 21) ?_
    exact sd_iret C dX11_tear_21 (sd_fst hF) (sd_snd hF)
  · replace hF := sd_neg hF c7
    refine sd_iload_n C 0 dX11_tear_10 rfl rfl rfl (n' := 11) ?_
    exact sd_iret C dX11_tear_11 (sd_fst hF) (sd_snd hF)
theorem ct_X11_tear {l : Launch} {E : sd_Env} (M : sd_Mem) (x1 : Int32)  {r : (Int32 × sd_Mem)} (hF : fn_X11_tear M x1 = some r) : sd_MI l E sd_LM yX11_tear cX11_tear 3 (some .int) rm_X11_tear [.ref (E.2.2 100), .int x1] M r.1 r.2 := sd_ent0 (by decide +kernel) (Nat.le_of_ble_eq_true rfl) (fun p e s m below meth c C => tb_X11_tear_0 C M x1 hF)
