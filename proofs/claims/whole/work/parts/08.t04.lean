theorem dX0_bestByOffering_0 : decode cX0_bestByOffering 0 = .ok (.lconst 0, 1) := by decide +kernel
theorem dX0_bestByOffering_1 : decode cX0_bestByOffering 1 = .ok (.lstore 5, 2) := by decide +kernel
theorem dX0_bestByOffering_3 : decode cX0_bestByOffering 3 = .ok (.iconst 0, 1) := by decide +kernel
theorem dX0_bestByOffering_4 : decode cX0_bestByOffering 4 = .ok (.istore 7, 2) := by decide +kernel
theorem dX0_bestByOffering_6 : decode cX0_bestByOffering 6 = .ok (.iconst 0, 1) := by decide +kernel
theorem dX0_bestByOffering_7 : decode cX0_bestByOffering 7 = .ok (.istore 8, 2) := by decide +kernel
theorem dX0_bestByOffering_9 : decode cX0_bestByOffering 9 = .ok (.iload 8, 2) := by decide +kernel
theorem dX0_bestByOffering_11 : decode cX0_bestByOffering 11 = .ok (.bipush 12, 2) := by decide +kernel
theorem dX0_bestByOffering_13 : decode cX0_bestByOffering 13 = .ok (.if_icmp .gt 70, 3) := by decide +kernel
theorem dX0_bestByOffering_16 : decode cX0_bestByOffering 16 = .ok (.aload_n 0, 1) := by decide +kernel
theorem dX0_bestByOffering_17 : decode cX0_bestByOffering 17 = .ok (.aload_n 1, 1) := by decide +kernel
theorem dX0_bestByOffering_18 : decode cX0_bestByOffering 18 = .ok (.iload_n 3, 1) := by decide +kernel
theorem dX0_bestByOffering_19 : decode cX0_bestByOffering 19 = .ok (.iload 4, 2) := by decide +kernel
theorem dX0_bestByOffering_21 : decode cX0_bestByOffering 21 = .ok (.iload 8, 2) := by decide +kernel
theorem dX0_bestByOffering_23 : decode cX0_bestByOffering 23 = .ok (.invokevirtual 125, 3) := by decide +kernel
theorem dX0_bestByOffering_26 : decode cX0_bestByOffering 26 = .ok (.istore 9, 2) := by decide +kernel
theorem dX0_bestByOffering_28 : decode cX0_bestByOffering 28 = .ok (.aload_n 0, 1) := by decide +kernel
theorem dX0_bestByOffering_29 : decode cX0_bestByOffering 29 = .ok (.iconst 1, 1) := by decide +kernel
theorem dX0_bestByOffering_30 : decode cX0_bestByOffering 30 = .ok (.iload_n 2, 1) := by decide +kernel
theorem dX0_bestByOffering_31 : decode cX0_bestByOffering 31 = .ok (.iload_n 3, 1) := by decide +kernel
theorem dX0_bestByOffering_32 : decode cX0_bestByOffering 32 = .ok (.iload 4, 2) := by decide +kernel
theorem dX0_bestByOffering_34 : decode cX0_bestByOffering 34 = .ok (.iload 9, 2) := by decide +kernel
theorem dX0_bestByOffering_36 : decode cX0_bestByOffering 36 = .ok (.iconst (-1), 1) := by decide +kernel
theorem dX0_bestByOffering_37 : decode cX0_bestByOffering 37 = .ok (.ixor, 1) := by decide +kernel
theorem dX0_bestByOffering_38 : decode cX0_bestByOffering 38 = .ok (.iand, 1) := by decide +kernel
theorem dX0_bestByOffering_39 : decode cX0_bestByOffering 39 = .ok (.iload 8, 2) := by decide +kernel
theorem dX0_bestByOffering_41 : decode cX0_bestByOffering 41 = .ok (.invokevirtual 104, 3) := by decide +kernel
theorem dX0_bestByOffering_44 : decode cX0_bestByOffering 44 = .ok (.aload_n 0, 1) := by decide +kernel
theorem dX0_bestByOffering_45 : decode cX0_bestByOffering 45 = .ok (.iload_n 3, 1) := by decide +kernel
theorem dX0_bestByOffering_46 : decode cX0_bestByOffering 46 = .ok (.iconst 1, 1) := by decide +kernel
theorem dX0_bestByOffering_47 : decode cX0_bestByOffering 47 = .ok (.iadd, 1) := by decide +kernel
theorem dX0_bestByOffering_48 : decode cX0_bestByOffering 48 = .ok (.iload 9, 2) := by decide +kernel
theorem dX0_bestByOffering_50 : decode cX0_bestByOffering 50 = .ok (.invokevirtual 45, 3) := by decide +kernel
theorem dX0_bestByOffering_53 : decode cX0_bestByOffering 53 = .ok (.ladd, 1) := by decide +kernel
theorem dX0_bestByOffering_54 : decode cX0_bestByOffering 54 = .ok (.lstore 10, 2) := by decide +kernel
theorem dX0_bestByOffering_56 : decode cX0_bestByOffering 56 = .ok (.iload 8, 2) := by decide +kernel
theorem dX0_bestByOffering_58 : decode cX0_bestByOffering 58 = .ok (.ifCond .eq 11, 3) := by decide +kernel
theorem dX0_bestByOffering_61 : decode cX0_bestByOffering 61 = .ok (.lload 10, 2) := by decide +kernel
theorem dX0_bestByOffering_63 : decode cX0_bestByOffering 63 = .ok (.lload 5, 2) := by decide +kernel
theorem dX0_bestByOffering_65 : decode cX0_bestByOffering 65 = .ok (.lcmp, 1) := by decide +kernel
theorem dX0_bestByOffering_66 : decode cX0_bestByOffering 66 = .ok (.ifCond .le 11, 3) := by decide +kernel
theorem dX0_bestByOffering_69 : decode cX0_bestByOffering 69 = .ok (.lload 10, 2) := by decide +kernel
theorem dX0_bestByOffering_71 : decode cX0_bestByOffering 71 = .ok (.lstore 5, 2) := by decide +kernel
theorem dX0_bestByOffering_73 : decode cX0_bestByOffering 73 = .ok (.iload 8, 2) := by decide +kernel
theorem dX0_bestByOffering_75 : decode cX0_bestByOffering 75 = .ok (.istore 7, 2) := by decide +kernel
theorem dX0_bestByOffering_77 : decode cX0_bestByOffering 77 = .ok (.iinc 8 1, 3) := by decide +kernel
theorem dX0_bestByOffering_80 : decode cX0_bestByOffering 80 = .ok (.goto (-71), 3) := by decide +kernel
theorem dX0_bestByOffering_83 : decode cX0_bestByOffering 83 = .ok (.iload_n 3, 1) := by decide +kernel
theorem dX0_bestByOffering_84 : decode cX0_bestByOffering 84 = .ok (.iload 4, 2) := by decide +kernel
theorem dX0_bestByOffering_86 : decode cX0_bestByOffering 86 = .ok (.invokestatic 53, 3) := by decide +kernel
theorem dX0_bestByOffering_89 : decode cX0_bestByOffering 89 = .ok (.ifCond .eq 14, 3) := by decide +kernel
theorem dX0_bestByOffering_92 : decode cX0_bestByOffering 92 = .ok (.aload_n 0, 1) := by decide +kernel
theorem dX0_bestByOffering_93 : decode cX0_bestByOffering 93 = .ok (.getfield 18, 3) := by decide +kernel
theorem dX0_bestByOffering_96 : decode cX0_bestByOffering 96 = .ok (.iload_n 3, 1) := by decide +kernel
theorem dX0_bestByOffering_97 : decode cX0_bestByOffering 97 = .ok (.aaload, 1) := by decide +kernel
theorem dX0_bestByOffering_98 : decode cX0_bestByOffering 98 = .ok (.iload 4, 2) := by decide +kernel
theorem dX0_bestByOffering_100 : decode cX0_bestByOffering 100 = .ok (.iload 7, 2) := by decide +kernel
theorem dX0_bestByOffering_102 : decode cX0_bestByOffering 102 = .ok (.iastore, 1) := by decide +kernel
theorem dX0_bestByOffering_103 : decode cX0_bestByOffering 103 = .ok (.lload 5, 2) := by decide +kernel
theorem dX0_bestByOffering_105 : decode cX0_bestByOffering 105 = .ok (.lreturn, 1) := by decide +kernel
set_option maxRecDepth 100000 in
set_option maxHeartbeats 4000000 in
theorem tb_X0_bestByOffering_83 {K : sd_K} {E : sd_Env}  {h1 : Nat} {r : (Int64 × sd_Mem)} (C : sd_C K E sd_LC RX0 cX0_bestByOffering 12 (some .long)) (k1 : sd_kd h1 = 10) : ∀ (M : sd_Mem) (x3 : Int32) (x4 : Int32) (l5 : Int64) (x7 : Int32), fn_X0_bestByOffering_83 h1 M x3 x4 l5 x7 = some r → sd_Z K rm_X0_bestByOffering E sd_LC 12 (sd_QL K E sd_LC r.1 r.2) M 83 [(0, .ref (E.2.2 63)), (3, .int x3), (4, .int x4), (5, .long l5), (7, .int x7)] [] := by
  intro M x3 x4 l5 x7 hF
  unfold fn_X0_bestByOffering_83 at hF
  refine sd_iload_n C 1 dX0_bestByOffering_83 rfl rfl rfl (n' := 84) ?_
  refine sd_iload C 2 dX0_bestByOffering_84 rfl rfl (n' := 86) ?_
  obtain ⟨q86, e86, hF⟩ := sd_bind hF
  refine sd_callSI [.int x3, .int x4] [] C (ct_X0_isHeld M x3 x4  e86) sd_lX0_53 ⟨rfl, rfl, Nat.le_of_ble_eq_true rfl, Nat.le_of_ble_eq_true rfl⟩ rfl (Nat.le_of_ble_eq_true rfl) dX0_bestByOffering_86 rfl (n' := 89) ?_
  refine sd_if_eq C (n' := 92) (tgt := 103) dX0_bestByOffering_89 rfl rfl (fun c89 => ?_) (fun c89 => ?_)
  · replace hF := sd_pos hF c89
    refine sd_lload C 3 dX0_bestByOffering_103 rfl rfl (n' := 105) ?_
    exact sd_lret C dX0_bestByOffering_105 (sd_fst hF) (sd_snd hF)
  · replace hF := sd_neg hF c89
    refine sd_aload_n C 0 dX0_bestByOffering_92 rfl rfl rfl (n' := 93) ?_
    refine sd_g0_3 C sd_i63 sd_k63 sd_w233 dX0_bestByOffering_93 rfl (n' := 96) ?_
    refine sd_iload_n C 1 dX0_bestByOffering_96 rfl rfl rfl (n' := 97) ?_
    obtain ⟨b97, hF⟩ := sd_ok hF
    refine sd_gald C sd_i77 sd_k77 sd_n77 b97 dX0_bestByOffering_97 rfl (n' := 98) ?_
    refine sd_iload C 2 dX0_bestByOffering_98 rfl rfl (n' := 100) ?_
    refine sd_iload C 4 dX0_bestByOffering_100 rfl rfl (n' := 102) ?_
    obtain ⟨b102, hF⟩ := sd_ok hF
    refine sd_iast C (sd_mC (sd_r77 _ (sd_in_lt b97)).2) ((sd_r77 _ (sd_in_lt b97)).1.1) ((sd_r77 _ (sd_in_lt b97)).1.2) b102 dX0_bestByOffering_102 rfl (n' := 103) ?_
    refine sd_lload C 3 dX0_bestByOffering_103 rfl rfl (n' := 105) ?_
    exact sd_lret C dX0_bestByOffering_105 (sd_fst hF) (sd_snd hF)
set_option maxRecDepth 100000 in
set_option maxHeartbeats 4000000 in
theorem tb_X0_bestByOffering_9 {K : sd_K} {E : sd_Env}  {h1 : Nat} {r : (Int64 × sd_Mem)} (C : sd_C K E sd_LC RX0 cX0_bestByOffering 12 (some .long)) (k1 : sd_kd h1 = 10) : ∀ (n : Nat), ∀ (M : sd_Mem) (x2 : Int32) (x3 : Int32) (x4 : Int32) (l5 : Int64) (x7 : Int32) (x8 : Int32), fn_X0_bestByOffering_9 h1 n M x2 x3 x4 l5 x7 x8 = some r → sd_Z K rm_X0_bestByOffering E sd_LC 12 (sd_QL K E sd_LC r.1 r.2) M 9 [(0, .ref (E.2.2 63)), (1, .ref (E.2.2 h1)), (2, .int x2), (3, .int x3), (4, .int x4), (5, .long l5), (7, .int x7), (8, .int x8)] [] := by
  intro n
  induction n with
  | zero => intro M x2 x3 x4 l5 x7 x8 hF; cases hF
  | succ n ih =>
    intro M x2 x3 x4 l5 x7 x8 hF
    unfold fn_X0_bestByOffering_9 at hF
    refine sd_iload C 7 dX0_bestByOffering_9 rfl rfl (n' := 11) ?_
    refine sd_bipush C (v := 12) dX0_bestByOffering_11 rfl rfl (n' := 13) ?_
    refine sd_icmp_gt C (n' := 16) (tgt := 83) dX0_bestByOffering_13 rfl rfl (fun c13 => ?_) (fun c13 => ?_)
    · replace hF := sd_pos hF c13
      refine sd_sub [0, 3, 4, 5, 6] rfl ?_
      exact tb_X0_bestByOffering_83 C k1 M x3 x4 l5 x7 hF
    · replace hF := sd_neg hF c13
      refine sd_aload_n C 0 dX0_bestByOffering_16 rfl rfl rfl (n' := 17) ?_
      refine sd_aload_n C 1 dX0_bestByOffering_17 rfl rfl rfl (n' := 18) ?_
      refine sd_iload_n C 3 dX0_bestByOffering_18 rfl rfl rfl (n' := 19) ?_
      refine sd_iload C 4 dX0_bestByOffering_19 rfl rfl (n' := 21) ?_
      refine sd_iload C 7 dX0_bestByOffering_21 rfl rfl (n' := 23) ?_
      obtain ⟨q23, e23, hF⟩ := sd_bind hF
      refine sd_callVI [.ref (E.2.2 h1), .int x3, .int x4, .int x8] [] C (ct_X0_refusing M h1 x3 x4 x8 k1 e23) sd_lX0_125 ⟨rfl, rfl, Nat.le_of_ble_eq_true rfl, Nat.le_of_ble_eq_true rfl⟩ sd_i63 (sd_e1 sd_k63) rfl rfl rfl (Nat.le_of_ble_eq_true rfl) dX0_bestByOffering_23 rfl (n' := 26) ?_
      refine sd_istore [(9, .int q23), (0, .ref (E.2.2 63)), (1, .ref (E.2.2 h1)), (2, .int x2), (3, .int x3), (4, .int x4), (5, .long l5), (7, .int x7), (8, .int x8)] C dX0_bestByOffering_26 (by decide) rfl rfl (n' := 28) ?_
      refine sd_aload_n C 1 dX0_bestByOffering_28 rfl rfl rfl (n' := 29) ?_
      refine sd_iconst C (v := 1) dX0_bestByOffering_29 rfl rfl (n' := 30) ?_
      refine sd_iload_n C 3 dX0_bestByOffering_30 rfl rfl rfl (n' := 31) ?_
      refine sd_iload_n C 4 dX0_bestByOffering_31 rfl rfl rfl (n' := 32) ?_
      refine sd_iload C 5 dX0_bestByOffering_32 rfl rfl (n' := 34) ?_
      refine sd_iload C 0 dX0_bestByOffering_34 rfl rfl (n' := 36) ?_
      refine sd_iconst C (v := -1) dX0_bestByOffering_36 rfl rfl (n' := 37) ?_
      refine sd_ixor C dX0_bestByOffering_37 rfl (n' := 38) ?_
      refine sd_iand C dX0_bestByOffering_38 rfl (n' := 39) ?_
      refine sd_iload C 8 dX0_bestByOffering_39 rfl rfl (n' := 41) ?_
      obtain ⟨q41, e41, hF⟩ := sd_bind hF
      refine sd_callVL [.int (1 : Int32), .int x2, .int x3, .int (x4 &&& (q23 ^^^ (-1 : Int32))), .int x8] [] C (ct_X0_settled M (1 : Int32) x2 x3 (x4 &&& (q23 ^^^ (-1 : Int32))) x8  e41) sd_lX0_104 ⟨rfl, rfl, Nat.le_of_ble_eq_true rfl, Nat.le_of_ble_eq_true rfl⟩ sd_i63 (sd_e1 sd_k63) rfl rfl rfl (Nat.le_of_ble_eq_true rfl) dX0_bestByOffering_41 rfl (n' := 44) ?_
      refine sd_aload_n C 1 dX0_bestByOffering_44 rfl rfl rfl (n' := 45) ?_
      refine sd_iload_n C 4 dX0_bestByOffering_45 rfl rfl rfl (n' := 46) ?_
      refine sd_iconst C (v := 1) dX0_bestByOffering_46 rfl rfl (n' := 47) ?_
      refine sd_iadd C dX0_bestByOffering_47 rfl (n' := 48) ?_
      refine sd_iload C 0 dX0_bestByOffering_48 rfl rfl (n' := 50) ?_
      obtain ⟨q50, e50, hF⟩ := sd_bind hF
      refine sd_callVL [.int (x3 + (1 : Int32)), .int q23] [.long q41] C (ct_X0_sum M (x3 + (1 : Int32)) q23  e50) sd_lX0_45 ⟨rfl, rfl, Nat.le_of_ble_eq_true rfl, Nat.le_of_ble_eq_true rfl⟩ sd_i63 (sd_e1 sd_k63) rfl rfl rfl (Nat.le_of_ble_eq_true rfl) dX0_bestByOffering_50 rfl (n' := 53) ?_
      refine sd_ladd C dX0_bestByOffering_53 rfl (n' := 54) ?_
      refine sd_lstore [(10, .long (q41 + q50)), (9, .int q23), (0, .ref (E.2.2 63)), (1, .ref (E.2.2 h1)), (2, .int x2), (3, .int x3), (4, .int x4), (5, .long l5), (7, .int x7), (8, .int x8)] C dX0_bestByOffering_54 (by decide) rfl rfl (n' := 56) ?_
      refine sd_iload C 9 dX0_bestByOffering_56 rfl rfl (n' := 58) ?_
      refine sd_if_eq C (n' := 61) (tgt := 69) dX0_bestByOffering_58 rfl rfl (fun c58 => ?_) (fun c58 => ?_)
      · replace hF := sd_pos hF c58
        refine sd_lload C 0 dX0_bestByOffering_69 rfl rfl (n' := 71) ?_
        refine sd_lstore [(5, .long (q41 + q50)), (10, .long (q41 + q50)), (9, .int q23), (0, .ref (E.2.2 63)), (1, .ref (E.2.2 h1)), (2, .int x2), (3, .int x3), (4, .int x4), (7, .int x7), (8, .int x8)] C dX0_bestByOffering_71 (by decide) rfl rfl (n' := 73) ?_
        refine sd_iload C 9 dX0_bestByOffering_73 rfl rfl (n' := 75) ?_
        refine sd_istore [(7, .int x8), (5, .long (q41 + q50)), (10, .long (q41 + q50)), (9, .int q23), (0, .ref (E.2.2 63)), (1, .ref (E.2.2 h1)), (2, .int x2), (3, .int x3), (4, .int x4), (8, .int x8)] C dX0_bestByOffering_75 (by decide) rfl rfl (n' := 77) ?_
        refine sd_iinc [(8, .int (x8 + (1 : Int32))), (7, .int x8), (5, .long (q41 + q50)), (10, .long (q41 + q50)), (9, .int q23), (0, .ref (E.2.2 63)), (1, .ref (E.2.2 h1)), (2, .int x2), (3, .int x3), (4, .int x4)] 9 C dX0_bestByOffering_77 rfl rfl (by decide) rfl rfl (n' := 80) ?_
        refine sd_goto C (tgt := 9) dX0_bestByOffering_80 rfl ?_
        refine sd_sub [5, 6, 7, 8, 9, 2, 1, 0] rfl ?_
        exact ih M x2 x3 x4 (q41 + q50) x8 (x8 + (1 : Int32)) hF
      · replace hF := sd_neg hF c58
        refine sd_lload C 0 dX0_bestByOffering_61 rfl rfl (n' := 63) ?_
        refine sd_lload C 7 dX0_bestByOffering_63 rfl rfl (n' := 65) ?_
        refine sd_lcmp C dX0_bestByOffering_65 rfl (n' := 66) ?_
        refine sd_if_le C (n' := 69) (tgt := 77) dX0_bestByOffering_66 rfl rfl (fun c66 => ?_) (fun c66 => ?_)
        · replace hF := sd_pos hF c66
          refine sd_iinc [(8, .int (x8 + (1 : Int32))), (10, .long (q41 + q50)), (9, .int q23), (0, .ref (E.2.2 63)), (1, .ref (E.2.2 h1)), (2, .int x2), (3, .int x3), (4, .int x4), (5, .long l5), (7, .int x7)] 9 C dX0_bestByOffering_77 rfl rfl (by decide) rfl rfl (n' := 80) ?_
          refine sd_goto C (tgt := 9) dX0_bestByOffering_80 rfl ?_
          refine sd_sub [3, 4, 5, 6, 7, 8, 9, 0] rfl ?_
          exact ih M x2 x3 x4 l5 x7 (x8 + (1 : Int32)) hF
        · replace hF := sd_neg hF c66
          refine sd_lload C 0 dX0_bestByOffering_69 rfl rfl (n' := 71) ?_
          refine sd_lstore [(5, .long (q41 + q50)), (10, .long (q41 + q50)), (9, .int q23), (0, .ref (E.2.2 63)), (1, .ref (E.2.2 h1)), (2, .int x2), (3, .int x3), (4, .int x4), (7, .int x7), (8, .int x8)] C dX0_bestByOffering_71 (by decide) rfl rfl (n' := 73) ?_
          refine sd_iload C 9 dX0_bestByOffering_73 rfl rfl (n' := 75) ?_
          refine sd_istore [(7, .int x8), (5, .long (q41 + q50)), (10, .long (q41 + q50)), (9, .int q23), (0, .ref (E.2.2 63)), (1, .ref (E.2.2 h1)), (2, .int x2), (3, .int x3), (4, .int x4), (8, .int x8)] C dX0_bestByOffering_75 (by decide) rfl rfl (n' := 77) ?_
          refine sd_iinc [(8, .int (x8 + (1 : Int32))), (7, .int x8), (5, .long (q41 + q50)), (10, .long (q41 + q50)), (9, .int q23), (0, .ref (E.2.2 63)), (1, .ref (E.2.2 h1)), (2, .int x2), (3, .int x3), (4, .int x4)] 9 C dX0_bestByOffering_77 rfl rfl (by decide) rfl rfl (n' := 80) ?_
          refine sd_goto C (tgt := 9) dX0_bestByOffering_80 rfl ?_
          refine sd_sub [5, 6, 7, 8, 9, 2, 1, 0] rfl ?_
          exact ih M x2 x3 x4 (q41 + q50) x8 (x8 + (1 : Int32)) hF
set_option maxRecDepth 100000 in
set_option maxHeartbeats 4000000 in
theorem tb_X0_bestByOffering_0 {K : sd_K} {E : sd_Env}  {h1 : Nat} {r : (Int64 × sd_Mem)} (C : sd_C K E sd_LC RX0 cX0_bestByOffering 12 (some .long)) (k1 : sd_kd h1 = 10) : ∀ (M : sd_Mem) (x2 : Int32) (x3 : Int32) (x4 : Int32), fn_X0_bestByOffering_0 h1 M x2 x3 x4 = some r → sd_Z K rm_X0_bestByOffering E sd_LC 12 (sd_QL K E sd_LC r.1 r.2) M 0 [(0, .ref (E.2.2 63)), (1, .ref (E.2.2 h1)), (2, .int x2), (3, .int x3), (4, .int x4)] [] := by
  intro M x2 x3 x4 hF
  unfold fn_X0_bestByOffering_0 at hF
  refine sd_lconst C (v := 0) dX0_bestByOffering_0 rfl rfl (n' := 1) ?_
  refine sd_lstore [(5, .long (0 : Int64)), (0, .ref (E.2.2 63)), (1, .ref (E.2.2 h1)), (2, .int x2), (3, .int x3), (4, .int x4)] C dX0_bestByOffering_1 (by decide) rfl rfl (n' := 3) ?_
  refine sd_iconst C (v := 0) dX0_bestByOffering_3 rfl rfl (n' := 4) ?_
  refine sd_istore [(7, .int (0 : Int32)), (5, .long (0 : Int64)), (0, .ref (E.2.2 63)), (1, .ref (E.2.2 h1)), (2, .int x2), (3, .int x3), (4, .int x4)] C dX0_bestByOffering_4 (by decide) rfl rfl (n' := 6) ?_
  refine sd_iconst C (v := 0) dX0_bestByOffering_6 rfl rfl (n' := 7) ?_
  refine sd_istore [(8, .int (0 : Int32)), (7, .int (0 : Int32)), (5, .long (0 : Int64)), (0, .ref (E.2.2 63)), (1, .ref (E.2.2 h1)), (2, .int x2), (3, .int x3), (4, .int x4)] C dX0_bestByOffering_7 (by decide) rfl rfl (n' := 9) ?_
  refine sd_sub [3, 4, 5, 6, 7, 2, 1, 0] rfl ?_
  exact tb_X0_bestByOffering_9 C k1 sd_FU M x2 x3 x4 (0 : Int64) (0 : Int32) (0 : Int32) hF
theorem ct_X0_bestByOffering {l : Launch} {E : sd_Env} (M : sd_Mem) (h1 : Nat) (x2 : Int32) (x3 : Int32) (x4 : Int32) (k1 : sd_kd h1 = 10) {r : (Int64 × sd_Mem)} (hF : fn_X0_bestByOffering M h1 x2 x3 x4 = some r) : sd_ML l E sd_LC yX0_bestByOffering cX0_bestByOffering 12 (some .long) rm_X0_bestByOffering [.ref (E.2.2 63), .ref (E.2.2 h1), .int x2, .int x3, .int x4] M r.1 r.2 := sd_ent0 (by decide +kernel) (Nat.le_of_ble_eq_true rfl) (fun p e s m below meth c C => tb_X0_bestByOffering_0 C k1 M x2 x3 x4 hF)
theorem dX0_weighOffering_0 : decode cX0_weighOffering 0 = .ok (.aload_n 0, 1) := by decide +kernel
theorem dX0_weighOffering_1 : decode cX0_weighOffering 1 = .ok (.iconst 1, 1) := by decide +kernel
theorem dX0_weighOffering_2 : decode cX0_weighOffering 2 = .ok (.iload_n 2, 1) := by decide +kernel
theorem dX0_weighOffering_3 : decode cX0_weighOffering 3 = .ok (.invokevirtual 57, 3) := by decide +kernel
theorem dX0_weighOffering_6 : decode cX0_weighOffering 6 = .ok (.aload_n 0, 1) := by decide +kernel
theorem dX0_weighOffering_7 : decode cX0_weighOffering 7 = .ok (.getfield 21, 3) := by decide +kernel
theorem dX0_weighOffering_10 : decode cX0_weighOffering 10 = .ok (.getfield 61, 3) := by decide +kernel
theorem dX0_weighOffering_13 : decode cX0_weighOffering 13 = .ok (.istore_n 3, 1) := by decide +kernel
theorem dX0_weighOffering_14 : decode cX0_weighOffering 14 = .ok (.iload_n 3, 1) := by decide +kernel
theorem dX0_weighOffering_15 : decode cX0_weighOffering 15 = .ok (.iconst 1, 1) := by decide +kernel
theorem dX0_weighOffering_16 : decode cX0_weighOffering 16 = .ok (.if_icmp .lt 83, 3) := by decide +kernel
theorem dX0_weighOffering_19 : decode cX0_weighOffering 19 = .ok (.iconst 0, 1) := by decide +kernel
theorem dX0_weighOffering_20 : decode cX0_weighOffering 20 = .ok (.istore 4, 2) := by decide +kernel
theorem dX0_weighOffering_22 : decode cX0_weighOffering 22 = .ok (.iload 4, 2) := by decide +kernel
theorem dX0_weighOffering_24 : decode cX0_weighOffering 24 = .ok (.aload_n 0, 1) := by decide +kernel
theorem dX0_weighOffering_25 : decode cX0_weighOffering 25 = .ok (.getfield 21, 3) := by decide +kernel
theorem dX0_weighOffering_28 : decode cX0_weighOffering 28 = .ok (.iconst 0, 1) := by decide +kernel
theorem dX0_weighOffering_29 : decode cX0_weighOffering 29 = .ok (.invokevirtual 40, 3) := by decide +kernel
theorem dX0_weighOffering_32 : decode cX0_weighOffering 32 = .ok (.if_icmp .gt 61, 3) := by decide +kernel
theorem dX0_weighOffering_35 : decode cX0_weighOffering 35 = .ok (.iload_n 3, 1) := by decide +kernel
theorem dX0_weighOffering_36 : decode cX0_weighOffering 36 = .ok (.aload_n 0, 1) := by decide +kernel
theorem dX0_weighOffering_37 : decode cX0_weighOffering 37 = .ok (.getfield 25, 3) := by decide +kernel
theorem dX0_weighOffering_40 : decode cX0_weighOffering 40 = .ok (.getfield 65, 3) := by decide +kernel
theorem dX0_weighOffering_43 : decode cX0_weighOffering 43 = .ok (.if_icmp .ge 15, 3) := by decide +kernel
theorem dX0_weighOffering_46 : decode cX0_weighOffering 46 = .ok (.aload_n 0, 1) := by decide +kernel
theorem dX0_weighOffering_47 : decode cX0_weighOffering 47 = .ok (.iload_n 3, 1) := by decide +kernel
theorem dX0_weighOffering_48 : decode cX0_weighOffering 48 = .ok (.iconst 1, 1) := by decide +kernel
theorem dX0_weighOffering_49 : decode cX0_weighOffering 49 = .ok (.iadd, 1) := by decide +kernel
theorem dX0_weighOffering_50 : decode cX0_weighOffering 50 = .ok (.iload 4, 2) := by decide +kernel
theorem dX0_weighOffering_52 : decode cX0_weighOffering 52 = .ok (.invokevirtual 45, 3) := by decide +kernel
theorem dX0_weighOffering_55 : decode cX0_weighOffering 55 = .ok (.goto 12, 3) := by decide +kernel
theorem dX0_weighOffering_58 : decode cX0_weighOffering 58 = .ok (.aload_n 0, 1) := by decide +kernel
theorem dX0_weighOffering_59 : decode cX0_weighOffering 59 = .ok (.aload_n 1, 1) := by decide +kernel
theorem dX0_weighOffering_60 : decode cX0_weighOffering 60 = .ok (.iload_n 2, 1) := by decide +kernel
theorem dX0_weighOffering_61 : decode cX0_weighOffering 61 = .ok (.iload_n 3, 1) := by decide +kernel
theorem dX0_weighOffering_62 : decode cX0_weighOffering 62 = .ok (.iload 4, 2) := by decide +kernel
theorem dX0_weighOffering_64 : decode cX0_weighOffering 64 = .ok (.invokevirtual 82, 3) := by decide +kernel
theorem dX0_weighOffering_67 : decode cX0_weighOffering 67 = .ok (.lstore 5, 2) := by decide +kernel
theorem dX0_weighOffering_69 : decode cX0_weighOffering 69 = .ok (.aload_n 0, 1) := by decide +kernel
theorem dX0_weighOffering_70 : decode cX0_weighOffering 70 = .ok (.iload_n 3, 1) := by decide +kernel
theorem dX0_weighOffering_71 : decode cX0_weighOffering 71 = .ok (.iload 4, 2) := by decide +kernel
theorem dX0_weighOffering_73 : decode cX0_weighOffering 73 = .ok (.aload_n 0, 1) := by decide +kernel
theorem dX0_weighOffering_74 : decode cX0_weighOffering 74 = .ok (.iconst 1, 1) := by decide +kernel
theorem dX0_weighOffering_75 : decode cX0_weighOffering 75 = .ok (.iload_n 2, 1) := by decide +kernel
theorem dX0_weighOffering_76 : decode cX0_weighOffering 76 = .ok (.iload_n 3, 1) := by decide +kernel
theorem dX0_weighOffering_77 : decode cX0_weighOffering 77 = .ok (.iload 4, 2) := by decide +kernel
theorem dX0_weighOffering_79 : decode cX0_weighOffering 79 = .ok (.lload 5, 2) := by decide +kernel
theorem dX0_weighOffering_81 : decode cX0_weighOffering 81 = .ok (.invokevirtual 74, 3) := by decide +kernel
theorem dX0_weighOffering_84 : decode cX0_weighOffering 84 = .ok (.invokevirtual 78, 3) := by decide +kernel
theorem dX0_weighOffering_87 : decode cX0_weighOffering 87 = .ok (.iinc 4 1, 3) := by decide +kernel
theorem dX0_weighOffering_90 : decode cX0_weighOffering 90 = .ok (.goto (-68), 3) := by decide +kernel
theorem dX0_weighOffering_93 : decode cX0_weighOffering 93 = .ok (.iinc 3 (-1), 3) := by decide +kernel
theorem dX0_weighOffering_96 : decode cX0_weighOffering 96 = .ok (.goto (-82), 3) := by decide +kernel
theorem dX0_weighOffering_99 : decode cX0_weighOffering 99 = .ok (.return_, 1) := by decide +kernel
set_option maxRecDepth 100000 in
set_option maxHeartbeats 4000000 in
theorem tb_X0_weighOffering_67 {K : sd_K} {E : sd_Env}  {h1 : Nat} {r : sd_Mem} (C : sd_C K E sd_LC RX0 cX0_weighOffering 7 none) (k1 : sd_kd h1 = 10) {k14 : sd_Mem → Int32 → Int32 → Option sd_Mem} (hk14 : ∀ (M : sd_Mem) (x2 : Int32) (x3 : Int32), k14 M x2 x3 = some r → sd_Z K rm_X0_weighOffering E sd_LC 7 (sd_QV K E sd_LC r) M 14 [(0, .ref (E.2.2 63)), (1, .ref (E.2.2 h1)), (2, .int x2), (3, .int x3)] []) {k22 : sd_Mem → Int32 → Int32 → Int32 → Option sd_Mem} (hk22 : ∀ (M : sd_Mem) (x2 : Int32) (x3 : Int32) (x4 : Int32), k22 M x2 x3 x4 = some r → sd_Z K rm_X0_weighOffering E sd_LC 7 (sd_QV K E sd_LC r) M 22 [(0, .ref (E.2.2 63)), (1, .ref (E.2.2 h1)), (2, .int x2), (3, .int x3), (4, .int x4)] []) : ∀ (M : sd_Mem) (x2 : Int32) (x3 : Int32) (x4 : Int32) (ls0 : Int64), fn_X0_weighOffering_67 h1 k14 k22 M x2 x3 x4 ls0 = some r → sd_Z K rm_X0_weighOffering E sd_LC 7 (sd_QV K E sd_LC r) M 67 [(0, .ref (E.2.2 63)), (1, .ref (E.2.2 h1)), (2, .int x2), (3, .int x3), (4, .int x4)] [.long ls0] := by
  intro M x2 x3 x4 ls0 hF
  unfold fn_X0_weighOffering_67 at hF
  refine sd_lstore [(5, .long ls0), (0, .ref (E.2.2 63)), (1, .ref (E.2.2 h1)), (2, .int x2), (3, .int x3), (4, .int x4)] C dX0_weighOffering_67 (by decide) rfl rfl (n' := 69) ?_
  refine sd_aload_n C 1 dX0_weighOffering_69 rfl rfl rfl (n' := 70) ?_
  refine sd_iload_n C 4 dX0_weighOffering_70 rfl rfl rfl (n' := 71) ?_
  refine sd_iload C 5 dX0_weighOffering_71 rfl rfl (n' := 73) ?_
  refine sd_aload_n C 1 dX0_weighOffering_73 rfl rfl rfl (n' := 74) ?_
  refine sd_iconst C (v := 1) dX0_weighOffering_74 rfl rfl (n' := 75) ?_
  refine sd_iload_n C 3 dX0_weighOffering_75 rfl rfl rfl (n' := 76) ?_
  refine sd_iload_n C 4 dX0_weighOffering_76 rfl rfl rfl (n' := 77) ?_
  refine sd_iload C 5 dX0_weighOffering_77 rfl rfl (n' := 79) ?_
  refine sd_lload C 0 dX0_weighOffering_79 rfl rfl (n' := 81) ?_
  obtain ⟨q81, e81, hF⟩ := sd_bind hF
  refine sd_callVL [.int (1 : Int32), .int x2, .int x3, .int x4, .long ls0] [.int x4, .int x3, .ref (E.2.2 63)] C (ct_X0_judged M (1 : Int32) x2 x3 x4 ls0  e81) sd_lX0_74 ⟨rfl, rfl, Nat.le_of_ble_eq_true rfl, Nat.le_of_ble_eq_true rfl⟩ sd_i63 (sd_e1 sd_k63) rfl rfl rfl (Nat.le_of_ble_eq_true rfl) dX0_weighOffering_81 rfl (n' := 84) ?_
  obtain ⟨q84, e84, hF⟩ := sd_bind hF
  refine sd_callVV [.int x3, .int x4, .long q81] [] C (ct_X0_keep M x3 x4 q81  e84) sd_lX0_78 ⟨rfl, rfl, Nat.le_of_ble_eq_true rfl, Nat.le_of_ble_eq_true rfl⟩ sd_i63 (sd_e1 sd_k63) rfl rfl rfl (Nat.le_of_ble_eq_true rfl) dX0_weighOffering_84 rfl (n' := 87) ?_
  refine sd_iinc [(4, .int (x4 + (1 : Int32))), (5, .long ls0), (0, .ref (E.2.2 63)), (1, .ref (E.2.2 h1)), (2, .int x2), (3, .int x3)] 5 C dX0_weighOffering_87 rfl rfl (by decide) rfl rfl (n' := 90) ?_
  refine sd_goto C (tgt := 22) dX0_weighOffering_90 rfl ?_
  refine sd_sub [2, 3, 4, 5, 0] rfl ?_
  exact hk22 q84 x2 x3 (x4 + (1 : Int32)) hF
set_option maxRecDepth 100000 in
set_option maxHeartbeats 4000000 in
theorem tb_X0_weighOffering_22 {K : sd_K} {E : sd_Env}  {h1 : Nat} {r : sd_Mem} (C : sd_C K E sd_LC RX0 cX0_weighOffering 7 none) (k1 : sd_kd h1 = 10) {k14 : sd_Mem → Int32 → Int32 → Option sd_Mem} (hk14 : ∀ (M : sd_Mem) (x2 : Int32) (x3 : Int32), k14 M x2 x3 = some r → sd_Z K rm_X0_weighOffering E sd_LC 7 (sd_QV K E sd_LC r) M 14 [(0, .ref (E.2.2 63)), (1, .ref (E.2.2 h1)), (2, .int x2), (3, .int x3)] []) : ∀ (n : Nat), ∀ (M : sd_Mem) (x2 : Int32) (x3 : Int32) (x4 : Int32), fn_X0_weighOffering_22 h1 k14 n M x2 x3 x4 = some r → sd_Z K rm_X0_weighOffering E sd_LC 7 (sd_QV K E sd_LC r) M 22 [(0, .ref (E.2.2 63)), (1, .ref (E.2.2 h1)), (2, .int x2), (3, .int x3), (4, .int x4)] [] := by
  intro n
  induction n with
  | zero => intro M x2 x3 x4 hF; cases hF
  | succ n ih =>
    intro M x2 x3 x4 hF
    unfold fn_X0_weighOffering_22 at hF
    refine sd_iload C 4 dX0_weighOffering_22 rfl rfl (n' := 24) ?_
    refine sd_aload_n C 0 dX0_weighOffering_24 rfl rfl rfl (n' := 25) ?_
    refine sd_g0_0 C sd_i63 sd_k63 sd_w230 dX0_weighOffering_25 rfl (n' := 28) ?_
    refine sd_iconst C (v := 0) dX0_weighOffering_28 rfl rfl (n' := 29) ?_
    obtain ⟨q29, e29, hF⟩ := sd_bind hF
    refine sd_callVI [.int (0 : Int32)] [.int x4] C (ct_X5_everySort M 40 (0 : Int32) sd_k40 e29) sd_lX0_40 ⟨rfl, rfl, Nat.le_of_ble_eq_true rfl, Nat.le_of_ble_eq_true rfl⟩ sd_i40 (sd_e6 sd_k40) rfl rfl rfl (Nat.le_of_ble_eq_true rfl) dX0_weighOffering_29 rfl (n' := 32) ?_
    refine sd_icmp_gt C (n' := 35) (tgt := 93) dX0_weighOffering_32 rfl rfl (fun c32 => ?_) (fun c32 => ?_)
    · replace hF := sd_pos hF c32
      refine sd_iinc [(3, .int (x3 + (-1 : Int32))), (0, .ref (E.2.2 63)), (1, .ref (E.2.2 h1)), (2, .int x2), (4, .int x4)] 3 C dX0_weighOffering_93 rfl rfl (by decide) rfl rfl (n' := 96) ?_
      refine sd_goto C (tgt := 14) dX0_weighOffering_96 rfl ?_
      refine sd_sub [1, 2, 3, 0] rfl ?_
      exact hk14 M x2 (x3 + (-1 : Int32)) hF
    · replace hF := sd_neg hF c32
      refine sd_iload_n C 3 dX0_weighOffering_35 rfl rfl rfl (n' := 36) ?_
      refine sd_aload_n C 0 dX0_weighOffering_36 rfl rfl rfl (n' := 37) ?_
      refine sd_g0_1 C sd_i63 sd_k63 sd_w231 dX0_weighOffering_37 rfl (n' := 40) ?_
      refine sd_gN4_0 C sd_i58 sd_k58 sd_w176 dX0_weighOffering_40 rfl (n' := 43) ?_
      refine sd_icmp_ge C (n' := 46) (tgt := 58) dX0_weighOffering_43 rfl rfl (fun c43 => ?_) (fun c43 => ?_)
      · replace hF := sd_pos hF c43
        refine sd_aload_n C 0 dX0_weighOffering_58 rfl rfl rfl (n' := 59) ?_
        refine sd_aload_n C 1 dX0_weighOffering_59 rfl rfl rfl (n' := 60) ?_
        refine sd_iload_n C 2 dX0_weighOffering_60 rfl rfl rfl (n' := 61) ?_
        refine sd_iload_n C 3 dX0_weighOffering_61 rfl rfl rfl (n' := 62) ?_
        refine sd_iload C 4 dX0_weighOffering_62 rfl rfl (n' := 64) ?_
        obtain ⟨q64, e64, hF⟩ := sd_bind hF
        refine sd_callVL [.ref (E.2.2 h1), .int x2, .int x3, .int x4] [] C (ct_X0_bestByOffering M h1 x2 x3 x4 k1 e64) sd_lX0_82 ⟨rfl, rfl, Nat.le_of_ble_eq_true rfl, Nat.le_of_ble_eq_true rfl⟩ sd_i63 (sd_e1 sd_k63) rfl rfl rfl (Nat.le_of_ble_eq_true rfl) dX0_weighOffering_64 rfl (n' := 67) ?_
        exact tb_X0_weighOffering_67 C k1 hk14 ih q64.2 x2 x3 x4 q64.1 hF
      · replace hF := sd_neg hF c43
        refine sd_aload_n C 0 dX0_weighOffering_46 rfl rfl rfl (n' := 47) ?_
        refine sd_iload_n C 3 dX0_weighOffering_47 rfl rfl rfl (n' := 48) ?_
        refine sd_iconst C (v := 1) dX0_weighOffering_48 rfl rfl (n' := 49) ?_
        refine sd_iadd C dX0_weighOffering_49 rfl (n' := 50) ?_
        refine sd_iload C 4 dX0_weighOffering_50 rfl rfl (n' := 52) ?_
        obtain ⟨q52, e52, hF⟩ := sd_bind hF
        refine sd_callVL [.int (x3 + (1 : Int32)), .int x4] [] C (ct_X0_sum M (x3 + (1 : Int32)) x4  e52) sd_lX0_45 ⟨rfl, rfl, Nat.le_of_ble_eq_true rfl, Nat.le_of_ble_eq_true rfl⟩ sd_i63 (sd_e1 sd_k63) rfl rfl rfl (Nat.le_of_ble_eq_true rfl) dX0_weighOffering_52 rfl (n' := 55) ?_
        refine sd_goto C (tgt := 67) dX0_weighOffering_55 rfl ?_
        exact tb_X0_weighOffering_67 C k1 hk14 ih M x2 x3 x4 q52 hF
set_option maxRecDepth 100000 in
set_option maxHeartbeats 4000000 in
theorem tb_X0_weighOffering_14 {K : sd_K} {E : sd_Env}  {h1 : Nat} {r : sd_Mem} (C : sd_C K E sd_LC RX0 cX0_weighOffering 7 none) (k1 : sd_kd h1 = 10) : ∀ (n : Nat), ∀ (M : sd_Mem) (x2 : Int32) (x3 : Int32), fn_X0_weighOffering_14 h1 n M x2 x3 = some r → sd_Z K rm_X0_weighOffering E sd_LC 7 (sd_QV K E sd_LC r) M 14 [(0, .ref (E.2.2 63)), (1, .ref (E.2.2 h1)), (2, .int x2), (3, .int x3)] [] := by
  intro n
  induction n with
  | zero => intro M x2 x3 hF; cases hF
  | succ n ih =>
    intro M x2 x3 hF
    unfold fn_X0_weighOffering_14 at hF
    refine sd_iload_n C 3 dX0_weighOffering_14 rfl rfl rfl (n' := 15) ?_
    refine sd_iconst C (v := 1) dX0_weighOffering_15 rfl rfl (n' := 16) ?_
    refine sd_icmp_lt C (n' := 19) (tgt := 99) dX0_weighOffering_16 rfl rfl (fun c16 => ?_) (fun c16 => ?_)
    · replace hF := sd_pos hF c16
      exact sd_vret C dX0_weighOffering_99 (Option.some.inj hF)
    · replace hF := sd_neg hF c16
      refine sd_iconst C (v := 0) dX0_weighOffering_19 rfl rfl (n' := 20) ?_
      refine sd_istore [(4, .int (0 : Int32)), (0, .ref (E.2.2 63)), (1, .ref (E.2.2 h1)), (2, .int x2), (3, .int x3)] C dX0_weighOffering_20 (by decide) rfl rfl (n' := 22) ?_
      refine sd_sub [1, 2, 3, 4, 0] rfl ?_
      exact tb_X0_weighOffering_22 C k1 ih sd_FU M x2 x3 (0 : Int32) hF
set_option maxRecDepth 100000 in
set_option maxHeartbeats 4000000 in
theorem tb_X0_weighOffering_0 {K : sd_K} {E : sd_Env}  {h1 : Nat} {r : sd_Mem} (C : sd_C K E sd_LC RX0 cX0_weighOffering 7 none) (k1 : sd_kd h1 = 10) : ∀ (M : sd_Mem) (x2 : Int32), fn_X0_weighOffering_0 h1 M x2 = some r → sd_Z K rm_X0_weighOffering E sd_LC 7 (sd_QV K E sd_LC r) M 0 [(0, .ref (E.2.2 63)), (1, .ref (E.2.2 h1)), (2, .int x2)] [] := by
  intro M x2 hF
  unfold fn_X0_weighOffering_0 at hF
  refine sd_aload_n C 0 dX0_weighOffering_0 rfl rfl rfl (n' := 1) ?_
  refine sd_iconst C (v := 1) dX0_weighOffering_1 rfl rfl (n' := 2) ?_
  refine sd_iload_n C 2 dX0_weighOffering_2 rfl rfl rfl (n' := 3) ?_
  obtain ⟨q3, e3, hF⟩ := sd_bind hF
  refine sd_callVV [.int (1 : Int32), .int x2] [] C (ct_X0_endUnsettled M (1 : Int32) x2  e3) sd_lX0_57 ⟨rfl, rfl, Nat.le_of_ble_eq_true rfl, Nat.le_of_ble_eq_true rfl⟩ sd_i63 (sd_e1 sd_k63) rfl rfl rfl (Nat.le_of_ble_eq_true rfl) dX0_weighOffering_3 rfl (n' := 6) ?_
  refine sd_aload_n C 0 dX0_weighOffering_6 rfl rfl rfl (n' := 7) ?_
  refine sd_g0_0 C sd_i63 sd_k63 sd_w230 dX0_weighOffering_7 rfl (n' := 10) ?_
  refine sd_gN5_6 C sd_i40 sd_k40 sd_w144 dX0_weighOffering_10 rfl (n' := 13) ?_
  refine sd_istore_n [(3, .int (q3.1 40 6)), (0, .ref (E.2.2 63)), (1, .ref (E.2.2 h1)), (2, .int x2)] C dX0_weighOffering_13 rfl (by decide) rfl rfl (n' := 14) ?_
  refine sd_sub [1, 2, 3, 0] rfl ?_
  exact tb_X0_weighOffering_14 C k1 sd_FU q3 x2 (q3.1 40 6) hF
theorem ct_X0_weighOffering {l : Launch} {E : sd_Env} (M : sd_Mem) (h1 : Nat) (x2 : Int32) (k1 : sd_kd h1 = 10) {r : sd_Mem} (hF : fn_X0_weighOffering M h1 x2 = some r) : sd_MV l E sd_LC yX0_weighOffering cX0_weighOffering 7 none rm_X0_weighOffering [.ref (E.2.2 63), .ref (E.2.2 h1), .int x2] M r := sd_ent0 (by decide +kernel) (Nat.le_of_ble_eq_true rfl) (fun p e s m below meth c C => tb_X0_weighOffering_0 C k1 M x2 hF)
theorem dX0_bestSum_0 : decode cX0_bestSum 0 = .ok (.iload_n 2, 1) := by decide +kernel
theorem dX0_bestSum_1 : decode cX0_bestSum 1 = .ok (.ifCond .ne 12, 3) := by decide +kernel
theorem dX0_bestSum_4 : decode cX0_bestSum 4 = .ok (.aload_n 0, 1) := by decide +kernel
theorem dX0_bestSum_5 : decode cX0_bestSum 5 = .ok (.aload_n 1, 1) := by decide +kernel
theorem dX0_bestSum_6 : decode cX0_bestSum 6 = .ok (.iload_n 3, 1) := by decide +kernel
theorem dX0_bestSum_7 : decode cX0_bestSum 7 = .ok (.invokevirtual 29, 3) := by decide +kernel
theorem dX0_bestSum_10 : decode cX0_bestSum 10 = .ok (.goto 9, 3) := by decide +kernel
theorem dX0_bestSum_13 : decode cX0_bestSum 13 = .ok (.aload_n 0, 1) := by decide +kernel
theorem dX0_bestSum_14 : decode cX0_bestSum 14 = .ok (.aload_n 1, 1) := by decide +kernel
theorem dX0_bestSum_15 : decode cX0_bestSum 15 = .ok (.iload_n 3, 1) := by decide +kernel
theorem dX0_bestSum_16 : decode cX0_bestSum 16 = .ok (.invokevirtual 33, 3) := by decide +kernel
theorem dX0_bestSum_19 : decode cX0_bestSum 19 = .ok (.aload_n 0, 1) := by decide +kernel
theorem dX0_bestSum_20 : decode cX0_bestSum 20 = .ok (.iconst 1, 1) := by decide +kernel
theorem dX0_bestSum_21 : decode cX0_bestSum 21 = .ok (.aload_n 0, 1) := by decide +kernel
theorem dX0_bestSum_22 : decode cX0_bestSum 22 = .ok (.getfield 21, 3) := by decide +kernel
theorem dX0_bestSum_25 : decode cX0_bestSum 25 = .ok (.iload_n 2, 1) := by decide +kernel
theorem dX0_bestSum_26 : decode cX0_bestSum 26 = .ok (.invokestatic 36, 3) := by decide +kernel
theorem dX0_bestSum_29 : decode cX0_bestSum 29 = .ok (.invokevirtual 40, 3) := by decide +kernel
theorem dX0_bestSum_32 : decode cX0_bestSum 32 = .ok (.invokevirtual 45, 3) := by decide +kernel
theorem dX0_bestSum_35 : decode cX0_bestSum 35 = .ok (.lreturn, 1) := by decide +kernel
set_option maxRecDepth 100000 in
set_option maxHeartbeats 4000000 in
theorem tb_X0_bestSum_19 {K : sd_K} {E : sd_Env}  {h1 : Nat} {r : (Int64 × sd_Mem)} (C : sd_C K E sd_LC RX0 cX0_bestSum 4 (some .long)) (k1 : sd_kd h1 = 10) : ∀ (M : sd_Mem) (x2 : Int32), fn_X0_bestSum_19 h1 M x2 = some r → sd_Z K rm_X0_bestSum E sd_LC 4 (sd_QL K E sd_LC r.1 r.2) M 19 [(0, .ref (E.2.2 63)), (2, .int x2)] [] := by
  intro M x2 hF
  unfold fn_X0_bestSum_19 at hF
  refine sd_aload_n C 0 dX0_bestSum_19 rfl rfl rfl (n' := 20) ?_
  refine sd_iconst C (v := 1) dX0_bestSum_20 rfl rfl (n' := 21) ?_
  refine sd_aload_n C 0 dX0_bestSum_21 rfl rfl rfl (n' := 22) ?_
  refine sd_g0_0 C sd_i63 sd_k63 sd_w230 dX0_bestSum_22 rfl (n' := 25) ?_
  refine sd_iload_n C 1 dX0_bestSum_25 rfl rfl rfl (n' := 26) ?_
  obtain ⟨q26, e26, hF⟩ := sd_bind hF
  refine sd_callNI [.int x2] [.ref (E.2.2 40), .int (1 : Int32), .ref (E.2.2 63)] C (ct_X10_otherSide M x2  e26) sd_lX0_36 ⟨rfl, rfl, Nat.le_of_ble_eq_true rfl, Nat.le_of_ble_eq_true rfl⟩ rfl (Nat.le_of_ble_eq_true rfl) dX0_bestSum_26 rfl (n' := 29) ?_
  obtain ⟨q29, e29, hF⟩ := sd_bind hF
  refine sd_callVI [.int q26] [.int (1 : Int32), .ref (E.2.2 63)] C (ct_X5_everySort M 40 q26 sd_k40 e29) sd_lX0_40 ⟨rfl, rfl, Nat.le_of_ble_eq_true rfl, Nat.le_of_ble_eq_true rfl⟩ sd_i40 (sd_e6 sd_k40) rfl rfl rfl (Nat.le_of_ble_eq_true rfl) dX0_bestSum_29 rfl (n' := 32) ?_
  obtain ⟨q32, e32, hF⟩ := sd_bind hF
  refine sd_callVL [.int (1 : Int32), .int q29] [] C (ct_X0_sum M (1 : Int32) q29  e32) sd_lX0_45 ⟨rfl, rfl, Nat.le_of_ble_eq_true rfl, Nat.le_of_ble_eq_true rfl⟩ sd_i63 (sd_e1 sd_k63) rfl rfl rfl (Nat.le_of_ble_eq_true rfl) dX0_bestSum_32 rfl (n' := 35) ?_
  exact sd_lret C dX0_bestSum_35 (sd_fst hF) (sd_snd hF)
set_option maxRecDepth 100000 in
set_option maxHeartbeats 4000000 in
theorem tb_X0_bestSum_0 {K : sd_K} {E : sd_Env}  {h1 : Nat} {r : (Int64 × sd_Mem)} (C : sd_C K E sd_LC RX0 cX0_bestSum 4 (some .long)) (k1 : sd_kd h1 = 10) : ∀ (M : sd_Mem) (x2 : Int32) (x3 : Int32), fn_X0_bestSum_0 h1 M x2 x3 = some r → sd_Z K rm_X0_bestSum E sd_LC 4 (sd_QL K E sd_LC r.1 r.2) M 0 [(0, .ref (E.2.2 63)), (1, .ref (E.2.2 h1)), (2, .int x2), (3, .int x3)] [] := by
  intro M x2 x3 hF
  unfold fn_X0_bestSum_0 at hF
  refine sd_iload_n C 2 dX0_bestSum_0 rfl rfl rfl (n' := 1) ?_
  refine sd_if_ne C (n' := 4) (tgt := 13) dX0_bestSum_1 rfl rfl (fun c1 => ?_) (fun c1 => ?_)
  · replace hF := sd_neg hF c1
    refine sd_aload_n C 0 dX0_bestSum_13 rfl rfl rfl (n' := 14) ?_
    refine sd_aload_n C 1 dX0_bestSum_14 rfl rfl rfl (n' := 15) ?_
    refine sd_iload_n C 3 dX0_bestSum_15 rfl rfl rfl (n' := 16) ?_
    obtain ⟨q16, e16, hF⟩ := sd_bind hF
    refine sd_callVV [.ref (E.2.2 h1), .int x3] [] C (ct_X0_weighOffering M h1 x3 k1 e16) sd_lX0_33 ⟨rfl, rfl, Nat.le_of_ble_eq_true rfl, Nat.le_of_ble_eq_true rfl⟩ sd_i63 (sd_e1 sd_k63) rfl rfl rfl (Nat.le_of_ble_eq_true rfl) dX0_bestSum_16 rfl (n' := 19) ?_
    refine sd_sub [0, 2] rfl ?_
    exact tb_X0_bestSum_19 C k1 q16 x2 hF
  · replace hF := sd_pos hF c1
    refine sd_aload_n C 0 dX0_bestSum_4 rfl rfl rfl (n' := 5) ?_
    refine sd_aload_n C 1 dX0_bestSum_5 rfl rfl rfl (n' := 6) ?_
    refine sd_iload_n C 3 dX0_bestSum_6 rfl rfl rfl (n' := 7) ?_
    obtain ⟨q7, e7, hF⟩ := sd_bind hF
    refine sd_callVV [.ref (E.2.2 h1), .int x3] [] C (ct_X0_weighTaking M h1 x3 k1 e7) sd_lX0_29 ⟨rfl, rfl, Nat.le_of_ble_eq_true rfl, Nat.le_of_ble_eq_true rfl⟩ sd_i63 (sd_e1 sd_k63) rfl rfl rfl (Nat.le_of_ble_eq_true rfl) dX0_bestSum_7 rfl (n' := 10) ?_
    refine sd_goto C (tgt := 19) dX0_bestSum_10 rfl ?_
    refine sd_sub [0, 2] rfl ?_
    exact tb_X0_bestSum_19 C k1 q7 x2 hF
theorem ct_X0_bestSum {l : Launch} {E : sd_Env} (M : sd_Mem) (h1 : Nat) (x2 : Int32) (x3 : Int32) (k1 : sd_kd h1 = 10) {r : (Int64 × sd_Mem)} (hF : fn_X0_bestSum M h1 x2 x3 = some r) : sd_ML l E sd_LC yX0_bestSum cX0_bestSum 4 (some .long) rm_X0_bestSum [.ref (E.2.2 63), .ref (E.2.2 h1), .int x2, .int x3] M r.1 r.2 := sd_ent0 (by decide +kernel) (Nat.le_of_ble_eq_true rfl) (fun p e s m below meth c C => tb_X0_bestSum_0 C k1 M x2 x3 hF)
theorem dX10_best_0 : decode cX10_best 0 = .ok (.iload_n 1, 1) := by decide +kernel
theorem dX10_best_1 : decode cX10_best 1 = .ok (.invokestatic 177, 3) := by decide +kernel
theorem dX10_best_4 : decode cX10_best 4 = .ok (.ifCond .eq 15, 3) := by decide +kernel
theorem dX10_best_7 : decode cX10_best 7 = .ok (.aload_n 0, 1) := by decide +kernel
theorem dX10_best_8 : decode cX10_best 8 = .ok (.getfield 27, 3) := by decide +kernel
theorem dX10_best_11 : decode cX10_best 11 = .ok (.iload_n 2, 1) := by decide +kernel
theorem dX10_best_12 : decode cX10_best 12 = .ok (.iload_n 3, 1) := by decide +kernel
theorem dX10_best_13 : decode cX10_best 13 = .ok (.invokevirtual 159, 3) := by decide +kernel
theorem dX10_best_16 : decode cX10_best 16 = .ok (.ifCond .ne 5, 3) := by decide +kernel
theorem dX10_best_19 : decode cX10_best 19 = .ok (.iconst (-1), 1) := by decide +kernel
theorem dX10_best_20 : decode cX10_best 20 = .ok (.ireturn, 1) := by decide +kernel
theorem dX10_best_21 : decode cX10_best 21 = .ok (.aload_n 0, 1) := by decide +kernel
theorem dX10_best_22 : decode cX10_best 22 = .ok (.getfield 20, 3) := by decide +kernel
theorem dX10_best_25 : decode cX10_best 25 = .ok (.iload_n 1, 1) := by decide +kernel
theorem dX10_best_26 : decode cX10_best 26 = .ok (.aaload, 1) := by decide +kernel
theorem dX10_best_27 : decode cX10_best 27 = .ok (.invokevirtual 185, 3) := by decide +kernel
theorem dX10_best_30 : decode cX10_best 30 = .ok (.ifCond .eq 12, 3) := by decide +kernel
theorem dX10_best_33 : decode cX10_best 33 = .ok (.aload_n 0, 1) := by decide +kernel
theorem dX10_best_34 : decode cX10_best 34 = .ok (.getfield 84, 3) := by decide +kernel
theorem dX10_best_37 : decode cX10_best 37 = .ok (.iconst 1, 1) := by decide +kernel
theorem dX10_best_38 : decode cX10_best 38 = .ok (.invokevirtual 100, 3) := by decide +kernel
theorem dX10_best_41 : decode cX10_best 41 = .ok (.ireturn, 1) := by decide +kernel
theorem dX10_best_42 : decode cX10_best 42 = .ok (.iload_n 2, 1) := by decide +kernel
theorem dX10_best_43 : decode cX10_best 43 = .ok (.ifCond .ne 19, 3) := by decide +kernel
theorem dX10_best_46 : decode cX10_best 46 = .ok (.aload_n 0, 1) := by decide +kernel
theorem dX10_best_47 : decode cX10_best 47 = .ok (.getfield 20, 3) := by decide +kernel
theorem dX10_best_50 : decode cX10_best 50 = .ok (.iload_n 1, 1) := by decide +kernel
theorem dX10_best_51 : decode cX10_best 51 = .ok (.aaload, 1) := by decide +kernel
theorem dX10_best_52 : decode cX10_best 52 = .ok (.iconst 1, 1) := by decide +kernel
theorem dX10_best_53 : decode cX10_best 53 = .ok (.invokevirtual 201, 3) := by decide +kernel
theorem dX10_best_56 : decode cX10_best 56 = .ok (.ifCond .ne 27, 3) := by decide +kernel
theorem dX10_best_59 : decode cX10_best 59 = .ok (.goto 15, 3) := by decide +kernel
theorem dX10_best_62 : decode cX10_best 62 = .ok (.aload_n 0, 1) := by decide +kernel
theorem dX10_best_63 : decode cX10_best 63 = .ok (.getfield 20, 3) := by decide +kernel
theorem dX10_best_66 : decode cX10_best 66 = .ok (.iload_n 1, 1) := by decide +kernel
theorem dX10_best_67 : decode cX10_best 67 = .ok (.aaload, 1) := by decide +kernel
theorem dX10_best_68 : decode cX10_best 68 = .ok (.invokevirtual 265, 3) := by decide +kernel
theorem dX10_best_71 : decode cX10_best 71 = .ok (.ifCond .ne 12, 3) := by decide +kernel
theorem dX10_best_74 : decode cX10_best 74 = .ok (.aload_n 0, 1) := by decide +kernel
theorem dX10_best_75 : decode cX10_best 75 = .ok (.getfield 84, 3) := by decide +kernel
theorem dX10_best_78 : decode cX10_best 78 = .ok (.iconst 3, 1) := by decide +kernel
theorem dX10_best_79 : decode cX10_best 79 = .ok (.invokevirtual 100, 3) := by decide +kernel
theorem dX10_best_82 : decode cX10_best 82 = .ok (.ireturn, 1) := by decide +kernel
theorem dX10_best_83 : decode cX10_best 83 = .ok (.aload_n 0, 1) := by decide +kernel
theorem dX10_best_84 : decode cX10_best 84 = .ok (.getfield 77, 3) := by decide +kernel
theorem dX10_best_87 : decode cX10_best 87 = .ok (.aload_n 0, 1) := by decide +kernel
theorem dX10_best_88 : decode cX10_best 88 = .ok (.getfield 63, 3) := by decide +kernel
theorem dX10_best_91 : decode cX10_best 91 = .ok (.aload_n 0, 1) := by decide +kernel
theorem dX10_best_92 : decode cX10_best 92 = .ok (.getfield 20, 3) := by decide +kernel
theorem dX10_best_95 : decode cX10_best 95 = .ok (.iload_n 1, 1) := by decide +kernel
theorem dX10_best_96 : decode cX10_best 96 = .ok (.aaload, 1) := by decide +kernel
theorem dX10_best_97 : decode cX10_best 97 = .ok (.iload_n 2, 1) := by decide +kernel
theorem dX10_best_98 : decode cX10_best 98 = .ok (.iload_n 3, 1) := by decide +kernel
theorem dX10_best_99 : decode cX10_best 99 = .ok (.invokevirtual 268, 3) := by decide +kernel
theorem dX10_best_102 : decode cX10_best 102 = .ok (.aload_n 0, 1) := by decide +kernel
theorem dX10_best_103 : decode cX10_best 103 = .ok (.getfield 53, 3) := by decide +kernel
theorem dX10_best_106 : decode cX10_best 106 = .ok (.iload_n 2, 1) := by decide +kernel
theorem dX10_best_107 : decode cX10_best 107 = .ok (.invokevirtual 232, 3) := by decide +kernel
theorem dX10_best_110 : decode cX10_best 110 = .ok (.invokevirtual 236, 3) := by decide +kernel
theorem dX10_best_113 : decode cX10_best 113 = .ok (.iconst 1, 1) := by decide +kernel
theorem dX10_best_114 : decode cX10_best 114 = .ok (.ireturn, 1) := by decide +kernel
set_option maxRecDepth 100000 in
set_option maxHeartbeats 4000000 in
theorem tb_X10_best_83 {K : sd_K} {E : sd_Env}   {r : (Int32 × sd_Mem)} (C : sd_C K E sd_LC RX10 cX10_best 4 (some .int))  : ∀ (M : sd_Mem) (x1 : Int32) (x2 : Int32) (x3 : Int32), fn_X10_best_83 M x1 x2 x3 = some r → sd_Z K rm_X10_best E sd_LC 4 (sd_QI K E sd_LC r.1 r.2) M 83 [(0, .ref (E.2.2 0)), (1, .int x1), (2, .int x2), (3, .int x3)] [] := by
  intro M x1 x2 x3 hF
  unfold fn_X10_best_83 at hF
  refine sd_aload_n C 0 dX10_best_83 rfl rfl rfl (n' := 84) ?_
  refine sd_g10_11 C sd_i0 sd_k0 sd_w339 dX10_best_84 rfl (n' := 87) ?_
  refine sd_aload_n C 0 dX10_best_87 rfl rfl rfl (n' := 88) ?_
  refine sd_g10_9 C sd_i0 sd_k0 sd_w337 dX10_best_88 rfl (n' := 91) ?_
  refine sd_aload_n C 0 dX10_best_91 rfl rfl rfl (n' := 92) ?_
  refine sd_g10_2 C sd_i0 sd_k0 sd_w330 dX10_best_92 rfl (n' := 95) ?_
  refine sd_iload_n C 1 dX10_best_95 rfl rfl rfl (n' := 96) ?_
  obtain ⟨b96, hF⟩ := sd_ok hF
  refine sd_wald C sd_i23 sd_k23 sd_n23 b96 dX10_best_96 rfl (n' := 97) ?_
  refine sd_iload_n C 2 dX10_best_97 rfl rfl rfl (n' := 98) ?_
  refine sd_iload_n C 3 dX10_best_98 rfl rfl rfl (n' := 99) ?_
  obtain ⟨q99, e99, hF⟩ := sd_bind hF
  refine sd_callVL [.ref (E.2.2 (23 + 1 + 2 * x1.toNatClampNeg)), .int x2, .int x3] [.ref (E.2.2 96)] C (ct_X0_bestSum M (23 + 1 + 2 * x1.toNatClampNeg) x2 x3 ((sd_r23 _ (sd_in_lt b96)).1) e99) sd_lX10_268 ⟨rfl, rfl, Nat.le_of_ble_eq_true rfl, Nat.le_of_ble_eq_true rfl⟩ sd_i63 (sd_e1 sd_k63) rfl rfl rfl (Nat.le_of_ble_eq_true rfl) dX10_best_99 rfl (n' := 102) ?_
  refine sd_aload_n C 0 dX10_best_102 rfl rfl rfl (n' := 103) ?_
  refine sd_g10_7 C sd_i0 sd_k0 sd_w335 dX10_best_103 rfl (n' := 106) ?_
  refine sd_iload_n C 2 dX10_best_106 rfl rfl rfl (n' := 107) ?_
  obtain ⟨q107, e107, hF⟩ := sd_bind hF
  refine sd_callVL [.int x2] [.long q99.1, .ref (E.2.2 96)] C (ct_X7_worthShares q99.2 61 x2 sd_k61 e107) sd_lX10_232 ⟨rfl, rfl, Nat.le_of_ble_eq_true rfl, Nat.le_of_ble_eq_true rfl⟩ sd_i61 (sd_e8 sd_k61) rfl rfl rfl (Nat.le_of_ble_eq_true rfl) dX10_best_107 rfl (n' := 110) ?_
  obtain ⟨q110, e110, hF⟩ := sd_bind hF
  refine sd_callVV [.long q99.1, .long q107] [] C (ct_X3_tell q99.2 q99.1 q107  e110) sd_lX10_236 ⟨rfl, rfl, Nat.le_of_ble_eq_true rfl, Nat.le_of_ble_eq_true rfl⟩ sd_i96 (sd_e4 sd_k96) rfl rfl rfl (Nat.le_of_ble_eq_true rfl) dX10_best_110 rfl (n' := 113) ?_
  refine sd_iconst C (v := 1) dX10_best_113 rfl rfl (n' := 114) ?_
  exact sd_iret C dX10_best_114 (sd_fst hF) (sd_snd hF)
set_option maxRecDepth 100000 in
set_option maxHeartbeats 4000000 in
theorem tb_X10_best_0 {K : sd_K} {E : sd_Env}   {r : (Int32 × sd_Mem)} (C : sd_C K E sd_LC RX10 cX10_best 4 (some .int))  : ∀ (M : sd_Mem) (x1 : Int32) (x2 : Int32) (x3 : Int32), fn_X10_best_0 M x1 x2 x3 = some r → sd_Z K rm_X10_best E sd_LC 4 (sd_QI K E sd_LC r.1 r.2) M 0 [(0, .ref (E.2.2 0)), (1, .int x1), (2, .int x2), (3, .int x3)] [] := by
  intro M x1 x2 x3 hF
  unfold fn_X10_best_0 at hF
  refine sd_iload_n C 1 dX10_best_0 rfl rfl rfl (n' := 1) ?_
  obtain ⟨q1, e1, hF⟩ := sd_bind hF
  refine sd_callSI [.int x1] [] C (ct_X10_isWay M x1  e1) sd_lX10_177 ⟨rfl, rfl, Nat.le_of_ble_eq_true rfl, Nat.le_of_ble_eq_true rfl⟩ rfl (Nat.le_of_ble_eq_true rfl) dX10_best_1 rfl (n' := 4) ?_
  refine sd_if_eq C (n' := 7) (tgt := 19) dX10_best_4 rfl rfl (fun c4 => ?_) (fun c4 => ?_)
  · replace hF := sd_pos hF c4
    refine sd_iconst C (v := -1) dX10_best_19 rfl rfl (n' := 20) ?_
    exact sd_iret C dX10_best_20 (sd_fst hF) (sd_snd hF)
  · replace hF := sd_neg hF c4
    refine sd_aload_n C 0 dX10_best_7 rfl rfl rfl (n' := 8) ?_
    refine sd_g10_3 C sd_i0 sd_k0 sd_w331 dX10_best_8 rfl (n' := 11) ?_
    refine sd_iload_n C 2 dX10_best_11 rfl rfl rfl (n' := 12) ?_
    refine sd_iload_n C 3 dX10_best_12 rfl rfl rfl (n' := 13) ?_
    obtain ⟨q13, e13, hF⟩ := sd_bind hF
    refine sd_callVI [.int x2, .int x3] [] C (ct_X5_hasSort M 40 x2 x3 sd_k40 e13) sd_lX10_159 ⟨rfl, rfl, Nat.le_of_ble_eq_true rfl, Nat.le_of_ble_eq_true rfl⟩ sd_i40 (sd_e6 sd_k40) rfl rfl rfl (Nat.le_of_ble_eq_true rfl) dX10_best_13 rfl (n' := 16) ?_
    refine sd_if_ne C (n' := 19) (tgt := 21) dX10_best_16 rfl rfl (fun c16 => ?_) (fun c16 => ?_)
    · replace hF := sd_neg hF c16
      refine sd_aload_n C 0 dX10_best_21 rfl rfl rfl (n' := 22) ?_
      refine sd_g10_2 C sd_i0 sd_k0 sd_w330 dX10_best_22 rfl (n' := 25) ?_
      refine sd_iload_n C 1 dX10_best_25 rfl rfl rfl (n' := 26) ?_
      obtain ⟨b26, hF⟩ := sd_ok hF
      refine sd_wald C sd_i23 sd_k23 sd_n23 b26 dX10_best_26 rfl (n' := 27) ?_
      obtain ⟨q27, e27, hF⟩ := sd_bind hF
      refine sd_callVI [] [] C (ct_X9_isMissing M (23 + 1 + 2 * x1.toNatClampNeg) ((sd_r23 _ (sd_in_lt b26)).1) e27) sd_lX10_185 ⟨rfl, rfl, Nat.le_of_ble_eq_true rfl, Nat.le_of_ble_eq_true rfl⟩ (sd_mC (sd_r23 _ (sd_in_lt b26)).2) (sd_e10 ((sd_r23 _ (sd_in_lt b26)).1)) rfl rfl rfl (Nat.le_of_ble_eq_true rfl) dX10_best_27 rfl (n' := 30) ?_
      refine sd_if_eq C (n' := 33) (tgt := 42) dX10_best_30 rfl rfl (fun c30 => ?_) (fun c30 => ?_)
      · replace hF := sd_pos hF c30
        refine sd_iload_n C 2 dX10_best_42 rfl rfl rfl (n' := 43) ?_
        refine sd_if_ne C (n' := 46) (tgt := 62) dX10_best_43 rfl rfl (fun c43 => ?_) (fun c43 => ?_)
        · replace hF := sd_neg hF c43
          refine sd_aload_n C 0 dX10_best_62 rfl rfl rfl (n' := 63) ?_
          refine sd_g10_2 C sd_i0 sd_k0 sd_w330 dX10_best_63 rfl (n' := 66) ?_
          refine sd_iload_n C 1 dX10_best_66 rfl rfl rfl (n' := 67) ?_
          obtain ⟨b67, hF⟩ := sd_ok hF
          refine sd_wald C sd_i23 sd_k23 sd_n23 b67 dX10_best_67 rfl (n' := 68) ?_
          obtain ⟨q68, e68, hF⟩ := sd_bind hF
          refine sd_callVI [] [] C (ct_X9_isPlainTake M (23 + 1 + 2 * x1.toNatClampNeg) ((sd_r23 _ (sd_in_lt b67)).1) e68) sd_lX10_265 ⟨rfl, rfl, Nat.le_of_ble_eq_true rfl, Nat.le_of_ble_eq_true rfl⟩ (sd_mC (sd_r23 _ (sd_in_lt b67)).2) (sd_e10 ((sd_r23 _ (sd_in_lt b67)).1)) rfl rfl rfl (Nat.le_of_ble_eq_true rfl) dX10_best_68 rfl (n' := 71) ?_
          refine sd_if_ne C (n' := 74) (tgt := 83) dX10_best_71 rfl rfl (fun c71 => ?_) (fun c71 => ?_)
          · replace hF := sd_neg hF c71
            exact tb_X10_best_83 C M x1 x2 x3 hF
          · replace hF := sd_pos hF c71
            refine sd_aload_n C 0 dX10_best_74 rfl rfl rfl (n' := 75) ?_
            refine sd_g10_12 C sd_i0 sd_k0 sd_w340 dX10_best_75 rfl (n' := 78) ?_
            refine sd_iconst C (v := 3) dX10_best_78 rfl rfl (n' := 79) ?_
            obtain ⟨q79, e79, hF⟩ := sd_bind hF
            refine sd_callVI [.int (3 : Int32)] [] C (ct_X2_tell M (3 : Int32)  e79) sd_lX10_100 ⟨rfl, rfl, Nat.le_of_ble_eq_true rfl, Nat.le_of_ble_eq_true rfl⟩ sd_i97 (sd_e3 sd_k97) rfl rfl rfl (Nat.le_of_ble_eq_true rfl) dX10_best_79 rfl (n' := 82) ?_
            exact sd_iret C dX10_best_82 (sd_fst hF) (sd_snd hF)
        · replace hF := sd_pos hF c43
          refine sd_aload_n C 0 dX10_best_46 rfl rfl rfl (n' := 47) ?_
          refine sd_g10_2 C sd_i0 sd_k0 sd_w330 dX10_best_47 rfl (n' := 50) ?_
          refine sd_iload_n C 1 dX10_best_50 rfl rfl rfl (n' := 51) ?_
          obtain ⟨b51, hF⟩ := sd_ok hF
          refine sd_wald C sd_i23 sd_k23 sd_n23 b51 dX10_best_51 rfl (n' := 52) ?_
          refine sd_iconst C (v := 1) dX10_best_52 rfl rfl (n' := 53) ?_
          obtain ⟨q53, e53, hF⟩ := sd_bind hF
          refine sd_callVI [.int (1 : Int32)] [] C (ct_X9_is M (23 + 1 + 2 * x1.toNatClampNeg) (1 : Int32) ((sd_r23 _ (sd_in_lt b51)).1) e53) sd_lX10_201 ⟨rfl, rfl, Nat.le_of_ble_eq_true rfl, Nat.le_of_ble_eq_true rfl⟩ (sd_mC (sd_r23 _ (sd_in_lt b51)).2) (sd_e10 ((sd_r23 _ (sd_in_lt b51)).1)) rfl rfl rfl (Nat.le_of_ble_eq_true rfl) dX10_best_53 rfl (n' := 56) ?_
          refine sd_if_ne C (n' := 59) (tgt := 83) dX10_best_56 rfl rfl (fun c56 => ?_) (fun c56 => ?_)
          · replace hF := sd_neg hF c56
            exact tb_X10_best_83 C M x1 x2 x3 hF
          · replace hF := sd_pos hF c56
            refine sd_goto C (tgt := 74) dX10_best_59 rfl ?_
            refine sd_aload_n C 0 dX10_best_74 rfl rfl rfl (n' := 75) ?_
            refine sd_g10_12 C sd_i0 sd_k0 sd_w340 dX10_best_75 rfl (n' := 78) ?_
            refine sd_iconst C (v := 3) dX10_best_78 rfl rfl (n' := 79) ?_
            obtain ⟨q79, e79, hF⟩ := sd_bind hF
            refine sd_callVI [.int (3 : Int32)] [] C (ct_X2_tell M (3 : Int32)  e79) sd_lX10_100 ⟨rfl, rfl, Nat.le_of_ble_eq_true rfl, Nat.le_of_ble_eq_true rfl⟩ sd_i97 (sd_e3 sd_k97) rfl rfl rfl (Nat.le_of_ble_eq_true rfl) dX10_best_79 rfl (n' := 82) ?_
            exact sd_iret C dX10_best_82 (sd_fst hF) (sd_snd hF)
      · replace hF := sd_neg hF c30
        refine sd_aload_n C 0 dX10_best_33 rfl rfl rfl (n' := 34) ?_
        refine sd_g10_12 C sd_i0 sd_k0 sd_w340 dX10_best_34 rfl (n' := 37) ?_
        refine sd_iconst C (v := 1) dX10_best_37 rfl rfl (n' := 38) ?_
        obtain ⟨q38, e38, hF⟩ := sd_bind hF
        refine sd_callVI [.int (1 : Int32)] [] C (ct_X2_tell M (1 : Int32)  e38) sd_lX10_100 ⟨rfl, rfl, Nat.le_of_ble_eq_true rfl, Nat.le_of_ble_eq_true rfl⟩ sd_i97 (sd_e3 sd_k97) rfl rfl rfl (Nat.le_of_ble_eq_true rfl) dX10_best_38 rfl (n' := 41) ?_
        exact sd_iret C dX10_best_41 (sd_fst hF) (sd_snd hF)
    · replace hF := sd_pos hF c16
      refine sd_iconst C (v := -1) dX10_best_19 rfl rfl (n' := 20) ?_
      exact sd_iret C dX10_best_20 (sd_fst hF) (sd_snd hF)
theorem ct_X10_best {l : Launch} {E : sd_Env} (M : sd_Mem) (x1 : Int32) (x2 : Int32) (x3 : Int32)  {r : (Int32 × sd_Mem)} (hF : fn_X10_best M x1 x2 x3 = some r) : sd_MI l E sd_LC yX10_best cX10_best 4 (some .int) rm_X10_best [.ref (E.2.2 0), .int x1, .int x2, .int x3] M r.1 r.2 := sd_ent0 (by decide +kernel) (Nat.le_of_ble_eq_true rfl) (fun p e s m below meth c C => tb_X10_best_0 C M x1 x2 x3 hF)
theorem dX10_rest_0 : decode cX10_rest 0 = .ok (.aload_n 0, 1) := by decide +kernel
theorem dX10_rest_1 : decode cX10_rest 1 = .ok (.iload_n 1, 1) := by decide +kernel
theorem dX10_rest_2 : decode cX10_rest 2 = .ok (.iload_n 2, 1) := by decide +kernel
theorem dX10_rest_3 : decode cX10_rest 3 = .ok (.iconst 0, 1) := by decide +kernel
theorem dX10_rest_4 : decode cX10_rest 4 = .ok (.invokevirtual 216, 3) := by decide +kernel
theorem dX10_rest_7 : decode cX10_rest 7 = .ok (.istore_n 3, 1) := by decide +kernel
theorem dX10_rest_8 : decode cX10_rest 8 = .ok (.iload_n 3, 1) := by decide +kernel
theorem dX10_rest_9 : decode cX10_rest 9 = .ok (.ifCond .eq 5, 3) := by decide +kernel
theorem dX10_rest_12 : decode cX10_rest 12 = .ok (.iload_n 3, 1) := by decide +kernel
theorem dX10_rest_13 : decode cX10_rest 13 = .ok (.ireturn, 1) := by decide +kernel
theorem dX10_rest_14 : decode cX10_rest 14 = .ok (.iconst 0, 1) := by decide +kernel
theorem dX10_rest_15 : decode cX10_rest 15 = .ok (.istore 4, 2) := by decide +kernel
theorem dX10_rest_17 : decode cX10_rest 17 = .ok (.iload 4, 2) := by decide +kernel
theorem dX10_rest_19 : decode cX10_rest 19 = .ok (.iconst 1, 1) := by decide +kernel
theorem dX10_rest_20 : decode cX10_rest 20 = .ok (.if_icmp .gt 103, 3) := by decide +kernel
theorem dX10_rest_23 : decode cX10_rest 23 = .ok (.iload 4, 2) := by decide +kernel
theorem dX10_rest_25 : decode cX10_rest 25 = .ok (.ifCond .ne 12, 3) := by decide +kernel
theorem dX10_rest_28 : decode cX10_rest 28 = .ok (.aload_n 0, 1) := by decide +kernel
theorem dX10_rest_29 : decode cX10_rest 29 = .ok (.getfield 20, 3) := by decide +kernel
theorem dX10_rest_32 : decode cX10_rest 32 = .ok (.iload_n 1, 1) := by decide +kernel
theorem dX10_rest_33 : decode cX10_rest 33 = .ok (.aaload, 1) := by decide +kernel
theorem dX10_rest_34 : decode cX10_rest 34 = .ok (.goto 9, 3) := by decide +kernel
theorem dX10_rest_37 : decode cX10_rest 37 = .ok (.aload_n 0, 1) := by decide +kernel
theorem dX10_rest_38 : decode cX10_rest 38 = .ok (.getfield 20, 3) := by decide +kernel
theorem dX10_rest_41 : decode cX10_rest 41 = .ok (.iload_n 2, 1) := by decide +kernel
theorem dX10_rest_42 : decode cX10_rest 42 = .ok (.aaload, 1) := by decide +kernel
theorem dX10_rest_43 : decode cX10_rest 43 = .ok (.astore 5, 2) := by decide +kernel
theorem dX10_rest_45 : decode cX10_rest 45 = .ok (.iconst 0, 1) := by decide +kernel
theorem dX10_rest_46 : decode cX10_rest 46 = .ok (.istore 6, 2) := by decide +kernel
theorem dX10_rest_48 : decode cX10_rest 48 = .ok (.iload 6, 2) := by decide +kernel
theorem dX10_rest_50 : decode cX10_rest 50 = .ok (.aload_n 0, 1) := by decide +kernel
theorem dX10_rest_51 : decode cX10_rest 51 = .ok (.getfield 27, 3) := by decide +kernel
theorem dX10_rest_54 : decode cX10_rest 54 = .ok (.iload 4, 2) := by decide +kernel
theorem dX10_rest_56 : decode cX10_rest 56 = .ok (.invokevirtual 149, 3) := by decide +kernel
theorem dX10_rest_59 : decode cX10_rest 59 = .ok (.if_icmp .ge 58, 3) := by decide +kernel
theorem dX10_rest_62 : decode cX10_rest 62 = .ok (.aload_n 0, 1) := by decide +kernel
theorem dX10_rest_63 : decode cX10_rest 63 = .ok (.getfield 63, 3) := by decide +kernel
theorem dX10_rest_66 : decode cX10_rest 66 = .ok (.aload 5, 2) := by decide +kernel
theorem dX10_rest_68 : decode cX10_rest 68 = .ok (.iload 4, 2) := by decide +kernel
theorem dX10_rest_70 : decode cX10_rest 70 = .ok (.iload 6, 2) := by decide +kernel
theorem dX10_rest_72 : decode cX10_rest 72 = .ok (.invokevirtual 268, 3) := by decide +kernel
theorem dX10_rest_75 : decode cX10_rest 75 = .ok (.aload_n 0, 1) := by decide +kernel
theorem dX10_rest_76 : decode cX10_rest 76 = .ok (.getfield 53, 3) := by decide +kernel
theorem dX10_rest_79 : decode cX10_rest 79 = .ok (.aload_n 0, 1) := by decide +kernel
theorem dX10_rest_80 : decode cX10_rest 80 = .ok (.getfield 20, 3) := by decide +kernel
theorem dX10_rest_83 : decode cX10_rest 83 = .ok (.iload_n 1, 1) := by decide +kernel
theorem dX10_rest_84 : decode cX10_rest 84 = .ok (.aaload, 1) := by decide +kernel
theorem dX10_rest_85 : decode cX10_rest 85 = .ok (.aload_n 0, 1) := by decide +kernel
theorem dX10_rest_86 : decode cX10_rest 86 = .ok (.getfield 20, 3) := by decide +kernel
theorem dX10_rest_89 : decode cX10_rest 89 = .ok (.iload_n 2, 1) := by decide +kernel
theorem dX10_rest_90 : decode cX10_rest 90 = .ok (.aaload, 1) := by decide +kernel
theorem dX10_rest_91 : decode cX10_rest 91 = .ok (.iload 4, 2) := by decide +kernel
theorem dX10_rest_93 : decode cX10_rest 93 = .ok (.iload 6, 2) := by decide +kernel
theorem dX10_rest_95 : decode cX10_rest 95 = .ok (.invokevirtual 228, 3) := by decide +kernel
theorem dX10_rest_98 : decode cX10_rest 98 = .ok (.lcmp, 1) := by decide +kernel
theorem dX10_rest_99 : decode cX10_rest 99 = .ok (.ifCond .le 12, 3) := by decide +kernel
theorem dX10_rest_102 : decode cX10_rest 102 = .ok (.bipush 10, 2) := by decide +kernel
theorem dX10_rest_104 : decode cX10_rest 104 = .ok (.iload 4, 2) := by decide +kernel
theorem dX10_rest_106 : decode cX10_rest 106 = .ok (.imul, 1) := by decide +kernel
theorem dX10_rest_107 : decode cX10_rest 107 = .ok (.iload 6, 2) := by decide +kernel
theorem dX10_rest_109 : decode cX10_rest 109 = .ok (.iadd, 1) := by decide +kernel
theorem dX10_rest_110 : decode cX10_rest 110 = .ok (.ireturn, 1) := by decide +kernel
theorem dX10_rest_111 : decode cX10_rest 111 = .ok (.iinc 6 1, 3) := by decide +kernel
theorem dX10_rest_114 : decode cX10_rest 114 = .ok (.goto (-66), 3) := by decide +kernel
theorem dX10_rest_117 : decode cX10_rest 117 = .ok (.iinc 4 1, 3) := by decide +kernel
theorem dX10_rest_120 : decode cX10_rest 120 = .ok (.goto (-103), 3) := by decide +kernel
theorem dX10_rest_123 : decode cX10_rest 123 = .ok (.bipush (-9), 2) := by decide +kernel
theorem dX10_rest_125 : decode cX10_rest 125 = .ok (.ireturn, 1) := by decide +kernel
set_option maxRecDepth 100000 in
set_option maxHeartbeats 4000000 in
theorem tb_X10_rest_102 {K : sd_K} {E : sd_Env}   {r : (Int32 × sd_Mem)} (C : sd_C K E sd_LC RX10 cX10_rest 7 (some .int))  : ∀ (M : sd_Mem) (x4 : Int32) (x6 : Int32), fn_X10_rest_102 M x4 x6 = some r → sd_Z K rm_X10_rest E sd_LC 7 (sd_QI K E sd_LC r.1 r.2) M 102 [(4, .int x4), (6, .int x6)] [] := by
  intro M x4 x6 hF
  unfold fn_X10_rest_102 at hF
  refine sd_bipush C (v := 10) dX10_rest_102 rfl rfl (n' := 104) ?_
  refine sd_iload C 0 dX10_rest_104 rfl rfl (n' := 106) ?_
  refine sd_imul C dX10_rest_106 rfl (n' := 107) ?_
  refine sd_iload C 1 dX10_rest_107 rfl rfl (n' := 109) ?_
  refine sd_iadd C dX10_rest_109 rfl (n' := 110) ?_
  exact sd_iret C dX10_rest_110 (sd_fst hF) (sd_snd hF)
set_option maxRecDepth 100000 in
set_option maxHeartbeats 4000000 in
theorem tb_X10_rest_48 {K : sd_K} {E : sd_Env}   {r : (Int32 × sd_Mem)} (C : sd_C K E sd_LC RX10 cX10_rest 7 (some .int))  {k17 : sd_Mem → Int32 → Int32 → Int32 → Option (Int32 × sd_Mem)} (hk17 : ∀ (M : sd_Mem) (x1 : Int32) (x2 : Int32) (x4 : Int32), k17 M x1 x2 x4 = some r → sd_Z K rm_X10_rest E sd_LC 7 (sd_QI K E sd_LC r.1 r.2) M 17 [(0, .ref (E.2.2 0)), (1, .int x1), (2, .int x2), (4, .int x4)] []) : ∀ (n : Nat), ∀ (M : sd_Mem) (x1 : Int32) (x2 : Int32) (x4 : Int32) (g5 : Nat) (x6 : Int32), sd_kd g5 = 10 → fn_X10_rest_48 k17 n M x1 x2 x4 g5 x6 = some r → sd_Z K rm_X10_rest E sd_LC 7 (sd_QI K E sd_LC r.1 r.2) M 48 [(0, .ref (E.2.2 0)), (1, .int x1), (2, .int x2), (4, .int x4), (5, .ref (E.2.2 g5)), (6, .int x6)] [] := by
  intro n
  induction n with
  | zero => intro M x1 x2 x4 g5 x6 kg5 hF; cases hF
  | succ n ih =>
    intro M x1 x2 x4 g5 x6 kg5 hF
    unfold fn_X10_rest_48 at hF
    refine sd_iload C 5 dX10_rest_48 rfl rfl (n' := 50) ?_
    refine sd_aload_n C 0 dX10_rest_50 rfl rfl rfl (n' := 51) ?_
    refine sd_g10_3 C sd_i0 sd_k0 sd_w331 dX10_rest_51 rfl (n' := 54) ?_
    refine sd_iload C 3 dX10_rest_54 rfl rfl (n' := 56) ?_
    obtain ⟨q56, e56, hF⟩ := sd_bind hF
    refine sd_callVI [.int x4] [.int x6] C (ct_X5_sorts M 40 x4 sd_k40 e56) sd_lX10_149 ⟨rfl, rfl, Nat.le_of_ble_eq_true rfl, Nat.le_of_ble_eq_true rfl⟩ sd_i40 (sd_e6 sd_k40) rfl rfl rfl (Nat.le_of_ble_eq_true rfl) dX10_rest_56 rfl (n' := 59) ?_
    refine sd_icmp_ge C (n' := 62) (tgt := 117) dX10_rest_59 rfl rfl (fun c59 => ?_) (fun c59 => ?_)
    · replace hF := sd_pos hF c59
      refine sd_iinc [(4, .int (x4 + (1 : Int32))), (0, .ref (E.2.2 0)), (1, .int x1), (2, .int x2), (5, .ref (E.2.2 g5)), (6, .int x6)] 3 C dX10_rest_117 rfl rfl (by decide) rfl rfl (n' := 120) ?_
      refine sd_goto C (tgt := 17) dX10_rest_120 rfl ?_
      refine sd_sub [1, 2, 3, 0] rfl ?_
      exact hk17 M x1 x2 (x4 + (1 : Int32)) hF
    · replace hF := sd_neg hF c59
      refine sd_aload_n C 0 dX10_rest_62 rfl rfl rfl (n' := 63) ?_
      refine sd_g10_9 C sd_i0 sd_k0 sd_w337 dX10_rest_63 rfl (n' := 66) ?_
      refine sd_aload C 4 dX10_rest_66 rfl rfl (n' := 68) ?_
      refine sd_iload C 3 dX10_rest_68 rfl rfl (n' := 70) ?_
      refine sd_iload C 5 dX10_rest_70 rfl rfl (n' := 72) ?_
      obtain ⟨q72, e72, hF⟩ := sd_bind hF
      refine sd_callVL [.ref (E.2.2 g5), .int x4, .int x6] [] C (ct_X0_bestSum M g5 x4 x6 kg5 e72) sd_lX10_268 ⟨rfl, rfl, Nat.le_of_ble_eq_true rfl, Nat.le_of_ble_eq_true rfl⟩ sd_i63 (sd_e1 sd_k63) rfl rfl rfl (Nat.le_of_ble_eq_true rfl) dX10_rest_72 rfl (n' := 75) ?_
      refine sd_aload_n C 0 dX10_rest_75 rfl rfl rfl (n' := 76) ?_
      refine sd_g10_7 C sd_i0 sd_k0 sd_w335 dX10_rest_76 rfl (n' := 79) ?_
      refine sd_aload_n C 0 dX10_rest_79 rfl rfl rfl (n' := 80) ?_
      refine sd_g10_2 C sd_i0 sd_k0 sd_w330 dX10_rest_80 rfl (n' := 83) ?_
      refine sd_iload_n C 1 dX10_rest_83 rfl rfl rfl (n' := 84) ?_
      obtain ⟨b84, hF⟩ := sd_ok hF
      refine sd_wald C sd_i23 sd_k23 sd_n23 b84 dX10_rest_84 rfl (n' := 85) ?_
      refine sd_aload_n C 0 dX10_rest_85 rfl rfl rfl (n' := 86) ?_
      refine sd_g10_2 C sd_i0 sd_k0 sd_w330 dX10_rest_86 rfl (n' := 89) ?_
      refine sd_iload_n C 2 dX10_rest_89 rfl rfl rfl (n' := 90) ?_
      obtain ⟨b90, hF⟩ := sd_ok hF
      refine sd_wald C sd_i23 sd_k23 sd_n23 b90 dX10_rest_90 rfl (n' := 91) ?_
      refine sd_iload C 3 dX10_rest_91 rfl rfl (n' := 93) ?_
      refine sd_iload C 5 dX10_rest_93 rfl rfl (n' := 95) ?_
      obtain ⟨q95, e95, hF⟩ := sd_bind hF
      refine sd_callVL [.ref (E.2.2 (23 + 1 + 2 * x1.toNatClampNeg)), .ref (E.2.2 (23 + 1 + 2 * x2.toNatClampNeg)), .int x4, .int x6] [.long q72.1] C (ct_X7_worthSum q72.2 61 (23 + 1 + 2 * x1.toNatClampNeg) (23 + 1 + 2 * x2.toNatClampNeg) x4 x6 sd_k61 ((sd_r23 _ (sd_in_lt b84)).1) ((sd_r23 _ (sd_in_lt b90)).1) e95) sd_lX10_228 ⟨rfl, rfl, Nat.le_of_ble_eq_true rfl, Nat.le_of_ble_eq_true rfl⟩ sd_i61 (sd_e8 sd_k61) rfl rfl rfl (Nat.le_of_ble_eq_true rfl) dX10_rest_95 rfl (n' := 98) ?_
      refine sd_lcmp C dX10_rest_98 rfl (n' := 99) ?_
      refine sd_if_le C (n' := 102) (tgt := 111) dX10_rest_99 rfl rfl (fun c99 => ?_) (fun c99 => ?_)
      · replace hF := sd_pos hF c99
        refine sd_iinc [(6, .int (x6 + (1 : Int32))), (0, .ref (E.2.2 0)), (1, .int x1), (2, .int x2), (4, .int x4), (5, .ref (E.2.2 g5))] 5 C dX10_rest_111 rfl rfl (by decide) rfl rfl (n' := 114) ?_
        refine sd_goto C (tgt := 48) dX10_rest_114 rfl ?_
        refine sd_sub [1, 2, 3, 4, 5, 0] rfl ?_
        exact ih q72.2 x1 x2 x4 g5 (x6 + (1 : Int32)) kg5 hF
      · replace hF := sd_neg hF c99
        refine sd_sub [3, 5] rfl ?_
        exact tb_X10_rest_102 C q72.2 x4 x6 hF
set_option maxRecDepth 100000 in
set_option maxHeartbeats 4000000 in
theorem tb_X10_rest_17 {K : sd_K} {E : sd_Env}   {r : (Int32 × sd_Mem)} (C : sd_C K E sd_LC RX10 cX10_rest 7 (some .int))  : ∀ (n : Nat), ∀ (M : sd_Mem) (x1 : Int32) (x2 : Int32) (x4 : Int32), fn_X10_rest_17 n M x1 x2 x4 = some r → sd_Z K rm_X10_rest E sd_LC 7 (sd_QI K E sd_LC r.1 r.2) M 17 [(0, .ref (E.2.2 0)), (1, .int x1), (2, .int x2), (4, .int x4)] [] := by
  intro n
  induction n with
  | zero => intro M x1 x2 x4 hF; cases hF
  | succ n ih =>
    intro M x1 x2 x4 hF
    unfold fn_X10_rest_17 at hF
    refine sd_iload C 3 dX10_rest_17 rfl rfl (n' := 19) ?_
    refine sd_iconst C (v := 1) dX10_rest_19 rfl rfl (n' := 20) ?_
    refine sd_icmp_gt C (n' := 23) (tgt := 123) dX10_rest_20 rfl rfl (fun c20 => ?_) (fun c20 => ?_)
    · replace hF := sd_pos hF c20
      refine sd_bipush C (v := -9) dX10_rest_123 rfl rfl (n' := 125) ?_
      exact sd_iret C dX10_rest_125 (sd_fst hF) (sd_snd hF)
    · replace hF := sd_neg hF c20
      refine sd_iload C 3 dX10_rest_23 rfl rfl (n' := 25) ?_
      refine sd_if_ne C (n' := 28) (tgt := 37) dX10_rest_25 rfl rfl (fun c25 => ?_) (fun c25 => ?_)
      · replace hF := sd_neg hF c25
        refine sd_aload_n C 0 dX10_rest_37 rfl rfl rfl (n' := 38) ?_
        refine sd_g10_2 C sd_i0 sd_k0 sd_w330 dX10_rest_38 rfl (n' := 41) ?_
        refine sd_iload_n C 2 dX10_rest_41 rfl rfl rfl (n' := 42) ?_
        obtain ⟨b42, hF⟩ := sd_ok hF
        refine sd_wald C sd_i23 sd_k23 sd_n23 b42 dX10_rest_42 rfl (n' := 43) ?_
        refine sd_astore [(5, .ref (E.2.2 (23 + 1 + 2 * x2.toNatClampNeg))), (0, .ref (E.2.2 0)), (1, .int x1), (2, .int x2), (4, .int x4)] C dX10_rest_43 (by decide) rfl rfl (n' := 45) ?_
        refine sd_iconst C (v := 0) dX10_rest_45 rfl rfl (n' := 46) ?_
        refine sd_istore [(6, .int (0 : Int32)), (5, .ref (E.2.2 (23 + 1 + 2 * x2.toNatClampNeg))), (0, .ref (E.2.2 0)), (1, .int x1), (2, .int x2), (4, .int x4)] C dX10_rest_46 (by decide) rfl rfl (n' := 48) ?_
        refine sd_sub [2, 3, 4, 5, 1, 0] rfl ?_
        exact tb_X10_rest_48 C ih sd_FU M x1 x2 x4 (23 + 1 + 2 * x2.toNatClampNeg) (0 : Int32) ((sd_r23 _ (sd_in_lt b42)).1) hF
      · replace hF := sd_pos hF c25
        refine sd_aload_n C 0 dX10_rest_28 rfl rfl rfl (n' := 29) ?_
        refine sd_g10_2 C sd_i0 sd_k0 sd_w330 dX10_rest_29 rfl (n' := 32) ?_
        refine sd_iload_n C 1 dX10_rest_32 rfl rfl rfl (n' := 33) ?_
        obtain ⟨b33, hF⟩ := sd_ok hF
        refine sd_wald C sd_i23 sd_k23 sd_n23 b33 dX10_rest_33 rfl (n' := 34) ?_
        refine sd_goto C (tgt := 43) dX10_rest_34 rfl ?_
        refine sd_astore [(5, .ref (E.2.2 (23 + 1 + 2 * x1.toNatClampNeg))), (0, .ref (E.2.2 0)), (1, .int x1), (2, .int x2), (4, .int x4)] C dX10_rest_43 (by decide) rfl rfl (n' := 45) ?_
        refine sd_iconst C (v := 0) dX10_rest_45 rfl rfl (n' := 46) ?_
        refine sd_istore [(6, .int (0 : Int32)), (5, .ref (E.2.2 (23 + 1 + 2 * x1.toNatClampNeg))), (0, .ref (E.2.2 0)), (1, .int x1), (2, .int x2), (4, .int x4)] C dX10_rest_46 (by decide) rfl rfl (n' := 48) ?_
        refine sd_sub [2, 3, 4, 5, 1, 0] rfl ?_
        exact tb_X10_rest_48 C ih sd_FU M x1 x2 x4 (23 + 1 + 2 * x1.toNatClampNeg) (0 : Int32) ((sd_r23 _ (sd_in_lt b33)).1) hF
set_option maxRecDepth 100000 in
set_option maxHeartbeats 4000000 in
theorem tb_X10_rest_0 {K : sd_K} {E : sd_Env}   {r : (Int32 × sd_Mem)} (C : sd_C K E sd_LC RX10 cX10_rest 7 (some .int))  : ∀ (M : sd_Mem) (x1 : Int32) (x2 : Int32), fn_X10_rest_0 M x1 x2 = some r → sd_Z K rm_X10_rest E sd_LC 7 (sd_QI K E sd_LC r.1 r.2) M 0 [(0, .ref (E.2.2 0)), (1, .int x1), (2, .int x2)] [] := by
  intro M x1 x2 hF
  unfold fn_X10_rest_0 at hF
  refine sd_aload_n C 0 dX10_rest_0 rfl rfl rfl (n' := 1) ?_
  refine sd_iload_n C 1 dX10_rest_1 rfl rfl rfl (n' := 2) ?_
  refine sd_iload_n C 2 dX10_rest_2 rfl rfl rfl (n' := 3) ?_
  refine sd_iconst C (v := 0) dX10_rest_3 rfl rfl (n' := 4) ?_
  obtain ⟨q4, e4, hF⟩ := sd_bind hF
  refine sd_callVI [.int x1, .int x2, .int (0 : Int32)] [] C (ct_X10_refusePair M x1 x2 (0 : Int32)  e4) sd_lX10_216 ⟨rfl, rfl, Nat.le_of_ble_eq_true rfl, Nat.le_of_ble_eq_true rfl⟩ sd_i0 (sd_e11 sd_k0) rfl rfl rfl (Nat.le_of_ble_eq_true rfl) dX10_rest_4 rfl (n' := 7) ?_
  refine sd_istore_n [(3, .int q4.1), (0, .ref (E.2.2 0)), (1, .int x1), (2, .int x2)] C dX10_rest_7 rfl (by decide) rfl rfl (n' := 8) ?_
  refine sd_iload_n C 0 dX10_rest_8 rfl rfl rfl (n' := 9) ?_
  refine sd_if_eq C (n' := 12) (tgt := 14) dX10_rest_9 rfl rfl (fun c9 => ?_) (fun c9 => ?_)
  · replace hF := sd_pos hF c9
    refine sd_iconst C (v := 0) dX10_rest_14 rfl rfl (n' := 15) ?_
    refine sd_istore [(4, .int (0 : Int32)), (3, .int q4.1), (0, .ref (E.2.2 0)), (1, .int x1), (2, .int x2)] C dX10_rest_15 (by decide) rfl rfl (n' := 17) ?_
    refine sd_sub [2, 3, 4, 0] rfl ?_
    exact tb_X10_rest_17 C sd_FU q4.2 x1 x2 (0 : Int32) hF
  · replace hF := sd_neg hF c9
    refine sd_iload_n C 0 dX10_rest_12 rfl rfl rfl (n' := 13) ?_
    exact sd_iret C dX10_rest_13 (sd_fst hF) (sd_snd hF)
theorem ct_X10_rest {l : Launch} {E : sd_Env} (M : sd_Mem) (x1 : Int32) (x2 : Int32)  {r : (Int32 × sd_Mem)} (hF : fn_X10_rest M x1 x2 = some r) : sd_MI l E sd_LC yX10_rest cX10_rest 7 (some .int) rm_X10_rest [.ref (E.2.2 0), .int x1, .int x2] M r.1 r.2 := sd_ent0 (by decide +kernel) (Nat.le_of_ble_eq_true rfl) (fun p e s m below meth c C => tb_X10_rest_0 C M x1 x2 hF)
theorem dX0_layOffers_0 : decode cX0_layOffers 0 = .ok (.aload_n 0, 1) := by decide +kernel
theorem dX0_layOffers_1 : decode cX0_layOffers 1 = .ok (.aload_n 2, 1) := by decide +kernel
theorem dX0_layOffers_2 : decode cX0_layOffers 2 = .ok (.iload_n 3, 1) := by decide +kernel
theorem dX0_layOffers_3 : decode cX0_layOffers 3 = .ok (.invokevirtual 33, 3) := by decide +kernel
theorem dX0_layOffers_6 : decode cX0_layOffers 6 = .ok (.iconst 0, 1) := by decide +kernel
theorem dX0_layOffers_7 : decode cX0_layOffers 7 = .ok (.istore 4, 2) := by decide +kernel
theorem dX0_layOffers_9 : decode cX0_layOffers 9 = .ok (.aload_n 0, 1) := by decide +kernel
theorem dX0_layOffers_10 : decode cX0_layOffers 10 = .ok (.getfield 21, 3) := by decide +kernel
theorem dX0_layOffers_13 : decode cX0_layOffers 13 = .ok (.iconst 0, 1) := by decide +kernel
theorem dX0_layOffers_14 : decode cX0_layOffers 14 = .ok (.invokevirtual 40, 3) := by decide +kernel
theorem dX0_layOffers_17 : decode cX0_layOffers 17 = .ok (.istore 5, 2) := by decide +kernel
theorem dX0_layOffers_19 : decode cX0_layOffers 19 = .ok (.iconst 1, 1) := by decide +kernel
theorem dX0_layOffers_20 : decode cX0_layOffers 20 = .ok (.istore 6, 2) := by decide +kernel
theorem dX0_layOffers_22 : decode cX0_layOffers 22 = .ok (.iload 6, 2) := by decide +kernel
theorem dX0_layOffers_24 : decode cX0_layOffers 24 = .ok (.bipush 10, 2) := by decide +kernel
theorem dX0_layOffers_26 : decode cX0_layOffers 26 = .ok (.if_icmp .gt 98, 3) := by decide +kernel
theorem dX0_layOffers_29 : decode cX0_layOffers 29 = .ok (.iconst 0, 1) := by decide +kernel
theorem dX0_layOffers_30 : decode cX0_layOffers 30 = .ok (.istore 7, 2) := by decide +kernel
theorem dX0_layOffers_32 : decode cX0_layOffers 32 = .ok (.iload 6, 2) := by decide +kernel
theorem dX0_layOffers_34 : decode cX0_layOffers 34 = .ok (.aload_n 0, 1) := by decide +kernel
theorem dX0_layOffers_35 : decode cX0_layOffers 35 = .ok (.getfield 25, 3) := by decide +kernel
theorem dX0_layOffers_38 : decode cX0_layOffers 38 = .ok (.getfield 65, 3) := by decide +kernel
theorem dX0_layOffers_41 : decode cX0_layOffers 41 = .ok (.aload_n 0, 1) := by decide +kernel
theorem dX0_layOffers_42 : decode cX0_layOffers 42 = .ok (.getfield 21, 3) := by decide +kernel
theorem dX0_layOffers_45 : decode cX0_layOffers 45 = .ok (.getfield 61, 3) := by decide +kernel
theorem dX0_layOffers_48 : decode cX0_layOffers 48 = .ok (.invokestatic 49, 3) := by decide +kernel
theorem dX0_layOffers_51 : decode cX0_layOffers 51 = .ok (.ifCond .eq 43, 3) := by decide +kernel
theorem dX0_layOffers_54 : decode cX0_layOffers 54 = .ok (.iload 5, 2) := by decide +kernel
theorem dX0_layOffers_56 : decode cX0_layOffers 56 = .ok (.ifCond .eq 38, 3) := by decide +kernel
theorem dX0_layOffers_59 : decode cX0_layOffers 59 = .ok (.iload 6, 2) := by decide +kernel
theorem dX0_layOffers_61 : decode cX0_layOffers 61 = .ok (.iload 5, 2) := by decide +kernel
theorem dX0_layOffers_63 : decode cX0_layOffers 63 = .ok (.invokestatic 53, 3) := by decide +kernel
theorem dX0_layOffers_66 : decode cX0_layOffers 66 = .ok (.ifCond .eq 28, 3) := by decide +kernel
theorem dX0_layOffers_69 : decode cX0_layOffers 69 = .ok (.aload_n 0, 1) := by decide +kernel
theorem dX0_layOffers_70 : decode cX0_layOffers 70 = .ok (.getfield 18, 3) := by decide +kernel
theorem dX0_layOffers_73 : decode cX0_layOffers 73 = .ok (.iload 6, 2) := by decide +kernel
theorem dX0_layOffers_75 : decode cX0_layOffers 75 = .ok (.aaload, 1) := by decide +kernel
theorem dX0_layOffers_76 : decode cX0_layOffers 76 = .ok (.iload 5, 2) := by decide +kernel
theorem dX0_layOffers_78 : decode cX0_layOffers 78 = .ok (.iaload, 1) := by decide +kernel
theorem dX0_layOffers_79 : decode cX0_layOffers 79 = .ok (.istore 7, 2) := by decide +kernel
theorem dX0_layOffers_81 : decode cX0_layOffers 81 = .ok (.aload_n 0, 1) := by decide +kernel
theorem dX0_layOffers_82 : decode cX0_layOffers 82 = .ok (.aload_n 2, 1) := by decide +kernel
theorem dX0_layOffers_83 : decode cX0_layOffers 83 = .ok (.iload 6, 2) := by decide +kernel
theorem dX0_layOffers_85 : decode cX0_layOffers 85 = .ok (.iload 5, 2) := by decide +kernel
theorem dX0_layOffers_87 : decode cX0_layOffers 87 = .ok (.iload 7, 2) := by decide +kernel
theorem dX0_layOffers_89 : decode cX0_layOffers 89 = .ok (.invokevirtual 125, 3) := by decide +kernel
theorem dX0_layOffers_92 : decode cX0_layOffers 92 = .ok (.istore 5, 2) := by decide +kernel
theorem dX0_layOffers_94 : decode cX0_layOffers 94 = .ok (.iload 4, 2) := by decide +kernel
theorem dX0_layOffers_96 : decode cX0_layOffers 96 = .ok (.aload_n 1, 1) := by decide +kernel
theorem dX0_layOffers_97 : decode cX0_layOffers 97 = .ok (.iload_n 3, 1) := by decide +kernel
theorem dX0_layOffers_98 : decode cX0_layOffers 98 = .ok (.iload 6, 2) := by decide +kernel
theorem dX0_layOffers_100 : decode cX0_layOffers 100 = .ok (.iload 7, 2) := by decide +kernel
theorem dX0_layOffers_102 : decode cX0_layOffers 102 = .ok (.invokevirtual 129, 3) := by decide +kernel
theorem dX0_layOffers_105 : decode cX0_layOffers 105 = .ok (.iload 7, 2) := by decide +kernel
theorem dX0_layOffers_107 : decode cX0_layOffers 107 = .ok (.if_icmp .ne 7, 3) := by decide +kernel
theorem dX0_layOffers_110 : decode cX0_layOffers 110 = .ok (.iconst 0, 1) := by decide +kernel
theorem dX0_layOffers_111 : decode cX0_layOffers 111 = .ok (.goto 4, 3) := by decide +kernel
theorem dX0_layOffers_114 : decode cX0_layOffers 114 = .ok (.iconst 1, 1) := by decide +kernel
theorem dX0_layOffers_115 : decode cX0_layOffers 115 = .ok (.iadd, 1) := by decide +kernel
theorem dX0_layOffers_116 : decode cX0_layOffers 116 = .ok (.istore 4, 2) := by decide +kernel
theorem dX0_layOffers_118 : decode cX0_layOffers 118 = .ok (.iinc 6 1, 3) := by decide +kernel
theorem dX0_layOffers_121 : decode cX0_layOffers 121 = .ok (.goto (-99), 3) := by decide +kernel
theorem dX0_layOffers_124 : decode cX0_layOffers 124 = .ok (.iload 4, 2) := by decide +kernel
theorem dX0_layOffers_126 : decode cX0_layOffers 126 = .ok (.ireturn, 1) := by decide +kernel
set_option maxRecDepth 100000 in
set_option maxHeartbeats 4000000 in
theorem tb_X0_layOffers_94 {K : sd_K} {E : sd_Env}  {h1 h2 : Nat} {r : (Int32 × sd_Mem)} (C : sd_C K E sd_LC RX0 cX0_layOffers 8 (some .int)) (k1 : sd_kd h1 = 10) (k2 : sd_kd h2 = 10) {k22 : sd_Mem → Int32 → Int32 → Int32 → Int32 → Option (Int32 × sd_Mem)} (hk22 : ∀ (M : sd_Mem) (x3 : Int32) (x4 : Int32) (x5 : Int32) (x6 : Int32), k22 M x3 x4 x5 x6 = some r → sd_Z K rm_X0_layOffers E sd_LC 8 (sd_QI K E sd_LC r.1 r.2) M 22 [(0, .ref (E.2.2 63)), (1, .ref (E.2.2 h1)), (2, .ref (E.2.2 h2)), (3, .int x3), (4, .int x4), (5, .int x5), (6, .int x6)] []) : ∀ (M : sd_Mem) (x3 : Int32) (x4 : Int32) (x5 : Int32) (x6 : Int32) (x7 : Int32), fn_X0_layOffers_94 h1 h2 k22 M x3 x4 x5 x6 x7 = some r → sd_Z K rm_X0_layOffers E sd_LC 8 (sd_QI K E sd_LC r.1 r.2) M 94 [(0, .ref (E.2.2 63)), (1, .ref (E.2.2 h1)), (2, .ref (E.2.2 h2)), (3, .int x3), (4, .int x4), (5, .int x5), (6, .int x6), (7, .int x7)] [] := by
  intro M x3 x4 x5 x6 x7 hF
  unfold fn_X0_layOffers_94 at hF
  refine sd_iload C 4 dX0_layOffers_94 rfl rfl (n' := 96) ?_
  refine sd_aload_n C 1 dX0_layOffers_96 rfl rfl rfl (n' := 97) ?_
  refine sd_iload_n C 3 dX0_layOffers_97 rfl rfl rfl (n' := 98) ?_
  refine sd_iload C 6 dX0_layOffers_98 rfl rfl (n' := 100) ?_
  refine sd_iload C 7 dX0_layOffers_100 rfl rfl (n' := 102) ?_
  obtain ⟨q102, e102, hF⟩ := sd_bind hF
  refine sd_callVI [.int x3, .int x6, .int x7] [.int x4] C (ct_X9_swap M h1 x3 x6 x7 k1 e102) sd_lX0_129 ⟨rfl, rfl, Nat.le_of_ble_eq_true rfl, Nat.le_of_ble_eq_true rfl⟩ (sd_mC (sd_m10 k1)) (sd_e10 k1) rfl rfl rfl (Nat.le_of_ble_eq_true rfl) dX0_layOffers_102 rfl (n' := 105) ?_
  refine sd_iload C 7 dX0_layOffers_105 rfl rfl (n' := 107) ?_
  refine sd_icmp_ne C (n' := 110) (tgt := 114) dX0_layOffers_107 rfl rfl (fun c107 => ?_) (fun c107 => ?_)
  · replace hF := sd_neg hF c107
    refine sd_iconst C (v := 1) dX0_layOffers_114 rfl rfl (n' := 115) ?_
    refine sd_iadd C dX0_layOffers_115 rfl (n' := 116) ?_
    refine sd_istore [(4, .int (x4 + (1 : Int32))), (0, .ref (E.2.2 63)), (1, .ref (E.2.2 h1)), (2, .ref (E.2.2 h2)), (3, .int x3), (5, .int x5), (6, .int x6), (7, .int x7)] C dX0_layOffers_116 (by decide) rfl rfl (n' := 118) ?_
    refine sd_iinc [(6, .int (x6 + (1 : Int32))), (4, .int (x4 + (1 : Int32))), (0, .ref (E.2.2 63)), (1, .ref (E.2.2 h1)), (2, .ref (E.2.2 h2)), (3, .int x3), (5, .int x5), (7, .int x7)] 6 C dX0_layOffers_118 rfl rfl (by decide) rfl rfl (n' := 121) ?_
    refine sd_goto C (tgt := 22) dX0_layOffers_121 rfl ?_
    refine sd_sub [2, 3, 4, 5, 1, 6, 0] rfl ?_
    exact hk22 q102.2 x3 (x4 + (1 : Int32)) x5 (x6 + (1 : Int32)) hF
  · replace hF := sd_pos hF c107
    refine sd_iconst C (v := 0) dX0_layOffers_110 rfl rfl (n' := 111) ?_
    refine sd_goto C (tgt := 115) dX0_layOffers_111 rfl ?_
    refine sd_iadd C dX0_layOffers_115 rfl (n' := 116) ?_
    refine sd_istore [(4, .int (x4 + (0 : Int32))), (0, .ref (E.2.2 63)), (1, .ref (E.2.2 h1)), (2, .ref (E.2.2 h2)), (3, .int x3), (5, .int x5), (6, .int x6), (7, .int x7)] C dX0_layOffers_116 (by decide) rfl rfl (n' := 118) ?_
    refine sd_iinc [(6, .int (x6 + (1 : Int32))), (4, .int (x4 + (0 : Int32))), (0, .ref (E.2.2 63)), (1, .ref (E.2.2 h1)), (2, .ref (E.2.2 h2)), (3, .int x3), (5, .int x5), (7, .int x7)] 6 C dX0_layOffers_118 rfl rfl (by decide) rfl rfl (n' := 121) ?_
    refine sd_goto C (tgt := 22) dX0_layOffers_121 rfl ?_
    refine sd_sub [2, 3, 4, 5, 1, 6, 0] rfl ?_
    exact hk22 q102.2 x3 (x4 + (0 : Int32)) x5 (x6 + (1 : Int32)) hF
set_option maxRecDepth 100000 in
set_option maxHeartbeats 4000000 in
theorem tb_X0_layOffers_22 {K : sd_K} {E : sd_Env}  {h1 h2 : Nat} {r : (Int32 × sd_Mem)} (C : sd_C K E sd_LC RX0 cX0_layOffers 8 (some .int)) (k1 : sd_kd h1 = 10) (k2 : sd_kd h2 = 10) : ∀ (n : Nat), ∀ (M : sd_Mem) (x3 : Int32) (x4 : Int32) (x5 : Int32) (x6 : Int32), fn_X0_layOffers_22 h1 h2 n M x3 x4 x5 x6 = some r → sd_Z K rm_X0_layOffers E sd_LC 8 (sd_QI K E sd_LC r.1 r.2) M 22 [(0, .ref (E.2.2 63)), (1, .ref (E.2.2 h1)), (2, .ref (E.2.2 h2)), (3, .int x3), (4, .int x4), (5, .int x5), (6, .int x6)] [] := by
  intro n
  induction n with
  | zero => intro M x3 x4 x5 x6 hF; cases hF
  | succ n ih =>
    intro M x3 x4 x5 x6 hF
    unfold fn_X0_layOffers_22 at hF
    refine sd_iload C 6 dX0_layOffers_22 rfl rfl (n' := 24) ?_
    refine sd_bipush C (v := 10) dX0_layOffers_24 rfl rfl (n' := 26) ?_
    refine sd_icmp_gt C (n' := 29) (tgt := 124) dX0_layOffers_26 rfl rfl (fun c26 => ?_) (fun c26 => ?_)
    · replace hF := sd_pos hF c26
      refine sd_iload C 4 dX0_layOffers_124 rfl rfl (n' := 126) ?_
      exact sd_iret C dX0_layOffers_126 (sd_fst hF) (sd_snd hF)
    · replace hF := sd_neg hF c26
      refine sd_iconst C (v := 0) dX0_layOffers_29 rfl rfl (n' := 30) ?_
      refine sd_istore [(7, .int (0 : Int32)), (0, .ref (E.2.2 63)), (1, .ref (E.2.2 h1)), (2, .ref (E.2.2 h2)), (3, .int x3), (4, .int x4), (5, .int x5), (6, .int x6)] C dX0_layOffers_30 (by decide) rfl rfl (n' := 32) ?_
      refine sd_iload C 7 dX0_layOffers_32 rfl rfl (n' := 34) ?_
      refine sd_aload_n C 1 dX0_layOffers_34 rfl rfl rfl (n' := 35) ?_
      refine sd_g0_1 C sd_i63 sd_k63 sd_w231 dX0_layOffers_35 rfl (n' := 38) ?_
      refine sd_gN4_0 C sd_i58 sd_k58 sd_w176 dX0_layOffers_38 rfl (n' := 41) ?_
      refine sd_aload_n C 1 dX0_layOffers_41 rfl rfl rfl (n' := 42) ?_
      refine sd_g0_0 C sd_i63 sd_k63 sd_w230 dX0_layOffers_42 rfl (n' := 45) ?_
      refine sd_gN5_6 C sd_i40 sd_k40 sd_w144 dX0_layOffers_45 rfl (n' := 48) ?_
      obtain ⟨q48, e48, hF⟩ := sd_bind hF
      refine sd_callNI [.int x6, .int (M.1 58 0), .int (M.1 40 6)] [] C (ct_X10_within M x6 (M.1 58 0) (M.1 40 6)  e48) sd_lX0_49 ⟨rfl, rfl, Nat.le_of_ble_eq_true rfl, Nat.le_of_ble_eq_true rfl⟩ rfl (Nat.le_of_ble_eq_true rfl) dX0_layOffers_48 rfl (n' := 51) ?_
      refine sd_if_eq C (n' := 54) (tgt := 94) dX0_layOffers_51 rfl rfl (fun c51 => ?_) (fun c51 => ?_)
      · replace hF := sd_pos hF c51
        refine sd_sub [1, 2, 3, 4, 5, 6, 7, 0] rfl ?_
        exact tb_X0_layOffers_94 C k1 k2 ih M x3 x4 x5 x6 (0 : Int32) hF
      · replace hF := sd_neg hF c51
        refine sd_iload C 6 dX0_layOffers_54 rfl rfl (n' := 56) ?_
        refine sd_if_eq C (n' := 59) (tgt := 94) dX0_layOffers_56 rfl rfl (fun c56 => ?_) (fun c56 => ?_)
        · replace hF := sd_pos hF c56
          refine sd_sub [1, 2, 3, 4, 5, 6, 7, 0] rfl ?_
          exact tb_X0_layOffers_94 C k1 k2 ih M x3 x4 x5 x6 (0 : Int32) hF
        · replace hF := sd_neg hF c56
          refine sd_iload C 7 dX0_layOffers_59 rfl rfl (n' := 61) ?_
          refine sd_iload C 6 dX0_layOffers_61 rfl rfl (n' := 63) ?_
          obtain ⟨q63, e63, hF⟩ := sd_bind hF
          refine sd_callSI [.int x6, .int x5] [] C (ct_X0_isHeld M x6 x5  e63) sd_lX0_53 ⟨rfl, rfl, Nat.le_of_ble_eq_true rfl, Nat.le_of_ble_eq_true rfl⟩ rfl (Nat.le_of_ble_eq_true rfl) dX0_layOffers_63 rfl (n' := 66) ?_
          refine sd_if_eq C (n' := 69) (tgt := 94) dX0_layOffers_66 rfl rfl (fun c66 => ?_) (fun c66 => ?_)
          · replace hF := sd_pos hF c66
            refine sd_sub [1, 2, 3, 4, 5, 6, 7, 0] rfl ?_
            exact tb_X0_layOffers_94 C k1 k2 ih M x3 x4 x5 x6 (0 : Int32) hF
          · replace hF := sd_neg hF c66
            refine sd_aload_n C 1 dX0_layOffers_69 rfl rfl rfl (n' := 70) ?_
            refine sd_g0_3 C sd_i63 sd_k63 sd_w233 dX0_layOffers_70 rfl (n' := 73) ?_
            refine sd_iload C 7 dX0_layOffers_73 rfl rfl (n' := 75) ?_
            obtain ⟨b75, hF⟩ := sd_ok hF
            refine sd_gald C sd_i77 sd_k77 sd_n77 b75 dX0_layOffers_75 rfl (n' := 76) ?_
            refine sd_iload C 6 dX0_layOffers_76 rfl rfl (n' := 78) ?_
            obtain ⟨b78, hF⟩ := sd_ok hF
            refine sd_iald C (sd_mC (sd_r77 _ (sd_in_lt b75)).2) ((sd_r77 _ (sd_in_lt b75)).1.1) ((sd_r77 _ (sd_in_lt b75)).1.2) b78 dX0_layOffers_78 rfl (n' := 79) ?_
            refine sd_istore [(7, .int (M.1 (77 + 1 + x6.toNatClampNeg) x5.toNatClampNeg)), (0, .ref (E.2.2 63)), (1, .ref (E.2.2 h1)), (2, .ref (E.2.2 h2)), (3, .int x3), (4, .int x4), (5, .int x5), (6, .int x6)] C dX0_layOffers_79 (by decide) rfl rfl (n' := 81) ?_
            refine sd_aload_n C 1 dX0_layOffers_81 rfl rfl rfl (n' := 82) ?_
            refine sd_aload_n C 3 dX0_layOffers_82 rfl rfl rfl (n' := 83) ?_
            refine sd_iload C 7 dX0_layOffers_83 rfl rfl (n' := 85) ?_
            refine sd_iload C 6 dX0_layOffers_85 rfl rfl (n' := 87) ?_
            refine sd_iload C 0 dX0_layOffers_87 rfl rfl (n' := 89) ?_
            obtain ⟨q89, e89, hF⟩ := sd_bind hF
            refine sd_callVI [.ref (E.2.2 h2), .int x6, .int x5, .int (M.1 (77 + 1 + x6.toNatClampNeg) x5.toNatClampNeg)] [] C (ct_X0_refusing M h2 x6 x5 (M.1 (77 + 1 + x6.toNatClampNeg) x5.toNatClampNeg) k2 e89) sd_lX0_125 ⟨rfl, rfl, Nat.le_of_ble_eq_true rfl, Nat.le_of_ble_eq_true rfl⟩ sd_i63 (sd_e1 sd_k63) rfl rfl rfl (Nat.le_of_ble_eq_true rfl) dX0_layOffers_89 rfl (n' := 92) ?_
            refine sd_istore [(5, .int q89), (7, .int (M.1 (77 + 1 + x6.toNatClampNeg) x5.toNatClampNeg)), (0, .ref (E.2.2 63)), (1, .ref (E.2.2 h1)), (2, .ref (E.2.2 h2)), (3, .int x3), (4, .int x4), (6, .int x6)] C dX0_layOffers_92 (by decide) rfl rfl (n' := 94) ?_
            refine sd_sub [2, 3, 4, 5, 6, 0, 7, 1] rfl ?_
            exact tb_X0_layOffers_94 C k1 k2 ih M x3 x4 q89 x6 (M.1 (77 + 1 + x6.toNatClampNeg) x5.toNatClampNeg) hF
set_option maxRecDepth 100000 in
set_option maxHeartbeats 4000000 in
theorem tb_X0_layOffers_0 {K : sd_K} {E : sd_Env}  {h1 h2 : Nat} {r : (Int32 × sd_Mem)} (C : sd_C K E sd_LC RX0 cX0_layOffers 8 (some .int)) (k1 : sd_kd h1 = 10) (k2 : sd_kd h2 = 10) : ∀ (M : sd_Mem) (x3 : Int32), fn_X0_layOffers_0 h1 h2 M x3 = some r → sd_Z K rm_X0_layOffers E sd_LC 8 (sd_QI K E sd_LC r.1 r.2) M 0 [(0, .ref (E.2.2 63)), (1, .ref (E.2.2 h1)), (2, .ref (E.2.2 h2)), (3, .int x3)] [] := by
  intro M x3 hF
  unfold fn_X0_layOffers_0 at hF
  refine sd_aload_n C 0 dX0_layOffers_0 rfl rfl rfl (n' := 1) ?_
  refine sd_aload_n C 2 dX0_layOffers_1 rfl rfl rfl (n' := 2) ?_
  refine sd_iload_n C 3 dX0_layOffers_2 rfl rfl rfl (n' := 3) ?_
  obtain ⟨q3, e3, hF⟩ := sd_bind hF
  refine sd_callVV [.ref (E.2.2 h2), .int x3] [] C (ct_X0_weighOffering M h2 x3 k2 e3) sd_lX0_33 ⟨rfl, rfl, Nat.le_of_ble_eq_true rfl, Nat.le_of_ble_eq_true rfl⟩ sd_i63 (sd_e1 sd_k63) rfl rfl rfl (Nat.le_of_ble_eq_true rfl) dX0_layOffers_3 rfl (n' := 6) ?_
  refine sd_iconst C (v := 0) dX0_layOffers_6 rfl rfl (n' := 7) ?_
  refine sd_istore [(4, .int (0 : Int32)), (0, .ref (E.2.2 63)), (1, .ref (E.2.2 h1)), (2, .ref (E.2.2 h2)), (3, .int x3)] C dX0_layOffers_7 (by decide) rfl rfl (n' := 9) ?_
  refine sd_aload_n C 1 dX0_layOffers_9 rfl rfl rfl (n' := 10) ?_
  refine sd_g0_0 C sd_i63 sd_k63 sd_w230 dX0_layOffers_10 rfl (n' := 13) ?_
  refine sd_iconst C (v := 0) dX0_layOffers_13 rfl rfl (n' := 14) ?_
  obtain ⟨q14, e14, hF⟩ := sd_bind hF
  refine sd_callVI [.int (0 : Int32)] [] C (ct_X5_everySort q3 40 (0 : Int32) sd_k40 e14) sd_lX0_40 ⟨rfl, rfl, Nat.le_of_ble_eq_true rfl, Nat.le_of_ble_eq_true rfl⟩ sd_i40 (sd_e6 sd_k40) rfl rfl rfl (Nat.le_of_ble_eq_true rfl) dX0_layOffers_14 rfl (n' := 17) ?_
  refine sd_istore [(5, .int q14), (4, .int (0 : Int32)), (0, .ref (E.2.2 63)), (1, .ref (E.2.2 h1)), (2, .ref (E.2.2 h2)), (3, .int x3)] C dX0_layOffers_17 (by decide) rfl rfl (n' := 19) ?_
  refine sd_iconst C (v := 1) dX0_layOffers_19 rfl rfl (n' := 20) ?_
  refine sd_istore [(6, .int (1 : Int32)), (5, .int q14), (4, .int (0 : Int32)), (0, .ref (E.2.2 63)), (1, .ref (E.2.2 h1)), (2, .ref (E.2.2 h2)), (3, .int x3)] C dX0_layOffers_20 (by decide) rfl rfl (n' := 22) ?_
  refine sd_sub [3, 4, 5, 6, 2, 1, 0] rfl ?_
  exact tb_X0_layOffers_22 C k1 k2 sd_FU q3 x3 (0 : Int32) q14 (1 : Int32) hF
theorem ct_X0_layOffers {l : Launch} {E : sd_Env} (M : sd_Mem) (h1 : Nat) (h2 : Nat) (x3 : Int32) (k1 : sd_kd h1 = 10) (k2 : sd_kd h2 = 10) {r : (Int32 × sd_Mem)} (hF : fn_X0_layOffers M h1 h2 x3 = some r) : sd_MI l E sd_LC yX0_layOffers cX0_layOffers 8 (some .int) rm_X0_layOffers [.ref (E.2.2 63), .ref (E.2.2 h1), .ref (E.2.2 h2), .int x3] M r.1 r.2 := sd_ent0 (by decide +kernel) (Nat.le_of_ble_eq_true rfl) (fun p e s m below meth c C => tb_X0_layOffers_0 C k1 k2 M x3 hF)
theorem dX10_answer_0 : decode cX10_answer 0 = .ok (.aload_n 0, 1) := by decide +kernel
theorem dX10_answer_1 : decode cX10_answer 1 = .ok (.iload_n 1, 1) := by decide +kernel
theorem dX10_answer_2 : decode cX10_answer 2 = .ok (.iload_n 2, 1) := by decide +kernel
theorem dX10_answer_3 : decode cX10_answer 3 = .ok (.iconst 0, 1) := by decide +kernel
theorem dX10_answer_4 : decode cX10_answer 4 = .ok (.invokevirtual 216, 3) := by decide +kernel
theorem dX10_answer_7 : decode cX10_answer 7 = .ok (.istore_n 3, 1) := by decide +kernel
theorem dX10_answer_8 : decode cX10_answer 8 = .ok (.iload_n 3, 1) := by decide +kernel
theorem dX10_answer_9 : decode cX10_answer 9 = .ok (.ifCond .eq 5, 3) := by decide +kernel
theorem dX10_answer_12 : decode cX10_answer 12 = .ok (.iload_n 3, 1) := by decide +kernel
theorem dX10_answer_13 : decode cX10_answer 13 = .ok (.ireturn, 1) := by decide +kernel
theorem dX10_answer_14 : decode cX10_answer 14 = .ok (.iconst 0, 1) := by decide +kernel
theorem dX10_answer_15 : decode cX10_answer 15 = .ok (.istore 4, 2) := by decide +kernel
theorem dX10_answer_17 : decode cX10_answer 17 = .ok (.iconst 0, 1) := by decide +kernel
theorem dX10_answer_18 : decode cX10_answer 18 = .ok (.istore 5, 2) := by decide +kernel
theorem dX10_answer_20 : decode cX10_answer 20 = .ok (.iload 5, 2) := by decide +kernel
theorem dX10_answer_22 : decode cX10_answer 22 = .ok (.aload_n 0, 1) := by decide +kernel
theorem dX10_answer_23 : decode cX10_answer 23 = .ok (.getfield 27, 3) := by decide +kernel
theorem dX10_answer_26 : decode cX10_answer 26 = .ok (.iconst 1, 1) := by decide +kernel
theorem dX10_answer_27 : decode cX10_answer 27 = .ok (.invokevirtual 149, 3) := by decide +kernel
theorem dX10_answer_30 : decode cX10_answer 30 = .ok (.if_icmp .ge 35, 3) := by decide +kernel
theorem dX10_answer_33 : decode cX10_answer 33 = .ok (.iload 4, 2) := by decide +kernel
theorem dX10_answer_35 : decode cX10_answer 35 = .ok (.aload_n 0, 1) := by decide +kernel
theorem dX10_answer_36 : decode cX10_answer 36 = .ok (.getfield 63, 3) := by decide +kernel
theorem dX10_answer_39 : decode cX10_answer 39 = .ok (.aload_n 0, 1) := by decide +kernel
theorem dX10_answer_40 : decode cX10_answer 40 = .ok (.getfield 20, 3) := by decide +kernel
theorem dX10_answer_43 : decode cX10_answer 43 = .ok (.iload_n 1, 1) := by decide +kernel
theorem dX10_answer_44 : decode cX10_answer 44 = .ok (.aaload, 1) := by decide +kernel
theorem dX10_answer_45 : decode cX10_answer 45 = .ok (.aload_n 0, 1) := by decide +kernel
theorem dX10_answer_46 : decode cX10_answer 46 = .ok (.getfield 20, 3) := by decide +kernel
theorem dX10_answer_49 : decode cX10_answer 49 = .ok (.iload_n 2, 1) := by decide +kernel
theorem dX10_answer_50 : decode cX10_answer 50 = .ok (.aaload, 1) := by decide +kernel
theorem dX10_answer_51 : decode cX10_answer 51 = .ok (.iload 5, 2) := by decide +kernel
theorem dX10_answer_53 : decode cX10_answer 53 = .ok (.invokevirtual 272, 3) := by decide +kernel
theorem dX10_answer_56 : decode cX10_answer 56 = .ok (.iadd, 1) := by decide +kernel
theorem dX10_answer_57 : decode cX10_answer 57 = .ok (.istore 4, 2) := by decide +kernel
theorem dX10_answer_59 : decode cX10_answer 59 = .ok (.iinc 5 1, 3) := by decide +kernel
theorem dX10_answer_62 : decode cX10_answer 62 = .ok (.goto (-42), 3) := by decide +kernel
theorem dX10_answer_65 : decode cX10_answer 65 = .ok (.iload 4, 2) := by decide +kernel
theorem dX10_answer_67 : decode cX10_answer 67 = .ok (.ireturn, 1) := by decide +kernel
set_option maxRecDepth 100000 in
set_option maxHeartbeats 4000000 in
theorem tb_X10_answer_20 {K : sd_K} {E : sd_Env}   {r : (Int32 × sd_Mem)} (C : sd_C K E sd_LC RX10 cX10_answer 6 (some .int))  : ∀ (n : Nat), ∀ (M : sd_Mem) (x1 : Int32) (x2 : Int32) (x4 : Int32) (x5 : Int32), fn_X10_answer_20 n M x1 x2 x4 x5 = some r → sd_Z K rm_X10_answer E sd_LC 6 (sd_QI K E sd_LC r.1 r.2) M 20 [(0, .ref (E.2.2 0)), (1, .int x1), (2, .int x2), (4, .int x4), (5, .int x5)] [] := by
  intro n
  induction n with
  | zero => intro M x1 x2 x4 x5 hF; cases hF
  | succ n ih =>
    intro M x1 x2 x4 x5 hF
    unfold fn_X10_answer_20 at hF
    refine sd_iload C 4 dX10_answer_20 rfl rfl (n' := 22) ?_
    refine sd_aload_n C 0 dX10_answer_22 rfl rfl rfl (n' := 23) ?_
    refine sd_g10_3 C sd_i0 sd_k0 sd_w331 dX10_answer_23 rfl (n' := 26) ?_
    refine sd_iconst C (v := 1) dX10_answer_26 rfl rfl (n' := 27) ?_
    obtain ⟨q27, e27, hF⟩ := sd_bind hF
    refine sd_callVI [.int (1 : Int32)] [.int x5] C (ct_X5_sorts M 40 (1 : Int32) sd_k40 e27) sd_lX10_149 ⟨rfl, rfl, Nat.le_of_ble_eq_true rfl, Nat.le_of_ble_eq_true rfl⟩ sd_i40 (sd_e6 sd_k40) rfl rfl rfl (Nat.le_of_ble_eq_true rfl) dX10_answer_27 rfl (n' := 30) ?_
    refine sd_icmp_ge C (n' := 33) (tgt := 65) dX10_answer_30 rfl rfl (fun c30 => ?_) (fun c30 => ?_)
    · replace hF := sd_pos hF c30
      refine sd_iload C 3 dX10_answer_65 rfl rfl (n' := 67) ?_
      exact sd_iret C dX10_answer_67 (sd_fst hF) (sd_snd hF)
    · replace hF := sd_neg hF c30
      refine sd_iload C 3 dX10_answer_33 rfl rfl (n' := 35) ?_
      refine sd_aload_n C 0 dX10_answer_35 rfl rfl rfl (n' := 36) ?_
      refine sd_g10_9 C sd_i0 sd_k0 sd_w337 dX10_answer_36 rfl (n' := 39) ?_
      refine sd_aload_n C 0 dX10_answer_39 rfl rfl rfl (n' := 40) ?_
      refine sd_g10_2 C sd_i0 sd_k0 sd_w330 dX10_answer_40 rfl (n' := 43) ?_
      refine sd_iload_n C 1 dX10_answer_43 rfl rfl rfl (n' := 44) ?_
      obtain ⟨b44, hF⟩ := sd_ok hF
      refine sd_wald C sd_i23 sd_k23 sd_n23 b44 dX10_answer_44 rfl (n' := 45) ?_
      refine sd_aload_n C 0 dX10_answer_45 rfl rfl rfl (n' := 46) ?_
      refine sd_g10_2 C sd_i0 sd_k0 sd_w330 dX10_answer_46 rfl (n' := 49) ?_
      refine sd_iload_n C 2 dX10_answer_49 rfl rfl rfl (n' := 50) ?_
      obtain ⟨b50, hF⟩ := sd_ok hF
      refine sd_wald C sd_i23 sd_k23 sd_n23 b50 dX10_answer_50 rfl (n' := 51) ?_
      refine sd_iload C 4 dX10_answer_51 rfl rfl (n' := 53) ?_
      obtain ⟨q53, e53, hF⟩ := sd_bind hF
      refine sd_callVI [.ref (E.2.2 (23 + 1 + 2 * x1.toNatClampNeg)), .ref (E.2.2 (23 + 1 + 2 * x2.toNatClampNeg)), .int x5] [.int x4] C (ct_X0_layOffers M (23 + 1 + 2 * x1.toNatClampNeg) (23 + 1 + 2 * x2.toNatClampNeg) x5 ((sd_r23 _ (sd_in_lt b44)).1) ((sd_r23 _ (sd_in_lt b50)).1) e53) sd_lX10_272 ⟨rfl, rfl, Nat.le_of_ble_eq_true rfl, Nat.le_of_ble_eq_true rfl⟩ sd_i63 (sd_e1 sd_k63) rfl rfl rfl (Nat.le_of_ble_eq_true rfl) dX10_answer_53 rfl (n' := 56) ?_
      refine sd_iadd C dX10_answer_56 rfl (n' := 57) ?_
      refine sd_istore [(4, .int (x4 + q53.1)), (0, .ref (E.2.2 0)), (1, .int x1), (2, .int x2), (5, .int x5)] C dX10_answer_57 (by decide) rfl rfl (n' := 59) ?_
      refine sd_iinc [(5, .int (x5 + (1 : Int32))), (4, .int (x4 + q53.1)), (0, .ref (E.2.2 0)), (1, .int x1), (2, .int x2)] 4 C dX10_answer_59 rfl rfl (by decide) rfl rfl (n' := 62) ?_
      refine sd_goto C (tgt := 20) dX10_answer_62 rfl ?_
      refine sd_sub [2, 3, 4, 1, 0] rfl ?_
      exact ih q53.2 x1 x2 (x4 + q53.1) (x5 + (1 : Int32)) hF
set_option maxRecDepth 100000 in
set_option maxHeartbeats 4000000 in
theorem tb_X10_answer_0 {K : sd_K} {E : sd_Env}   {r : (Int32 × sd_Mem)} (C : sd_C K E sd_LC RX10 cX10_answer 6 (some .int))  : ∀ (M : sd_Mem) (x1 : Int32) (x2 : Int32), fn_X10_answer_0 M x1 x2 = some r → sd_Z K rm_X10_answer E sd_LC 6 (sd_QI K E sd_LC r.1 r.2) M 0 [(0, .ref (E.2.2 0)), (1, .int x1), (2, .int x2)] [] := by
  intro M x1 x2 hF
  unfold fn_X10_answer_0 at hF
  refine sd_aload_n C 0 dX10_answer_0 rfl rfl rfl (n' := 1) ?_
  refine sd_iload_n C 1 dX10_answer_1 rfl rfl rfl (n' := 2) ?_
  refine sd_iload_n C 2 dX10_answer_2 rfl rfl rfl (n' := 3) ?_
  refine sd_iconst C (v := 0) dX10_answer_3 rfl rfl (n' := 4) ?_
  obtain ⟨q4, e4, hF⟩ := sd_bind hF
  refine sd_callVI [.int x1, .int x2, .int (0 : Int32)] [] C (ct_X10_refusePair M x1 x2 (0 : Int32)  e4) sd_lX10_216 ⟨rfl, rfl, Nat.le_of_ble_eq_true rfl, Nat.le_of_ble_eq_true rfl⟩ sd_i0 (sd_e11 sd_k0) rfl rfl rfl (Nat.le_of_ble_eq_true rfl) dX10_answer_4 rfl (n' := 7) ?_
  refine sd_istore_n [(3, .int q4.1), (0, .ref (E.2.2 0)), (1, .int x1), (2, .int x2)] C dX10_answer_7 rfl (by decide) rfl rfl (n' := 8) ?_
  refine sd_iload_n C 0 dX10_answer_8 rfl rfl rfl (n' := 9) ?_
  refine sd_if_eq C (n' := 12) (tgt := 14) dX10_answer_9 rfl rfl (fun c9 => ?_) (fun c9 => ?_)
  · replace hF := sd_pos hF c9
    refine sd_iconst C (v := 0) dX10_answer_14 rfl rfl (n' := 15) ?_
    refine sd_istore [(4, .int (0 : Int32)), (3, .int q4.1), (0, .ref (E.2.2 0)), (1, .int x1), (2, .int x2)] C dX10_answer_15 (by decide) rfl rfl (n' := 17) ?_
    refine sd_iconst C (v := 0) dX10_answer_17 rfl rfl (n' := 18) ?_
    refine sd_istore [(5, .int (0 : Int32)), (4, .int (0 : Int32)), (3, .int q4.1), (0, .ref (E.2.2 0)), (1, .int x1), (2, .int x2)] C dX10_answer_18 (by decide) rfl rfl (n' := 20) ?_
    refine sd_sub [3, 4, 5, 1, 0] rfl ?_
    exact tb_X10_answer_20 C sd_FU q4.2 x1 x2 (0 : Int32) (0 : Int32) hF
  · replace hF := sd_neg hF c9
    refine sd_iload_n C 0 dX10_answer_12 rfl rfl rfl (n' := 13) ?_
    exact sd_iret C dX10_answer_13 (sd_fst hF) (sd_snd hF)
theorem ct_X10_answer {l : Launch} {E : sd_Env} (M : sd_Mem) (x1 : Int32) (x2 : Int32)  {r : (Int32 × sd_Mem)} (hF : fn_X10_answer M x1 x2 = some r) : sd_MI l E sd_LC yX10_answer cX10_answer 6 (some .int) rm_X10_answer [.ref (E.2.2 0), .int x1, .int x2] M r.1 r.2 := sd_ent0 (by decide +kernel) (Nat.le_of_ble_eq_true rfl) (fun p e s m below meth c C => tb_X10_answer_0 C M x1 x2 hF)
theorem dX0_isTaken_0 : decode cX0_isTaken 0 = .ok (.aload_n 0, 1) := by decide +kernel
theorem dX0_isTaken_1 : decode cX0_isTaken 1 = .ok (.iconst 0, 1) := by decide +kernel
theorem dX0_isTaken_2 : decode cX0_isTaken 2 = .ok (.iload_n 1, 1) := by decide +kernel
theorem dX0_isTaken_3 : decode cX0_isTaken 3 = .ok (.iload_n 3, 1) := by decide +kernel
theorem dX0_isTaken_4 : decode cX0_isTaken 4 = .ok (.iload_n 2, 1) := by decide +kernel
theorem dX0_isTaken_5 : decode cX0_isTaken 5 = .ok (.iload 4, 2) := by decide +kernel
theorem dX0_isTaken_7 : decode cX0_isTaken 7 = .ok (.invokevirtual 104, 3) := by decide +kernel
theorem dX0_isTaken_10 : decode cX0_isTaken 10 = .ok (.aload_n 0, 1) := by decide +kernel
theorem dX0_isTaken_11 : decode cX0_isTaken 11 = .ok (.iload_n 3, 1) := by decide +kernel
theorem dX0_isTaken_12 : decode cX0_isTaken 12 = .ok (.iconst 1, 1) := by decide +kernel
theorem dX0_isTaken_13 : decode cX0_isTaken 13 = .ok (.iadd, 1) := by decide +kernel
theorem dX0_isTaken_14 : decode cX0_isTaken 14 = .ok (.iload_n 2, 1) := by decide +kernel
theorem dX0_isTaken_15 : decode cX0_isTaken 15 = .ok (.invokevirtual 45, 3) := by decide +kernel
theorem dX0_isTaken_18 : decode cX0_isTaken 18 = .ok (.lcmp, 1) := by decide +kernel
theorem dX0_isTaken_19 : decode cX0_isTaken 19 = .ok (.ifCond .lt 7, 3) := by decide +kernel
theorem dX0_isTaken_22 : decode cX0_isTaken 22 = .ok (.iconst 1, 1) := by decide +kernel
theorem dX0_isTaken_23 : decode cX0_isTaken 23 = .ok (.goto 4, 3) := by decide +kernel
theorem dX0_isTaken_26 : decode cX0_isTaken 26 = .ok (.iconst 0, 1) := by decide +kernel
theorem dX0_isTaken_27 : decode cX0_isTaken 27 = .ok (.ireturn, 1) := by decide +kernel
set_option maxRecDepth 100000 in
set_option maxHeartbeats 4000000 in
theorem tb_X0_isTaken_0 {K : sd_K} {E : sd_Env} {M : sd_Mem}  {r : Int32} (C : sd_C K E sd_LC RX0 cX0_isTaken 5 (some .boolean))  : ∀ (x1 : Int32) (x2 : Int32) (x3 : Int32) (x4 : Int32), fn_X0_isTaken_0 M x1 x2 x3 x4 = some r → sd_Z K rm_X0_isTaken E sd_LC 5 (sd_QI K E sd_LC r M) M 0 [(0, .ref (E.2.2 63)), (1, .int x1), (2, .int x2), (3, .int x3), (4, .int x4)] [] := by
  intro x1 x2 x3 x4 hF
  unfold fn_X0_isTaken_0 at hF
  refine sd_aload_n C 0 dX0_isTaken_0 rfl rfl rfl (n' := 1) ?_
  refine sd_iconst C (v := 0) dX0_isTaken_1 rfl rfl (n' := 2) ?_
  refine sd_iload_n C 1 dX0_isTaken_2 rfl rfl rfl (n' := 3) ?_
  refine sd_iload_n C 3 dX0_isTaken_3 rfl rfl rfl (n' := 4) ?_
  refine sd_iload_n C 2 dX0_isTaken_4 rfl rfl rfl (n' := 5) ?_
  refine sd_iload C 4 dX0_isTaken_5 rfl rfl (n' := 7) ?_
  obtain ⟨q7, e7, hF⟩ := sd_bind hF
  refine sd_callVL [.int (0 : Int32), .int x1, .int x3, .int x2, .int x4] [] C (ct_X0_settled M (0 : Int32) x1 x3 x2 x4  e7) sd_lX0_104 ⟨rfl, rfl, Nat.le_of_ble_eq_true rfl, Nat.le_of_ble_eq_true rfl⟩ sd_i63 (sd_e1 sd_k63) rfl rfl rfl (Nat.le_of_ble_eq_true rfl) dX0_isTaken_7 rfl (n' := 10) ?_
  refine sd_aload_n C 0 dX0_isTaken_10 rfl rfl rfl (n' := 11) ?_
  refine sd_iload_n C 3 dX0_isTaken_11 rfl rfl rfl (n' := 12) ?_
  refine sd_iconst C (v := 1) dX0_isTaken_12 rfl rfl (n' := 13) ?_
  refine sd_iadd C dX0_isTaken_13 rfl (n' := 14) ?_
  refine sd_iload_n C 2 dX0_isTaken_14 rfl rfl rfl (n' := 15) ?_
  obtain ⟨q15, e15, hF⟩ := sd_bind hF
  refine sd_callVL [.int (x3 + (1 : Int32)), .int x2] [.long q7] C (ct_X0_sum M (x3 + (1 : Int32)) x2  e15) sd_lX0_45 ⟨rfl, rfl, Nat.le_of_ble_eq_true rfl, Nat.le_of_ble_eq_true rfl⟩ sd_i63 (sd_e1 sd_k63) rfl rfl rfl (Nat.le_of_ble_eq_true rfl) dX0_isTaken_15 rfl (n' := 18) ?_
  refine sd_lcmp C dX0_isTaken_18 rfl (n' := 19) ?_
  refine sd_if_lt C (n' := 22) (tgt := 26) dX0_isTaken_19 rfl rfl (fun c19 => ?_) (fun c19 => ?_)
  · replace hF := sd_pos hF c19
    refine sd_iconst C (v := 0) dX0_isTaken_26 rfl rfl (n' := 27) ?_
    exact sd_zret C dX0_isTaken_27 rfl (Option.some.inj hF) rfl
  · replace hF := sd_neg hF c19
    refine sd_iconst C (v := 1) dX0_isTaken_22 rfl rfl (n' := 23) ?_
    refine sd_goto C (tgt := 27) dX0_isTaken_23 rfl ?_
    exact sd_zret C dX0_isTaken_27 rfl (Option.some.inj hF) rfl
theorem ct_X0_isTaken {l : Launch} {E : sd_Env} (M : sd_Mem) (x1 : Int32) (x2 : Int32) (x3 : Int32) (x4 : Int32)  {r : Int32} (hF : fn_X0_isTaken M x1 x2 x3 x4 = some r) : sd_MI l E sd_LC yX0_isTaken cX0_isTaken 5 (some .boolean) rm_X0_isTaken [.ref (E.2.2 63), .int x1, .int x2, .int x3, .int x4] M r M := sd_ent0 (by decide +kernel) (Nat.le_of_ble_eq_true rfl) (fun p e s m below meth c C => tb_X0_isTaken_0 C x1 x2 x3 x4 hF)
theorem dX10_leastTaken_0 : decode cX10_leastTaken 0 = .ok (.bipush 13, 2) := by decide +kernel
theorem dX10_leastTaken_2 : decode cX10_leastTaken 2 = .ok (.istore 4, 2) := by decide +kernel
theorem dX10_leastTaken_4 : decode cX10_leastTaken 4 = .ok (.iload_n 3, 1) := by decide +kernel
theorem dX10_leastTaken_5 : decode cX10_leastTaken 5 = .ok (.aload_n 0, 1) := by decide +kernel
theorem dX10_leastTaken_6 : decode cX10_leastTaken 6 = .ok (.getfield 34, 3) := by decide +kernel
theorem dX10_leastTaken_9 : decode cX10_leastTaken 9 = .ok (.getfield 168, 3) := by decide +kernel
theorem dX10_leastTaken_12 : decode cX10_leastTaken 12 = .ok (.aload_n 0, 1) := by decide +kernel
theorem dX10_leastTaken_13 : decode cX10_leastTaken 13 = .ok (.getfield 27, 3) := by decide +kernel
theorem dX10_leastTaken_16 : decode cX10_leastTaken 16 = .ok (.invokevirtual 239, 3) := by decide +kernel
theorem dX10_leastTaken_19 : decode cX10_leastTaken 19 = .ok (.invokestatic 152, 3) := by decide +kernel
theorem dX10_leastTaken_22 : decode cX10_leastTaken 22 = .ok (.ifCond .ne 6, 3) := by decide +kernel
theorem dX10_leastTaken_25 : decode cX10_leastTaken 25 = .ok (.iload 4, 2) := by decide +kernel
theorem dX10_leastTaken_27 : decode cX10_leastTaken 27 = .ok (.ireturn, 1) := by decide +kernel
theorem dX10_leastTaken_28 : decode cX10_leastTaken 28 = .ok (.iconst 0, 1) := by decide +kernel
theorem dX10_leastTaken_29 : decode cX10_leastTaken 29 = .ok (.istore 5, 2) := by decide +kernel
theorem dX10_leastTaken_31 : decode cX10_leastTaken 31 = .ok (.iload 5, 2) := by decide +kernel
theorem dX10_leastTaken_33 : decode cX10_leastTaken 33 = .ok (.aload_n 0, 1) := by decide +kernel
theorem dX10_leastTaken_34 : decode cX10_leastTaken 34 = .ok (.getfield 27, 3) := by decide +kernel
theorem dX10_leastTaken_37 : decode cX10_leastTaken 37 = .ok (.iconst 1, 1) := by decide +kernel
theorem dX10_leastTaken_38 : decode cX10_leastTaken 38 = .ok (.invokevirtual 149, 3) := by decide +kernel
theorem dX10_leastTaken_41 : decode cX10_leastTaken 41 = .ok (.if_icmp .ge 54, 3) := by decide +kernel
theorem dX10_leastTaken_44 : decode cX10_leastTaken 44 = .ok (.aload_n 1, 1) := by decide +kernel
theorem dX10_leastTaken_45 : decode cX10_leastTaken 45 = .ok (.iload 5, 2) := by decide +kernel
theorem dX10_leastTaken_47 : decode cX10_leastTaken 47 = .ok (.iload_n 3, 1) := by decide +kernel
theorem dX10_leastTaken_48 : decode cX10_leastTaken 48 = .ok (.invokevirtual 195, 3) := by decide +kernel
theorem dX10_leastTaken_51 : decode cX10_leastTaken 51 = .ok (.istore 6, 2) := by decide +kernel
theorem dX10_leastTaken_53 : decode cX10_leastTaken 53 = .ok (.iload 6, 2) := by decide +kernel
theorem dX10_leastTaken_55 : decode cX10_leastTaken 55 = .ok (.iload 4, 2) := by decide +kernel
theorem dX10_leastTaken_57 : decode cX10_leastTaken 57 = .ok (.if_icmp .ge 32, 3) := by decide +kernel
theorem dX10_leastTaken_60 : decode cX10_leastTaken 60 = .ok (.aload_n 0, 1) := by decide +kernel
theorem dX10_leastTaken_61 : decode cX10_leastTaken 61 = .ok (.getfield 63, 3) := by decide +kernel
theorem dX10_leastTaken_64 : decode cX10_leastTaken 64 = .ok (.iload_n 2, 1) := by decide +kernel
theorem dX10_leastTaken_65 : decode cX10_leastTaken 65 = .ok (.aload_n 0, 1) := by decide +kernel
theorem dX10_leastTaken_66 : decode cX10_leastTaken 66 = .ok (.getfield 53, 3) := by decide +kernel
theorem dX10_leastTaken_69 : decode cX10_leastTaken 69 = .ok (.aload_n 1, 1) := by decide +kernel
theorem dX10_leastTaken_70 : decode cX10_leastTaken 70 = .ok (.iload 5, 2) := by decide +kernel
theorem dX10_leastTaken_72 : decode cX10_leastTaken 72 = .ok (.iload_n 3, 1) := by decide +kernel
theorem dX10_leastTaken_73 : decode cX10_leastTaken 73 = .ok (.invokevirtual 248, 3) := by decide +kernel
theorem dX10_leastTaken_76 : decode cX10_leastTaken 76 = .ok (.iload_n 3, 1) := by decide +kernel
theorem dX10_leastTaken_77 : decode cX10_leastTaken 77 = .ok (.iload 6, 2) := by decide +kernel
theorem dX10_leastTaken_79 : decode cX10_leastTaken 79 = .ok (.invokevirtual 363, 3) := by decide +kernel
theorem dX10_leastTaken_82 : decode cX10_leastTaken 82 = .ok (.ifCond .eq 7, 3) := by decide +kernel
theorem dX10_leastTaken_85 : decode cX10_leastTaken 85 = .ok (.iload 6, 2) := by decide +kernel
theorem dX10_leastTaken_87 : decode cX10_leastTaken 87 = .ok (.istore 4, 2) := by decide +kernel
theorem dX10_leastTaken_89 : decode cX10_leastTaken 89 = .ok (.iinc 5 1, 3) := by decide +kernel
theorem dX10_leastTaken_92 : decode cX10_leastTaken 92 = .ok (.goto (-61), 3) := by decide +kernel
theorem dX10_leastTaken_95 : decode cX10_leastTaken 95 = .ok (.iload 4, 2) := by decide +kernel
theorem dX10_leastTaken_97 : decode cX10_leastTaken 97 = .ok (.ireturn, 1) := by decide +kernel
set_option maxRecDepth 100000 in
set_option maxHeartbeats 4000000 in
theorem tb_X10_leastTaken_31 {K : sd_K} {E : sd_Env} {M : sd_Mem} {h1 : Nat} {r : Int32} (C : sd_C K E sd_LC RX10 cX10_leastTaken 7 (some .int)) (k1 : sd_kd h1 = 10) : ∀ (n : Nat), ∀ (x2 : Int32) (x3 : Int32) (x4 : Int32) (x5 : Int32), fn_X10_leastTaken_31 M h1 n x2 x3 x4 x5 = some r → sd_Z K rm_X10_leastTaken E sd_LC 7 (sd_QI K E sd_LC r M) M 31 [(0, .ref (E.2.2 0)), (1, .ref (E.2.2 h1)), (2, .int x2), (3, .int x3), (4, .int x4), (5, .int x5)] [] := by
  intro n
  induction n with
  | zero => intro x2 x3 x4 x5 hF; cases hF
  | succ n ih =>
    intro x2 x3 x4 x5 hF
    unfold fn_X10_leastTaken_31 at hF
    refine sd_iload C 5 dX10_leastTaken_31 rfl rfl (n' := 33) ?_
    refine sd_aload_n C 0 dX10_leastTaken_33 rfl rfl rfl (n' := 34) ?_
    refine sd_g10_3 C sd_i0 sd_k0 sd_w331 dX10_leastTaken_34 rfl (n' := 37) ?_
    refine sd_iconst C (v := 1) dX10_leastTaken_37 rfl rfl (n' := 38) ?_
    obtain ⟨q38, e38, hF⟩ := sd_bind hF
    refine sd_callVI [.int (1 : Int32)] [.int x5] C (ct_X5_sorts M 40 (1 : Int32) sd_k40 e38) sd_lX10_149 ⟨rfl, rfl, Nat.le_of_ble_eq_true rfl, Nat.le_of_ble_eq_true rfl⟩ sd_i40 (sd_e6 sd_k40) rfl rfl rfl (Nat.le_of_ble_eq_true rfl) dX10_leastTaken_38 rfl (n' := 41) ?_
    refine sd_icmp_ge C (n' := 44) (tgt := 95) dX10_leastTaken_41 rfl rfl (fun c41 => ?_) (fun c41 => ?_)
    · replace hF := sd_pos hF c41
      refine sd_iload C 4 dX10_leastTaken_95 rfl rfl (n' := 97) ?_
      exact sd_iret C dX10_leastTaken_97 (Option.some.inj hF) rfl
    · replace hF := sd_neg hF c41
      refine sd_aload_n C 1 dX10_leastTaken_44 rfl rfl rfl (n' := 45) ?_
      refine sd_iload C 5 dX10_leastTaken_45 rfl rfl (n' := 47) ?_
      refine sd_iload_n C 3 dX10_leastTaken_47 rfl rfl rfl (n' := 48) ?_
      obtain ⟨q48, e48, hF⟩ := sd_bind hF
      refine sd_callVI [.int x5, .int x3] [] C (ct_X9_number M h1 x5 x3 k1 e48) sd_lX10_195 ⟨rfl, rfl, Nat.le_of_ble_eq_true rfl, Nat.le_of_ble_eq_true rfl⟩ (sd_mC (sd_m10 k1)) (sd_e10 k1) rfl rfl rfl (Nat.le_of_ble_eq_true rfl) dX10_leastTaken_48 rfl (n' := 51) ?_
      refine sd_istore [(6, .int q48), (0, .ref (E.2.2 0)), (1, .ref (E.2.2 h1)), (2, .int x2), (3, .int x3), (4, .int x4), (5, .int x5)] C dX10_leastTaken_51 (by decide) rfl rfl (n' := 53) ?_
      refine sd_iload C 0 dX10_leastTaken_53 rfl rfl (n' := 55) ?_
      refine sd_iload C 5 dX10_leastTaken_55 rfl rfl (n' := 57) ?_
      refine sd_icmp_ge C (n' := 60) (tgt := 89) dX10_leastTaken_57 rfl rfl (fun c57 => ?_) (fun c57 => ?_)
      · replace hF := sd_pos hF c57
        refine sd_iinc [(5, .int (x5 + (1 : Int32))), (6, .int q48), (0, .ref (E.2.2 0)), (1, .ref (E.2.2 h1)), (2, .int x2), (3, .int x3), (4, .int x4)] 6 C dX10_leastTaken_89 rfl rfl (by decide) rfl rfl (n' := 92) ?_
        refine sd_goto C (tgt := 31) dX10_leastTaken_92 rfl ?_
        refine sd_sub [2, 3, 4, 5, 6, 0] rfl ?_
        exact ih x2 x3 x4 (x5 + (1 : Int32)) hF
      · replace hF := sd_neg hF c57
        refine sd_aload_n C 1 dX10_leastTaken_60 rfl rfl rfl (n' := 61) ?_
        refine sd_g10_9 C sd_i0 sd_k0 sd_w337 dX10_leastTaken_61 rfl (n' := 64) ?_
        refine sd_iload_n C 3 dX10_leastTaken_64 rfl rfl rfl (n' := 65) ?_
        refine sd_aload_n C 1 dX10_leastTaken_65 rfl rfl rfl (n' := 66) ?_
        refine sd_g10_7 C sd_i0 sd_k0 sd_w335 dX10_leastTaken_66 rfl (n' := 69) ?_
        refine sd_aload_n C 2 dX10_leastTaken_69 rfl rfl rfl (n' := 70) ?_
        refine sd_iload C 6 dX10_leastTaken_70 rfl rfl (n' := 72) ?_
        refine sd_iload_n C 4 dX10_leastTaken_72 rfl rfl rfl (n' := 73) ?_
        obtain ⟨q73, e73, hF⟩ := sd_bind hF
        refine sd_callVI [.ref (E.2.2 h1), .int x5, .int x3] [.int x2, .ref (E.2.2 63)] C (ct_X7_offeringAlike M 61 h1 x5 x3 sd_k61 k1 e73) sd_lX10_248 ⟨rfl, rfl, Nat.le_of_ble_eq_true rfl, Nat.le_of_ble_eq_true rfl⟩ sd_i61 (sd_e8 sd_k61) rfl rfl rfl (Nat.le_of_ble_eq_true rfl) dX10_leastTaken_73 rfl (n' := 76) ?_
        refine sd_iload_n C 4 dX10_leastTaken_76 rfl rfl rfl (n' := 77) ?_
        refine sd_iload C 0 dX10_leastTaken_77 rfl rfl (n' := 79) ?_
        obtain ⟨q79, e79, hF⟩ := sd_bind hF
        refine sd_callVI [.int x2, .int q73, .int x3, .int q48] [] C (ct_X0_isTaken M x2 q73 x3 q48  e79) sd_lX10_363 ⟨rfl, rfl, Nat.le_of_ble_eq_true rfl, Nat.le_of_ble_eq_true rfl⟩ sd_i63 (sd_e1 sd_k63) rfl rfl rfl (Nat.le_of_ble_eq_true rfl) dX10_leastTaken_79 rfl (n' := 82) ?_
        refine sd_if_eq C (n' := 85) (tgt := 89) dX10_leastTaken_82 rfl rfl (fun c82 => ?_) (fun c82 => ?_)
        · replace hF := sd_pos hF c82
          refine sd_iinc [(5, .int (x5 + (1 : Int32))), (6, .int q48), (0, .ref (E.2.2 0)), (1, .ref (E.2.2 h1)), (2, .int x2), (3, .int x3), (4, .int x4)] 6 C dX10_leastTaken_89 rfl rfl (by decide) rfl rfl (n' := 92) ?_
          refine sd_goto C (tgt := 31) dX10_leastTaken_92 rfl ?_
          refine sd_sub [2, 3, 4, 5, 6, 0] rfl ?_
          exact ih x2 x3 x4 (x5 + (1 : Int32)) hF
        · replace hF := sd_neg hF c82
          refine sd_iload C 0 dX10_leastTaken_85 rfl rfl (n' := 87) ?_
          refine sd_istore [(4, .int q48), (6, .int q48), (0, .ref (E.2.2 0)), (1, .ref (E.2.2 h1)), (2, .int x2), (3, .int x3), (5, .int x5)] C dX10_leastTaken_87 (by decide) rfl rfl (n' := 89) ?_
          refine sd_iinc [(5, .int (x5 + (1 : Int32))), (4, .int q48), (6, .int q48), (0, .ref (E.2.2 0)), (1, .ref (E.2.2 h1)), (2, .int x2), (3, .int x3)] 6 C dX10_leastTaken_89 rfl rfl (by decide) rfl rfl (n' := 92) ?_
          refine sd_goto C (tgt := 31) dX10_leastTaken_92 rfl ?_
          refine sd_sub [3, 4, 5, 6, 1, 0] rfl ?_
          exact ih x2 x3 q48 (x5 + (1 : Int32)) hF
set_option maxRecDepth 100000 in
set_option maxHeartbeats 4000000 in
theorem tb_X10_leastTaken_0 {K : sd_K} {E : sd_Env} {M : sd_Mem} {h1 : Nat} {r : Int32} (C : sd_C K E sd_LC RX10 cX10_leastTaken 7 (some .int)) (k1 : sd_kd h1 = 10) : ∀ (x2 : Int32) (x3 : Int32), fn_X10_leastTaken_0 M h1 x2 x3 = some r → sd_Z K rm_X10_leastTaken E sd_LC 7 (sd_QI K E sd_LC r M) M 0 [(0, .ref (E.2.2 0)), (1, .ref (E.2.2 h1)), (2, .int x2), (3, .int x3)] [] := by
  intro x2 x3 hF
  unfold fn_X10_leastTaken_0 at hF
  refine sd_bipush C (v := 13) dX10_leastTaken_0 rfl rfl (n' := 2) ?_
  refine sd_istore [(4, .int (13 : Int32)), (0, .ref (E.2.2 0)), (1, .ref (E.2.2 h1)), (2, .int x2), (3, .int x3)] C dX10_leastTaken_2 (by decide) rfl rfl (n' := 4) ?_
  refine sd_iload_n C 4 dX10_leastTaken_4 rfl rfl rfl (n' := 5) ?_
  refine sd_aload_n C 1 dX10_leastTaken_5 rfl rfl rfl (n' := 6) ?_
  refine sd_g10_4 C sd_i0 sd_k0 sd_w332 dX10_leastTaken_6 rfl (n' := 9) ?_
  refine sd_gN4_0 C sd_i58 sd_k58 sd_w177 dX10_leastTaken_9 rfl (n' := 12) ?_
  refine sd_aload_n C 1 dX10_leastTaken_12 rfl rfl rfl (n' := 13) ?_
  refine sd_g10_3 C sd_i0 sd_k0 sd_w331 dX10_leastTaken_13 rfl (n' := 16) ?_
  obtain ⟨q16, e16, hF⟩ := sd_bind hF
  refine sd_callVI [] [.int (M.1 58 0), .int x3] C (ct_X5_last M 40 sd_k40 e16) sd_lX10_239 ⟨rfl, rfl, Nat.le_of_ble_eq_true rfl, Nat.le_of_ble_eq_true rfl⟩ sd_i40 (sd_e6 sd_k40) rfl rfl rfl (Nat.le_of_ble_eq_true rfl) dX10_leastTaken_16 rfl (n' := 19) ?_
  obtain ⟨q19, e19, hF⟩ := sd_bind hF
  refine sd_callSI [.int x3, .int (M.1 58 0), .int q16] [] C (ct_X10_within M x3 (M.1 58 0) q16  e19) sd_lX10_152 ⟨rfl, rfl, Nat.le_of_ble_eq_true rfl, Nat.le_of_ble_eq_true rfl⟩ rfl (Nat.le_of_ble_eq_true rfl) dX10_leastTaken_19 rfl (n' := 22) ?_
  refine sd_if_ne C (n' := 25) (tgt := 28) dX10_leastTaken_22 rfl rfl (fun c22 => ?_) (fun c22 => ?_)
  · replace hF := sd_neg hF c22
    refine sd_iconst C (v := 0) dX10_leastTaken_28 rfl rfl (n' := 29) ?_
    refine sd_istore [(5, .int (0 : Int32)), (4, .int (13 : Int32)), (0, .ref (E.2.2 0)), (1, .ref (E.2.2 h1)), (2, .int x2), (3, .int x3)] C dX10_leastTaken_29 (by decide) rfl rfl (n' := 31) ?_
    refine sd_sub [2, 3, 4, 5, 1, 0] rfl ?_
    exact tb_X10_leastTaken_31 C k1 sd_FU x2 x3 (13 : Int32) (0 : Int32) hF
  · replace hF := sd_pos hF c22
    refine sd_iload C 0 dX10_leastTaken_25 rfl rfl (n' := 27) ?_
    exact sd_iret C dX10_leastTaken_27 (Option.some.inj hF) rfl
theorem ct_X10_leastTaken {l : Launch} {E : sd_Env} (M : sd_Mem) (h1 : Nat) (x2 : Int32) (x3 : Int32) (k1 : sd_kd h1 = 10) {r : Int32} (hF : fn_X10_leastTaken M h1 x2 x3 = some r) : sd_MI l E sd_LC yX10_leastTaken cX10_leastTaken 7 (some .int) rm_X10_leastTaken [.ref (E.2.2 0), .ref (E.2.2 h1), .int x2, .int x3] M r M := sd_ent0 (by decide +kernel) (Nat.le_of_ble_eq_true rfl) (fun p e s m below meth c C => tb_X10_leastTaken_0 C k1 x2 x3 hF)
theorem dX10_reply_0 : decode cX10_reply 0 = .ok (.aload_n 0, 1) := by decide +kernel
theorem dX10_reply_1 : decode cX10_reply 1 = .ok (.iload_n 2, 1) := by decide +kernel
theorem dX10_reply_2 : decode cX10_reply 2 = .ok (.iload_n 1, 1) := by decide +kernel
theorem dX10_reply_3 : decode cX10_reply 3 = .ok (.iconst 0, 1) := by decide +kernel
theorem dX10_reply_4 : decode cX10_reply 4 = .ok (.invokevirtual 216, 3) := by decide +kernel
theorem dX10_reply_7 : decode cX10_reply 7 = .ok (.istore_n 3, 1) := by decide +kernel
theorem dX10_reply_8 : decode cX10_reply 8 = .ok (.iload_n 3, 1) := by decide +kernel
theorem dX10_reply_9 : decode cX10_reply 9 = .ok (.ifCond .eq 5, 3) := by decide +kernel
theorem dX10_reply_12 : decode cX10_reply 12 = .ok (.iload_n 3, 1) := by decide +kernel
theorem dX10_reply_13 : decode cX10_reply 13 = .ok (.ireturn, 1) := by decide +kernel
theorem dX10_reply_14 : decode cX10_reply 14 = .ok (.iconst 0, 1) := by decide +kernel
theorem dX10_reply_15 : decode cX10_reply 15 = .ok (.istore 4, 2) := by decide +kernel
theorem dX10_reply_17 : decode cX10_reply 17 = .ok (.iconst 0, 1) := by decide +kernel
theorem dX10_reply_18 : decode cX10_reply 18 = .ok (.istore 5, 2) := by decide +kernel
theorem dX10_reply_20 : decode cX10_reply 20 = .ok (.iload 5, 2) := by decide +kernel
theorem dX10_reply_22 : decode cX10_reply 22 = .ok (.aload_n 0, 1) := by decide +kernel
theorem dX10_reply_23 : decode cX10_reply 23 = .ok (.getfield 27, 3) := by decide +kernel
theorem dX10_reply_26 : decode cX10_reply 26 = .ok (.iconst 0, 1) := by decide +kernel
theorem dX10_reply_27 : decode cX10_reply 27 = .ok (.invokevirtual 149, 3) := by decide +kernel
theorem dX10_reply_30 : decode cX10_reply 30 = .ok (.if_icmp .ge 86, 3) := by decide +kernel
theorem dX10_reply_33 : decode cX10_reply 33 = .ok (.aload_n 0, 1) := by decide +kernel
theorem dX10_reply_34 : decode cX10_reply 34 = .ok (.getfield 63, 3) := by decide +kernel
theorem dX10_reply_37 : decode cX10_reply 37 = .ok (.aload_n 0, 1) := by decide +kernel
theorem dX10_reply_38 : decode cX10_reply 38 = .ok (.getfield 20, 3) := by decide +kernel
theorem dX10_reply_41 : decode cX10_reply 41 = .ok (.iload_n 2, 1) := by decide +kernel
theorem dX10_reply_42 : decode cX10_reply 42 = .ok (.aaload, 1) := by decide +kernel
theorem dX10_reply_43 : decode cX10_reply 43 = .ok (.iload 5, 2) := by decide +kernel
theorem dX10_reply_45 : decode cX10_reply 45 = .ok (.invokevirtual 276, 3) := by decide +kernel
theorem dX10_reply_48 : decode cX10_reply 48 = .ok (.iconst 1, 1) := by decide +kernel
theorem dX10_reply_49 : decode cX10_reply 49 = .ok (.istore 6, 2) := by decide +kernel
theorem dX10_reply_51 : decode cX10_reply 51 = .ok (.iload 6, 2) := by decide +kernel
theorem dX10_reply_53 : decode cX10_reply 53 = .ok (.bipush 10, 2) := by decide +kernel
theorem dX10_reply_55 : decode cX10_reply 55 = .ok (.if_icmp .gt 55, 3) := by decide +kernel
theorem dX10_reply_58 : decode cX10_reply 58 = .ok (.aload_n 0, 1) := by decide +kernel
theorem dX10_reply_59 : decode cX10_reply 59 = .ok (.aload_n 0, 1) := by decide +kernel
theorem dX10_reply_60 : decode cX10_reply 60 = .ok (.getfield 20, 3) := by decide +kernel
theorem dX10_reply_63 : decode cX10_reply 63 = .ok (.iload_n 2, 1) := by decide +kernel
theorem dX10_reply_64 : decode cX10_reply 64 = .ok (.aaload, 1) := by decide +kernel
theorem dX10_reply_65 : decode cX10_reply 65 = .ok (.iload 5, 2) := by decide +kernel
theorem dX10_reply_67 : decode cX10_reply 67 = .ok (.iload 6, 2) := by decide +kernel
theorem dX10_reply_69 : decode cX10_reply 69 = .ok (.invokevirtual 280, 3) := by decide +kernel
theorem dX10_reply_72 : decode cX10_reply 72 = .ok (.istore 7, 2) := by decide +kernel
theorem dX10_reply_74 : decode cX10_reply 74 = .ok (.iload 4, 2) := by decide +kernel
theorem dX10_reply_76 : decode cX10_reply 76 = .ok (.aload_n 0, 1) := by decide +kernel
theorem dX10_reply_77 : decode cX10_reply 77 = .ok (.getfield 20, 3) := by decide +kernel
theorem dX10_reply_80 : decode cX10_reply 80 = .ok (.iload_n 1, 1) := by decide +kernel
theorem dX10_reply_81 : decode cX10_reply 81 = .ok (.aaload, 1) := by decide +kernel
theorem dX10_reply_82 : decode cX10_reply 82 = .ok (.iload 5, 2) := by decide +kernel
theorem dX10_reply_84 : decode cX10_reply 84 = .ok (.iload 6, 2) := by decide +kernel
theorem dX10_reply_86 : decode cX10_reply 86 = .ok (.iload 7, 2) := by decide +kernel
theorem dX10_reply_88 : decode cX10_reply 88 = .ok (.invokevirtual 189, 3) := by decide +kernel
theorem dX10_reply_91 : decode cX10_reply 91 = .ok (.iload 7, 2) := by decide +kernel
theorem dX10_reply_93 : decode cX10_reply 93 = .ok (.if_icmp .ne 7, 3) := by decide +kernel
theorem dX10_reply_96 : decode cX10_reply 96 = .ok (.iconst 0, 1) := by decide +kernel
theorem dX10_reply_97 : decode cX10_reply 97 = .ok (.goto 4, 3) := by decide +kernel
theorem dX10_reply_100 : decode cX10_reply 100 = .ok (.iconst 1, 1) := by decide +kernel
theorem dX10_reply_101 : decode cX10_reply 101 = .ok (.iadd, 1) := by decide +kernel
theorem dX10_reply_102 : decode cX10_reply 102 = .ok (.istore 4, 2) := by decide +kernel
theorem dX10_reply_104 : decode cX10_reply 104 = .ok (.iinc 6 1, 3) := by decide +kernel
theorem dX10_reply_107 : decode cX10_reply 107 = .ok (.goto (-56), 3) := by decide +kernel
theorem dX10_reply_110 : decode cX10_reply 110 = .ok (.iinc 5 1, 3) := by decide +kernel
theorem dX10_reply_113 : decode cX10_reply 113 = .ok (.goto (-93), 3) := by decide +kernel
theorem dX10_reply_116 : decode cX10_reply 116 = .ok (.iload 4, 2) := by decide +kernel
theorem dX10_reply_118 : decode cX10_reply 118 = .ok (.ireturn, 1) := by decide +kernel
set_option maxRecDepth 100000 in
set_option maxHeartbeats 4000000 in
theorem tb_X10_reply_51 {K : sd_K} {E : sd_Env}   {r : (Int32 × sd_Mem)} (C : sd_C K E sd_LC RX10 cX10_reply 8 (some .int))  {k20 : sd_Mem → Int32 → Int32 → Int32 → Int32 → Option (Int32 × sd_Mem)} (hk20 : ∀ (M : sd_Mem) (x1 : Int32) (x2 : Int32) (x4 : Int32) (x5 : Int32), k20 M x1 x2 x4 x5 = some r → sd_Z K rm_X10_reply E sd_LC 8 (sd_QI K E sd_LC r.1 r.2) M 20 [(0, .ref (E.2.2 0)), (1, .int x1), (2, .int x2), (4, .int x4), (5, .int x5)] []) : ∀ (n : Nat), ∀ (M : sd_Mem) (x1 : Int32) (x2 : Int32) (x4 : Int32) (x5 : Int32) (x6 : Int32), fn_X10_reply_51 k20 n M x1 x2 x4 x5 x6 = some r → sd_Z K rm_X10_reply E sd_LC 8 (sd_QI K E sd_LC r.1 r.2) M 51 [(0, .ref (E.2.2 0)), (1, .int x1), (2, .int x2), (4, .int x4), (5, .int x5), (6, .int x6)] [] := by
  intro n
  induction n with
  | zero => intro M x1 x2 x4 x5 x6 hF; cases hF
  | succ n ih =>
    intro M x1 x2 x4 x5 x6 hF
    unfold fn_X10_reply_51 at hF
    refine sd_iload C 5 dX10_reply_51 rfl rfl (n' := 53) ?_
    refine sd_bipush C (v := 10) dX10_reply_53 rfl rfl (n' := 55) ?_
    refine sd_icmp_gt C (n' := 58) (tgt := 110) dX10_reply_55 rfl rfl (fun c55 => ?_) (fun c55 => ?_)
    · replace hF := sd_pos hF c55
      refine sd_iinc [(5, .int (x5 + (1 : Int32))), (0, .ref (E.2.2 0)), (1, .int x1), (2, .int x2), (4, .int x4), (6, .int x6)] 4 C dX10_reply_110 rfl rfl (by decide) rfl rfl (n' := 113) ?_
      refine sd_goto C (tgt := 20) dX10_reply_113 rfl ?_
      refine sd_sub [1, 2, 3, 4, 0] rfl ?_
      exact hk20 M x1 x2 x4 (x5 + (1 : Int32)) hF
    · replace hF := sd_neg hF c55
      refine sd_aload_n C 0 dX10_reply_58 rfl rfl rfl (n' := 59) ?_
      refine sd_aload_n C 0 dX10_reply_59 rfl rfl rfl (n' := 60) ?_
      refine sd_g10_2 C sd_i0 sd_k0 sd_w330 dX10_reply_60 rfl (n' := 63) ?_
      refine sd_iload_n C 2 dX10_reply_63 rfl rfl rfl (n' := 64) ?_
      obtain ⟨b64, hF⟩ := sd_ok hF
      refine sd_wald C sd_i23 sd_k23 sd_n23 b64 dX10_reply_64 rfl (n' := 65) ?_
      refine sd_iload C 4 dX10_reply_65 rfl rfl (n' := 67) ?_
      refine sd_iload C 5 dX10_reply_67 rfl rfl (n' := 69) ?_
      obtain ⟨q69, e69, hF⟩ := sd_bind hF
      refine sd_callVI [.ref (E.2.2 (23 + 1 + 2 * x2.toNatClampNeg)), .int x5, .int x6] [] C (ct_X10_leastTaken M (23 + 1 + 2 * x2.toNatClampNeg) x5 x6 ((sd_r23 _ (sd_in_lt b64)).1) e69) sd_lX10_280 ⟨rfl, rfl, Nat.le_of_ble_eq_true rfl, Nat.le_of_ble_eq_true rfl⟩ sd_i0 (sd_e11 sd_k0) rfl rfl rfl (Nat.le_of_ble_eq_true rfl) dX10_reply_69 rfl (n' := 72) ?_
      refine sd_istore [(7, .int q69), (0, .ref (E.2.2 0)), (1, .int x1), (2, .int x2), (4, .int x4), (5, .int x5), (6, .int x6)] C dX10_reply_72 (by decide) rfl rfl (n' := 74) ?_
      refine sd_iload C 4 dX10_reply_74 rfl rfl (n' := 76) ?_
      refine sd_aload_n C 1 dX10_reply_76 rfl rfl rfl (n' := 77) ?_
      refine sd_g10_2 C sd_i0 sd_k0 sd_w330 dX10_reply_77 rfl (n' := 80) ?_
      refine sd_iload_n C 2 dX10_reply_80 rfl rfl rfl (n' := 81) ?_
      obtain ⟨b81, hF⟩ := sd_ok hF
      refine sd_wald C sd_i23 sd_k23 sd_n23 b81 dX10_reply_81 rfl (n' := 82) ?_
      refine sd_iload C 5 dX10_reply_82 rfl rfl (n' := 84) ?_
      refine sd_iload C 6 dX10_reply_84 rfl rfl (n' := 86) ?_
      refine sd_iload C 0 dX10_reply_86 rfl rfl (n' := 88) ?_
      obtain ⟨q88, e88, hF⟩ := sd_bind hF
      refine sd_callVI [.int x5, .int x6, .int q69] [.int x4] C (ct_X9_swap M (23 + 1 + 2 * x1.toNatClampNeg) x5 x6 q69 ((sd_r23 _ (sd_in_lt b81)).1) e88) sd_lX10_189 ⟨rfl, rfl, Nat.le_of_ble_eq_true rfl, Nat.le_of_ble_eq_true rfl⟩ (sd_mC (sd_r23 _ (sd_in_lt b81)).2) (sd_e10 ((sd_r23 _ (sd_in_lt b81)).1)) rfl rfl rfl (Nat.le_of_ble_eq_true rfl) dX10_reply_88 rfl (n' := 91) ?_
      refine sd_iload C 0 dX10_reply_91 rfl rfl (n' := 93) ?_
      refine sd_icmp_ne C (n' := 96) (tgt := 100) dX10_reply_93 rfl rfl (fun c93 => ?_) (fun c93 => ?_)
      · replace hF := sd_neg hF c93
        refine sd_iconst C (v := 1) dX10_reply_100 rfl rfl (n' := 101) ?_
        refine sd_iadd C dX10_reply_101 rfl (n' := 102) ?_
        refine sd_istore [(4, .int (x4 + (1 : Int32))), (7, .int q69), (0, .ref (E.2.2 0)), (1, .int x1), (2, .int x2), (5, .int x5), (6, .int x6)] C dX10_reply_102 (by decide) rfl rfl (n' := 104) ?_
        refine sd_iinc [(6, .int (x6 + (1 : Int32))), (4, .int (x4 + (1 : Int32))), (7, .int q69), (0, .ref (E.2.2 0)), (1, .int x1), (2, .int x2), (5, .int x5)] 6 C dX10_reply_104 rfl rfl (by decide) rfl rfl (n' := 107) ?_
        refine sd_goto C (tgt := 51) dX10_reply_107 rfl ?_
        refine sd_sub [3, 4, 5, 1, 6, 0] rfl ?_
        exact ih q88.2 x1 x2 (x4 + (1 : Int32)) x5 (x6 + (1 : Int32)) hF
      · replace hF := sd_pos hF c93
        refine sd_iconst C (v := 0) dX10_reply_96 rfl rfl (n' := 97) ?_
        refine sd_goto C (tgt := 101) dX10_reply_97 rfl ?_
        refine sd_iadd C dX10_reply_101 rfl (n' := 102) ?_
        refine sd_istore [(4, .int (x4 + (0 : Int32))), (7, .int q69), (0, .ref (E.2.2 0)), (1, .int x1), (2, .int x2), (5, .int x5), (6, .int x6)] C dX10_reply_102 (by decide) rfl rfl (n' := 104) ?_
        refine sd_iinc [(6, .int (x6 + (1 : Int32))), (4, .int (x4 + (0 : Int32))), (7, .int q69), (0, .ref (E.2.2 0)), (1, .int x1), (2, .int x2), (5, .int x5)] 6 C dX10_reply_104 rfl rfl (by decide) rfl rfl (n' := 107) ?_
        refine sd_goto C (tgt := 51) dX10_reply_107 rfl ?_
        refine sd_sub [3, 4, 5, 1, 6, 0] rfl ?_
        exact ih q88.2 x1 x2 (x4 + (0 : Int32)) x5 (x6 + (1 : Int32)) hF
set_option maxRecDepth 100000 in
set_option maxHeartbeats 4000000 in
theorem tb_X10_reply_20 {K : sd_K} {E : sd_Env}   {r : (Int32 × sd_Mem)} (C : sd_C K E sd_LC RX10 cX10_reply 8 (some .int))  : ∀ (n : Nat), ∀ (M : sd_Mem) (x1 : Int32) (x2 : Int32) (x4 : Int32) (x5 : Int32), fn_X10_reply_20 n M x1 x2 x4 x5 = some r → sd_Z K rm_X10_reply E sd_LC 8 (sd_QI K E sd_LC r.1 r.2) M 20 [(0, .ref (E.2.2 0)), (1, .int x1), (2, .int x2), (4, .int x4), (5, .int x5)] [] := by
  intro n
  induction n with
  | zero => intro M x1 x2 x4 x5 hF; cases hF
  | succ n ih =>
    intro M x1 x2 x4 x5 hF
    unfold fn_X10_reply_20 at hF
    refine sd_iload C 4 dX10_reply_20 rfl rfl (n' := 22) ?_
    refine sd_aload_n C 0 dX10_reply_22 rfl rfl rfl (n' := 23) ?_
    refine sd_g10_3 C sd_i0 sd_k0 sd_w331 dX10_reply_23 rfl (n' := 26) ?_
    refine sd_iconst C (v := 0) dX10_reply_26 rfl rfl (n' := 27) ?_
    obtain ⟨q27, e27, hF⟩ := sd_bind hF
    refine sd_callVI [.int (0 : Int32)] [.int x5] C (ct_X5_sorts M 40 (0 : Int32) sd_k40 e27) sd_lX10_149 ⟨rfl, rfl, Nat.le_of_ble_eq_true rfl, Nat.le_of_ble_eq_true rfl⟩ sd_i40 (sd_e6 sd_k40) rfl rfl rfl (Nat.le_of_ble_eq_true rfl) dX10_reply_27 rfl (n' := 30) ?_
    refine sd_icmp_ge C (n' := 33) (tgt := 116) dX10_reply_30 rfl rfl (fun c30 => ?_) (fun c30 => ?_)
    · replace hF := sd_pos hF c30
      refine sd_iload C 3 dX10_reply_116 rfl rfl (n' := 118) ?_
      exact sd_iret C dX10_reply_118 (sd_fst hF) (sd_snd hF)
    · replace hF := sd_neg hF c30
      refine sd_aload_n C 0 dX10_reply_33 rfl rfl rfl (n' := 34) ?_
      refine sd_g10_9 C sd_i0 sd_k0 sd_w337 dX10_reply_34 rfl (n' := 37) ?_
      refine sd_aload_n C 0 dX10_reply_37 rfl rfl rfl (n' := 38) ?_
      refine sd_g10_2 C sd_i0 sd_k0 sd_w330 dX10_reply_38 rfl (n' := 41) ?_
      refine sd_iload_n C 2 dX10_reply_41 rfl rfl rfl (n' := 42) ?_
      obtain ⟨b42, hF⟩ := sd_ok hF
      refine sd_wald C sd_i23 sd_k23 sd_n23 b42 dX10_reply_42 rfl (n' := 43) ?_
      refine sd_iload C 4 dX10_reply_43 rfl rfl (n' := 45) ?_
      obtain ⟨q45, e45, hF⟩ := sd_bind hF
      refine sd_callVV [.ref (E.2.2 (23 + 1 + 2 * x2.toNatClampNeg)), .int x5] [] C (ct_X0_weighTaking M (23 + 1 + 2 * x2.toNatClampNeg) x5 ((sd_r23 _ (sd_in_lt b42)).1) e45) sd_lX10_276 ⟨rfl, rfl, Nat.le_of_ble_eq_true rfl, Nat.le_of_ble_eq_true rfl⟩ sd_i63 (sd_e1 sd_k63) rfl rfl rfl (Nat.le_of_ble_eq_true rfl) dX10_reply_45 rfl (n' := 48) ?_
      refine sd_iconst C (v := 1) dX10_reply_48 rfl rfl (n' := 49) ?_
      refine sd_istore [(6, .int (1 : Int32)), (0, .ref (E.2.2 0)), (1, .int x1), (2, .int x2), (4, .int x4), (5, .int x5)] C dX10_reply_49 (by decide) rfl rfl (n' := 51) ?_
      refine sd_sub [1, 2, 3, 4, 5, 0] rfl ?_
      exact tb_X10_reply_51 C ih sd_FU q45 x1 x2 x4 x5 (1 : Int32) hF
set_option maxRecDepth 100000 in
set_option maxHeartbeats 4000000 in
theorem tb_X10_reply_0 {K : sd_K} {E : sd_Env}   {r : (Int32 × sd_Mem)} (C : sd_C K E sd_LC RX10 cX10_reply 8 (some .int))  : ∀ (M : sd_Mem) (x1 : Int32) (x2 : Int32), fn_X10_reply_0 M x1 x2 = some r → sd_Z K rm_X10_reply E sd_LC 8 (sd_QI K E sd_LC r.1 r.2) M 0 [(0, .ref (E.2.2 0)), (1, .int x1), (2, .int x2)] [] := by
  intro M x1 x2 hF
  unfold fn_X10_reply_0 at hF
  refine sd_aload_n C 0 dX10_reply_0 rfl rfl rfl (n' := 1) ?_
  refine sd_iload_n C 2 dX10_reply_1 rfl rfl rfl (n' := 2) ?_
  refine sd_iload_n C 1 dX10_reply_2 rfl rfl rfl (n' := 3) ?_
  refine sd_iconst C (v := 0) dX10_reply_3 rfl rfl (n' := 4) ?_
  obtain ⟨q4, e4, hF⟩ := sd_bind hF
  refine sd_callVI [.int x2, .int x1, .int (0 : Int32)] [] C (ct_X10_refusePair M x2 x1 (0 : Int32)  e4) sd_lX10_216 ⟨rfl, rfl, Nat.le_of_ble_eq_true rfl, Nat.le_of_ble_eq_true rfl⟩ sd_i0 (sd_e11 sd_k0) rfl rfl rfl (Nat.le_of_ble_eq_true rfl) dX10_reply_4 rfl (n' := 7) ?_
  refine sd_istore_n [(3, .int q4.1), (0, .ref (E.2.2 0)), (1, .int x1), (2, .int x2)] C dX10_reply_7 rfl (by decide) rfl rfl (n' := 8) ?_
  refine sd_iload_n C 0 dX10_reply_8 rfl rfl rfl (n' := 9) ?_
  refine sd_if_eq C (n' := 12) (tgt := 14) dX10_reply_9 rfl rfl (fun c9 => ?_) (fun c9 => ?_)
  · replace hF := sd_pos hF c9
    refine sd_iconst C (v := 0) dX10_reply_14 rfl rfl (n' := 15) ?_
    refine sd_istore [(4, .int (0 : Int32)), (3, .int q4.1), (0, .ref (E.2.2 0)), (1, .int x1), (2, .int x2)] C dX10_reply_15 (by decide) rfl rfl (n' := 17) ?_
    refine sd_iconst C (v := 0) dX10_reply_17 rfl rfl (n' := 18) ?_
    refine sd_istore [(5, .int (0 : Int32)), (4, .int (0 : Int32)), (3, .int q4.1), (0, .ref (E.2.2 0)), (1, .int x1), (2, .int x2)] C dX10_reply_18 (by decide) rfl rfl (n' := 20) ?_
    refine sd_sub [3, 4, 5, 1, 0] rfl ?_
    exact tb_X10_reply_20 C sd_FU q4.2 x1 x2 (0 : Int32) (0 : Int32) hF
  · replace hF := sd_neg hF c9
    refine sd_iload_n C 0 dX10_reply_12 rfl rfl rfl (n' := 13) ?_
    exact sd_iret C dX10_reply_13 (sd_fst hF) (sd_snd hF)
theorem ct_X10_reply {l : Launch} {E : sd_Env} (M : sd_Mem) (x1 : Int32) (x2 : Int32)  {r : (Int32 × sd_Mem)} (hF : fn_X10_reply M x1 x2 = some r) : sd_MI l E sd_LC yX10_reply cX10_reply 8 (some .int) rm_X10_reply [.ref (E.2.2 0), .int x1, .int x2] M r.1 r.2 := sd_ent0 (by decide +kernel) (Nat.le_of_ble_eq_true rfl) (fun p e s m below meth c C => tb_X10_reply_0 C M x1 x2 hF)
theorem dX7_lostDays_0 : decode cX7_lostDays 0 = .ok (.lconst 0, 1) := by decide +kernel
theorem dX7_lostDays_1 : decode cX7_lostDays 1 = .ok (.lstore_n 3, 1) := by decide +kernel
theorem dX7_lostDays_2 : decode cX7_lostDays 2 = .ok (.iconst 1, 1) := by decide +kernel
theorem dX7_lostDays_3 : decode cX7_lostDays 3 = .ok (.istore 5, 2) := by decide +kernel
theorem dX7_lostDays_5 : decode cX7_lostDays 5 = .ok (.iload 5, 2) := by decide +kernel
theorem dX7_lostDays_7 : decode cX7_lostDays 7 = .ok (.aload_n 0, 1) := by decide +kernel
theorem dX7_lostDays_8 : decode cX7_lostDays 8 = .ok (.getfield 9, 3) := by decide +kernel
theorem dX7_lostDays_11 : decode cX7_lostDays 11 = .ok (.getfield 25, 3) := by decide +kernel
theorem dX7_lostDays_14 : decode cX7_lostDays 14 = .ok (.iconst 1, 1) := by decide +kernel
theorem dX7_lostDays_15 : decode cX7_lostDays 15 = .ok (.iadd, 1) := by decide +kernel
theorem dX7_lostDays_16 : decode cX7_lostDays 16 = .ok (.if_icmp .gt 26, 3) := by decide +kernel
theorem dX7_lostDays_19 : decode cX7_lostDays 19 = .ok (.lload_n 3, 1) := by decide +kernel
theorem dX7_lostDays_20 : decode cX7_lostDays 20 = .ok (.iload 5, 2) := by decide +kernel
theorem dX7_lostDays_22 : decode cX7_lostDays 22 = .ok (.iconst 1, 1) := by decide +kernel
theorem dX7_lostDays_23 : decode cX7_lostDays 23 = .ok (.isub, 1) := by decide +kernel
theorem dX7_lostDays_24 : decode cX7_lostDays 24 = .ok (.i2l, 1) := by decide +kernel
theorem dX7_lostDays_25 : decode cX7_lostDays 25 = .ok (.aload_n 0, 1) := by decide +kernel
theorem dX7_lostDays_26 : decode cX7_lostDays 26 = .ok (.aload_n 1, 1) := by decide +kernel
theorem dX7_lostDays_27 : decode cX7_lostDays 27 = .ok (.aload_n 2, 1) := by decide +kernel
theorem dX7_lostDays_28 : decode cX7_lostDays 28 = .ok (.iload 5, 2) := by decide +kernel
theorem dX7_lostDays_30 : decode cX7_lostDays 30 = .ok (.invokevirtual 100, 3) := by decide +kernel
theorem dX7_lostDays_33 : decode cX7_lostDays 33 = .ok (.lmul, 1) := by decide +kernel
theorem dX7_lostDays_34 : decode cX7_lostDays 34 = .ok (.ladd, 1) := by decide +kernel
theorem dX7_lostDays_35 : decode cX7_lostDays 35 = .ok (.lstore_n 3, 1) := by decide +kernel
theorem dX7_lostDays_36 : decode cX7_lostDays 36 = .ok (.iinc 5 1, 3) := by decide +kernel
theorem dX7_lostDays_39 : decode cX7_lostDays 39 = .ok (.goto (-34), 3) := by decide +kernel
theorem dX7_lostDays_42 : decode cX7_lostDays 42 = .ok (.lload_n 3, 1) := by decide +kernel
theorem dX7_lostDays_43 : decode cX7_lostDays 43 = .ok (.lreturn, 1) := by decide +kernel
set_option maxRecDepth 100000 in
set_option maxHeartbeats 4000000 in
theorem tb_X7_lostDays_5 {K : sd_K} {E : sd_Env} {M : sd_Mem} {h0 h1 h2 : Nat} {r : Int64} (C : sd_C K E sd_LC RX7 cX7_lostDays 6 (some .long)) (k0 : sd_kd h0 = 8) (k1 : sd_kd h1 = 10) (k2 : sd_kd h2 = 10) : ∀ (n : Nat), ∀ (l3 : Int64) (x5 : Int32), fn_X7_lostDays_5 M h0 h1 h2 n l3 x5 = some r → sd_Z K rm_X7_lostDays E sd_LC 6 (sd_QL K E sd_LC r M) M 5 [(0, .ref (E.2.2 h0)), (1, .ref (E.2.2 h1)), (2, .ref (E.2.2 h2)), (3, .long l3), (5, .int x5)] [] := by
  intro n
  induction n with
  | zero => intro l3 x5 hF; cases hF
  | succ n ih =>
    intro l3 x5 hF
    unfold fn_X7_lostDays_5 at hF
    refine sd_iload C 4 dX7_lostDays_5 rfl rfl (n' := 7) ?_
    refine sd_aload_n C 0 dX7_lostDays_7 rfl rfl rfl (n' := 8) ?_
    refine sd_g7_0 C (sd_mC (sd_m8 k0)) k0 sd_w214 dX7_lostDays_8 rfl (n' := 11) ?_
    refine sd_gN5_6 C sd_i40 sd_k40 sd_w141 dX7_lostDays_11 rfl (n' := 14) ?_
    refine sd_iconst C (v := 1) dX7_lostDays_14 rfl rfl (n' := 15) ?_
    refine sd_iadd C dX7_lostDays_15 rfl (n' := 16) ?_
    refine sd_icmp_gt C (n' := 19) (tgt := 42) dX7_lostDays_16 rfl rfl (fun c16 => ?_) (fun c16 => ?_)
    · replace hF := sd_pos hF c16
      refine sd_lload_n C 3 dX7_lostDays_42 rfl rfl rfl (n' := 43) ?_
      exact sd_lret C dX7_lostDays_43 (Option.some.inj hF) rfl
    · replace hF := sd_neg hF c16
      refine sd_lload_n C 3 dX7_lostDays_19 rfl rfl rfl (n' := 20) ?_
      refine sd_iload C 4 dX7_lostDays_20 rfl rfl (n' := 22) ?_
      refine sd_iconst C (v := 1) dX7_lostDays_22 rfl rfl (n' := 23) ?_
      refine sd_isub C dX7_lostDays_23 rfl (n' := 24) ?_
      refine sd_i2l C dX7_lostDays_24 rfl (n' := 25) ?_
      refine sd_aload_n C 0 dX7_lostDays_25 rfl rfl rfl (n' := 26) ?_
      refine sd_aload_n C 1 dX7_lostDays_26 rfl rfl rfl (n' := 27) ?_
      refine sd_aload_n C 2 dX7_lostDays_27 rfl rfl rfl (n' := 28) ?_
      refine sd_iload C 4 dX7_lostDays_28 rfl rfl (n' := 30) ?_
      obtain ⟨q30, e30, hF⟩ := sd_bind hF
      refine sd_callVL [.ref (E.2.2 h1), .ref (E.2.2 h2), .int x5] [.long ((x5 - (1 : Int32)).toInt64), .long l3] C (ct_X7_endingWeight M h0 h1 h2 x5 k0 k1 k2 e30) sd_lX7_100 ⟨rfl, rfl, Nat.le_of_ble_eq_true rfl, Nat.le_of_ble_eq_true rfl⟩ (sd_mC (sd_m8 k0)) (sd_e8 k0) rfl rfl rfl (Nat.le_of_ble_eq_true rfl) dX7_lostDays_30 rfl (n' := 33) ?_
      refine sd_lmul C dX7_lostDays_33 rfl (n' := 34) ?_
      refine sd_ladd C dX7_lostDays_34 rfl (n' := 35) ?_
      refine sd_lstore_n [(3, .long (l3 + (((x5 - (1 : Int32)).toInt64) * q30))), (0, .ref (E.2.2 h0)), (1, .ref (E.2.2 h1)), (2, .ref (E.2.2 h2)), (5, .int x5)] C dX7_lostDays_35 rfl (by decide) rfl rfl (n' := 36) ?_
      refine sd_iinc [(5, .int (x5 + (1 : Int32))), (3, .long (l3 + (((x5 - (1 : Int32)).toInt64) * q30))), (0, .ref (E.2.2 h0)), (1, .ref (E.2.2 h1)), (2, .ref (E.2.2 h2))] 4 C dX7_lostDays_36 rfl rfl (by decide) rfl rfl (n' := 39) ?_
      refine sd_goto C (tgt := 5) dX7_lostDays_39 rfl ?_
      refine sd_sub [2, 3, 4, 1, 0] rfl ?_
      exact ih (l3 + (((x5 - (1 : Int32)).toInt64) * q30)) (x5 + (1 : Int32)) hF
set_option maxRecDepth 100000 in
set_option maxHeartbeats 4000000 in
theorem tb_X7_lostDays_0 {K : sd_K} {E : sd_Env} {M : sd_Mem} {h0 h1 h2 : Nat} {r : Int64} (C : sd_C K E sd_LC RX7 cX7_lostDays 6 (some .long)) (k0 : sd_kd h0 = 8) (k1 : sd_kd h1 = 10) (k2 : sd_kd h2 = 10) : fn_X7_lostDays_0 M h0 h1 h2 = some r → sd_Z K rm_X7_lostDays E sd_LC 6 (sd_QL K E sd_LC r M) M 0 [(0, .ref (E.2.2 h0)), (1, .ref (E.2.2 h1)), (2, .ref (E.2.2 h2))] [] := by
  intro hF
  unfold fn_X7_lostDays_0 at hF
  refine sd_lconst C (v := 0) dX7_lostDays_0 rfl rfl (n' := 1) ?_
  refine sd_lstore_n [(3, .long (0 : Int64)), (0, .ref (E.2.2 h0)), (1, .ref (E.2.2 h1)), (2, .ref (E.2.2 h2))] C dX7_lostDays_1 rfl (by decide) rfl rfl (n' := 2) ?_
  refine sd_iconst C (v := 1) dX7_lostDays_2 rfl rfl (n' := 3) ?_
  refine sd_istore [(5, .int (1 : Int32)), (3, .long (0 : Int64)), (0, .ref (E.2.2 h0)), (1, .ref (E.2.2 h1)), (2, .ref (E.2.2 h2))] C dX7_lostDays_3 (by decide) rfl rfl (n' := 5) ?_
  refine sd_sub [2, 3, 4, 1, 0] rfl ?_
  exact tb_X7_lostDays_5 C k0 k1 k2 sd_FU (0 : Int64) (1 : Int32) hF
theorem ct_X7_lostDays {l : Launch} {E : sd_Env} (M : sd_Mem) (h0 : Nat) (h1 : Nat) (h2 : Nat) (k0 : sd_kd h0 = 8) (k1 : sd_kd h1 = 10) (k2 : sd_kd h2 = 10) {r : Int64} (hF : fn_X7_lostDays M h0 h1 h2 = some r) : sd_ML l E sd_LC yX7_lostDays cX7_lostDays 6 (some .long) rm_X7_lostDays [.ref (E.2.2 h0), .ref (E.2.2 h1), .ref (E.2.2 h2)] M r M := sd_ent0 (by decide +kernel) (Nat.le_of_ble_eq_true rfl) (fun p e s m below meth c C => tb_X7_lostDays_0 C k0 k1 k2 hF)
theorem dX10_longer_0 : decode cX10_longer 0 = .ok (.aload_n 0, 1) := by decide +kernel
theorem dX10_longer_1 : decode cX10_longer 1 = .ok (.iload_n 1, 1) := by decide +kernel
theorem dX10_longer_2 : decode cX10_longer 2 = .ok (.iload_n 2, 1) := by decide +kernel
theorem dX10_longer_3 : decode cX10_longer 3 = .ok (.iconst 1, 1) := by decide +kernel
theorem dX10_longer_4 : decode cX10_longer 4 = .ok (.invokevirtual 216, 3) := by decide +kernel
theorem dX10_longer_7 : decode cX10_longer 7 = .ok (.istore_n 3, 1) := by decide +kernel
theorem dX10_longer_8 : decode cX10_longer 8 = .ok (.iload_n 3, 1) := by decide +kernel
theorem dX10_longer_9 : decode cX10_longer 9 = .ok (.ifCond .eq 5, 3) := by decide +kernel
theorem dX10_longer_12 : decode cX10_longer 12 = .ok (.iload_n 3, 1) := by decide +kernel
theorem dX10_longer_13 : decode cX10_longer 13 = .ok (.ireturn, 1) := by decide +kernel
theorem dX10_longer_14 : decode cX10_longer 14 = .ok (.aload_n 0, 1) := by decide +kernel
theorem dX10_longer_15 : decode cX10_longer 15 = .ok (.getfield 77, 3) := by decide +kernel
theorem dX10_longer_18 : decode cX10_longer 18 = .ok (.aload_n 0, 1) := by decide +kernel
theorem dX10_longer_19 : decode cX10_longer 19 = .ok (.getfield 53, 3) := by decide +kernel
theorem dX10_longer_22 : decode cX10_longer 22 = .ok (.aload_n 0, 1) := by decide +kernel
theorem dX10_longer_23 : decode cX10_longer 23 = .ok (.getfield 20, 3) := by decide +kernel
theorem dX10_longer_26 : decode cX10_longer 26 = .ok (.iload_n 1, 1) := by decide +kernel
theorem dX10_longer_27 : decode cX10_longer 27 = .ok (.aaload, 1) := by decide +kernel
theorem dX10_longer_28 : decode cX10_longer 28 = .ok (.aload_n 0, 1) := by decide +kernel
theorem dX10_longer_29 : decode cX10_longer 29 = .ok (.getfield 20, 3) := by decide +kernel
theorem dX10_longer_32 : decode cX10_longer 32 = .ok (.iload_n 2, 1) := by decide +kernel
theorem dX10_longer_33 : decode cX10_longer 33 = .ok (.aaload, 1) := by decide +kernel
theorem dX10_longer_34 : decode cX10_longer 34 = .ok (.invokevirtual 283, 3) := by decide +kernel
theorem dX10_longer_37 : decode cX10_longer 37 = .ok (.aload_n 0, 1) := by decide +kernel
theorem dX10_longer_38 : decode cX10_longer 38 = .ok (.getfield 27, 3) := by decide +kernel
theorem dX10_longer_41 : decode cX10_longer 41 = .ok (.invokevirtual 261, 3) := by decide +kernel
theorem dX10_longer_44 : decode cX10_longer 44 = .ok (.invokevirtual 236, 3) := by decide +kernel
theorem dX10_longer_47 : decode cX10_longer 47 = .ok (.iconst 1, 1) := by decide +kernel
theorem dX10_longer_48 : decode cX10_longer 48 = .ok (.ireturn, 1) := by decide +kernel
set_option maxRecDepth 100000 in
set_option maxHeartbeats 4000000 in
theorem tb_X10_longer_0 {K : sd_K} {E : sd_Env}   {r : (Int32 × sd_Mem)} (C : sd_C K E sd_LC RX10 cX10_longer 4 (some .int))  : ∀ (M : sd_Mem) (x1 : Int32) (x2 : Int32), fn_X10_longer_0 M x1 x2 = some r → sd_Z K rm_X10_longer E sd_LC 4 (sd_QI K E sd_LC r.1 r.2) M 0 [(0, .ref (E.2.2 0)), (1, .int x1), (2, .int x2)] [] := by
  intro M x1 x2 hF
  unfold fn_X10_longer_0 at hF
  refine sd_aload_n C 0 dX10_longer_0 rfl rfl rfl (n' := 1) ?_
  refine sd_iload_n C 1 dX10_longer_1 rfl rfl rfl (n' := 2) ?_
  refine sd_iload_n C 2 dX10_longer_2 rfl rfl rfl (n' := 3) ?_
  refine sd_iconst C (v := 1) dX10_longer_3 rfl rfl (n' := 4) ?_
  obtain ⟨q4, e4, hF⟩ := sd_bind hF
  refine sd_callVI [.int x1, .int x2, .int (1 : Int32)] [] C (ct_X10_refusePair M x1 x2 (1 : Int32)  e4) sd_lX10_216 ⟨rfl, rfl, Nat.le_of_ble_eq_true rfl, Nat.le_of_ble_eq_true rfl⟩ sd_i0 (sd_e11 sd_k0) rfl rfl rfl (Nat.le_of_ble_eq_true rfl) dX10_longer_4 rfl (n' := 7) ?_
  refine sd_istore_n [(3, .int q4.1), (0, .ref (E.2.2 0)), (1, .int x1), (2, .int x2)] C dX10_longer_7 rfl (by decide) rfl rfl (n' := 8) ?_
  refine sd_iload_n C 0 dX10_longer_8 rfl rfl rfl (n' := 9) ?_
  refine sd_if_eq C (n' := 12) (tgt := 14) dX10_longer_9 rfl rfl (fun c9 => ?_) (fun c9 => ?_)
  · replace hF := sd_pos hF c9
    refine sd_aload_n C 1 dX10_longer_14 rfl rfl rfl (n' := 15) ?_
    refine sd_g10_11 C sd_i0 sd_k0 sd_w339 dX10_longer_15 rfl (n' := 18) ?_
    refine sd_aload_n C 1 dX10_longer_18 rfl rfl rfl (n' := 19) ?_
    refine sd_g10_7 C sd_i0 sd_k0 sd_w335 dX10_longer_19 rfl (n' := 22) ?_
    refine sd_aload_n C 1 dX10_longer_22 rfl rfl rfl (n' := 23) ?_
    refine sd_g10_2 C sd_i0 sd_k0 sd_w330 dX10_longer_23 rfl (n' := 26) ?_
    refine sd_iload_n C 2 dX10_longer_26 rfl rfl rfl (n' := 27) ?_
    obtain ⟨b27, hF⟩ := sd_ok hF
    refine sd_wald C sd_i23 sd_k23 sd_n23 b27 dX10_longer_27 rfl (n' := 28) ?_
    refine sd_aload_n C 1 dX10_longer_28 rfl rfl rfl (n' := 29) ?_
    refine sd_g10_2 C sd_i0 sd_k0 sd_w330 dX10_longer_29 rfl (n' := 32) ?_
    refine sd_iload_n C 3 dX10_longer_32 rfl rfl rfl (n' := 33) ?_
    obtain ⟨b33, hF⟩ := sd_ok hF
    refine sd_wald C sd_i23 sd_k23 sd_n23 b33 dX10_longer_33 rfl (n' := 34) ?_
    obtain ⟨q34, e34, hF⟩ := sd_bind hF
    refine sd_callVL [.ref (E.2.2 (23 + 1 + 2 * x1.toNatClampNeg)), .ref (E.2.2 (23 + 1 + 2 * x2.toNatClampNeg))] [.ref (E.2.2 96)] C (ct_X7_lostDays q4.2 61 (23 + 1 + 2 * x1.toNatClampNeg) (23 + 1 + 2 * x2.toNatClampNeg) sd_k61 ((sd_r23 _ (sd_in_lt b27)).1) ((sd_r23 _ (sd_in_lt b33)).1) e34) sd_lX10_283 ⟨rfl, rfl, Nat.le_of_ble_eq_true rfl, Nat.le_of_ble_eq_true rfl⟩ sd_i61 (sd_e8 sd_k61) rfl rfl rfl (Nat.le_of_ble_eq_true rfl) dX10_longer_34 rfl (n' := 37) ?_
    refine sd_aload_n C 1 dX10_longer_37 rfl rfl rfl (n' := 38) ?_
    refine sd_g10_3 C sd_i0 sd_k0 sd_w331 dX10_longer_38 rfl (n' := 41) ?_
    obtain ⟨q41, e41, hF⟩ := sd_bind hF
    refine sd_callVL [] [.long q34, .ref (E.2.2 96)] C (ct_X5_pairs q4.2 40 sd_k40 e41) sd_lX10_261 ⟨rfl, rfl, Nat.le_of_ble_eq_true rfl, Nat.le_of_ble_eq_true rfl⟩ sd_i40 (sd_e6 sd_k40) rfl rfl rfl (Nat.le_of_ble_eq_true rfl) dX10_longer_41 rfl (n' := 44) ?_
    obtain ⟨q44, e44, hF⟩ := sd_bind hF
    refine sd_callVV [.long q34, .long q41] [] C (ct_X3_tell q4.2 q34 q41  e44) sd_lX10_236 ⟨rfl, rfl, Nat.le_of_ble_eq_true rfl, Nat.le_of_ble_eq_true rfl⟩ sd_i96 (sd_e4 sd_k96) rfl rfl rfl (Nat.le_of_ble_eq_true rfl) dX10_longer_44 rfl (n' := 47) ?_
    refine sd_iconst C (v := 1) dX10_longer_47 rfl rfl (n' := 48) ?_
    exact sd_iret C dX10_longer_48 (sd_fst hF) (sd_snd hF)
  · replace hF := sd_neg hF c9
    refine sd_iload_n C 0 dX10_longer_12 rfl rfl rfl (n' := 13) ?_
    exact sd_iret C dX10_longer_13 (sd_fst hF) (sd_snd hF)
theorem ct_X10_longer {l : Launch} {E : sd_Env} (M : sd_Mem) (x1 : Int32) (x2 : Int32)  {r : (Int32 × sd_Mem)} (hF : fn_X10_longer M x1 x2 = some r) : sd_MI l E sd_LC yX10_longer cX10_longer 4 (some .int) rm_X10_longer [.ref (E.2.2 0), .int x1, .int x2] M r.1 r.2 := sd_ent0 (by decide +kernel) (Nat.le_of_ble_eq_true rfl) (fun p e s m below meth c C => tb_X10_longer_0 C M x1 x2 hF)
theorem dX7_lostGoods_0 : decode cX7_lostGoods 0 = .ok (.lconst 0, 1) := by decide +kernel
theorem dX7_lostGoods_1 : decode cX7_lostGoods 1 = .ok (.lstore_n 3, 1) := by decide +kernel
theorem dX7_lostGoods_2 : decode cX7_lostGoods 2 = .ok (.iconst 0, 1) := by decide +kernel
theorem dX7_lostGoods_3 : decode cX7_lostGoods 3 = .ok (.istore 5, 2) := by decide +kernel
theorem dX7_lostGoods_5 : decode cX7_lostGoods 5 = .ok (.iload 5, 2) := by decide +kernel
theorem dX7_lostGoods_7 : decode cX7_lostGoods 7 = .ok (.aload_n 0, 1) := by decide +kernel
theorem dX7_lostGoods_8 : decode cX7_lostGoods 8 = .ok (.getfield 9, 3) := by decide +kernel
theorem dX7_lostGoods_11 : decode cX7_lostGoods 11 = .ok (.iconst 1, 1) := by decide +kernel
theorem dX7_lostGoods_12 : decode cX7_lostGoods 12 = .ok (.invokevirtual 44, 3) := by decide +kernel
theorem dX7_lostGoods_15 : decode cX7_lostGoods 15 = .ok (.if_icmp .ge 91, 3) := by decide +kernel
theorem dX7_lostGoods_18 : decode cX7_lostGoods 18 = .ok (.iconst 0, 1) := by decide +kernel
theorem dX7_lostGoods_19 : decode cX7_lostGoods 19 = .ok (.istore 6, 2) := by decide +kernel
theorem dX7_lostGoods_21 : decode cX7_lostGoods 21 = .ok (.iload 6, 2) := by decide +kernel
theorem dX7_lostGoods_23 : decode cX7_lostGoods 23 = .ok (.aload_n 0, 1) := by decide +kernel
theorem dX7_lostGoods_24 : decode cX7_lostGoods 24 = .ok (.getfield 9, 3) := by decide +kernel
theorem dX7_lostGoods_27 : decode cX7_lostGoods 27 = .ok (.iconst 0, 1) := by decide +kernel
theorem dX7_lostGoods_28 : decode cX7_lostGoods 28 = .ok (.invokevirtual 44, 3) := by decide +kernel
theorem dX7_lostGoods_31 : decode cX7_lostGoods 31 = .ok (.if_icmp .ge 69, 3) := by decide +kernel
theorem dX7_lostGoods_34 : decode cX7_lostGoods 34 = .ok (.aload_n 0, 1) := by decide +kernel
theorem dX7_lostGoods_35 : decode cX7_lostGoods 35 = .ok (.getfield 9, 3) := by decide +kernel
theorem dX7_lostGoods_38 : decode cX7_lostGoods 38 = .ok (.getfield 107, 3) := by decide +kernel
theorem dX7_lostGoods_41 : decode cX7_lostGoods 41 = .ok (.aload_n 0, 1) := by decide +kernel
theorem dX7_lostGoods_42 : decode cX7_lostGoods 42 = .ok (.getfield 9, 3) := by decide +kernel
theorem dX7_lostGoods_45 : decode cX7_lostGoods 45 = .ok (.iconst 1, 1) := by decide +kernel
theorem dX7_lostGoods_46 : decode cX7_lostGoods 46 = .ok (.iload 5, 2) := by decide +kernel
theorem dX7_lostGoods_48 : decode cX7_lostGoods 48 = .ok (.invokevirtual 110, 3) := by decide +kernel
theorem dX7_lostGoods_51 : decode cX7_lostGoods 51 = .ok (.iadd, 1) := by decide +kernel
theorem dX7_lostGoods_52 : decode cX7_lostGoods 52 = .ok (.aload_n 0, 1) := by decide +kernel
theorem dX7_lostGoods_53 : decode cX7_lostGoods 53 = .ok (.getfield 9, 3) := by decide +kernel
theorem dX7_lostGoods_56 : decode cX7_lostGoods 56 = .ok (.iconst 0, 1) := by decide +kernel
theorem dX7_lostGoods_57 : decode cX7_lostGoods 57 = .ok (.iload 6, 2) := by decide +kernel
theorem dX7_lostGoods_59 : decode cX7_lostGoods 59 = .ok (.invokevirtual 110, 3) := by decide +kernel
theorem dX7_lostGoods_62 : decode cX7_lostGoods 62 = .ok (.iadd, 1) := by decide +kernel
theorem dX7_lostGoods_63 : decode cX7_lostGoods 63 = .ok (.i2l, 1) := by decide +kernel
theorem dX7_lostGoods_64 : decode cX7_lostGoods 64 = .ok (.lstore 7, 2) := by decide +kernel
theorem dX7_lostGoods_66 : decode cX7_lostGoods 66 = .ok (.lload_n 3, 1) := by decide +kernel
theorem dX7_lostGoods_67 : decode cX7_lostGoods 67 = .ok (.aload_n 0, 1) := by decide +kernel
theorem dX7_lostGoods_68 : decode cX7_lostGoods 68 = .ok (.iload 5, 2) := by decide +kernel
theorem dX7_lostGoods_70 : decode cX7_lostGoods 70 = .ok (.iload 6, 2) := by decide +kernel
theorem dX7_lostGoods_72 : decode cX7_lostGoods 72 = .ok (.invokevirtual 96, 3) := by decide +kernel
theorem dX7_lostGoods_75 : decode cX7_lostGoods 75 = .ok (.lload 7, 2) := by decide +kernel
theorem dX7_lostGoods_77 : decode cX7_lostGoods 77 = .ok (.lmul, 1) := by decide +kernel
theorem dX7_lostGoods_78 : decode cX7_lostGoods 78 = .ok (.aload_n 0, 1) := by decide +kernel
theorem dX7_lostGoods_79 : decode cX7_lostGoods 79 = .ok (.aload_n 1, 1) := by decide +kernel
theorem dX7_lostGoods_80 : decode cX7_lostGoods 80 = .ok (.aload_n 2, 1) := by decide +kernel
theorem dX7_lostGoods_81 : decode cX7_lostGoods 81 = .ok (.iload 5, 2) := by decide +kernel
theorem dX7_lostGoods_83 : decode cX7_lostGoods 83 = .ok (.iload 6, 2) := by decide +kernel
theorem dX7_lostGoods_85 : decode cX7_lostGoods 85 = .ok (.invokevirtual 58, 3) := by decide +kernel
theorem dX7_lostGoods_88 : decode cX7_lostGoods 88 = .ok (.iconst 1, 1) := by decide +kernel
theorem dX7_lostGoods_89 : decode cX7_lostGoods 89 = .ok (.isub, 1) := by decide +kernel
theorem dX7_lostGoods_90 : decode cX7_lostGoods 90 = .ok (.i2l, 1) := by decide +kernel
theorem dX7_lostGoods_91 : decode cX7_lostGoods 91 = .ok (.lmul, 1) := by decide +kernel
theorem dX7_lostGoods_92 : decode cX7_lostGoods 92 = .ok (.ladd, 1) := by decide +kernel
theorem dX7_lostGoods_93 : decode cX7_lostGoods 93 = .ok (.lstore_n 3, 1) := by decide +kernel
theorem dX7_lostGoods_94 : decode cX7_lostGoods 94 = .ok (.iinc 6 1, 3) := by decide +kernel
theorem dX7_lostGoods_97 : decode cX7_lostGoods 97 = .ok (.goto (-76), 3) := by decide +kernel
theorem dX7_lostGoods_100 : decode cX7_lostGoods 100 = .ok (.iinc 5 1, 3) := by decide +kernel
theorem dX7_lostGoods_103 : decode cX7_lostGoods 103 = .ok (.goto (-98), 3) := by decide +kernel
theorem dX7_lostGoods_106 : decode cX7_lostGoods 106 = .ok (.lload_n 3, 1) := by decide +kernel
theorem dX7_lostGoods_107 : decode cX7_lostGoods 107 = .ok (.lreturn, 1) := by decide +kernel
set_option maxRecDepth 100000 in
set_option maxHeartbeats 4000000 in
theorem tb_X7_lostGoods_21 {K : sd_K} {E : sd_Env} {M : sd_Mem} {h0 h1 h2 : Nat} {r : Int64} (C : sd_C K E sd_LC RX7 cX7_lostGoods 9 (some .long)) (k0 : sd_kd h0 = 8) (k1 : sd_kd h1 = 10) (k2 : sd_kd h2 = 10) {k5 : Int64 → Int32 → Option Int64} (hk5 : ∀ (l3 : Int64) (x5 : Int32), k5 l3 x5 = some r → sd_Z K rm_X7_lostGoods E sd_LC 9 (sd_QL K E sd_LC r M) M 5 [(0, .ref (E.2.2 h0)), (1, .ref (E.2.2 h1)), (2, .ref (E.2.2 h2)), (3, .long l3), (5, .int x5)] []) : ∀ (n : Nat), ∀ (l3 : Int64) (x5 : Int32) (x6 : Int32), fn_X7_lostGoods_21 M h0 h1 h2 k5 n l3 x5 x6 = some r → sd_Z K rm_X7_lostGoods E sd_LC 9 (sd_QL K E sd_LC r M) M 21 [(0, .ref (E.2.2 h0)), (1, .ref (E.2.2 h1)), (2, .ref (E.2.2 h2)), (3, .long l3), (5, .int x5), (6, .int x6)] [] := by
  intro n
  induction n with
  | zero => intro l3 x5 x6 hF; cases hF
  | succ n ih =>
    intro l3 x5 x6 hF
    unfold fn_X7_lostGoods_21 at hF
    refine sd_iload C 5 dX7_lostGoods_21 rfl rfl (n' := 23) ?_
    refine sd_aload_n C 0 dX7_lostGoods_23 rfl rfl rfl (n' := 24) ?_
    refine sd_g7_0 C (sd_mC (sd_m8 k0)) k0 sd_w214 dX7_lostGoods_24 rfl (n' := 27) ?_
    refine sd_iconst C (v := 0) dX7_lostGoods_27 rfl rfl (n' := 28) ?_
    obtain ⟨q28, e28, hF⟩ := sd_bind hF
    refine sd_callVI [.int (0 : Int32)] [.int x6] C (ct_X5_sorts M 40 (0 : Int32) sd_k40 e28) sd_lX7_44 ⟨rfl, rfl, Nat.le_of_ble_eq_true rfl, Nat.le_of_ble_eq_true rfl⟩ sd_i40 (sd_e6 sd_k40) rfl rfl rfl (Nat.le_of_ble_eq_true rfl) dX7_lostGoods_28 rfl (n' := 31) ?_
    refine sd_icmp_ge C (n' := 34) (tgt := 100) dX7_lostGoods_31 rfl rfl (fun c31 => ?_) (fun c31 => ?_)
    · replace hF := sd_pos hF c31
      refine sd_iinc [(5, .int (x5 + (1 : Int32))), (0, .ref (E.2.2 h0)), (1, .ref (E.2.2 h1)), (2, .ref (E.2.2 h2)), (3, .long l3), (6, .int x6)] 4 C dX7_lostGoods_100 rfl rfl (by decide) rfl rfl (n' := 103) ?_
      refine sd_goto C (tgt := 5) dX7_lostGoods_103 rfl ?_
      refine sd_sub [1, 2, 3, 4, 0] rfl ?_
      exact hk5 l3 (x5 + (1 : Int32)) hF
    · replace hF := sd_neg hF c31
      refine sd_aload_n C 0 dX7_lostGoods_34 rfl rfl rfl (n' := 35) ?_
      refine sd_g7_0 C (sd_mC (sd_m8 k0)) k0 sd_w214 dX7_lostGoods_35 rfl (n' := 38) ?_
      refine sd_gN5_4 C sd_i40 sd_k40 sd_w136 dX7_lostGoods_38 rfl (n' := 41) ?_
      refine sd_aload_n C 0 dX7_lostGoods_41 rfl rfl rfl (n' := 42) ?_
      refine sd_g7_0 C (sd_mC (sd_m8 k0)) k0 sd_w214 dX7_lostGoods_42 rfl (n' := 45) ?_
      refine sd_iconst C (v := 1) dX7_lostGoods_45 rfl rfl (n' := 46) ?_
      refine sd_iload C 4 dX7_lostGoods_46 rfl rfl (n' := 48) ?_
      obtain ⟨q48, e48, hF⟩ := sd_bind hF
      refine sd_callVI [.int (1 : Int32), .int x5] [.int (M.1 40 4)] C (ct_X5_cost M 40 (1 : Int32) x5 sd_k40 e48) sd_lX7_110 ⟨rfl, rfl, Nat.le_of_ble_eq_true rfl, Nat.le_of_ble_eq_true rfl⟩ sd_i40 (sd_e6 sd_k40) rfl rfl rfl (Nat.le_of_ble_eq_true rfl) dX7_lostGoods_48 rfl (n' := 51) ?_
      refine sd_iadd C dX7_lostGoods_51 rfl (n' := 52) ?_
      refine sd_aload_n C 0 dX7_lostGoods_52 rfl rfl rfl (n' := 53) ?_
      refine sd_g7_0 C (sd_mC (sd_m8 k0)) k0 sd_w214 dX7_lostGoods_53 rfl (n' := 56) ?_
      refine sd_iconst C (v := 0) dX7_lostGoods_56 rfl rfl (n' := 57) ?_
      refine sd_iload C 5 dX7_lostGoods_57 rfl rfl (n' := 59) ?_
      obtain ⟨q59, e59, hF⟩ := sd_bind hF
      refine sd_callVI [.int (0 : Int32), .int x6] [.int ((M.1 40 4) + q48)] C (ct_X5_cost M 40 (0 : Int32) x6 sd_k40 e59) sd_lX7_110 ⟨rfl, rfl, Nat.le_of_ble_eq_true rfl, Nat.le_of_ble_eq_true rfl⟩ sd_i40 (sd_e6 sd_k40) rfl rfl rfl (Nat.le_of_ble_eq_true rfl) dX7_lostGoods_59 rfl (n' := 62) ?_
      refine sd_iadd C dX7_lostGoods_62 rfl (n' := 63) ?_
      refine sd_i2l C dX7_lostGoods_63 rfl (n' := 64) ?_
      refine sd_lstore [(7, .long ((((M.1 40 4) + q48) + q59).toInt64)), (0, .ref (E.2.2 h0)), (1, .ref (E.2.2 h1)), (2, .ref (E.2.2 h2)), (3, .long l3), (5, .int x5), (6, .int x6)] C dX7_lostGoods_64 (by decide) rfl rfl (n' := 66) ?_
      refine sd_lload_n C 4 dX7_lostGoods_66 rfl rfl rfl (n' := 67) ?_
      refine sd_aload_n C 1 dX7_lostGoods_67 rfl rfl rfl (n' := 68) ?_
      refine sd_iload C 5 dX7_lostGoods_68 rfl rfl (n' := 70) ?_
      refine sd_iload C 6 dX7_lostGoods_70 rfl rfl (n' := 72) ?_
      obtain ⟨q72, e72, hF⟩ := sd_bind hF
      refine sd_callVL [.int x5, .int x6] [.long l3] C (ct_X7_pairWeight M h0 x5 x6 k0 e72) sd_lX7_96 ⟨rfl, rfl, Nat.le_of_ble_eq_true rfl, Nat.le_of_ble_eq_true rfl⟩ (sd_mC (sd_m8 k0)) (sd_e8 k0) rfl rfl rfl (Nat.le_of_ble_eq_true rfl) dX7_lostGoods_72 rfl (n' := 75) ?_
      refine sd_lload C 0 dX7_lostGoods_75 rfl rfl (n' := 77) ?_
      refine sd_lmul C dX7_lostGoods_77 rfl (n' := 78) ?_
      refine sd_aload_n C 1 dX7_lostGoods_78 rfl rfl rfl (n' := 79) ?_
      refine sd_aload_n C 2 dX7_lostGoods_79 rfl rfl rfl (n' := 80) ?_
      refine sd_aload_n C 3 dX7_lostGoods_80 rfl rfl rfl (n' := 81) ?_
      refine sd_iload C 5 dX7_lostGoods_81 rfl rfl (n' := 83) ?_
      refine sd_iload C 6 dX7_lostGoods_83 rfl rfl (n' := 85) ?_
      obtain ⟨q85, e85, hF⟩ := sd_bind hF
      refine sd_callVI [.ref (E.2.2 h1), .ref (E.2.2 h2), .int x5, .int x6] [.long (q72 * ((((M.1 40 4) + q48) + q59).toInt64)), .long l3] C (ct_X7_settlingDay M h0 h1 h2 x5 x6 k0 k1 k2 e85) sd_lX7_58 ⟨rfl, rfl, Nat.le_of_ble_eq_true rfl, Nat.le_of_ble_eq_true rfl⟩ (sd_mC (sd_m8 k0)) (sd_e8 k0) rfl rfl rfl (Nat.le_of_ble_eq_true rfl) dX7_lostGoods_85 rfl (n' := 88) ?_
      refine sd_iconst C (v := 1) dX7_lostGoods_88 rfl rfl (n' := 89) ?_
      refine sd_isub C dX7_lostGoods_89 rfl (n' := 90) ?_
      refine sd_i2l C dX7_lostGoods_90 rfl (n' := 91) ?_
      refine sd_lmul C dX7_lostGoods_91 rfl (n' := 92) ?_
      refine sd_ladd C dX7_lostGoods_92 rfl (n' := 93) ?_
      refine sd_lstore_n [(3, .long (l3 + ((q72 * ((((M.1 40 4) + q48) + q59).toInt64)) * ((q85 - (1 : Int32)).toInt64)))), (7, .long ((((M.1 40 4) + q48) + q59).toInt64)), (0, .ref (E.2.2 h0)), (1, .ref (E.2.2 h1)), (2, .ref (E.2.2 h2)), (5, .int x5), (6, .int x6)] C dX7_lostGoods_93 rfl (by decide) rfl rfl (n' := 94) ?_
      refine sd_iinc [(6, .int (x6 + (1 : Int32))), (3, .long (l3 + ((q72 * ((((M.1 40 4) + q48) + q59).toInt64)) * ((q85 - (1 : Int32)).toInt64)))), (7, .long ((((M.1 40 4) + q48) + q59).toInt64)), (0, .ref (E.2.2 h0)), (1, .ref (E.2.2 h1)), (2, .ref (E.2.2 h2)), (5, .int x5)] 6 C dX7_lostGoods_94 rfl rfl (by decide) rfl rfl (n' := 97) ?_
      refine sd_goto C (tgt := 21) dX7_lostGoods_97 rfl ?_
      refine sd_sub [3, 4, 5, 1, 6, 0] rfl ?_
      exact ih (l3 + ((q72 * ((((M.1 40 4) + q48) + q59).toInt64)) * ((q85 - (1 : Int32)).toInt64))) x5 (x6 + (1 : Int32)) hF
set_option maxRecDepth 100000 in
set_option maxHeartbeats 4000000 in
theorem tb_X7_lostGoods_5 {K : sd_K} {E : sd_Env} {M : sd_Mem} {h0 h1 h2 : Nat} {r : Int64} (C : sd_C K E sd_LC RX7 cX7_lostGoods 9 (some .long)) (k0 : sd_kd h0 = 8) (k1 : sd_kd h1 = 10) (k2 : sd_kd h2 = 10) : ∀ (n : Nat), ∀ (l3 : Int64) (x5 : Int32), fn_X7_lostGoods_5 M h0 h1 h2 n l3 x5 = some r → sd_Z K rm_X7_lostGoods E sd_LC 9 (sd_QL K E sd_LC r M) M 5 [(0, .ref (E.2.2 h0)), (1, .ref (E.2.2 h1)), (2, .ref (E.2.2 h2)), (3, .long l3), (5, .int x5)] [] := by
  intro n
  induction n with
  | zero => intro l3 x5 hF; cases hF
  | succ n ih =>
    intro l3 x5 hF
    unfold fn_X7_lostGoods_5 at hF
    refine sd_iload C 4 dX7_lostGoods_5 rfl rfl (n' := 7) ?_
    refine sd_aload_n C 0 dX7_lostGoods_7 rfl rfl rfl (n' := 8) ?_
    refine sd_g7_0 C (sd_mC (sd_m8 k0)) k0 sd_w214 dX7_lostGoods_8 rfl (n' := 11) ?_
    refine sd_iconst C (v := 1) dX7_lostGoods_11 rfl rfl (n' := 12) ?_
    obtain ⟨q12, e12, hF⟩ := sd_bind hF
    refine sd_callVI [.int (1 : Int32)] [.int x5] C (ct_X5_sorts M 40 (1 : Int32) sd_k40 e12) sd_lX7_44 ⟨rfl, rfl, Nat.le_of_ble_eq_true rfl, Nat.le_of_ble_eq_true rfl⟩ sd_i40 (sd_e6 sd_k40) rfl rfl rfl (Nat.le_of_ble_eq_true rfl) dX7_lostGoods_12 rfl (n' := 15) ?_
    refine sd_icmp_ge C (n' := 18) (tgt := 106) dX7_lostGoods_15 rfl rfl (fun c15 => ?_) (fun c15 => ?_)
    · replace hF := sd_pos hF c15
      refine sd_lload_n C 3 dX7_lostGoods_106 rfl rfl rfl (n' := 107) ?_
      exact sd_lret C dX7_lostGoods_107 (Option.some.inj hF) rfl
    · replace hF := sd_neg hF c15
      refine sd_iconst C (v := 0) dX7_lostGoods_18 rfl rfl (n' := 19) ?_
      refine sd_istore [(6, .int (0 : Int32)), (0, .ref (E.2.2 h0)), (1, .ref (E.2.2 h1)), (2, .ref (E.2.2 h2)), (3, .long l3), (5, .int x5)] C dX7_lostGoods_19 (by decide) rfl rfl (n' := 21) ?_
      refine sd_sub [1, 2, 3, 4, 5, 0] rfl ?_
      exact tb_X7_lostGoods_21 C k0 k1 k2 ih sd_FU l3 x5 (0 : Int32) hF
set_option maxRecDepth 100000 in
set_option maxHeartbeats 4000000 in
theorem tb_X7_lostGoods_0 {K : sd_K} {E : sd_Env} {M : sd_Mem} {h0 h1 h2 : Nat} {r : Int64} (C : sd_C K E sd_LC RX7 cX7_lostGoods 9 (some .long)) (k0 : sd_kd h0 = 8) (k1 : sd_kd h1 = 10) (k2 : sd_kd h2 = 10) : fn_X7_lostGoods_0 M h0 h1 h2 = some r → sd_Z K rm_X7_lostGoods E sd_LC 9 (sd_QL K E sd_LC r M) M 0 [(0, .ref (E.2.2 h0)), (1, .ref (E.2.2 h1)), (2, .ref (E.2.2 h2))] [] := by
  intro hF
  unfold fn_X7_lostGoods_0 at hF
  refine sd_lconst C (v := 0) dX7_lostGoods_0 rfl rfl (n' := 1) ?_
  refine sd_lstore_n [(3, .long (0 : Int64)), (0, .ref (E.2.2 h0)), (1, .ref (E.2.2 h1)), (2, .ref (E.2.2 h2))] C dX7_lostGoods_1 rfl (by decide) rfl rfl (n' := 2) ?_
  refine sd_iconst C (v := 0) dX7_lostGoods_2 rfl rfl (n' := 3) ?_
  refine sd_istore [(5, .int (0 : Int32)), (3, .long (0 : Int64)), (0, .ref (E.2.2 h0)), (1, .ref (E.2.2 h1)), (2, .ref (E.2.2 h2))] C dX7_lostGoods_3 (by decide) rfl rfl (n' := 5) ?_
  refine sd_sub [2, 3, 4, 1, 0] rfl ?_
  exact tb_X7_lostGoods_5 C k0 k1 k2 sd_FU (0 : Int64) (0 : Int32) hF
theorem ct_X7_lostGoods {l : Launch} {E : sd_Env} (M : sd_Mem) (h0 : Nat) (h1 : Nat) (h2 : Nat) (k0 : sd_kd h0 = 8) (k1 : sd_kd h1 = 10) (k2 : sd_kd h2 = 10) {r : Int64} (hF : fn_X7_lostGoods M h0 h1 h2 = some r) : sd_ML l E sd_LC yX7_lostGoods cX7_lostGoods 9 (some .long) rm_X7_lostGoods [.ref (E.2.2 h0), .ref (E.2.2 h1), .ref (E.2.2 h2)] M r M := sd_ent0 (by decide +kernel) (Nat.le_of_ble_eq_true rfl) (fun p e s m below meth c C => tb_X7_lostGoods_0 C k0 k1 k2 hF)
theorem dX10_lost_0 : decode cX10_lost 0 = .ok (.aload_n 0, 1) := by decide +kernel
theorem dX10_lost_1 : decode cX10_lost 1 = .ok (.iload_n 1, 1) := by decide +kernel
theorem dX10_lost_2 : decode cX10_lost 2 = .ok (.iload_n 2, 1) := by decide +kernel
theorem dX10_lost_3 : decode cX10_lost 3 = .ok (.iconst 1, 1) := by decide +kernel
theorem dX10_lost_4 : decode cX10_lost 4 = .ok (.invokevirtual 216, 3) := by decide +kernel
theorem dX10_lost_7 : decode cX10_lost 7 = .ok (.istore_n 3, 1) := by decide +kernel
theorem dX10_lost_8 : decode cX10_lost 8 = .ok (.iload_n 3, 1) := by decide +kernel
theorem dX10_lost_9 : decode cX10_lost 9 = .ok (.ifCond .eq 5, 3) := by decide +kernel
theorem dX10_lost_12 : decode cX10_lost 12 = .ok (.iload_n 3, 1) := by decide +kernel
theorem dX10_lost_13 : decode cX10_lost 13 = .ok (.ireturn, 1) := by decide +kernel
theorem dX10_lost_14 : decode cX10_lost 14 = .ok (.aload_n 0, 1) := by decide +kernel
theorem dX10_lost_15 : decode cX10_lost 15 = .ok (.getfield 77, 3) := by decide +kernel
theorem dX10_lost_18 : decode cX10_lost 18 = .ok (.aload_n 0, 1) := by decide +kernel
theorem dX10_lost_19 : decode cX10_lost 19 = .ok (.getfield 53, 3) := by decide +kernel
theorem dX10_lost_22 : decode cX10_lost 22 = .ok (.aload_n 0, 1) := by decide +kernel
theorem dX10_lost_23 : decode cX10_lost 23 = .ok (.getfield 20, 3) := by decide +kernel
theorem dX10_lost_26 : decode cX10_lost 26 = .ok (.iload_n 1, 1) := by decide +kernel
theorem dX10_lost_27 : decode cX10_lost 27 = .ok (.aaload, 1) := by decide +kernel
theorem dX10_lost_28 : decode cX10_lost 28 = .ok (.aload_n 0, 1) := by decide +kernel
theorem dX10_lost_29 : decode cX10_lost 29 = .ok (.getfield 20, 3) := by decide +kernel
theorem dX10_lost_32 : decode cX10_lost 32 = .ok (.iload_n 2, 1) := by decide +kernel
theorem dX10_lost_33 : decode cX10_lost 33 = .ok (.aaload, 1) := by decide +kernel
theorem dX10_lost_34 : decode cX10_lost 34 = .ok (.invokevirtual 287, 3) := by decide +kernel
theorem dX10_lost_37 : decode cX10_lost 37 = .ok (.aload_n 0, 1) := by decide +kernel
theorem dX10_lost_38 : decode cX10_lost 38 = .ok (.getfield 27, 3) := by decide +kernel
theorem dX10_lost_41 : decode cX10_lost 41 = .ok (.invokevirtual 261, 3) := by decide +kernel
theorem dX10_lost_44 : decode cX10_lost 44 = .ok (.invokevirtual 236, 3) := by decide +kernel
theorem dX10_lost_47 : decode cX10_lost 47 = .ok (.iconst 1, 1) := by decide +kernel
theorem dX10_lost_48 : decode cX10_lost 48 = .ok (.ireturn, 1) := by decide +kernel
set_option maxRecDepth 100000 in
set_option maxHeartbeats 4000000 in
theorem tb_X10_lost_0 {K : sd_K} {E : sd_Env}   {r : (Int32 × sd_Mem)} (C : sd_C K E sd_LC RX10 cX10_lost 4 (some .int))  : ∀ (M : sd_Mem) (x1 : Int32) (x2 : Int32), fn_X10_lost_0 M x1 x2 = some r → sd_Z K rm_X10_lost E sd_LC 4 (sd_QI K E sd_LC r.1 r.2) M 0 [(0, .ref (E.2.2 0)), (1, .int x1), (2, .int x2)] [] := by
  intro M x1 x2 hF
  unfold fn_X10_lost_0 at hF
  refine sd_aload_n C 0 dX10_lost_0 rfl rfl rfl (n' := 1) ?_
  refine sd_iload_n C 1 dX10_lost_1 rfl rfl rfl (n' := 2) ?_
  refine sd_iload_n C 2 dX10_lost_2 rfl rfl rfl (n' := 3) ?_
  refine sd_iconst C (v := 1) dX10_lost_3 rfl rfl (n' := 4) ?_
  obtain ⟨q4, e4, hF⟩ := sd_bind hF
  refine sd_callVI [.int x1, .int x2, .int (1 : Int32)] [] C (ct_X10_refusePair M x1 x2 (1 : Int32)  e4) sd_lX10_216 ⟨rfl, rfl, Nat.le_of_ble_eq_true rfl, Nat.le_of_ble_eq_true rfl⟩ sd_i0 (sd_e11 sd_k0) rfl rfl rfl (Nat.le_of_ble_eq_true rfl) dX10_lost_4 rfl (n' := 7) ?_
  refine sd_istore_n [(3, .int q4.1), (0, .ref (E.2.2 0)), (1, .int x1), (2, .int x2)] C dX10_lost_7 rfl (by decide) rfl rfl (n' := 8) ?_
  refine sd_iload_n C 0 dX10_lost_8 rfl rfl rfl (n' := 9) ?_
  refine sd_if_eq C (n' := 12) (tgt := 14) dX10_lost_9 rfl rfl (fun c9 => ?_) (fun c9 => ?_)
  · replace hF := sd_pos hF c9
    refine sd_aload_n C 1 dX10_lost_14 rfl rfl rfl (n' := 15) ?_
    refine sd_g10_11 C sd_i0 sd_k0 sd_w339 dX10_lost_15 rfl (n' := 18) ?_
    refine sd_aload_n C 1 dX10_lost_18 rfl rfl rfl (n' := 19) ?_
    refine sd_g10_7 C sd_i0 sd_k0 sd_w335 dX10_lost_19 rfl (n' := 22) ?_
    refine sd_aload_n C 1 dX10_lost_22 rfl rfl rfl (n' := 23) ?_
    refine sd_g10_2 C sd_i0 sd_k0 sd_w330 dX10_lost_23 rfl (n' := 26) ?_
    refine sd_iload_n C 2 dX10_lost_26 rfl rfl rfl (n' := 27) ?_
    obtain ⟨b27, hF⟩ := sd_ok hF
    refine sd_wald C sd_i23 sd_k23 sd_n23 b27 dX10_lost_27 rfl (n' := 28) ?_
    refine sd_aload_n C 1 dX10_lost_28 rfl rfl rfl (n' := 29) ?_
    refine sd_g10_2 C sd_i0 sd_k0 sd_w330 dX10_lost_29 rfl (n' := 32) ?_
    refine sd_iload_n C 3 dX10_lost_32 rfl rfl rfl (n' := 33) ?_
    obtain ⟨b33, hF⟩ := sd_ok hF
    refine sd_wald C sd_i23 sd_k23 sd_n23 b33 dX10_lost_33 rfl (n' := 34) ?_
    obtain ⟨q34, e34, hF⟩ := sd_bind hF
    refine sd_callVL [.ref (E.2.2 (23 + 1 + 2 * x1.toNatClampNeg)), .ref (E.2.2 (23 + 1 + 2 * x2.toNatClampNeg))] [.ref (E.2.2 96)] C (ct_X7_lostGoods q4.2 61 (23 + 1 + 2 * x1.toNatClampNeg) (23 + 1 + 2 * x2.toNatClampNeg) sd_k61 ((sd_r23 _ (sd_in_lt b27)).1) ((sd_r23 _ (sd_in_lt b33)).1) e34) sd_lX10_287 ⟨rfl, rfl, Nat.le_of_ble_eq_true rfl, Nat.le_of_ble_eq_true rfl⟩ sd_i61 (sd_e8 sd_k61) rfl rfl rfl (Nat.le_of_ble_eq_true rfl) dX10_lost_34 rfl (n' := 37) ?_
    refine sd_aload_n C 1 dX10_lost_37 rfl rfl rfl (n' := 38) ?_
    refine sd_g10_3 C sd_i0 sd_k0 sd_w331 dX10_lost_38 rfl (n' := 41) ?_
    obtain ⟨q41, e41, hF⟩ := sd_bind hF
    refine sd_callVL [] [.long q34, .ref (E.2.2 96)] C (ct_X5_pairs q4.2 40 sd_k40 e41) sd_lX10_261 ⟨rfl, rfl, Nat.le_of_ble_eq_true rfl, Nat.le_of_ble_eq_true rfl⟩ sd_i40 (sd_e6 sd_k40) rfl rfl rfl (Nat.le_of_ble_eq_true rfl) dX10_lost_41 rfl (n' := 44) ?_
    obtain ⟨q44, e44, hF⟩ := sd_bind hF
    refine sd_callVV [.long q34, .long q41] [] C (ct_X3_tell q4.2 q34 q41  e44) sd_lX10_236 ⟨rfl, rfl, Nat.le_of_ble_eq_true rfl, Nat.le_of_ble_eq_true rfl⟩ sd_i96 (sd_e4 sd_k96) rfl rfl rfl (Nat.le_of_ble_eq_true rfl) dX10_lost_44 rfl (n' := 47) ?_
    refine sd_iconst C (v := 1) dX10_lost_47 rfl rfl (n' := 48) ?_
    exact sd_iret C dX10_lost_48 (sd_fst hF) (sd_snd hF)
  · replace hF := sd_neg hF c9
    refine sd_iload_n C 0 dX10_lost_12 rfl rfl rfl (n' := 13) ?_
    exact sd_iret C dX10_lost_13 (sd_fst hF) (sd_snd hF)
theorem ct_X10_lost {l : Launch} {E : sd_Env} (M : sd_Mem) (x1 : Int32) (x2 : Int32)  {r : (Int32 × sd_Mem)} (hF : fn_X10_lost M x1 x2 = some r) : sd_MI l E sd_LC yX10_lost cX10_lost 4 (some .int) rm_X10_lost [.ref (E.2.2 0), .int x1, .int x2] M r.1 r.2 := sd_ent0 (by decide +kernel) (Nat.le_of_ble_eq_true rfl) (fun p e s m below meth c C => tb_X10_lost_0 C M x1 x2 hF)
