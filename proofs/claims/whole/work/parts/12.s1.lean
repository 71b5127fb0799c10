theorem sd_kinds : ∀ i, i < 99 → sd_kd i = 1 ∨ sd_kd i = 2 ∨ sd_kd i = 3 ∨ sd_kd i = 4 ∨ sd_kd i = 5 ∨ sd_kd i = 6 ∨ sd_kd i = 7 ∨ sd_kd i = 8 ∨ sd_kd i = 9 ∨ sd_kd i = 10 ∨ sd_kd i = 11 ∨ sd_kd i = 20 ∨ sd_kd i = 21 ∨ sd_kd i = 22 ∨ sd_kd i = 23 ∨ sd_kd i = 24 ∨ sd_kd i = 25 ∨ sd_kd i = 26 := by decide +kernel
theorem sd_kindsM : ∀ i, i < 123 → 100 ≤ i → sd_kd i = 12 ∨ sd_kd i = 20 ∨ sd_kd i = 22 := by decide +kernel
theorem sd_r24b : ∀ i, i < 99 → sd_kd i = 24 → ∀ j, j < 8 → j < sd_ln i → i + 1 + 2 * j < 99 := by decide +kernel
theorem sd_r24l : ∀ i, i < 99 → sd_kd i = 24 → sd_ln i ≤ 8 := by decide +kernel
theorem sd_r25b : ∀ i, i < 99 → (sd_kd i = 25 ∨ sd_kd i = 26) → ∀ j, j < 12 → j < sd_ln i → i + 1 + j < 99 := by decide +kernel
theorem sd_r25l : ∀ i, i < 99 → (sd_kd i = 25 ∨ sd_kd i = 26) → sd_ln i ≤ 12 := by decide +kernel
set_option maxHeartbeats 4000000 in
theorem sd_relay {D : va_G} {ca : Nat → ClassId} {α α' : Nat → Nat} (h : ∀ i, i < 99 → α i = α' i) {id : Nat} (hid : id < 99) {f : Nat → Int32} {g : Nat → Int64} {H : Heap} (ha : va_at D sd_cl (α id, sd_ent (D, ca, α) id f g) H) : va_at D sd_cl (α' id, sd_ent (D, ca, α') id f g) H := by
  rw [← h id hid]
  rcases sd_kinds id hid with hk | hk | hk | hk | hk | hk | hk | hk | hk | hk | hk | hk | hk | hk | hk | hk | hk | hk
  · rw [sd_e1 hk] at ha ⊢; dsimp only at ha ⊢; rw [h 40 (by omega), h 58 (by omega), h 64 (by omega), h 77 (by omega)] at ha; exact ha
  · have := (sd_c2 hk).2.2; rw [sd_e2 hk] at ha ⊢; dsimp only at ha ⊢; rw [h (id + 1) (by omega)] at ha; exact ha
  · rw [sd_e3 hk] at ha ⊢; dsimp only at ha ⊢; rw [h 98 (by omega)] at ha; exact ha
  · rw [sd_e4 hk] at ha ⊢; exact ha
  · rw [sd_e5 hk] at ha ⊢; exact ha
  · have := (sd_c6 hk).2.2.2.2; rw [sd_e6 hk] at ha ⊢; dsimp only at ha ⊢; rw [h (id + 1) (by omega), h (id + 2) (by omega), h (id + 3) (by omega), h (id + 6) (by omega)] at ha; exact ha
  · rw [sd_e7 hk] at ha ⊢; dsimp only at ha ⊢; rw [h 49 (by omega)] at ha; exact ha
  · have := (sd_c8 hk).2; rw [sd_e8 hk] at ha ⊢; dsimp only at ha ⊢; rw [h 40 (by omega), h (id - 3) (by omega)] at ha; exact ha
  · rw [sd_e9 hk] at ha ⊢; dsimp only at ha ⊢; rw [h 91 (by omega), h 92 (by omega), h 93 (by omega), h 94 (by omega), h 95 (by omega)] at ha; exact ha
  · have := (sd_c10 hk).2.2; rw [sd_e10 hk] at ha ⊢; dsimp only at ha ⊢; rw [h (id + 1) (by omega)] at ha; exact ha
  · rw [sd_e11 hk] at ha ⊢; dsimp only at ha ⊢; rw [h 1 (by omega), h 14 (by omega), h 23 (by omega), h 40 (by omega), h 58 (by omega), h 59 (by omega), h 60 (by omega), h 61 (by omega), h 62 (by omega), h 63 (by omega), h 90 (by omega), h 96 (by omega), h 97 (by omega)] at ha; exact ha
  · rw [sd_e20 hk] at ha ⊢; exact ha
  · rw [sd_e21 hk] at ha ⊢; exact ha
  · rw [sd_e22 hk] at ha ⊢; exact ha
  · rw [sd_e23 hk] at ha ⊢; exact sd_at_congr (fun j hj => congrArg some (h _ (sd_c23 hk hj).2)) ha
  · rw [sd_e24 hk] at ha ⊢; exact sd_at_congr (fun j hj => congrArg some (h _ (sd_r24b id hid hk j (Nat.lt_of_lt_of_le hj (sd_r24l id hid hk)) hj))) ha
  · rw [sd_e25 hk] at ha ⊢; exact sd_at_congr (fun j hj => congrArg some (h _ (sd_r25b id hid (Or.inl hk) j (Nat.lt_of_lt_of_le hj (sd_r25l id hid (Or.inl hk))) hj))) ha
  · rw [sd_e26 hk] at ha ⊢; exact sd_at_congr (fun j hj => congrArg some (h _ (sd_r25b id hid (Or.inr hk) j (Nat.lt_of_lt_of_le hj (sd_r25l id hid (Or.inr hk))) hj))) ha
set_option maxHeartbeats 4000000 in
theorem sd_relayM {D : va_G} {ca : Nat → ClassId} {α α' : Nat → Nat} (h : ∀ i, 100 ≤ i → i < 123 → α i = α' i) {id : Nat} (h1 : 100 ≤ id) (hid : id < 123) {f : Nat → Int32} {g : Nat → Int64} {H : Heap} (ha : va_at D sd_cl (α id, sd_ent (D, ca, α) id f g) H) : va_at D sd_cl (α' id, sd_ent (D, ca, α') id f g) H := by
  rw [← h id h1 hid]
  rcases sd_kindsM id hid h1 with hk | hk | hk
  · rw [sd_e12 hk] at ha ⊢; dsimp only at ha ⊢; rw [h 101 (by omega) (by omega), h 102 (by omega) (by omega), h 103 (by omega) (by omega), h 104 (by omega) (by omega), h 105 (by omega) (by omega), h 106 (by omega) (by omega), h 107 (by omega) (by omega), h 108 (by omega) (by omega), h 109 (by omega) (by omega), h 110 (by omega) (by omega), h 111 (by omega) (by omega), h 112 (by omega) (by omega), h 113 (by omega) (by omega), h 114 (by omega) (by omega), h 115 (by omega) (by omega), h 116 (by omega) (by omega), h 117 (by omega) (by omega), h 118 (by omega) (by omega), h 119 (by omega) (by omega), h 120 (by omega) (by omega), h 121 (by omega) (by omega), h 122 (by omega) (by omega)] at ha; exact ha
  · rw [sd_e20 hk] at ha ⊢; exact ha
  · rw [sd_e22 hk] at ha ⊢; exact ha
theorem sd_P_of {E : sd_Env} {L : List Nat} {M : sd_Mem} {H : Heap} (h : ∀ id, id ∈ L → va_at E.1 sd_cl (E.2.2 id, sd_ent E id (M.1 id) (M.2 id)) H) : va_P E.1 sd_cl (sd_pic E L M) H := fun k q hk => by
  unfold sd_pic at hk
  rw [List.getElem?_map] at hk
  cases hL : L[k]? with
  | none => rw [hL] at hk; cases hk
  | some id => rw [hL] at hk; cases hk; exact h id (List.mem_of_getElem? hL)
theorem sd_P_at {E : sd_Env} {L : List Nat} {M : sd_Mem} {H : Heap} (h : va_P E.1 sd_cl (sd_pic E L M) H) {id : Nat} (hid : id ∈ L) : va_at E.1 sd_cl (E.2.2 id, sd_ent E id (M.1 id) (M.2 id)) H := by
  obtain ⟨k, -, hk⟩ := sd_pic_at (E := E) (M := M) hid
  exact h k _ hk
/-- the law's loop -/
def sd_StAll (Rel : sd_Mem → sd_Mem → Prop) : Prop := sd_St0 Rel ∧ sd_St1 Rel ∧ sd_St2 Rel ∧ sd_St3 Rel ∧ sd_St4 Rel ∧ sd_St5 Rel ∧ sd_St6 Rel ∧ sd_St7 Rel ∧ sd_St8 Rel ∧ sd_St9 Rel ∧ sd_St10 Rel ∧ sd_St11 Rel ∧ sd_St12 Rel ∧ sd_St13 Rel ∧ sd_St14 Rel ∧ sd_St15 Rel ∧ sd_St16 Rel ∧ sd_St17 Rel ∧ sd_St18 Rel ∧ sd_St19 Rel ∧ sd_St20 Rel ∧ sd_St21 Rel ∧ sd_St22 Rel ∧ sd_St23 Rel ∧ sd_St24 Rel ∧ sd_St25 Rel ∧ sd_St26 Rel ∧ sd_St27 Rel ∧ sd_St28 Rel ∧ sd_St29 Rel ∧ sd_St30 Rel ∧ sd_St31 Rel ∧ sd_St32 Rel ∧ sd_St33 Rel ∧ sd_St34 Rel ∧ sd_St35 Rel ∧ sd_St36 Rel ∧ sd_St37 Rel ∧ sd_St38 Rel ∧ sd_St39 Rel ∧ sd_St40 Rel ∧ sd_St41 Rel ∧ sd_St42 Rel ∧ sd_St43 Rel ∧ sd_St44 Rel
theorem sd_in_c {k c Lx : Nat} {x : Int32} (hx : x = nI k) (h : k + 7 ≤ Lx) (hc : c < 7) (hL : Lx ≤ 3584) : vp_in (x + nI c) Lx := by
  rw [hx, nI_add]
  exact vp_in_nI (by omega) (by omega)
set_option maxRecDepth 100000 in
set_option maxHeartbeats 4000000 in
theorem sd_lawloop {Rel : sd_Mem → sd_Mem → Prop} (hs : sd_StAll Rel) {K : sd_K} {E : sd_Env} {b : Nat} {xs : Nat → Int32} {Lx : Nat} {Q : State → Prop} (G : sd_GL K E b xs Lx) (hL : Lx ≤ 3584)
    (hend : ∀ (M N : sd_Mem) (lv : List (Nat × Value)), sd_X K E b xs Lx Q M N 1804 lv []) :
    ∀ (n k : Nat) (M N : sd_Mem) (x3 : Int32), x3 = nI k → Lx < k + n → k ≤ Lx → Rel M N → sd_X K E b xs Lx Q M N 18 [(0, .ref b), (1, .ref (E.2.2 0)), (2, .ref (E.2.2 100)), (3, .int x3)] [] := by
  intro n
  induction n with
  | zero => intro k M N x3 _ h1 h2; omega
  | succ n ih =>
    intro k M N x3 hx hkn hkL hR
    refine sd_xiload_n G 3 dL_law_18 rfl rfl rfl (n' := 19) ?_
    refine sd_xaload_n G 0 dL_law_19 rfl rfl rfl (n' := 20) ?_
    refine sd_xslen G dL_law_20 rfl (n' := 21) ?_
    refine sd_xbipush G (v := 7) dL_law_21 rfl rfl (n' := 23) ?_
    refine sd_xisub G dL_law_23 rfl (n' := 24) ?_
    refine sd_xgt G (n' := 27) (tgt := 1804) dL_law_24 rfl rfl (fun _ => hend M N _) (fun c24 => ?_)
    have hk7 : k + 7 ≤ Lx := by
      have e1 : (Int32.ofNat Lx - 7).toInt = (Lx : Int) - 7 := pk_sub_toInt (a := Lx) (b := 7) (by omega) (by omega)
      have e2 : x3.toInt = (k : Int) := by rw [hx]; exact nI_toInt (by omega)
      rw [Int32.lt_iff_toInt_lt, e1, e2] at c24
      omega
    have v0 : vp_in x3 Lx := by rw [hx]; exact vp_in_nI (by omega) (by omega)
    have v1 : vp_in (x3 + (1 : Int32)) Lx := sd_in_c (c := 1) hx hk7 (by omega) hL
    have v2 : vp_in (x3 + (2 : Int32)) Lx := sd_in_c (c := 2) hx hk7 (by omega) hL
    have v3 : vp_in (x3 + (3 : Int32)) Lx := sd_in_c (c := 3) hx hk7 (by omega) hL
    have v4 : vp_in (x3 + (4 : Int32)) Lx := sd_in_c (c := 4) hx hk7 (by omega) hL
    have v5 : vp_in (x3 + (5 : Int32)) Lx := sd_in_c (c := 5) hx hk7 (by omega) hL
    have v6 : vp_in (x3 + (6 : Int32)) Lx := sd_in_c (c := 6) hx hk7 (by omega) hL
    have hk : ∀ M N : sd_Mem, Rel M N → sd_X K E b xs Lx Q M N 1798 [(0, .ref b), (1, .ref (E.2.2 0)), (2, .ref (E.2.2 100)), (3, .int x3)] [] := by
      intro M N hR
      refine sd_xiinc [(3, .int (x3 + 7)), (0, .ref b), (1, .ref (E.2.2 0)), (2, .ref (E.2.2 100))] 3 G dL_law_1798 rfl rfl (by decide) rfl rfl (n' := 1801) ?_
      refine sd_xgoto G (tgt := 18) dL_law_1801 rfl ?_
      have := ih (k + 7) M N (x3 + 7) (by rw [hx]; exact nI_add k 7) (by omega) (by omega) hR
      exact fun H locs ls hP hPN hD hS hl => this H locs ls hP hPN hD hS (lv_sub hl [1, 2, 3, 0] rfl)
    refine sd_xaload_n G 0 dL_law_27 rfl rfl rfl (n' := 28) ?_
    refine sd_xiload_n G 3 dL_law_28 rfl rfl rfl (n' := 29) ?_
    refine sd_xsld G v0 dL_law_29 rfl (n' := 30) ?_
    refine sd_xbipush G (v := 63) dL_law_30 rfl rfl (n' := 32) ?_
    refine sd_xiand G dL_law_32 rfl (n' := 33) ?_
    by_cases c : (xs x3.toNatClampNeg &&& 63).toInt < 0 ∨ 44 < (xs x3.toNatClampNeg &&& 63).toInt
    · exact sd_xtabOut G (tgt := 1798) dL_law_33 c rfl (hk M N hR)
    · obtain ⟨j, hj, hxj⟩ : ∃ j : Nat, j < 45 ∧ xs x3.toNatClampNeg &&& 63 = nI j := by
        obtain ⟨j, hj, e⟩ := pk_andE (xs x3.toNatClampNeg) (m := 63) 6 rfl
        refine ⟨j, ?_, e⟩
        rw [e, nI_toInt (by omega)] at c
        omega
      obtain ⟨s0, s1, s2, s3, s4, s5, s6, s7, s8, s9, s10, s11, s12, s13, s14, s15, s16, s17, s18, s19, s20, s21, s22, s23, s24, s25, s26, s27, s28, s29, s30, s31, s32, s33, s34, s35, s36, s37, s38, s39, s40, s41, s42, s43, s44⟩ := hs
      match j, hj, hxj with
      | 0, _, hxj => exact sd_xtabIn G (v := 0) (tgt := 228) hxj dL_law_33 (by decide) (by decide) rfl rfl (sd_law0 G s0 hR v1 v2 hk)
      | 1, _, hxj => exact sd_xtabIn G (v := 1) (tgt := 261) hxj dL_law_33 (by decide) (by decide) rfl rfl (sd_law1 G s1 hR v1 v2 v3 hk)
      | 2, _, hxj => exact sd_xtabIn G (v := 2) (tgt := 304) hxj dL_law_33 (by decide) (by decide) rfl rfl (sd_law2 G s2 hR v1 hk)
      | 3, _, hxj => exact sd_xtabIn G (v := 3) (tgt := 327) hxj dL_law_33 (by decide) (by decide) rfl rfl (sd_law3 G s3 hR v1 v2 v3 v4 v5 hk)
      | 4, _, hxj => exact sd_xtabIn G (v := 4) (tgt := 390) hxj dL_law_33 (by decide) (by decide) rfl rfl (sd_law4 G s4 hR v1 hk)
      | 5, _, hxj => exact sd_xtabIn G (v := 5) (tgt := 413) hxj dL_law_33 (by decide) (by decide) rfl rfl (sd_law5 G s5 hR v1 v2 hk)
      | 6, _, hxj => exact sd_xtabIn G (v := 6) (tgt := 446) hxj dL_law_33 (by decide) (by decide) rfl rfl (sd_law6 G s6 hR v1 v2 v3 hk)
      | 7, _, hxj => exact sd_xtabIn G (v := 7) (tgt := 489) hxj dL_law_33 (by decide) (by decide) rfl rfl (sd_law7 G s7 hR v1 hk)
      | 8, _, hxj => exact sd_xtabIn G (v := 8) (tgt := 512) hxj dL_law_33 (by decide) (by decide) rfl rfl (sd_law8 G s8 hR v1 hk)
      | 9, _, hxj => exact sd_xtabIn G (v := 9) (tgt := 535) hxj dL_law_33 (by decide) (by decide) rfl rfl (sd_law9 G s9 hR v1 hk)
      | 10, _, hxj => exact sd_xtabIn G (v := 10) (tgt := 558) hxj dL_law_33 (by decide) (by decide) rfl rfl (sd_law10 G s10 hR v1 v2 v3 hk)
      | 11, _, hxj => exact sd_xtabIn G (v := 11) (tgt := 601) hxj dL_law_33 (by decide) (by decide) rfl rfl (sd_law11 G s11 hR v1 hk)
      | 12, _, hxj => exact sd_xtabIn G (v := 12) (tgt := 624) hxj dL_law_33 (by decide) (by decide) rfl rfl (sd_law12 G s12 hR v1 v2 hk)
      | 13, _, hxj => exact sd_xtabIn G (v := 13) (tgt := 657) hxj dL_law_33 (by decide) (by decide) rfl rfl (sd_law13 G s13 hR v1 v2 hk)
      | 14, _, hxj => exact sd_xtabIn G (v := 14) (tgt := 690) hxj dL_law_33 (by decide) (by decide) rfl rfl (sd_law14 G s14 hR v1 v2 v3 v4 hk)
      | 15, _, hxj => exact sd_xtabIn G (v := 15) (tgt := 743) hxj dL_law_33 (by decide) (by decide) rfl rfl (sd_law15 G s15 hR v1 v2 v3 hk)
      | 16, _, hxj => exact sd_xtabIn G (v := 16) (tgt := 786) hxj dL_law_33 (by decide) (by decide) rfl rfl (sd_law16 G s16 hR v1 v2 v3 hk)
      | 17, _, hxj => exact sd_xtabIn G (v := 17) (tgt := 829) hxj dL_law_33 (by decide) (by decide) rfl rfl (sd_law17 G s17 hR v1 hk)
      | 18, _, hxj => exact sd_xtabIn G (v := 18) (tgt := 852) hxj dL_law_33 (by decide) (by decide) rfl rfl (sd_law18 G s18 hR v1 v2 hk)
      | 19, _, hxj => exact sd_xtabIn G (v := 19) (tgt := 885) hxj dL_law_33 (by decide) (by decide) rfl rfl (sd_law19 G s19 hR v1 v2 v3 v4 hk)
      | 20, _, hxj => exact sd_xtabIn G (v := 20) (tgt := 938) hxj dL_law_33 (by decide) (by decide) rfl rfl (sd_law20 G s20 hR v1 v2 v3 v4 hk)
      | 21, _, hxj => exact sd_xtabIn G (v := 21) (tgt := 991) hxj dL_law_33 (by decide) (by decide) rfl rfl (sd_law21 G s21 hR v1 v2 v3 v4 v5 v6 hk)
      | 22, _, hxj => exact sd_xtabIn G (v := 22) (tgt := 1066) hxj dL_law_33 (by decide) (by decide) rfl rfl (sd_law22 G s22 hR v1 v2 v3 hk)
      | 23, _, hxj => exact sd_xtabIn G (v := 23) (tgt := 1109) hxj dL_law_33 (by decide) (by decide) rfl rfl (sd_law23 G s23 hR v1 v2 v3 hk)
      | 24, _, hxj => exact sd_xtabIn G (v := 24) (tgt := 1152) hxj dL_law_33 (by decide) (by decide) rfl rfl (sd_law24 G s24 hR v1 v2 hk)
      | 25, _, hxj => exact sd_xtabIn G (v := 25) (tgt := 1185) hxj dL_law_33 (by decide) (by decide) rfl rfl (sd_law25 G s25 hR v1 v2 hk)
      | 26, _, hxj => exact sd_xtabIn G (v := 26) (tgt := 1218) hxj dL_law_33 (by decide) (by decide) rfl rfl (sd_law26 G s26 hR v1 v2 hk)
      | 27, _, hxj => exact sd_xtabIn G (v := 27) (tgt := 1251) hxj dL_law_33 (by decide) (by decide) rfl rfl (sd_law27 G s27 hR v1 v2 hk)
      | 28, _, hxj => exact sd_xtabIn G (v := 28) (tgt := 1284) hxj dL_law_33 (by decide) (by decide) rfl rfl (sd_law28 G s28 hR v1 v2 hk)
      | 29, _, hxj => exact sd_xtabIn G (v := 29) (tgt := 1317) hxj dL_law_33 (by decide) (by decide) rfl rfl (sd_law29 G s29 hR v1 v2 v3 v4 hk)
      | 30, _, hxj => exact sd_xtabIn G (v := 30) (tgt := 1370) hxj dL_law_33 (by decide) (by decide) rfl rfl (sd_law30 G s30 hR v1 v2 hk)
      | 31, _, hxj => exact sd_xtabIn G (v := 31) (tgt := 1403) hxj dL_law_33 (by decide) (by decide) rfl rfl (sd_law31 G s31 hR v1 v2 v3 v4 hk)
      | 32, _, hxj => exact sd_xtabIn G (v := 32) (tgt := 1456) hxj dL_law_33 (by decide) (by decide) rfl rfl (sd_law32 G s32 hR v1 v2 v3 v4 hk)
      | 33, _, hxj => exact sd_xtabIn G (v := 33) (tgt := 1509) hxj dL_law_33 (by decide) (by decide) rfl rfl (sd_law33 G s33 hR v1 v2 v3 hk)
      | 34, _, hxj => exact sd_xtabIn G (v := 34) (tgt := 1552) hxj dL_law_33 (by decide) (by decide) rfl rfl (sd_law34 G s34 hR v1 v2 hk)
      | 35, _, hxj => exact sd_xtabIn G (v := 35) (tgt := 1585) hxj dL_law_33 (by decide) (by decide) rfl rfl (sd_law35 G s35 hR v1 hk)
      | 36, _, hxj => exact sd_xtabIn G (v := 36) (tgt := 1608) hxj dL_law_33 (by decide) (by decide) rfl rfl (sd_law36 G s36 hR v1 v2 hk)
      | 37, _, hxj => exact sd_xtabIn G (v := 37) (tgt := 1641) hxj dL_law_33 (by decide) (by decide) rfl rfl (sd_law37 G s37 hR v1 v2 v3 hk)
      | 38, _, hxj => exact sd_xtabIn G (v := 38) (tgt := 1684) hxj dL_law_33 (by decide) (by decide) rfl rfl (sd_law38 G s38 hR hk)
      | 39, _, hxj => exact sd_xtabIn G (v := 39) (tgt := 1697) hxj dL_law_33 (by decide) (by decide) rfl rfl (sd_law39 G s39 hR hk)
      | 40, _, hxj => exact sd_xtabIn G (v := 40) (tgt := 1711) hxj dL_law_33 (by decide) (by decide) rfl rfl (sd_law40 G s40 hR hk)
      | 41, _, hxj => exact sd_xtabIn G (v := 41) (tgt := 1725) hxj dL_law_33 (by decide) (by decide) rfl rfl (sd_law41 G s41 hR v1 hk)
      | 42, _, hxj => exact sd_xtabIn G (v := 42) (tgt := 1748) hxj dL_law_33 (by decide) (by decide) rfl rfl (sd_law42 G s42 hR hk)
      | 43, _, hxj => exact sd_xtabIn G (v := 43) (tgt := 1761) hxj dL_law_33 (by decide) (by decide) rfl rfl (sd_law43 G s43 hR v1 hk)
      | 44, _, hxj => exact sd_xtabIn G (v := 44) (tgt := 1784) hxj dL_law_33 (by decide) (by decide) rfl rfl (sd_law44 G s44 hR hk)
      | j + 45, h, _ => omega
