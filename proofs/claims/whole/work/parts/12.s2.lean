theorem sd_wl101 : Cond.arrayOver (.object RX1) ∈ lw_tbl := List.mem_of_getElem? (i := 101) (by decide +kernel)
theorem sd_wl103 : Cond.arrayOver (.object RX9) ∈ lw_tbl := List.mem_of_getElem? (i := 103) (by decide +kernel)
theorem sd_wl111 : Cond.arrayOver (.array .int) ∈ lw_tbl := List.mem_of_getElem? (i := 111) (by decide +kernel)
theorem sd_wl228 : Cond.arrayOver (.array .long) ∈ lw_tbl := List.mem_of_getElem? (i := 228) (by decide +kernel)
theorem sd_wl707 : Cond.laysStatic "StrikeDays$Quarrel" "POWERS" "[J" ∈ lw_tbl := List.mem_of_getElem? (i := 707) (by decide +kernel)
theorem sd_tw_in {w : Cond} (h : w ∈ sd_TW) : w ∈ lw_tbl := (List.mem_filter.mp h).1
theorem sd_nw_in {w : Cond} (h : w ∈ sd_NW) : w ∈ lw_tbl := (List.mem_filter.mp h).1
theorem sd_wi0 : Cond.instantiable RX0 4 ∈ lw_tbl := List.mem_of_getElem? (i := 222) (by decide +kernel)
theorem sd_wi1 : Cond.instantiable RX1 2 ∈ lw_tbl := List.mem_of_getElem? (i := 301) (by decide +kernel)
theorem sd_wi2 : Cond.instantiable RX2 2 ∈ lw_tbl := List.mem_of_getElem? (i := 289) (by decide +kernel)
theorem sd_wi3 : Cond.instantiable RX3 2 ∈ lw_tbl := List.mem_of_getElem? (i := 274) (by decide +kernel)
theorem sd_wi4 : Cond.instantiable RX4 3 ∈ lw_tbl := List.mem_of_getElem? (i := 169) (by decide +kernel)
theorem sd_wi5 : Cond.instantiable RX5 8 ∈ lw_tbl := List.mem_of_getElem? (i := 105) (by decide +kernel)
theorem sd_wi6 : Cond.instantiable RX6 2 ∈ lw_tbl := List.mem_of_getElem? (i := 194) (by decide +kernel)
theorem sd_wi7 : Cond.instantiable RX7 2 ∈ lw_tbl := List.mem_of_getElem? (i := 209) (by decide +kernel)
theorem sd_wi8 : Cond.instantiable RX8 6 ∈ lw_tbl := List.mem_of_getElem? (i := 245) (by decide +kernel)
theorem sd_wi9 : Cond.instantiable RX9 2 ∈ lw_tbl := List.mem_of_getElem? (i := 316) (by decide +kernel)
theorem sd_wi10 : Cond.instantiable RX10 14 ∈ lw_tbl := List.mem_of_getElem? (i := 93) (by decide +kernel)
theorem sd_wi11 : Cond.instantiable RX11 36 ∈ lw_tbl := List.mem_of_getElem? (i := 1036) (by decide +kernel)
theorem sd_arr {s : State} {args : Array Value} {ty : FieldType} (h : (Cond.arrayClass ty).before args s = true) (hp : ∀ C : String, ty ≠ .object C) : ∃ cA : ClassId, ArrOfT s cA ty ∧ va_RA s cA ty := by
  obtain ⟨c, k, comp, h1, h2, h3⟩ := Cond.arrayClass_spec h
  refine ⟨c, fun n z => ⟨fun q hq => (by cases hq), k, h2, comp, h3⟩, ?_⟩
  cases ty with
  | object C => exact absurd rfl (hp C)
  | _ => exact h1
theorem sd_arrO {s : State} {args : Array Value} {C : String} (h : (Cond.arrayOver (.object C)).before args s = true) : ∃ cA : ClassId, ArrOfT s cA (.object C) ∧ va_RA s cA (.object C) := by
  obtain ⟨comp, c, k, h1, h2, h3, h4, h5⟩ := Cond.arrayOver_spec h
  exact ⟨c, fun n z => ⟨fun q hq => (by cases hq), k, h3, comp, h4⟩, k, comp, h3, h4, h1, h5⟩
theorem sd_arrA {s : State} {args : Array Value} {ty : FieldType} (h : (Cond.arrayOver (.array ty)).before args s = true) : ∃ cA : ClassId, ArrOfT s cA (.array ty) ∧ va_RA s cA (.array ty) := by
  obtain ⟨comp, c, k, h1, h2, h3, h4, h5⟩ := Jvm.Stand.arrayOver_specB h
  exact ⟨c, fun n z => ⟨fun q hq => (by cases hq), k, h3, comp, h4⟩, h5⟩
/-- what the Statement gives of POWERS -/
theorem sd_powers {args : Array Value} {s : State} {A : Nat → Prop} (hts : ∀ w ∈ lw_tbl, w.before args s = true) (hgv : (Jvm.Cond.and given_1 narrow_1).before args s = true) (hA : ∀ a : Nat, a < s.heap.size → ¬ A a) : sd_PW A s s.heap := by
  have hs := flat_of_before _ hgv
  have harr : (Cond.arrayOf (.static "StrikeDays$Quarrel" "POWERS" "[J") .long).before args s = true := hs _ (by decide +kernel)
  have hlen := va_eqt (hs (Cond.eq (.length (.static "StrikeDays$Quarrel" "POWERS" "[J")) (.int 11)) (by decide +kernel))
  have h0 := va_eqtl (hs (Cond.eq (.elem (.static "StrikeDays$Quarrel" "POWERS" "[J") (.int 0)) (.long 1)) (by decide +kernel))
  have h1 := va_eqtl (hs (Cond.eq (.elem (.static "StrikeDays$Quarrel" "POWERS" "[J") (.int 1)) (.long 12)) (by decide +kernel))
  have h2 := va_eqtl (hs (Cond.eq (.elem (.static "StrikeDays$Quarrel" "POWERS" "[J") (.int 2)) (.long 144)) (by decide +kernel))
  have h3 := va_eqtl (hs (Cond.eq (.elem (.static "StrikeDays$Quarrel" "POWERS" "[J") (.int 3)) (.long 1728)) (by decide +kernel))
  have h4 := va_eqtl (hs (Cond.eq (.elem (.static "StrikeDays$Quarrel" "POWERS" "[J") (.int 4)) (.long 20736)) (by decide +kernel))
  have h5 := va_eqtl (hs (Cond.eq (.elem (.static "StrikeDays$Quarrel" "POWERS" "[J") (.int 5)) (.long 248832)) (by decide +kernel))
  have h6 := va_eqtl (hs (Cond.eq (.elem (.static "StrikeDays$Quarrel" "POWERS" "[J") (.int 6)) (.long 2985984)) (by decide +kernel))
  have h7 := va_eqtl (hs (Cond.eq (.elem (.static "StrikeDays$Quarrel" "POWERS" "[J") (.int 7)) (.long 35831808)) (by decide +kernel))
  have h8 := va_eqtl (hs (Cond.eq (.elem (.static "StrikeDays$Quarrel" "POWERS" "[J") (.int 8)) (.long 429981696)) (by decide +kernel))
  have h9 := va_eqtl (hs (Cond.eq (.elem (.static "StrikeDays$Quarrel" "POWERS" "[J") (.int 9)) (.long 5159780352)) (by decide +kernel))
  have h10 := va_eqtl (hs (Cond.eq (.elem (.static "StrikeDays$Quarrel" "POWERS" "[J") (.int 10)) (.long 61917364224)) (by decide +kernel))
  obtain ⟨t, ht, hT⟩ := va_Tof (A := A) (N := 11) (f := fun j => .long (sd_pow j)) (by decide) harr hlen (fun j hj => by
    match j, hj with
    | 0, _ => exact h0
    | 1, _ => exact h1
    | 2, _ => exact h2
    | 3, _ => exact h3
    | 4, _ => exact h4
    | 5, _ => exact h5
    | 6, _ => exact h6
    | 7, _ => exact h7
    | 8, _ => exact h8
    | 9, _ => exact h9
    | 10, _ => exact h10
    | j + 11, h => omega) hA
  exact ⟨t, va_Zof (hts _ sd_wl707) (hts _ (sd_tw_in sd_w77)) ht hA, hT⟩
set_option maxHeartbeats 4000000 in
set_option maxRecDepth 100000 in
/-- the law from its entry, for a relation that holds at first and is kept -/
theorem sd_start {Rel : sd_Mem → sd_Mem → Prop} (hs : sd_StAll Rel) (hR0 : Rel sd_Mi0 sd_N0) {p : Program} {e : Env} {s : State} {m : MethodId} {below : List Frame} {meth : Method} {c : Code} (l : Launch) {b L : Nat} {xs : Nat → Int32} (hL : L ≤ 3584) (C0 : lw_At p s m meth c b L xs) : W p l e room_1 s m #[Value.ref b] below meth c s.heap [] 0 0 (lw_Z below #[Value.ref b] s) (entryFrame m ([Value.ref b] : List Value).toArray 4) := by
  obtain ⟨hx, hb, hr, hml, hown, hts, hX, hbl, hlocks, hgv⟩ := id C0
  obtain ⟨c0, i0, k0⟩ := u_known (C := RX0) (T := TX0) (N := 4) (n := 4) hts (fun w h => sd_tw_in (sd_in0 w h)) (hts _ sd_wi0)
  obtain ⟨c1, i1, k1⟩ := u_known (C := RX1) (T := TX1) (N := 2) (n := 2) hts (fun w h => sd_tw_in (sd_in1 w h)) (hts _ sd_wi1)
  obtain ⟨c2, i2, k2⟩ := u_known (C := RX2) (T := TX2) (N := 2) (n := 2) hts (fun w h => sd_tw_in (sd_in2 w h)) (hts _ sd_wi2)
  obtain ⟨c3, i3, k3⟩ := u_known (C := RX3) (T := TX3) (N := 2) (n := 2) hts (fun w h => sd_tw_in (sd_in3 w h)) (hts _ sd_wi3)
  obtain ⟨c4, i4, k4⟩ := u_known (C := RX4) (T := TX4) (N := 3) (n := 3) hts (fun w h => sd_tw_in (sd_in4 w h)) (hts _ sd_wi4)
  obtain ⟨c5, i5, k5⟩ := u_known (C := RX5) (T := TX5) (N := 8) (n := 8) hts (fun w h => sd_tw_in (sd_in5 w h)) (hts _ sd_wi5)
  obtain ⟨c6, i6, k6⟩ := u_known (C := RX6) (T := TX6) (N := 2) (n := 2) hts (fun w h => sd_tw_in (sd_in6 w h)) (hts _ sd_wi6)
  obtain ⟨c7, i7, k7⟩ := u_known (C := RX7) (T := TX7) (N := 2) (n := 2) hts (fun w h => sd_tw_in (sd_in7 w h)) (hts _ sd_wi7)
  obtain ⟨c8, i8, k8⟩ := u_known (C := RX8) (T := TX8) (N := 6) (n := 6) hts (fun w h => sd_tw_in (sd_in8 w h)) (hts _ sd_wi8)
  obtain ⟨c9, i9, k9⟩ := u_known (C := RX9) (T := TX9) (N := 2) (n := 2) hts (fun w h => sd_tw_in (sd_in9 w h)) (hts _ sd_wi9)
  obtain ⟨c10, i10, k10⟩ := u_known (C := RX10) (T := TX10) (N := 14) (n := 14) hts (fun w h => sd_tw_in (sd_in10 w h)) (hts _ sd_wi10)
  obtain ⟨c11, i11, k11⟩ := u_known (C := RX11) (T := TX11) (N := 36) (n := 36) hts (fun w h => sd_tw_in (sd_in11 w h)) (hts _ sd_wi11)
  obtain ⟨a0, ha0, hb0⟩ := sd_arr (hts _ (sd_tw_in sd_w167)) (fun _ h => by cases h)
  obtain ⟨a1, ha1, hb1⟩ := sd_arr (hts _ (sd_tw_in sd_w272)) (fun _ h => by cases h)
  obtain ⟨a2, ha2, hb2⟩ := sd_arr (hts _ (sd_tw_in sd_w243)) (fun _ h => by cases h)
  obtain ⟨a3, ha3, hb3⟩ := sd_arrO (hts _ sd_wl101)
  obtain ⟨a4, ha4, hb4⟩ := sd_arrO (hts _ sd_wl103)
  obtain ⟨a5, ha5, hb5⟩ := sd_arrA (hts _ sd_wl111)
  obtain ⟨a6, ha6, hb6⟩ := sd_arrA (hts _ sd_wl228)
  obtain ⟨E, hE⟩ : ∃ E : sd_Env, E = ((fun k => [c0, c1, c2, c3, c4, c5, c6, c7, c8, c9, c10, c11].getD k 0, fun k => [i0, i1, i2, i3, i4, i5, i6, i7, i8, i9, i10, i11].getD k (fun _ => 0)), fun k => [a0, a1, a2, a3, a4, a5, a6].getD k 0, fun _ => 0) := ⟨_, rfl⟩
  have hK : va_K E.1 sd_cl (sd_tys E) s := by
    subst hE
    refine ⟨fun k q hq => ?_, fun k q hq => ?_⟩
    · match k, hq with
      | 0, hq => cases hq; exact k0
      | 1, hq => cases hq; exact k1
      | 2, hq => cases hq; exact k2
      | 3, hq => cases hq; exact k3
      | 4, hq => cases hq; exact k4
      | 5, hq => cases hq; exact k5
      | 6, hq => cases hq; exact k6
      | 7, hq => cases hq; exact k7
      | 8, hq => cases hq; exact k8
      | 9, hq => cases hq; exact k9
      | 10, hq => cases hq; exact k10
      | 11, hq => cases hq; exact k11
      | k + 12, hq => simp [sd_cl] at hq
    · match k, hq with
      | 0, hq => cases hq; exact ⟨ha0, hb0⟩
      | 1, hq => cases hq; exact ⟨ha1, hb1⟩
      | 2, hq => cases hq; exact ⟨ha2, hb2⟩
      | 3, hq => cases hq; exact ⟨ha3, hb3⟩
      | 4, hq => cases hq; exact ⟨ha4, hb4⟩
      | 5, hq => cases hq; exact ⟨ha5, hb5⟩
      | 6, hq => cases hq; exact ⟨ha6, hb6⟩
      | k + 7, hq => simp [sd_tys] at hq
  have hN : sd_NWs s := fun w hw => va_Nw.of (by
    have h2 := (List.mem_filter.mp hw).2
    cases w <;> first | rfl | cases h2) (hts w (sd_nw_in hw))
  have hAO : sd_AO s := ⟨va_AO.of (hts _ sd_wl101), va_AO.of (hts _ sd_wl103), hts _ sd_wl111, hts _ sd_wl228⟩
  have hPW : sd_PW (fun q : Nat => s.heap.size ≤ q) s s.heap := sd_powers hts hgv (fun a h => Nat.not_le.mpr h)
  have G : sd_G (p, l, e, s, m, #[Value.ref b], below, meth, c) E (sd_A0 (p, l, e, s, m, #[Value.ref b], below, meth, c)) RL cL_law 4 (some .boolean) := ⟨hx, hb, hml, hown, fun w h => hts w (sd_tw_in h), hr, hlocks, hK, hN, hPW, hAO, fun _ h => h⟩
  have hl := lv_entry ([.ref b]) (n := 4) (Nat.le_of_ble_eq_true rfl)
  rw [lg_entry_eq]
  have main : sd_Y (p, l, e, s, m, #[Value.ref b], below, meth, c) room_1 E (sd_A0 (p, l, e, s, m, #[Value.ref b], below, meth, c)) 4 (lw_Z below #[Value.ref b] s) [] 0 0 0 [(0, .ref b)] [] := by
    refine sd_ynew G (T := TX10) (N := 14) (ci := 10) (fs := [.null, .null, .null, .null, .null, .null, .null, .null, .null, .null, .null, .null, .null, .int 0]) rfl sd_in10 tyX10_ok sd_w92 sd_w93 sd_w76 (by decide) (Nat.le_of_ble_eq_true rfl) (Nat.le_of_ble_eq_true rfl) dL_law_0 rfl (n' := 3) (fun q0 => ?_)
    refine sd_ydup G dL_law_3 rfl rfl (n' := 4) ?_
    refine sd_yinit [] [.ref q0] [] G (cc_X10_init q0) sd_w94 sd_w95 sd_w76 sd_w96 sd_nm_X10_init rfl ⟨rfl, rfl, Nat.le_of_ble_eq_true rfl, Nat.le_of_ble_eq_true rfl⟩ rfl rfl (Nat.le_of_ble_eq_true rfl) ⟨Nat.le_of_ble_eq_true rfl, Nat.le_of_ble_eq_true rfl⟩ dL_law_4 rfl (n' := 7) (fun u0 => ?_)
    refine sd_yastore_n [(1, .ref q0), (0, .ref b)] G dL_law_7 rfl (by decide) rfl rfl (n' := 8) ?_
    refine sd_ynew G (T := TX11) (N := 36) (ci := 11) (fs := [.int 0, .null, .int 0, .long 0, .long 0, .null, .null, .null, .null, .null, .null, .null, .null, .null, .int 0, .int 0, .int 0, .null, .null, .null, .null, .int 0, .int 0, .null, .null, .null, .null, .null, .null, .null, .int 0, .null, .int 0, .int 0, .int 0, .long 0]) rfl sd_in11 tyX11_ok sd_w1035 sd_w1036 sd_w89 (by decide) (Nat.le_of_ble_eq_true rfl) (Nat.le_of_ble_eq_true rfl) dL_law_8 rfl (n' := 11) (fun q1 => ?_)
    refine sd_ydup G dL_law_11 rfl rfl (n' := 12) ?_
    refine sd_yinit [] [.ref q1] _ G (cc_X11_init q1) sd_w1037 sd_w1038 sd_w89 sd_w1039 sd_nm_X11_init rfl ⟨rfl, rfl, Nat.le_of_ble_eq_true rfl, Nat.le_of_ble_eq_true rfl⟩ rfl rfl (Nat.le_of_ble_eq_true rfl) ⟨Nat.le_of_ble_eq_true rfl, Nat.le_of_ble_eq_true rfl⟩ dL_law_12 rfl (n' := 15) (fun u1 => ?_)
    refine sd_yastore_n [(2, .ref q1), (1, .ref q0), (0, .ref b)] G dL_law_15 rfl (by decide) rfl rfl (n' := 16) ?_
    refine sd_yiconst G (v := 0) dL_law_16 rfl rfl (n' := 17) ?_
    refine sd_yistore_n [(3, .int 0), (2, .ref q1), (1, .ref q0), (0, .ref b)] G dL_law_17 rfl (by decide) rfl rfl (n' := 18) ?_
    intro H locs ls hP hD hS hl
    refine W.widen (k := 600000) (n := 7302250) (Nat.le_of_ble_eq_true rfl) (Nat.le_of_ble_eq_true rfl) ?_
    obtain ⟨F, hF⟩ : ∃ F : sd_Env, F = (E.1, E.2.1, fun id => if id < 99 then (if id = 0 then q0 else u0 id) else (if id = 100 then q1 else u1 id)) := ⟨_, rfl⟩
    have hF1 : F.1 = E.1 := by rw [hF]
    have hF2 : F.2.1 = E.2.1 := by rw [hF]
    have eC : ∀ i, i < 99 → (fun id => if id = 0 then q0 else u0 id) i = F.2.2 i := fun i hi => by rw [hF]; exact (if_pos hi).symm
    have eM : ∀ i, 100 ≤ i → i < 123 → (fun id => if id = 100 then q1 else u1 id) i = F.2.2 i := fun i h1 h2 => by rw [hF]; exact (if_neg (by omega)).symm
    have z0 : F.2.2 0 = q0 := by rw [hF]; rfl
    have z1 : F.2.2 100 = q1 := by rw [hF]; rfl
    have hPC : va_P E.1 sd_cl (sd_pic (E.1, E.2.1, fun id => if id = 0 then q0 else u0 id) sd_LC sd_Mi0) H := fun k q hk => hP k q (by
      show (sd_pic (E.1, E.2.1, fun id => if id = 0 then q0 else u0 id) sd_LC sd_Mi0 ++ _)[k]? = some q
      rw [List.getElem?_append_left (List.getElem?_eq_some_iff.mp hk).1]; exact hk)
    have hPM : va_P E.1 sd_cl (sd_pic (E.1, E.2.1, fun id => if id = 100 then q1 else u1 id) sd_LM sd_N0) H := fun k q hk => hP ((sd_pic (E.1, E.2.1, fun id => if id = 0 then q0 else u0 id) sd_LC sd_Mi0).length + k) q (by
      show (sd_pic (E.1, E.2.1, fun id => if id = 0 then q0 else u0 id) sd_LC sd_Mi0 ++ sd_pic (E.1, E.2.1, fun id => if id = 100 then q1 else u1 id) sd_LM sd_N0)[_]? = some q
      rw [List.getElem?_append_right (by omega), Nat.add_sub_cancel_left]; exact hk)
    have gC : va_P F.1 sd_cl (sd_pic F sd_LC sd_Mi0) H := sd_P_of fun id hid => by
      have h := sd_relay eC (List.mem_range.mp hid) (sd_P_at hPC hid)
      rw [← hF1, ← hF2] at h
      exact h
    have gM : va_P F.1 sd_cl (sd_pic F sd_LM sd_N0) H := sd_P_of fun id hid => by
      have h9 := List.mem_range'_1.mp hid
      have h := sd_relayM eM h9.1 h9.2 (sd_P_at hPM hid)
      rw [← hF1, ← hF2] at h
      exact h
    have gD : va_D (sd_A0 (p, l, e, s, m, #[Value.ref b], below, meth, c)) (sd_pic F sd_LC sd_Mi0 ++ sd_pic F sd_LM sd_N0) := by
      refine sd_D_fst ?_ hD
      show (sd_pic (E.1, E.2.1, fun id => if id = 0 then q0 else u0 id) sd_LC sd_Mi0 ++ sd_pic (E.1, E.2.1, fun id => if id = 100 then q1 else u1 id) sd_LM sd_N0).map Prod.fst = _
      simp only [List.map_append, sd_pic_fst]
      congr 1
      · exact List.map_congr_left fun id hid => eC id (List.mem_range.mp hid)
      · exact List.map_congr_left fun id hid => eM id (List.mem_range'_1.mp hid).1 (List.mem_range'_1.mp hid).2
    have GF : sd_G (p, l, e, s, m, #[Value.ref b], below, meth, c) F (sd_A0 (p, l, e, s, m, #[Value.ref b], below, meth, c)) RL cL_law 4 (some .boolean) := ⟨hx, hb, hml, hown, fun w h => hts w (sd_tw_in h), hr, hlocks, by unfold sd_tys; rw [hF1, hF2]; exact hK, hN, hPW, hAO, fun _ h => h⟩
    have GL : sd_GL (p, l, e, s, m, #[Value.ref b], below, meth, c) F b xs L := ⟨GF, hX, hbl⟩
    refine sd_lawloop hs GL hL (fun M N lv => ?_) (L + 1) 0 sd_Mi0 sd_N0 0 nI_0.symm (by omega) (Nat.zero_le _) hR0 H locs ls gC gM gD hS (by rw [z0, z1]; exact lv_sub hl [3, 2, 1, 0] rfl)
    intro H locs ls hP hPN hD hS hl
    refine lv_iconst (v := 1) hx hb dL_law_1804 (by decide) ?_
    refine va_forget (fun q hq => hS.2.2 q hq) ?_
    exact lw_ret hx hb hr hlocks dL_law_1805
  exact main s.heap [] _ (fun k q h => by simp at h) ⟨fun i j p q h => by simp at h, fun k q h => by simp at h⟩ va_S.rf hl
