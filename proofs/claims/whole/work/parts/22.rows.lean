theorem ln_row : ∀ r, r < 6 → sd_ln (1 + 1 + 2 * r + 1) = 40 := by decide
theorem ln_txt : ∀ r, r < 4 → sd_ln (14 + 1 + 2 * r + 1) = 60 := by decide
theorem make_eq {h cap n : Nat} (M : sd_Mem) (v : Int32) (hc : sd_ln (h + 1) = cap) (hc2 : cap ≤ 60) (hn : n ≤ cap) : ∃ M' : sd_Mem, fn_X1_make M h (nI n) v = some M' ∧ M'.1 h 1 = nI n ∧ (∀ k, k < cap → M'.1 (h + 1) k = v) ∧ (∀ b, b ≠ h → b ≠ h + 1 → M'.1 b = M.1 b) ∧ M'.2 = M.2 := by
  obtain ⟨M', e1, e2, e3, e4⟩ := fill_eq (sd_setI M h 1 (nI n)) v hc (by omega)
  refine ⟨M', ?_, ?_, fun k hk => by rw [e2 k, if_pos hk], fun b hb hb2 => ?_, e4⟩
  · unfold fn_X1_make fn_X1_make_0
    have s1 : (if Int32.ofNat (sd_ln (h + 1)) < nI n then Int32.ofNat (sd_ln (h + 1)) else nI n) = nI n := by
      rw [hc, if_neg (show ¬ Int32.ofNat cap < nI n from nI_nlt hn (by omega))]
    rw [s1]
    have s2 : (if (0 : Int32) < nI n then nI n else 0) = nI n := by
      by_cases z : n = 0
      · subst z; rfl
      · rw [if_pos (show (0 : Int32) < nI n from nI_lt (a := 0) (by omega) (by omega))]
    rw [s2, e1]
    rfl
  · rw [e3 h (by omega), gIs]
  · rw [e3 b hb2]
    exact funext fun k => gIa hb
theorem hold1 {M : sd_Mem} {h s : Nat} {x : Int32} (hs : s ≤ 60) (e : M.1 h 1 = nI s) : (fn_X1_holds M h x 1 = some 0 ∧ fn_X11_in x 0 (nI s - 1) = some 0) ∨ ((fn_X1_holds M h x 1 = some 1 ∧ fn_X11_in x 0 (nI s - 1) = some 1) ∧ ∃ i : Nat, i < s ∧ x = nI i) := by
  unfold fn_X1_holds fn_X1_holds_0
  rw [e, if_neg (show ¬ (1 : Int32) < 0 by decide)]
  by_cases hx : x < 0
  · left
    refine ⟨?_, in_out (Or.inl hx)⟩
    by_cases h1 : nI s < 1
    · rw [if_pos h1]
    · rw [if_neg h1, if_pos hx]
  · obtain ⟨i, hi, rfl⟩ := nI_of hx
    have ei : (nI i).toInt = (i : Int) := nI_toInt hi
    have es : (nI s - 1).toInt = (s : Int) - 1 := pk_sub_toInt (a := s) (b := 1) (by omega) (by decide)
    by_cases his : i < s
    · right
      refine ⟨⟨?_, in_in hx ?_⟩, i, his, rfl⟩
      · rw [if_neg (show ¬ nI s < 1 from nI_nlt (b := 1) (by omega) (by omega)), if_neg hx, if_neg ?_]
        rw [Int32.lt_iff_toInt_lt, ei, es]; omega
      · rw [Int32.lt_iff_toInt_lt, ei, es]; omega
    · left
      refine ⟨?_, in_out (Or.inr ?_)⟩
      · by_cases h1 : nI s < 1
        · rw [if_pos h1]
        · rw [if_neg h1, if_neg hx, if_pos ?_]
          rw [Int32.lt_iff_toInt_lt, ei, es]; omega
      · rw [Int32.lt_iff_toInt_lt, ei, es]; omega
theorem swap_eq {M : sd_Mem} {h s i cap : Nat} {v : Int32} (hc : sd_ln (h + 1) = cap) (hs : s ≤ cap) (hc2 : cap ≤ 60) (hi : i < s) (hh : fn_X1_holds M h (nI i) 1 = some 1) : fn_X1_swap M h (nI i) v = some (M.1 (h + 1) i, sd_setI M (h + 1) i v) := by
  unfold fn_X1_swap fn_X1_swap_0
  rw [hh, Option.bind_some, if_neg I1ne, hc]
  simp only [clm (show i < 2 ^ 31 by omega), if_neg (bd2 (show i < cap by omega) (by omega))]
theorem st_0 : sd_St0 Rel := by
  intro M N hR x1 x2
  rcases six x1 6 (by decide) with hx | ⟨r, hr, rfl⟩
  · exact ⟨(-1, M), (-1, N), by simp [fn_X10_row, fn_X10_row_0, isRow_out hx], by simp [fn_X11_row, fn_X11_row_0, isRowN_out hx], rfl, hR⟩
  have i1 := isRow_in (vp_in_nI hr (by decide))
  have i2 := isRowN_in (vp_in_nI hr (by decide))
  by_cases h1 : ¬ x2 ≤ 40
  · exact ⟨(-1, M), (-1, N), by simp [fn_X10_row, fn_X10_row_0, i1, h1], by simp [fn_X11_row, fn_X11_row_0, i2, h1], rfl, hR⟩
  have h1 := Decidable.of_not_not h1
  by_cases h2 : ¬ 0 ≤ x2
  · exact ⟨(-3, tlM M 5), (-3, tlN N 5), by simp [fn_X10_row, fn_X10_row_0, i1, h1, h2, tl5], by simp [fn_X11_row, fn_X11_row_0, i2, h1, h2, me5], rfl, hR.tell (by decide)⟩
  have h2 := Decidable.of_not_not h2
  obtain ⟨n, hn, rfl⟩ := nI_of2 (M := 40) (n := 40) rfl (Int32.not_lt.mpr h2) h1
  have b := bd2 hr (by decide)
  obtain ⟨M', m1, m2, m3, m4, m5⟩ := make_eq (h := 1 + 1 + 2 * r) M 0 (ln_row r hr) (by decide) hn
  obtain ⟨N', n1, n2, n3, n4⟩ := Nrow_loop hr (x2 := nI n) sd_FU 0 (sd_setI N 102 r (nI n)) (by decide) (by decide)
  refine ⟨(nI n, M'), (nI n, N'), ?_, ?_, rfl, ?_⟩
  · simp only [fn_X10_row, fn_X10_row_0, i1, Option.bind_some, if_neg I1ne, if_pos h1, if_pos h2, clm (show r < 2 ^ 31 by omega), if_neg b, m1]
  · simp only [fn_X11_row, fn_X11_row_0, i2, Option.bind_some, if_neg I1ne, if_pos h1, if_pos h2, clm (show r < 2 ^ 31 by omega), if_neg b]
    exact n1
  · have hP := hR 1
    have kM : keepM [1, 9] M M' := fun id k q => by
      have e1 : id ≠ 1 + 1 + 2 * r := fun e => q (by rw [e, (rgM_row hr).1]; decide)
      have e2 : id ≠ 1 + 1 + 2 * r + 1 := fun e => q (by rw [e, (rgM_row hr).2]; decide)
      rw [m4 id e1 e2, m5]
      exact ⟨rfl, rfl⟩
    have kN : keepN [1, 9] N N' := fun id k q => by
      have e1 : id ≠ 102 := fun e => q (by rw [e, rgN_o (by decide)]; decide)
      have e2 : id ≠ 103 := fun e => q (by rw [e, rgN_o (by decide)]; decide)
      rw [n3 id e2, n4, gIa e1]
      exact ⟨rfl, rfl⟩
    refine hR.one 1 kM kN fun r' hr' => ?_
    obtain ⟨p1, p2⟩ := hP r' hr'
    rw [n3 102 (by decide)]
    by_cases hq : r' = r
    · subst hq
      rw [m2, gIs]
      refine ⟨Or.inr ⟨n, hn, rfl, rfl⟩, fun k hk => ?_⟩
      rw [m3 k hk, n2, if_pos (by omega)]
    · rw [m4 _ (by omega) (by omega), m4 _ (by omega) (by omega), gIk hq]
      refine ⟨p1, fun k hk => ?_⟩
      rw [n2, if_neg (by omega), gIa (by decide)]
      exact p2 k hk
theorem st_1 : sd_St1 Rel := by
  intro M N hR x1 x2 x3
  rcases six x1 6 (by decide) with hx | ⟨r, hr, rfl⟩
  · exact ⟨(-1, M), (-1, N), by simp [fn_X10_lay, fn_X10_lay_0, isRow_out hx], by simp [fn_X11_lay, fn_X11_lay_0, aRow_out hx], rfl, hR⟩
  have i1 := isRow_in (vp_in_nI hr (by decide))
  have b := bd2 hr (by decide)
  have c1 := clm (show r < 2 ^ 31 by omega)
  obtain ⟨hs, hc⟩ := hR 1 r hr
  rcases hs with ⟨s1, s2⟩ | ⟨n, hn, s1, s2⟩
  · refine ⟨(-3, tlM M 1), (-3, tlN N 1), ?_, ?_, rfl, hR.tell (by decide)⟩
    · simp only [fn_X10_lay, fn_X10_lay_0, i1, Option.bind_some, if_neg I1ne, c1, if_neg b, miss1 s1, tl1]
    · simp only [fn_X11_lay, fn_X11_lay_0, aRow_miss hr s2, Option.bind_some, if_neg n3]
  have i3 := miss0 (show n < 2 ^ 31 by omega) s1
  have i4 := aRow_ok hr (show n < 2 ^ 31 by omega) s2
  rcases hold1 (x := x2) (show n ≤ 60 by omega) s1 with ⟨e1, e2⟩ | ⟨⟨e1, e2⟩, i, hi, rfl⟩
  · refine ⟨(-3, tlM M 2), (-3, tlN N 2), ?_, ?_, rfl, hR.tell (by decide)⟩
    · simp only [fn_X10_lay, fn_X10_lay_0, i1, Option.bind_some, if_neg I1ne, c1, if_neg b, i3, if_true, e1, tl2]
    · simp only [fn_X11_lay, fn_X11_lay_0, i4, Option.bind_some, if_pos z0, c1, if_neg b, s2, e2, if_true, me2]
  have j1 := swap_eq (v := x3) (ln_row r hr) (show n ≤ 40 by omega) (by decide) hi e1
  have x1 : (40 : Int32) * nI r + nI i = nI (40 * r + i) := ix rfl
  have b2 := bd2 (show 40 * r + i < 240 by omega) (by decide)
  have c2 := clm (show 40 * r + i < 2 ^ 31 by omega)
  refine ⟨(1, sd_setI (sd_setI M (1 + 1 + 2 * r + 1) i x3) 0 13 (M.1 (1 + 1 + 2 * r + 1) i)), (1, sd_setI (sd_setI N 100 2 (N.1 103 (40 * r + i))) 103 (40 * r + i) x3), ?_, ?_, ?_, ?_⟩
  · simp only [fn_X10_lay, fn_X10_lay_0, i1, Option.bind_some, if_neg I1ne, c1, if_neg b, i3, if_true, e1, j1]
  · simp only [fn_X11_lay, fn_X11_lay_0, i4, Option.bind_some, if_pos z0, c1, if_neg b, s2, e2, if_neg I1ne, fn_X11_rowAt, fn_X11_rowAt_0, x1, c2, if_neg b2]
  · rfl
  · refine hR.upd (S := [0, 1]) (keepM.I (by decide) (keepM.I (by rw [(rgM_row hr).2]; decide) keepM.rf)) (keepN.I (by rw [rgN_o (by decide)]; decide) (keepN.I (by decide) keepN.rf)) (fun j hj => ?_)
    rcases List.mem_cons.mp hj with rfl | hj
    · show _ = _
      rw [gIs, gIa (by decide), gIs]
      exact hc i (by omega)
    · rw [List.mem_singleton] at hj
      subst hj
      intro r' hr'
      obtain ⟨p1, p2⟩ := hR 1 r' hr'
      rw [gIa (by omega), gIa (by omega), gIa (by decide), gIa (by decide)]
      refine ⟨p1, fun k hk => ?_⟩
      rw [gIa (by omega), gI, gI]
      by_cases q : r' = r ∧ k = i
      · obtain ⟨rfl, rfl⟩ := q; rw [if_pos ⟨rfl, rfl⟩, if_pos ⟨rfl, rfl⟩]
      · rw [if_neg (by omega), if_neg (by omega), gIa (by decide)]; exact p2 k hk
theorem st_5 : sd_St5 Rel := by
  intro M N hR x1 x2
  rcases six x1 4 (by decide) with hx | ⟨r, hr, rfl⟩
  · exact ⟨(-1, M), (-1, N), by simp [fn_X10_text, fn_X10_text_0, isText_out hx], by simp [fn_X11_text, fn_X11_text_0, isTextN_out hx], rfl, hR⟩
  have i1 := isText_in (vp_in_nI hr (by decide))
  have i2 := isTextN_in (vp_in_nI hr (by decide))
  by_cases h1 : ¬ x2 ≤ 60
  · exact ⟨(-1, M), (-1, N), by simp [fn_X10_text, fn_X10_text_0, i1, h1], by simp [fn_X11_text, fn_X11_text_0, i2, h1], rfl, hR⟩
  have h1 := Decidable.of_not_not h1
  by_cases h2 : ¬ 0 ≤ x2
  · exact ⟨(-3, tlM M 5), (-3, tlN N 5), by simp [fn_X10_text, fn_X10_text_0, i1, h1, h2, tl5], by simp [fn_X11_text, fn_X11_text_0, i2, h1, h2, me5], rfl, hR.tell (by decide)⟩
  have h2 := Decidable.of_not_not h2
  obtain ⟨n, hn, rfl⟩ := nI_of2 (M := 60) (n := 60) rfl (Int32.not_lt.mpr h2) h1
  have b := bd2 hr (by decide)
  obtain ⟨M', m1, m2, m3, m4, m5⟩ := make_eq (h := 14 + 1 + 2 * r) M 32 (ln_txt r hr) (by decide) hn
  obtain ⟨N', n1, n2, n3, n4⟩ := Ntext_loop hr (x2 := nI n) sd_FU 0 (sd_setI N 105 r (nI n)) (by decide) (by decide)
  refine ⟨(nI n, M'), (nI n, N'), ?_, ?_, rfl, ?_⟩
  · simp only [fn_X10_text, fn_X10_text_0, i1, Option.bind_some, if_neg I1ne, if_pos h1, if_pos h2, clm (show r < 2 ^ 31 by omega), if_neg b, m1]
  · simp only [fn_X11_text, fn_X11_text_0, i2, Option.bind_some, if_neg I1ne, if_pos h1, if_pos h2, clm (show r < 2 ^ 31 by omega), if_neg b]
    exact n1
  · have hP := hR 2
    have kM : keepM [2, 9] M M' := fun id k q => by
      have e1 : id ≠ 14 + 1 + 2 * r := fun e => q (by rw [e, (rgM_txt hr).1]; decide)
      have e2 : id ≠ 14 + 1 + 2 * r + 1 := fun e => q (by rw [e, (rgM_txt hr).2]; decide)
      rw [m4 id e1 e2, m5]
      exact ⟨rfl, rfl⟩
    have kN : keepN [2, 9] N N' := fun id k q => by
      have e1 : id ≠ 105 := fun e => q (by rw [e, rgN_o (by decide)]; decide)
      have e2 : id ≠ 106 := fun e => q (by rw [e, rgN_o (by decide)]; decide)
      rw [n3 id e2, n4, gIa e1]
      exact ⟨rfl, rfl⟩
    refine hR.one 2 kM kN fun r' hr' => ?_
    obtain ⟨p1, p2⟩ := hP r' hr'
    rw [n3 105 (by decide)]
    by_cases hq : r' = r
    · subst hq
      rw [m2, gIs]
      refine ⟨Or.inr ⟨n, hn, rfl, rfl⟩, fun k hk => ?_⟩
      rw [m3 k hk, n2, if_pos (by omega)]
    · rw [m4 _ (by omega) (by omega), m4 _ (by omega) (by omega), gIk hq]
      refine ⟨p1, fun k hk => ?_⟩
      rw [n2, if_neg (by omega), gIa (by decide)]
      exact p2 k hk
theorem st_6 : sd_St6 Rel := by
  intro M N hR x1 x2 x3
  rcases six x1 4 (by decide) with hx | ⟨r, hr, rfl⟩
  · exact ⟨(-1, M), (-1, N), by simp [fn_X10_put, fn_X10_put_0, isText_out hx], by simp [fn_X11_put, fn_X11_put_0, aText_out hx], rfl, hR⟩
  have i1 := isText_in (vp_in_nI hr (by decide))
  have b := bd2 hr (by decide)
  have c1 := clm (show r < 2 ^ 31 by omega)
  obtain ⟨hs, hc⟩ := hR 2 r hr
  rcases hs with ⟨s1, s2⟩ | ⟨n, hn, s1, s2⟩
  · refine ⟨(-3, tlM M 1), (-3, tlN N 1), ?_, ?_, rfl, hR.tell (by decide)⟩
    · simp only [fn_X10_put, fn_X10_put_0, i1, Option.bind_some, if_neg I1ne, c1, if_neg b, miss1 s1, tl1]
    · simp only [fn_X11_put, fn_X11_put_0, aText_miss hr s2, Option.bind_some, if_neg n3]
  have i3 := miss0 (show n < 2 ^ 31 by omega) s1
  have i4 := aText_ok hr (show n < 2 ^ 31 by omega) s2
  rcases hold1 (x := x2) (show n ≤ 60 by omega) s1 with ⟨e1, e2⟩ | ⟨⟨e1, e2⟩, i, hi, rfl⟩
  · refine ⟨(-3, tlM M 2), (-3, tlN N 2), ?_, ?_, rfl, hR.tell (by decide)⟩
    · simp only [fn_X10_put, fn_X10_put_0, i1, Option.bind_some, if_neg I1ne, c1, if_neg b, i3, if_true, e1, tl2]
    · simp only [fn_X11_put, fn_X11_put_0, i4, Option.bind_some, if_pos z0, c1, if_neg b, s2, e2, if_true, me2]
  have j1 := swap_eq (v := x3.toInt8.toInt32) (ln_txt r hr) (show n ≤ 60 by omega) (by decide) hi e1
  have x1 : (60 : Int32) * nI r + nI i = nI (60 * r + i) := ix rfl
  have b2 := bd2 (show 60 * r + i < 240 by omega) (by decide)
  have c2 := clm (show 60 * r + i < 2 ^ 31 by omega)
  refine ⟨(1000 + M.1 (14 + 1 + 2 * r + 1) i, sd_setI M (14 + 1 + 2 * r + 1) i x3.toInt8.toInt32), (N.1 106 (60 * r + i) + 1000, sd_setI N 106 (60 * r + i) x3.toInt8.toInt32), ?_, ?_, ?_, ?_⟩
  · simp only [fn_X10_put, fn_X10_put_0, i1, Option.bind_some, if_neg I1ne, c1, if_neg b, i3, if_true, e1, j1]
  · simp only [fn_X11_put, fn_X11_put_0, i4, Option.bind_some, if_pos z0, c1, if_neg b, s2, e2, if_neg I1ne, fn_X11_rowAt, fn_X11_rowAt_0, x1, c2, if_neg b2]
  · show 1000 + M.1 (14 + 1 + 2 * r + 1) i = N.1 106 (60 * r + i) + 1000
    rw [hc i (by omega), Int32.add_comm]
  · refine hR.one 2 (keepM.I (by rw [(rgM_txt hr).2]; decide) keepM.rf) (keepN.I (by rw [rgN_o (by decide)]; decide) keepN.rf) fun r' hr' => ?_
    obtain ⟨p1, p2⟩ := hR 2 r' hr'
    rw [gIa (by omega), gIa (by decide)]
    refine ⟨p1, fun k hk => ?_⟩
    rw [gI, gI]
    by_cases q : r' = r ∧ k = i
    · obtain ⟨rfl, rfl⟩ := q; rw [if_pos ⟨rfl, rfl⟩, if_pos ⟨rfl, rfl⟩]
    · rw [if_neg (by omega), if_neg (by omega)]; exact p2 k hk
theorem st_2 : sd_St2 Rel := by
  intro M N hR x1
  rcases six x1 6 (by decide) with hx | ⟨r, hr, rfl⟩
  · exact ⟨(-1, M), (-1, N), by simp [fn_X10_tear, fn_X10_tear_0, isRow_out hx], by simp [fn_X11_tear, fn_X11_tear_0, aRow_out hx], rfl, hR⟩
  have i1 := isRow_in (vp_in_nI hr (by decide))
  have b := bd2 hr (by decide)
  have c1 := clm (show r < 2 ^ 31 by omega)
  obtain ⟨hs, hc⟩ := hR 1 r hr
  rcases hs with ⟨s1, s2⟩ | ⟨n, hn, s1, s2⟩
  · refine ⟨(-3, tlM M 1), (-3, tlN N 1), ?_, ?_, rfl, hR.tell (by decide)⟩
    · simp only [fn_X10_tear, fn_X10_tear_0, i1, Option.bind_some, if_neg I1ne, c1, if_neg b, miss1 s1, tl1]
    · simp only [fn_X11_tear, fn_X11_tear_0, aRow_miss hr s2, Option.bind_some, if_neg n3]
  have i3 := miss0 (show n < 2 ^ 31 by omega) s1
  have i4 := aRow_ok hr (show n < 2 ^ 31 by omega) s2
  refine ⟨(1, sd_setI M (1 + 1 + 2 * r) 1 (-1)), (1, sd_setI N 102 r (-9)), ?_, ?_, rfl, ?_⟩
  · simp only [fn_X10_tear, fn_X10_tear_0, i1, Option.bind_some, if_neg I1ne, c1, if_neg b, i3, if_true, fn_X1_drop, fn_X1_drop_0]
  · simp only [fn_X11_tear, fn_X11_tear_0, i4, Option.bind_some, if_pos z0, c1, if_neg b]
  · refine hR.one 1 (keepM.I (by rw [(rgM_row hr).1]; decide) keepM.rf) (keepN.I (by rw [rgN_o (by decide)]; decide) keepN.rf) fun r' hr' => ?_
    obtain ⟨p1, p2⟩ := hR 1 r' hr'
    refine ⟨?_, fun k hk => by rw [gIa (by omega), gIa (by decide)]; exact p2 k hk⟩
    by_cases q : r' = r
    · subst q; rw [gIs, gIs]; exact Or.inl ⟨rfl, rfl⟩
    · rw [gIa (by omega), gIk q]; exact p1
