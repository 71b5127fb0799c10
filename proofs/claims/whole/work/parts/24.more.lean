theorem srtM {M : sd_Mem} {h z : Nat} (hz : z < 2) : fn_X5_sorts M h (nI z) = some (M.1 (h + 1) z) := by
  have b := bd2 hz (by decide)
  have c := clm (show z < 2 ^ 31 by omega)
  rcases (show z = 0 ∨ z = 1 by omega) with rfl | rfl
  · simp only [fn_X5_sorts, fn_X5_sorts_0, c, if_neg b, show nI 0 = 0 from rfl, if_true]
    simp
  · simp only [fn_X5_sorts, fn_X5_sorts_0, c, if_neg b, show ¬ nI 1 = 0 by decide, show nI 1 = 1 by decide, if_true, if_false]
    simp
theorem srt0 {M : sd_Mem} {h : Nat} : fn_X5_sorts M h 0 = some (M.1 (h + 1) 0) := srtM (z := 0) (by decide)
theorem srt1 {M : sd_Mem} {h : Nat} : fn_X5_sorts M h 1 = some (M.1 (h + 1) 1) := srtM (z := 1) (by decide)
theorem hasM {M : sd_Mem} {h z k : Nat} (hz : z < 2) {y : Int32} (hk : k ≤ 3) (e : M.1 (h + 1) z = nI k) : fn_X5_hasSort M h (nI z) y = if y < 0 then some 0 else if nI k ≤ y then some 0 else some 1 := by
  have b := bd2 hz (by decide)
  have c := clm (show z < 2 ^ 31 by omega)
  have e9 : fn_X5_hasSort_9 M h (nI z) y = if y < 0 then some 0 else if nI k ≤ y then some 0 else some 1 := by
    simp only [fn_X5_hasSort_9, c, if_neg b, e]
  rcases (show z = 0 ∨ z = 1 by omega) with rfl | rfl
  · simp only [fn_X5_hasSort, fn_X5_hasSort_0, e9, show nI 0 = 0 from rfl, if_true]
    exact e9
  · unfold fn_X5_hasSort fn_X5_hasSort_0
    rw [if_neg (by decide), if_pos (by decide)]
    exact e9
theorem hasOut {M : sd_Mem} {h : Nat} {x y : Int32} (h0 : ¬ x = 0) (h1 : ¬ x = 1) : fn_X5_hasSort M h x y = some 0 := by
  unfold fn_X5_hasSort fn_X5_hasSort_0
  rw [if_neg h0, if_neg h1]
/-- a SORT of a side, as both sides test it -/
theorem srt {M N : sd_Mem} {n : Nat → Nat} (hn : ∀ z, z < 2 → n z ≤ 3 ∧ M.1 41 z = nI (n z) ∧ N.1 107 z = nI (n z)) (x y : Int32) : (fn_X5_hasSort M 40 x y = some 0 ∧ fn_X11_isSort N x y = some 0) ∨ ((fn_X5_hasSort M 40 x y = some 1 ∧ fn_X11_isSort N x y = some 1) ∧ ∃ z s : Nat, z < 2 ∧ s < n z ∧ x = nI z ∧ y = nI s) := by
  rcases cs (x := x) (a := 0) (b := 1) 0 1 (by decide) (by decide) rfl rfl with ⟨e1, e2⟩ | ⟨⟨e1, e2⟩, z, -, hz, rfl⟩
  · left
    refine ⟨hasOut (fun e => ?_) (fun e => ?_), by simp only [fn_X11_isSort, fn_X11_isSort_0, e2, Option.bind_some, if_true]⟩
    · subst e; exact absurd e1 (by decide)
    · subst e; exact absurd e1 (by decide)
  · have hz2 : z < 2 := by omega
    obtain ⟨h3, hM, hN⟩ := hn z hz2
    have b := bd2 hz2 (by decide)
    have c := clm (show z < 2 ^ 31 by omega)
    rw [hasM hz2 h3 hM]
    have eN : fn_X11_isSort N (nI z) y = (fn_X11_in y 0 (nI (n z) - 1)).bind fun q => if q = 0 then some 0 else some 1 := by
      simp only [fn_X11_isSort, fn_X11_isSort_0, e2, Option.bind_some, if_neg I1ne, c, if_neg b, hN]
    rw [eN]
    by_cases hy : y < 0
    · left; exact ⟨by rw [if_pos hy], by rw [in_out (Or.inl hy)]; rfl⟩
    · obtain ⟨s, hs, rfl⟩ := nI_of hy
      have es : (nI (n z) - 1).toInt = (n z : Int) - 1 := pk_sub_toInt (a := n z) (b := 1) (by omega) (by decide)
      have ei : (nI s).toInt = (s : Int) := nI_toInt hs
      by_cases hsn : s < n z
      · right
        refine ⟨⟨by rw [if_neg hy, if_neg (nI_ge hsn (by omega))], ?_⟩, z, s, hz2, hsn, rfl, rfl⟩
        rw [in_in hy (by rw [Int32.lt_iff_toInt_lt, es, ei]; omega)]
        rfl
      · left
        refine ⟨by rw [if_neg hy, if_pos (nI_le (by omega) hs)], ?_⟩
        rw [in_out (Or.inr (by rw [Int32.lt_iff_toInt_lt, es, ei]; omega))]
        rfl
theorem Qr.n {n : Nat → Nat} {c d : Nat → Nat → Nat} {v h l w : Nat} {M N : sd_Mem} (q : Qr n c d v h l w M N) : ∀ z, z < 2 → n z ≤ 3 ∧ M.1 41 z = nI (n z) ∧ N.1 107 z = nI (n z) := fun z hz => ⟨(q.1 z hz).1.2, (q.1 z hz).2.1, (q.1 z hz).2.2.1⟩
theorem hasIn {M : sd_Mem} {h z s k : Nat} (hz : z < 2) (hk : k ≤ 3) (e : M.1 (h + 1) z = nI k) (hs : s < k) : fn_X5_hasSort M h (nI z) (nI s) = some 1 := by
  rw [hasM hz hk e, if_neg (nI_pos (by omega)), if_neg (nI_ge hs (by omega))]
theorem chaM {M : sd_Mem} {h z s : Nat} (hz : z < 2) (hs : s < 3) (hh : fn_X5_hasSort M h (nI z) (nI s) = some 1) : fn_X5_chance M h (nI z) (nI s) = some (M.1 (h + 3 + 1 + z) s) := by
  simp only [fn_X5_chance, fn_X5_chance_0, hh, Option.bind_some, if_neg I1ne, clm (show z < 2 ^ 31 by omega), clm (show s < 2 ^ 31 by omega), if_neg (bd2 hz (show 2 < 2 ^ 31 by decide)), if_neg (bd2 hs (show 3 < 2 ^ 31 by decide))]
theorem cosM {M : sd_Mem} {h z s : Nat} (hz : z < 2) (hs : s < 3) (hh : fn_X5_hasSort M h (nI z) (nI s) = some 1) : fn_X5_cost M h (nI z) (nI s) = some (M.1 (h + 6 + 1 + z) s) := by
  simp only [fn_X5_cost, fn_X5_cost_0, hh, Option.bind_some, if_neg I1ne, clm (show z < 2 ^ 31 by omega), clm (show s < 2 ^ 31 by omega), if_neg (bd2 hz (show 2 < 2 ^ 31 by decide)), if_neg (bd2 hs (show 3 < 2 ^ 31 by decide))]
theorem Rel.ask {M N : sd_Mem} (hR : Rel M N) (v : Int32) : Rel (sd_setI M 0 13 v) (sd_setI N 100 2 v) :=
  hR.one 0 (keepM.I (by decide) keepM.rf) (keepN.I (by decide) keepN.rf) (by show _ = _; rw [gIs, gIs])
theorem st_10 : sd_St10 Rel := by
  intro M N hR x1 x2 x3
  obtain ⟨n, c, d, v, h, l, w, q⟩ := hR 4
  rcases srt q.n x1 x2 with ⟨e1, e2⟩ | ⟨⟨e1, e2⟩, z, s, hz, hs, rfl, rfl⟩
  · exact ⟨(-1, M), (-1, N), by simp [fn_X10_sort, fn_X10_sort_0, e1], by simp [fn_X11_sort, fn_X11_sort_0, e2], rfl, hR⟩
  rcases cs (x := x3) (a := 0) (b := 1) 0 1 (by decide) (by decide) rfl rfl with ⟨f1, f2⟩ | ⟨⟨f1, f2⟩, k, -, hk, rfl⟩
  · exact ⟨(-1, M), (-1, N), by simp [fn_X10_sort, fn_X10_sort_0, e1, f1], by simp [fn_X11_sort, fn_X11_sort_0, e2, f2], rfl, hR⟩
  have hn3 : n z ≤ 3 := (q.n z hz).1
  obtain ⟨g1, g2, g3, g4, g5, g6⟩ := (q.1 z hz).2.2.2.2 s hs
  have hs3 : s < 3 := by omega
  have x1 : (3 : Int32) * nI z + nI s = nI (3 * z + s) := ix rfl
  have b2 := bd2 (show 3 * z + s < 6 by omega) (by decide)
  have c2 := clm (show 3 * z + s < 2 ^ 31 by omega)
  rcases (show k = 0 ∨ k = 1 by omega) with rfl | rfl
  · rw [show nI 0 = 0 from rfl] at f1 f2
    refine ⟨(1, sd_setI M 0 13 (nI (c z s))), (1, sd_setI N 100 2 (nI (c z s))), ?_, ?_, rfl, hR.ask _⟩
    · simp only [fn_X10_sort, fn_X10_sort_0, e1, f1, Option.bind_some, if_neg I1ne, show nI 0 = 0 from rfl, if_true, chaM hz hs3 e1, g3]
    · simp only [fn_X11_sort, fn_X11_sort_0, e2, f2, Option.bind_some, if_neg I1ne, show nI 0 = 0 from rfl, if_true, x1, c2, if_neg b2, g4, fn_X11_ask, fn_X11_ask_0]
  · refine ⟨(1, sd_setI M 0 13 (nI (d z s))), (1, sd_setI N 100 2 (nI (d z s))), ?_, ?_, rfl, hR.ask _⟩
    · simp only [fn_X10_sort, fn_X10_sort_0, e1, f1, Option.bind_some, if_neg I1ne, show ¬ nI 1 = 0 by decide, if_false, cosM hz hs3 e1, g5]
    · simp only [fn_X11_sort, fn_X11_sort_0, e2, f2, Option.bind_some, if_neg I1ne, show ¬ nI 1 = 0 by decide, if_false, x1, c2, if_neg b2, g6, fn_X11_ask, fn_X11_ask_0]
/-- what told() tells -/
theorem told_eq {M N : sd_Mem} (hR : Rel M N) {k : Nat} (hk : k ≤ 8) : ∃ v : Int32, fn_X10_ofQuarrel M (nI k) = some v ∧ fn_X11_tells N (nI k) = some v := by
  obtain ⟨n, c, d, v, h, l, w, q⟩ := hR 4
  obtain ⟨a, t, jw, ⟨ha, ha1, ha2⟩, ⟨ht, ht1, ht2⟩, ⟨hw, hw1, hw2⟩⟩ := hR 5
  obtain ⟨q1, ⟨-, v1, v2⟩, ⟨-, h1, h2⟩, ⟨-, l1, l2⟩, ⟨-, w1, w2⟩⟩ := q
  have s0 := q1 0 (by decide)
  have s1 := q1 1 (by decide)
  rcases (show k = 0 ∨ k = 1 ∨ k = 2 ∨ k = 3 ∨ k = 4 ∨ k = 5 ∨ k = 6 ∨ k = 7 ∨ k = 8 by omega) with rfl | rfl | rfl | rfl | rfl | rfl | rfl | rfl | rfl
  · exact ⟨M.1 41 0, by simp [fn_X10_ofQuarrel, fn_X10_ofQuarrel_0, srt0, show nI 0 = 0 from rfl], by rw [s0.2.1, ← s0.2.2.1]; rfl⟩
  · exact ⟨M.1 41 1, by unfold fn_X10_ofQuarrel fn_X10_ofQuarrel_0; rw [if_neg (by decide), if_neg (by decide), if_pos (by decide), srt1]; rfl, by rw [s1.2.1, ← s1.2.2.1]; rfl⟩
  · exact ⟨M.1 40 4, rfl, by rw [v1, ← v2]; rfl⟩
  · exact ⟨M.1 40 5, rfl, by rw [h1, ← h2]; rfl⟩
  · exact ⟨M.1 40 6, rfl, by rw [l1, ← l2]; rfl⟩
  · exact ⟨M.1 40 7, rfl, by rw [w1, ← w2]; rfl⟩
  · exact ⟨M.1 58 0, rfl, by rw [ha1, ← ha2]; rfl⟩
  · exact ⟨M.1 58 1, rfl, by rw [ht1, ← ht2]; rfl⟩
  · exact ⟨M.1 58 2, rfl, by rw [hw1, ← hw2]; rfl⟩
theorem st_9 : sd_St9 Rel := by
  intro M N hR x1
  rcases cs (x := x1) (a := 0) (b := 8) 0 8 (by decide) (by decide) rfl rfl with ⟨e1, e2⟩ | ⟨⟨e1, e2⟩, k, -, hk, rfl⟩
  · exact ⟨(-1, M), (-1, N), by simp [fn_X10_told, fn_X10_told_0, e1], by simp [fn_X11_told, fn_X11_told_0, e2], rfl, hR⟩
  obtain ⟨v, f1, f2⟩ := told_eq hR hk
  refine ⟨(1, sd_setI M 0 13 v), (1, sd_setI N 100 2 v), ?_, ?_, rfl, hR.ask v⟩
  · simp only [fn_X10_told, fn_X10_told_0, e1, Option.bind_some, if_neg I1ne, f1]
  · simp only [fn_X11_told, fn_X11_told_0, e2, Option.bind_some, if_neg I1ne, f2, fn_X11_ask, fn_X11_ask_0]
theorem kim (x : Int32) : (fn_X10_isKindOfMen x = some 0 ∧ fn_X11_isKindOfMen x = some 0) ∨ ((fn_X10_isKindOfMen x = some 1 ∧ fn_X11_isKindOfMen x = some 1) ∧ ∃ k : Nat, k < 6 ∧ x = nI k) := by
  rcases cs (x := x) (a := 0) (b := 5) 0 5 (by decide) (by decide) rfl rfl with ⟨e1, e2⟩ | ⟨⟨e1, e2⟩, k, -, h2, rfl⟩
  · exact Or.inl ⟨by simp [fn_X10_isKindOfMen, fn_X10_isKindOfMen_0, e1], by simp [fn_X11_isKindOfMen, fn_X11_isKindOfMen_0, e2]⟩
  · exact Or.inr ⟨⟨by simp only [fn_X10_isKindOfMen, fn_X10_isKindOfMen_0, e1, Option.bind_some, if_neg I11], by simp only [fn_X11_isKindOfMen, fn_X11_isKindOfMen_0, e2, Option.bind_some, if_neg I11]⟩, k, by omega, rfl⟩
/-- is(): a WAY of KIND k asked for j -/
theorem wis {M : sd_Mem} {h k : Nat} (j : Nat) (hj : j ≤ 4) (hk : k ≤ 4) (e : M.1 h 1 = nI k) : fn_X9_is M h (nI j) = some (if j = 0 ∨ k = j ∨ (j = 2 ∧ k = 3) then 1 else 0) := by
  unfold fn_X9_is fn_X9_is_0
  rw [e]
  have key : ∀ j, j ≤ 4 → ∀ k, k ≤ 4 → (if nI j = 0 then some 1 else if nI k = nI j then some 1 else if nI j = 2 then if nI k = 3 then some 1 else some 0 else some 0) = (some (if j = 0 ∨ k = j ∨ (j = 2 ∧ k = 3) then 1 else 0) : Option Int32) := by decide
  exact key j hj k hk
theorem st_32 : sd_St32 Rel := by
  intro M N hR x1 x2 x3 x4
  rcases kim x1 with ⟨e1, e2⟩ | ⟨⟨e1, e2⟩, kk, hkk, rfl⟩
  · exact ⟨(-1, M), (-1, N), by simp [fn_X10_leftBy, fn_X10_leftBy_0, e1], by simp [fn_X11_leftBy, fn_X11_leftBy_0, e2], rfl, hR⟩
  rcases six x2 8 (by decide) with hx | ⟨r, hr, rfl⟩
  · refine ⟨(-1, M), (-1, N), by simp [fn_X10_leftBy, fn_X10_leftBy_0, e1, isWay_out hx], ?_, rfl, hR⟩
    rcases plc x3 x4 with ⟨-, p2⟩ | ⟨⟨-, p2⟩, -⟩ <;> simp [fn_X11_leftBy, fn_X11_leftBy_0, e2, p2, aWay_out hx]
  have i1 := isWay_in (vp_in_nI hr (by decide))
  have b := bd2 hr (by decide)
  have c1 := clm (show r < 2 ^ 31 by omega)
  rcases plc x3 x4 with ⟨p1, p2⟩ | ⟨⟨p1, p2⟩, s, d, hs3, hd1, hd2, rfl, rfl⟩
  · exact ⟨(-1, M), (-1, N), by simp [fn_X10_leftBy, fn_X10_leftBy_0, e1, i1, p1], by simp [fn_X11_leftBy, fn_X11_leftBy_0, e2, p2], rfl, hR⟩
  obtain ⟨hs, hc⟩ := hR 3 r hr
  rcases hs with ⟨s1, s2⟩ | ⟨k, hk, s1, s2⟩
  · refine ⟨(-3, tlM M 1), (-3, tlN N 1), ?_, ?_, rfl, hR.tell (by decide)⟩
    · simp only [fn_X10_leftBy, fn_X10_leftBy_0, e1, i1, p1, Option.bind_some, if_neg I1ne, c1, if_neg b, wmiss1 s1, tl1]
    · simp only [fn_X11_leftBy, fn_X11_leftBy_0, e2, p2, aWay_miss hr s2, Option.bind_some, if_neg n3, if_neg I1ne]
  have j1 := wmiss0 (show k < 2 ^ 31 by omega) s1
  have j2 := aWay_ok hr (show k < 2 ^ 31 by omega) s2
  have j3 : fn_X9_is M (23 + 1 + 2 * r) 4 = some (if k = 4 then 1 else 0) := by
    have := wis 4 (by decide) hk s1
    rw [show nI 4 = 4 from rfl] at this
    rw [this]
    congr 1
    simp
  by_cases hk4 : ¬ k = 4
  · rw [if_neg hk4] at j3
    refine ⟨(-3, tlM M 3), (-3, tlN N 3), ?_, ?_, rfl, hR.tell (by decide)⟩
    · simp only [fn_X10_leftBy, fn_X10_leftBy_0, e1, i1, p1, Option.bind_some, if_neg I1ne, c1, if_neg b, j1, if_true, j3, tl3]
    · simp only [fn_X11_leftBy, fn_X11_leftBy_0, e2, p2, j2, Option.bind_some, if_pos z0, if_neg I1ne, c1, if_neg b, s2, if_neg (show ¬ nI k = 4 from fun z => hk4 ((nI_eq (a := k) (b := 4) (by omega) (by decide)).mp z)), me3]
  have hk4 := Decidable.of_not_not hk4
  subst hk4
  rw [if_pos rfl] at j3
  have b6 := bd2 hkk (by decide)
  have c6 := clm (show kk < 2 ^ 31 by omega)
  obtain ⟨h1, h2⟩ := hc (10 * s + d - 1) (by omega)
  obtain ⟨v, hv, hv99, -⟩ := h2
  have ej : 30 * r + (10 * s + d - 1) = 30 * r + 10 * s + d - 1 := by omega
  rw [ej] at h1
  rw [hv] at h1
  refine ⟨(nI v, sd_setI M 92 kk (nI v)), (nI v, sd_setI N 120 kk (nI v)), ?_, ?_, rfl, ?_⟩
  · simp only [fn_X10_leftBy, fn_X10_leftBy_0, e1, i1, p1, Option.bind_some, if_neg I1ne, c1, if_neg b, j1, if_true, j3, numM hs3 hd1 hd2 p1, hv, c6, if_neg b6, gIs]
  · simp only [fn_X11_leftBy, fn_X11_leftBy_0, e2, p2, j2, Option.bind_some, if_pos z0, if_neg I1ne, c1, if_neg b, s2, show nI 4 = 4 from rfl, if_true, numN hr hs3 hd1 hd2, ← h1, c6, if_neg b6, gIs]
  · obtain ⟨m, lf, t, hm⟩ := hR 6
    refine hR.one 6 (keepM.I (by decide) keepM.rf) (keepN.I (by rw [rgN_o (by decide)]; decide) keepN.rf) ⟨m, fun j => if j = kk then v else lf j, t, fun j hj => ?_⟩
    obtain ⟨⟨m1, m2, m3⟩, ⟨l1, l2, l3⟩, ⟨t1, t2, t3⟩⟩ := hm j hj
    by_cases q : j = kk
    · subst q; simp [gI, m1, m2, m3, t1, t2, t3, hv99]
    · simp [gI, q, m1, m2, m3, l1, l2, l3, t1, t2, t3]
/-! mean -/
def sL (f : Nat → Int32) : Nat → Int64
  | 0 => 0
  | n + 1 => sL f n + (f n).toInt64
theorem sL_congr {f g : Nat → Int32} : ∀ n, (∀ k, k < n → f k = g k) → sL f n = sL g n
  | 0, _ => rfl
  | n + 1, h => by rw [sL, sL, sL_congr n (fun k hk => h k (by omega)), h n (by omega)]
theorem mid_loop {M : sd_Mem} {h s : Nat} (e : M.1 h 1 = nI s) (hs : s ≤ sd_ln (h + 1)) (hs2 : s ≤ 60) : ∀ (n i : Nat), i ≤ s → s - i < n → fn_X1_middle_4 M h n (sL (M.1 (h + 1)) i) (nI i) = fn_X1_middle_28 M h (sL (M.1 (h + 1)) s) := by
  intro n
  induction n with
  | zero => intro i h1 h2; omega
  | succ n ih =>
    intro i h1 h2
    unfold fn_X1_middle_4
    rw [e]
    by_cases hi : i = s
    · subst hi; rw [if_pos (nI_le (Nat.le_refl _) (by omega))]
    · rw [if_neg (nI_ge (by omega) (by omega)), clm (show i < 2 ^ 31 by omega), if_neg (fun q => q.elim (nI_pos (by omega)) (fun z => by omega)), nI_1]
      exact ih (i + 1) (by omega) (by omega)
theorem meanN_loop {N : sd_Mem} {r s : Nat} (hr : r < 6) (e : N.1 102 r = nI s) (hs2 : s ≤ 40) : ∀ (n i : Nat), i ≤ s → s - i < n → fn_X11_mean_17 n N (nI r) (sL (fun k => N.1 103 (40 * r + k)) i) (nI i) = fn_X11_mean_45 N (nI r) (sL (fun k => N.1 103 (40 * r + k)) s) := by
  intro n
  induction n with
  | zero => intro i h1 h2; omega
  | succ n ih =>
    intro i h1 h2
    unfold fn_X11_mean_17
    rw [clm (show r < 2 ^ 31 by omega), if_neg (bd2 hr (by decide)), e]
    by_cases hi : i = s
    · subst hi; rw [if_pos (nI_le (Nat.le_refl _) (by omega))]
    · rw [if_neg (nI_ge (by omega) (by omega))]
      simp only [fn_X11_rowAt, fn_X11_rowAt_0, ix (a := 40) (A := 40) rfl, clm (show 40 * r + i < 2 ^ 31 by omega), if_neg (bd2 (show 40 * r + i < 240 by omega) (show 240 < 2 ^ 31 by decide)), Option.bind_some, nI_1]
      exact ih (i + 1) (by omega) (by omega)
theorem st_4 : sd_St4 Rel := by
  intro M N hR x1
  rcases six x1 6 (by decide) with hx | ⟨r, hr, rfl⟩
  · exact ⟨(-1, M), (-1, N), by simp [fn_X10_mean, fn_X10_mean_0, isRow_out hx], by simp [fn_X11_mean, fn_X11_mean_0, aRow_out hx], rfl, hR⟩
  have i1 := isRow_in (vp_in_nI hr (by decide))
  have b := bd2 hr (by decide)
  have c1 := clm (show r < 2 ^ 31 by omega)
  obtain ⟨hs, hc⟩ := hR 1 r hr
  rcases hs with ⟨s1, s2⟩ | ⟨n, hn, s1, s2⟩
  · refine ⟨(-3, tlM M 1), (-3, tlN N 1), ?_, ?_, rfl, hR.tell (by decide)⟩
    · simp only [fn_X10_mean, fn_X10_mean_0, i1, Option.bind_some, if_neg I1ne, c1, if_neg b, miss1 s1, tl1]
    · simp only [fn_X11_mean, fn_X11_mean_0, aRow_miss hr s2, Option.bind_some, if_neg n3]
  have i3 := miss0 (show n < 2 ^ 31 by omega) s1
  have i4 := aRow_ok hr (show n < 2 ^ 31 by omega) s2
  have mN : fn_X11_mean N (nI r) = fn_X11_mean_45 N (nI r) (sL (fun k => N.1 103 (40 * r + k)) n) := by
    simp only [fn_X11_mean, fn_X11_mean_0, i4, Option.bind_some, if_pos z0]
    exact meanN_loop hr s2 hn sd_FU 0 (Nat.zero_le _) (by have : sd_FU = 1000 := rfl; omega)
  have eS : sL (fun k => N.1 103 (40 * r + k)) n = sL (M.1 (1 + 1 + 2 * r + 1)) n := sL_congr n (fun k hk => (hc k (by omega)).symm)
  rw [mN, eS]
  by_cases hn0 : n = 0
  · subst hn0
    refine ⟨(-3, tlM M 4), (-3, tlN N 4), ?_, ?_, rfl, hR.tell (by decide)⟩
    · simp only [fn_X10_mean, fn_X10_mean_0, i1, Option.bind_some, if_neg I1ne, c1, if_neg b, i3, if_true, fn_X1_size, fn_X1_size_0, s1, show nI 0 = 0 from rfl, tl4]
    · simp only [fn_X11_mean_45, c1, if_neg b, s2, show nI 0 = 0 from rfl, if_true, me4, Option.bind_some]
  have z1 : ¬ nI n = 0 := nI_ne0 (by omega) (by omega)
  have z2 : ¬ (nI n).toInt64 = 0 := by
    rw [nI_l (by omega)]
    exact fun z => hn0 ((lN_eq (a := n) (b := 0) (by omega) (by decide)).mp z)
  have z3 : ¬ nI n ≤ 0 := nI_nle (by omega) (by omega)
  have mM : fn_X1_middle M (1 + 1 + 2 * r) = some ((sL (M.1 (1 + 1 + 2 * r + 1)) n / (nI n).toInt64).toInt32) := by
    have := mid_loop s1 (by rw [ln_row r hr]; exact hn) (by omega) sd_FU 0 (Nat.zero_le _) (by have : sd_FU = 1000 := rfl; omega)
    unfold fn_X1_middle fn_X1_middle_0
    refine this.trans ?_
    unfold fn_X1_middle_28
    rw [s1, if_neg z3, if_neg z2]
  refine ⟨(1, sd_setI M 0 13 ((sL (M.1 (1 + 1 + 2 * r + 1)) n / (nI n).toInt64).toInt32)), (1, sd_setI N 100 2 ((sL (M.1 (1 + 1 + 2 * r + 1)) n / (nI n).toInt64).toInt32)), ?_, ?_, rfl, hR.ask _⟩
  · simp only [fn_X10_mean, fn_X10_mean_0, i1, Option.bind_some, if_neg I1ne, c1, if_neg b, i3, if_true, fn_X1_size, fn_X1_size_0, s1, if_neg z1, mM]
  · simp only [fn_X11_mean_45, c1, if_neg b, s2, if_neg z1, if_neg z2, fn_X11_ask, fn_X11_ask_0, Option.bind_some]
