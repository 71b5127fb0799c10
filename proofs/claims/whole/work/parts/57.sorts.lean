section RD3
variable {r s : Nat} {T : Nat → Int32} {M N : sd_Mem}
theorem it_core (h : Tx r s T M N) {p : Nat} (hp : p < s) (hM : M.1 60 1 = nI p) (hN : N.1 100 21 = nI p) {n : Nat → Nat} {c d : Nat → Nat → Nat} {v hz l w : Nat} (q : Dr n c d v hz l w M N) {z : Nat} (hz2 : z < 2) {k49 : sd_Mem → Int32 → Option (Int32 × sd_Mem)} : It r s p T M N k49 ((fn_X6_readSort M (14 + 1 + 2 * r) (nI z)).bind fun q91 => if q91.1 &&& 1 ≠ q91.1 then none else some (q91.1, q91.2)) (if N.1 111 z = 3 then some (N.1 100 21, N) else (fn_X11_readsSort (sd_setI N 100 21 (nI (p + 1))) (nI r) (nI z)).bind fun q161 => fn_X11_reads_223 k49 q161.2 (nI r) (-9) q161.1) := by
  have hs := h.2.1
  obtain ⟨f1, f2, f3, f4, f5⟩ := q.1 z hz2
  have b2 := bd2 hz2 (show 2 < 2 ^ 31 by decide)
  have cz := clm (show z < 2 ^ 31 by omega)
  unfold fn_X6_readSort fn_X6_readSort_0
  rw [srtM hz2, Option.bind_some, show M.1 (49 + 1) z = nI (n z) from f2, f3]
  by_cases full : n z = 3
  · rw [full, if_neg (by decide), if_pos (by decide), Option.bind_some]
    dsimp only
    rw [if_neg I00]
    exact Or.inl ⟨M, N, rfl, by rw [hM, hN], keepM.rf, keepN.rf, p, by omega, hM⟩
  have hk : n z < 3 := by omega
  rw [if_pos (show nI (n z) < 3 from nI_lt (b := 3) hk (by decide)), if_neg (show ¬ nI (n z) = 3 from fun e => full ((nI_eq (a := n z) (b := 3) (by omega) (by decide)).mp e))]
  unfold fn_X11_readsSort fn_X11_readsSort_0
  rcases numItem h hp hM hN (lo := 1) (hi := 9) (a := 1) (b := 9) rfl rfl (by decide) (by decide) with ⟨V, M1, N1, p1, -, hp1, e1, e2, e3, e4, e5⟩ | ⟨u, M1, N1, p1, h1, h2, g1, g2, e1, e2, e3, e6, e4, e5⟩
  · rw [e1, e3, Option.bind_some, Option.bind_some]
    dsimp only
    rw [e2, Option.bind_some, if_pos rfl, if_pos rfl, Option.bind_some, Option.bind_some]
    dsimp only
    rw [if_neg I00, fn_X11_reads_223, if_pos rfl]
    exact Or.inl ⟨M1, N1, rfl, by rw [e4.1, e5.1], e4.2.2, e5.2.2, p1, by omega, e4.1⟩
  rw [e1, e3, Option.bind_some, Option.bind_some]
  dsimp only
  have n111 : N1.1 111 z = nI (n z) := (e5.2.1 111 z (by decide)).trans f3
  have ixz : (3 : Int32) * nI z + nI (n z) = nI (3 * z + n z) := ix rfl
  have b6 := bd2 (show 3 * z + n z < 6 by omega) (show 6 < 2 ^ 31 by decide)
  have c6 := clm (show 3 * z + n z < 2 ^ 31 by omega)
  rw [e2, Option.bind_some, if_neg I1ne, if_neg I1ne, cz, if_neg b2, n111, ixz, c6, if_neg b6, e6, e4.1]
  have kN2 : keepN [9] N (sd_setI N1 112 (3 * z + n z) (nI u)) := keepN.I (by rw [rgN_o (by decide)]; decide) e5.2.2
  have t2 := h.keep e4.2.2 kN2
  have n21 : (sd_setI N1 112 (3 * z + n z) (nI u)).1 100 21 = nI p1 := (gIa (by decide)).trans e5.1
  have cc := cellT t2 (p := p1) (by omega)
  have hh := hereT t2 (p := p1) (by omega) n21
  rw [cc, hh, Option.bind_some, Option.bind_some]
  by_cases comma : p1 < s ∧ T p1 = 44
  · obtain ⟨hp1, h44⟩ := comma
    rw [if_pos hp1, if_pos hp1, if_pos h44, if_pos h44, n21, nI_1]
    rcases numItem t2 hp1 e4.1 n21 (lo := 0) (hi := 99) (a := 0) (b := 99) rfl rfl (by decide) (by decide) with ⟨V, M2, N3, p2, hV, hp2, i1, i2, i3, i4, i5⟩ | ⟨u2, M2, N3, p2, j1, j2, k1', k2', i1, i2, i3, i6, i4, i5⟩
    · have hV1 : V = -1 := by
        rcases hV with e | ⟨u', hu', e⟩
        · exact e
        · rw [e, wiN (a := 0) (b := 99) (lo := 0) (hi := 99) rfl rfl (Nat.zero_le _) hu' (by decide)] at i2
          cases i2
      have m50 : M2.1 (49 + 1) z = nI (n z) := (i4.2.1 50 z (by decide)).trans ((e4.2.1 50 z (by decide)).trans f2)
      obtain ⟨M3, a1, -, -, -, -, a6, a7⟩ := addF (M := M2) (h0 := 49) (X := nI u) (Y := V) hz2 hk m50
      have kM3 : keepM [9] M M3 := fun id j g => by
        have hid : id ≤ 49 ∨ 49 + 9 ≤ id := by
          rcases Nat.lt_or_ge id 50 with g' | g'
          · omega
          · rcases Nat.lt_or_ge id 58 with g2 | g2
            · exact absurd (show rgM id ∈ [9] from (show ∀ id, id < 58 → 50 ≤ id → rgM id ∈ [9] by decide) id g2 g') g
            · omega
        have := (e4.2.2.tr i4.2.2) id j g
        exact ⟨(a6 id j hid).trans this.1, by rw [a7]; exact this.2⟩
      have m60 : M3.1 60 1 = nI p2 := (a6 60 1 (Or.inr (by decide))).trans i4.1
      rw [i1, i3, Option.bind_some, Option.bind_some]
      dsimp only
      rw [a1, Option.bind_some, if_pos hV1, if_pos rfl, Option.bind_some, Option.bind_some]
      dsimp only
      rw [if_neg I00, fn_X11_reads_223, if_pos rfl]
      exact Or.inl ⟨M3, N3, rfl, by rw [m60, i5.1], kM3, kN2.tr i5.2.2, p2, by omega, m60⟩
    · have m50 : M2.1 (49 + 1) z = nI (n z) := (i4.2.1 50 z (by decide)).trans ((e4.2.1 50 z (by decide)).trans f2)
      obtain ⟨M3, a1, a2, a3, a4, a5, a6, a7⟩ := addF (M := M2) (h0 := 49) (X := nI u) (Y := nI u2) hz2 hk m50
      have kM3 : keepM [9] M M3 := fun id j g => by
        have hid : id ≤ 49 ∨ 49 + 9 ≤ id := by
          rcases Nat.lt_or_ge id 50 with g' | g'
          · omega
          · rcases Nat.lt_or_ge id 58 with g2 | g2
            · exact absurd (show rgM id ∈ [9] from (show ∀ id, id < 58 → 50 ≤ id → rgM id ∈ [9] by decide) id g2 g') g
            · omega
        have := (e4.2.2.tr i4.2.2) id j g
        exact ⟨(a6 id j hid).trans this.1, by rw [a7]; exact this.2⟩
      have m60 : M3.1 60 1 = nI p2 := (a6 60 1 (Or.inr (by decide))).trans i4.1
      have mM : ∀ id j, id ≠ 60 → M2.1 id j = M.1 id j := fun id j g => (i4.2.1 id j g).trans (e4.2.1 id j g)
      have nN : ∀ id j, id ≠ 100 → id ≠ 112 → N3.1 id j = N.1 id j := fun id j g g' => (i5.2.1 id j g).trans ((gIa g').trans (e5.2.1 id j g))
      have n12 : ∀ j, N3.1 112 j = if j = 3 * z + n z then nI u else N.1 112 j := fun j => by
        rw [i5.2.1 112 j (by decide), gI]
        by_cases g : j = 3 * z + n z
        · rw [if_pos ⟨rfl, g⟩, if_pos g]
        · rw [if_neg (fun x => g x.2), if_neg g, e5.2.1 112 j (by decide)]
      have n3 : (sd_setI N3 113 (3 * z + n z) (nI u2)).1 111 z = nI (n z) := (gIa (by decide)).trans ((nN 111 z (by decide) (by decide)).trans f3)
      rw [i1, i3, Option.bind_some, Option.bind_some]
      dsimp only
      rw [a1, Option.bind_some, if_neg (nIm1 (by omega)), if_neg I1ne, Option.bind_some, if_neg b6, if_neg b2, if_neg b2, i6, n3, nI_1, Option.bind_some]
      dsimp only
      rw [if_neg I11, fn_X11_reads_223, if_neg I1ne, if_pos (by decide)]
      refine Or.inr ⟨M3, _, p2, _, _, _, v, hz, l, w, rfl, rfl, by omega, k2', m60, (gIa (by decide)).trans ((gIa (by decide)).trans i5.1), kM3, keepN.I (by rw [rgN_o (by decide)]; decide) (keepN.I (by rw [rgN_o (by decide)]; decide) (kN2.tr i5.2.2)), q.add (M' := M3) hz2 hk ⟨h1, h2⟩ j2 ?_ ?_ ?_ ?_ ?_ ?_ ?_ ?_ ?_⟩
      · intro y; rw [a2 y, mM _ _ (by decide)]
      · intro y; rw [a3 y, mM _ _ (by decide), mM _ _ (by decide)]
      · intro y hy t; rw [a4 y hy t, mM _ _ (by omega)]
      · intro y hy t; rw [a5 y hy t, mM _ _ (by omega)]
      · intro j; rw [a6 49 j (Or.inl (by decide)), mM _ _ (by decide)]
      · intro y
        rw [gI]
        by_cases g : y = z
        · rw [if_pos ⟨rfl, g⟩, if_pos g]
        · rw [if_neg (fun x => g x.2), if_neg g, gIa (by decide), nN _ _ (by decide) (by decide)]
      · intro i; rw [gIa (by decide), gIa (by decide), n12]
      · intro i
        rw [gIa (by decide), gI]
        by_cases g : i = 3 * z + n z
        · rw [if_pos ⟨rfl, g⟩, if_pos g]
        · rw [if_neg (fun x => g x.2), if_neg g, nN _ _ (by decide) (by decide)]
      · intro i; rw [gIa (by decide), gIa (by decide), nN _ _ (by decide) (by decide)]
  · have nc : ¬ (if p1 < s then T p1 else 0) = 44 := by
      by_cases g : p1 < s
      · rw [if_pos g]; exact fun e => comma ⟨g, e⟩
      · rw [if_neg g]; decide
    have nh : ¬ (if p1 < s then T p1 else -9) = 44 := by
      by_cases g : p1 < s
      · rw [if_pos g]; exact fun e => comma ⟨g, e⟩
      · rw [if_neg g]; decide
    rw [if_neg nc, if_neg nh, Option.bind_some, Option.bind_some]
    dsimp only
    rw [if_neg I00, fn_X11_reads_223, if_pos rfl]
    exact Or.inl ⟨M1, _, rfl, by rw [e4.1, n21], e4.2.2, kN2, p1, by omega, e4.1⟩
theorem it_m (h : Tx r s T M N) {p : Nat} (hp : p < s) (hM : M.1 60 1 = nI p) (hN : N.1 100 21 = nI p) {n : Nat → Nat} {c d : Nat → Nat → Nat} {v hz l w : Nat} (q : Dr n c d v hz l w M N) (hx : T p = 109) {k49 : sd_Mem → Int32 → Option (Int32 × sd_Mem)} : It r s p T M N k49 (fn_X6_readItem M (14 + 1 + 2 * r)) (fn_X11_reads_109 k49 N (nI r) 109 0) := by
  have hs := h.2.1
  have cM : fn_X1_cell M (14 + 1 + 2 * r) (M.1 60 1) = some 109 := by rw [hM, cellT h (by omega), if_pos hp, hx]
  have eM : fn_X6_readItem M (14 + 1 + 2 * r) = (fn_X6_readSort M (14 + 1 + 2 * r) (nI 0)).bind fun q91 => if q91.1 &&& 1 ≠ q91.1 then none else some (q91.1, q91.2) := by
    unfold fn_X6_readItem fn_X6_readItem_0
    rw [cM, Option.bind_some, if_neg (by decide), if_neg (by decide), if_neg (by decide), if_neg (by decide), if_neg (by decide), if_neg (by decide), if_pos rfl]
    rfl
  have eN : fn_X11_reads_109 k49 N (nI r) 109 0 = (if N.1 111 0 = 3 then some (N.1 100 21, N) else (fn_X11_readsSort (sd_setI N 100 21 (nI (p + 1))) (nI r) (nI 0)).bind fun q161 => fn_X11_reads_223 k49 q161.2 (nI r) (-9) q161.1) := by
    have ew : fn_X11_which 109 = some (-9) := by decide
    have e144 : fn_X11_reads_144 k49 N (nI r) 0 (-9) = (fn_X11_readsSort (sd_setI N 100 21 (nI (p + 1))) (nI r) (nI 0)).bind fun q161 => fn_X11_reads_223 k49 q161.2 (nI r) (-9) q161.1 := by
      rw [fn_X11_reads_144, if_neg (by decide), hN, nI_1]
      rfl
    rw [fn_X11_reads_109, ew, Option.bind_some, if_pos (by decide), fn_X11_reads_125, if_neg (by decide), if_neg (by decide), e144]
    rfl
  rw [eM, eN]
  exact it_core h hp hM hN q (by decide)
theorem it_o (h : Tx r s T M N) {p : Nat} (hp : p < s) (hM : M.1 60 1 = nI p) (hN : N.1 100 21 = nI p) {n : Nat → Nat} {c d : Nat → Nat → Nat} {v hz l w : Nat} (q : Dr n c d v hz l w M N) (hx : T p = 111) {k49 : sd_Mem → Int32 → Option (Int32 × sd_Mem)} : It r s p T M N k49 (fn_X6_readItem M (14 + 1 + 2 * r)) (fn_X11_reads_109 k49 N (nI r) 111 1) := by
  have hs := h.2.1
  have cM : fn_X1_cell M (14 + 1 + 2 * r) (M.1 60 1) = some 111 := by rw [hM, cellT h (by omega), if_pos hp, hx]
  have eM : fn_X6_readItem M (14 + 1 + 2 * r) = (fn_X6_readSort M (14 + 1 + 2 * r) (nI 1)).bind fun q91 => if q91.1 &&& 1 ≠ q91.1 then none else some (q91.1, q91.2) := by
    unfold fn_X6_readItem fn_X6_readItem_0
    rw [cM, Option.bind_some, if_neg (by decide), if_neg (by decide), if_neg (by decide), if_neg (by decide), if_neg (by decide), if_neg (by decide), if_neg (by decide), if_neg (by decide), if_pos rfl]
    rfl
  have eN : fn_X11_reads_109 k49 N (nI r) 111 1 = (if N.1 111 1 = 3 then some (N.1 100 21, N) else (fn_X11_readsSort (sd_setI N 100 21 (nI (p + 1))) (nI r) (nI 1)).bind fun q161 => fn_X11_reads_223 k49 q161.2 (nI r) (-9) q161.1) := by
    have ew : fn_X11_which 111 = some (-9) := by decide
    have e144 : fn_X11_reads_144 k49 N (nI r) 1 (-9) = (fn_X11_readsSort (sd_setI N 100 21 (nI (p + 1))) (nI r) (nI 1)).bind fun q161 => fn_X11_reads_223 k49 q161.2 (nI r) (-9) q161.1 := by
      rw [fn_X11_reads_144, if_neg (by decide), hN, nI_1]
      rfl
    rw [fn_X11_reads_109, ew, Option.bind_some, if_pos (by decide), fn_X11_reads_125, if_neg (by decide), if_neg (by decide), e144]
    rfl
  rw [eM, eN]
  exact it_core h hp hM hN q (by decide)
/-- a letter that is none -/
theorem it_x (h : Tx r s T M N) {p : Nat} (hp : p < s) (hM : M.1 60 1 = nI p) (hN : N.1 100 21 = nI p) {x : Int32} (hx : T p = x) (h104 : ¬ x = 104) (h108 : ¬ x = 108) (h109 : ¬ x = 109) (h111 : ¬ x = 111) (h118 : ¬ x = 118) (h119 : ¬ x = 119) {k49 : sd_Mem → Int32 → Option (Int32 × sd_Mem)} : It r s p T M N k49 (fn_X6_readItem M (14 + 1 + 2 * r)) (fn_X11_reads_109 k49 N (nI r) x (-9)) := by
  have hs := h.2.1
  have cM : fn_X1_cell M (14 + 1 + 2 * r) (M.1 60 1) = some x := by rw [hM, cellT h (by omega), if_pos hp, hx]
  have eM : fn_X6_readItem M (14 + 1 + 2 * r) = some (0, M) := by
    unfold fn_X6_readItem fn_X6_readItem_0
    rw [cM, Option.bind_some]
    by_cases hb : x.toInt < 104 ∨ 119 < x.toInt
    · rw [if_pos hb]
    rw [if_neg hb, if_neg h104]
    by_cases e105 : x = 105
    · rw [if_pos e105]
    rw [if_neg e105]
    by_cases e106 : x = 106
    · rw [if_pos e106]
    rw [if_neg e106]
    by_cases e107 : x = 107
    · rw [if_pos e107]
    rw [if_neg e107]
    rw [if_neg h108]
    rw [if_neg h109]
    by_cases e110 : x = 110
    · rw [if_pos e110]
    rw [if_neg e110]
    rw [if_neg h111]
    by_cases e112 : x = 112
    · rw [if_pos e112]
    rw [if_neg e112]
    by_cases e113 : x = 113
    · rw [if_pos e113]
    rw [if_neg e113]
    by_cases e114 : x = 114
    · rw [if_pos e114]
    rw [if_neg e114]
    by_cases e115 : x = 115
    · rw [if_pos e115]
    rw [if_neg e115]
    by_cases e116 : x = 116
    · rw [if_pos e116]
    rw [if_neg e116]
    by_cases e117 : x = 117
    · rw [if_pos e117]
    rw [if_neg e117]
    rw [if_neg h118]
    rw [if_neg h119]
    exfalso
    have t104 : x.toInt ≠ 104 := fun g => h104 (Int32.toInt_inj.mp g)
    have t105 : x.toInt ≠ 105 := fun g => e105 (Int32.toInt_inj.mp g)
    have t106 : x.toInt ≠ 106 := fun g => e106 (Int32.toInt_inj.mp g)
    have t107 : x.toInt ≠ 107 := fun g => e107 (Int32.toInt_inj.mp g)
    have t108 : x.toInt ≠ 108 := fun g => h108 (Int32.toInt_inj.mp g)
    have t109 : x.toInt ≠ 109 := fun g => h109 (Int32.toInt_inj.mp g)
    have t110 : x.toInt ≠ 110 := fun g => e110 (Int32.toInt_inj.mp g)
    have t111 : x.toInt ≠ 111 := fun g => h111 (Int32.toInt_inj.mp g)
    have t112 : x.toInt ≠ 112 := fun g => e112 (Int32.toInt_inj.mp g)
    have t113 : x.toInt ≠ 113 := fun g => e113 (Int32.toInt_inj.mp g)
    have t114 : x.toInt ≠ 114 := fun g => e114 (Int32.toInt_inj.mp g)
    have t115 : x.toInt ≠ 115 := fun g => e115 (Int32.toInt_inj.mp g)
    have t116 : x.toInt ≠ 116 := fun g => e116 (Int32.toInt_inj.mp g)
    have t117 : x.toInt ≠ 117 := fun g => e117 (Int32.toInt_inj.mp g)
    have t118 : x.toInt ≠ 118 := fun g => h118 (Int32.toInt_inj.mp g)
    have t119 : x.toInt ≠ 119 := fun g => h119 (Int32.toInt_inj.mp g)
    omega
  have eN : fn_X11_reads_109 k49 N (nI r) x (-9) = some (N.1 100 21, N) := by
    have ew : fn_X11_which x = some (-9) := by
      rw [fn_X11_which, fn_X11_which_0, if_neg h118, if_neg h104, if_neg h108, if_neg h119]
    rw [fn_X11_reads_109, ew, Option.bind_some, if_neg (by decide), if_pos (by decide)]
  rw [eM, eN]
  exact Or.inl ⟨M, N, rfl, by rw [hM, hN], keepM.rf, keepN.rf, p, by omega, hM⟩
/-- blanks -/
theorem skip (h : Tx r s T M N) : ∀ (k p f g : Nat) (M1 N1 : sd_Mem), s - p ≤ k → p ≤ s → s - p < f → s - p < g → Ps p M M1 → Pn p N N1 → ∃ (p' g' : Nat) (M' N' : sd_Mem), p ≤ p' ∧ p' ≤ s ∧ (p' < s → ¬ T p' = 32) ∧ s - p' < g' ∧ fn_X6_skipBlanks_0 (14 + 1 + 2 * r) f M1 = some M' ∧ fn_X11_reads_49 g N1 (nI r) = fn_X11_reads_49 g' N' (nI r) ∧ Ps p' M M' ∧ Pn p' N N' := by
  have hs := h.2.1
  have hr := h.1
  intro k
  induction k with
  | zero =>
    intro p f g M1 N1 h1 h2 h3 h4 a b
    obtain ⟨f, rfl⟩ : ∃ j, f = j + 1 := ⟨f - 1, by omega⟩
    have t := h.keep a.2.2 b.2.2
    refine ⟨p, g, M1, N1, Nat.le_refl _, h2, fun z => by omega, h4, ?_, rfl, a, b⟩
    rw [fn_X6_skipBlanks_0, fn_X1_size, fn_X1_size_0, t.2.2.1, Option.bind_some, a.1, if_pos (nI_le (by omega) (by omega))]
  | succ k ih =>
    intro p f g M1 N1 h1 h2 h3 h4 a b
    obtain ⟨f, rfl⟩ : ∃ j, f = j + 1 := ⟨f - 1, by omega⟩
    have t := h.keep a.2.2 b.2.2
    by_cases hp : p < s
    · have cc := cellT t (p := p) (by omega)
      by_cases h32 : T p = 32
      · obtain ⟨g, rfl⟩ : ∃ j, g = j + 1 := ⟨g - 1, by omega⟩
        have hh := hereT t (p := p) (by omega) b.1
        obtain ⟨p', g', M', N', e1, e2, e3, e4, e5, e6, e7, e8⟩ := ih (p + 1) f g (sd_setI M1 60 1 (nI (p + 1))) (sd_setI N1 100 21 (nI (p + 1))) (by omega) (by omega) (by omega) (by omega) a.nx b.nx
        refine ⟨p', g', M', N', by omega, e2, e3, e4, ?_, ?_, e7, e8⟩
        · rw [fn_X6_skipBlanks_0, fn_X1_size, fn_X1_size_0, t.2.2.1, Option.bind_some, a.1, if_neg (nI_ge hp (by omega)), cc, Option.bind_some, if_pos hp, if_pos h32, nI_1]
          exact e5
        · rw [fn_X11_reads_49, clm (show r < 2 ^ 31 by omega), if_neg (bd2 hr (by decide)), t.2.2.2.1, b.1, if_neg (nI_ge hp (by omega)), hh, Option.bind_some, if_pos hp, if_pos h32, nI_1]
          exact e6
      · refine ⟨p, g, M1, N1, Nat.le_refl _, h2, fun _ => h32, h4, ?_, rfl, a, b⟩
        rw [fn_X6_skipBlanks_0, fn_X1_size, fn_X1_size_0, t.2.2.1, Option.bind_some, a.1, if_neg (nI_ge hp (by omega)), cc, Option.bind_some, if_pos hp, if_neg h32]
    · refine ⟨p, g, M1, N1, Nat.le_refl _, h2, fun z => absurd z hp, h4, ?_, rfl, a, b⟩
      rw [fn_X6_skipBlanks_0, fn_X1_size, fn_X1_size_0, t.2.2.1, Option.bind_some, a.1, if_pos (nI_le (by omega) (by omega))]
end RD3
