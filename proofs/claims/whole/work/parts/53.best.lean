section BS
variable {n : Nat → Nat} {c d : Nat → Nat → Nat} {v h l w : Nat} {M N : sd_Mem} {W : Nat} {O : Nat → Nat → Nat} {a tw jw : Nat}
theorem best_eq (q : Qr n c d v h l w M N) (p : Wn W O M N) (lw : Lw a tw jw M N) {z s : Nat} (hz : z < 2) (hs : s < n z) : ∃ (V : Int64) (M' N' : sd_Mem), fn_X0_bestSum M (23 + 1 + 2 * W) (nI z) (nI s) = some (V, M') ∧ fn_X11_bestOf N (nI W) (nI z) (nI s) = some (V, N') ∧ keepM [9] M M' ∧ keepN [9] N N' := by
  have hl := q.2.2.2.1.1
  have fin : ∀ M' N' : sd_Mem, keepM [9] M M' → keepN [9] N N' → Tb (2 ^ n (1 - z)) l 0 0 M' N' → fn_X0_bestSum_19 (23 + 1 + 2 * W) M' (nI z) = some (M'.2 (64 + 1 + 1) (2 ^ n (1 - z) - 1), M') ∧ fn_X11_bestOf_19 N' (nI z) = some (M'.2 (64 + 1 + 1) (2 ^ n (1 - z) - 1), N') := by
    intro M' N' kM kN tb
    have q' := q.keep kM kN (show 4 ∉ [9] by decide)
    have hz1 : 1 - z < 2 := by omega
    have hn := (q.1 (1 - z) hz1).1
    have hK8 := two_le _ hn.2
    have hK1 := pow_ge _ hn.2
    have t := tb 1 (2 ^ n (1 - z) - 1) (by omega) (by omega) (Or.inl (by decide))
    have s1 : fn_X0_sum M' 1 (nI (2 ^ n (1 - z) - 1)) = _ := sumIn (x := 1) (by decide) (by decide) (by omega)
    constructor
    · rw [fn_X0_bestSum_19, oth hz, Option.bind_some, everyM q' hz1, Option.bind_some, s1, Option.bind_some]
    · have e8 : (8 : Int32) + nI (2 ^ n (1 - z) - 1) = nI (8 * 1 + (2 ^ n (1 - z) - 1)) := nI_add 8 _
      rw [fn_X11_bestOf_19, oneSub hz, whoAllN q' hz1, Option.bind_some, e8, if_neg (bnd (show 8 * 1 + (2 ^ n (1 - z) - 1) < 96 by omega) (by decide)), clm (show 8 * 1 + (2 ^ n (1 - z) - 1) < 2 ^ 31 by omega), ← t]
  rcases (show z = 0 ∨ z = 1 by omega) with rfl | rfl
  · obtain ⟨M', N', e1, e2, e3, e4, e5⟩ := men_eq q p lw hs
    obtain ⟨f1, f2⟩ := fin M' N' e3 e4 e5
    refine ⟨M'.2 (64 + 1 + 1) (2 ^ n (1 - 0) - 1), M', N', ?_, ?_, e3, e4⟩
    · unfold fn_X0_bestSum fn_X0_bestSum_0
      rw [if_pos n00, e1, Option.bind_some]; exact f1
    · unfold fn_X11_bestOf fn_X11_bestOf_0
      rw [if_pos n00, e2, Option.bind_some]; exact f2
  · obtain ⟨M', N', e1, e2, e3, e4, e5, -⟩ := own_eq q p lw hs
    obtain ⟨f1, f2⟩ := fin M' N' e3 e4 e5
    refine ⟨M'.2 (64 + 1 + 1) (2 ^ n (1 - 1) - 1), M', N', ?_, ?_, e3, e4⟩
    · unfold fn_X0_bestSum fn_X0_bestSum_0
      rw [if_neg n10, e1, Option.bind_some]; exact f1
    · unfold fn_X11_bestOf fn_X11_bestOf_0
      rw [if_neg n10, e2, Option.bind_some]; exact f2
end BS
theorem st_23 : sd_St23 Rel := by
  intro M N hR x1 x2 x3
  obtain ⟨n, c, d, v, h, l, w, q⟩ := hR 4
  obtain ⟨a, tw, jw, lw⟩ := hR 5
  rcases srt q.n x2 x3 with ⟨e1, e2⟩ | ⟨⟨e1, e2⟩, z, s, hz, hs, rfl, rfl⟩
  · refine ⟨(-1, M), (-1, N), ?_, by simp [fn_X11_best, fn_X11_best_0, e2], rfl, hR⟩
    rcases six x1 8 (by decide) with hx | ⟨W, hW, rfl⟩
    · simp [fn_X10_best, fn_X10_best_0, isWay_out hx]
    · simp only [fn_X10_best, fn_X10_best_0, isWay_in (vp_in_nI hW (by decide)), e1, Option.bind_some, if_neg I1ne, if_true]
  rcases six x1 8 (by decide) with hx | ⟨W, hW, rfl⟩
  · exact ⟨(-1, M), (-1, N), by simp [fn_X10_best, fn_X10_best_0, isWay_out hx], by simp only [fn_X11_best, fn_X11_best_0, e2, Option.bind_some, if_neg I1ne, aWay_out hx, if_neg n1], rfl, hR⟩
  have i1 := isWay_in (vp_in_nI hW (by decide))
  have b := bd2 hW (show 8 < 2 ^ 31 by decide)
  have c1 := clm (show W < 2 ^ 31 by omega)
  rcases (hR 3 W hW).1 with ⟨s1, s2⟩ | ⟨k, hk, s1, s2⟩
  · refine ⟨(-3, tlM M 1), (-3, tlN N 1), ?_, ?_, rfl, hR.tell (by decide)⟩
    · simp only [fn_X10_best, fn_X10_best_0, i1, e1, Option.bind_some, if_neg I1ne, c1, if_neg b, wmiss1 s1, tl1]
    · simp only [fn_X11_best, fn_X11_best_0, e2, Option.bind_some, if_neg I1ne, aWay_miss hW s2, if_neg n3]
  have j1 := wmiss0 (show k < 2 ^ 31 by omega) s1
  have j2 := aWay_ok hW (show k < 2 ^ 31 by omega) s2
  have p1 : fn_X9_is M (23 + 1 + 2 * W) 1 = some (if k = 1 then 1 else 0) := by
    have := wis 1 (by decide) hk s1
    rw [show nI 1 = 1 from rfl] at this
    rw [this]; congr 1; simp
  have p2 := plain hk s1
  have eM : fn_X10_best M (nI W) (nI z) (nI s) = if k = z + 1 then fn_X10_best_83 M (nI W) (nI z) (nI s) else some (-3, tlM M 3) := by
    rcases (show z = 0 ∨ z = 1 by omega) with rfl | rfl
    · simp only [fn_X10_best, fn_X10_best_0, i1, e1, Option.bind_some, if_neg I1ne, c1, if_neg b, j1, if_true, if_pos n00, p1, tl3]
      by_cases g : k = 1
      · rw [if_pos g, if_neg I1ne, if_pos g]
      · rw [if_neg g, if_pos rfl, if_neg g]
    · simp only [fn_X10_best, fn_X10_best_0, i1, e1, Option.bind_some, if_neg I1ne, c1, if_neg b, j1, if_true, if_neg n10, p2, tl3]
      by_cases g : k = 2
      · rw [if_pos g, if_neg I1ne, if_pos g]
      · rw [if_neg g, if_pos rfl, if_neg g]
  have eN : fn_X11_best N (nI W) (nI z) (nI s) = if k = z + 1 then (fn_X11_bestOf N (nI W) (nI z) (nI s)).bind fun q55 => (fn_X11_whole q55.2 (nI z)).bind fun q60 => (fn_X11_share q55.2 q55.1 q60 (1 : Int32)).bind fun q64 => some (q64.1, q64.2) else some (-3, tlN N 3) := by
    have r1 : nI k = 1 ↔ k = 1 := nI_eq (a := k) (b := 1) (by omega) (by decide)
    have r2 : nI k = 2 ↔ k = 2 := nI_eq (a := k) (b := 2) (by omega) (by decide)
    rcases (show z = 0 ∨ z = 1 by omega) with rfl | rfl
    · simp only [fn_X11_best, fn_X11_best_0, fn_X11_best_41, e2, Option.bind_some, if_neg I1ne, j2, if_pos z0, c1, if_neg b, s2, if_pos n00, me3, r1]
    · simp only [fn_X11_best, fn_X11_best_0, fn_X11_best_41, e2, Option.bind_some, if_neg I1ne, j2, if_pos z0, c1, if_neg b, s2, if_neg n10, me3, r2]
  rw [eM, eN]
  by_cases g : k = z + 1
  · rw [if_pos g, if_pos g]
    have p : Wn W (fun s x => (M.1 (23 + 1 + 2 * W + 1) (10 * s + x - 1)).toNatClampNeg) M N := ⟨hW, fun s hs x h1 h2 => by
      have := wayNum hR hW hk s1 s hs x h1 h2
      refine ⟨Nat.le_trans this.1 ?_, this.2⟩
      rw [g]
      exact (show ∀ z, z < 2 → kbd (z + 1) ≤ 13 by decide) z hz⟩
    obtain ⟨V, M', N', b1, b2, kM, kN⟩ := best_eq q p lw hz hs
    have q' := q.keep kM kN (show 4 ∉ [9] by decide)
    obtain ⟨bb, hb0, hb, u1, u2⟩ := shares_eq q' hz
    obtain ⟨u, u', f1, f2⟩ := frac (M := M') (N := N') V hb0 hb 1
    refine ⟨(1, sd_setL (sd_setL M' 96 0 u) 96 1 u'), (1, sd_setL (sd_setL N' 100 3 u) 100 4 u'), ?_, ?_, rfl, (hR.sc kM kN).frac u u'⟩
    · simp only [fn_X10_best_83, c1, if_neg b, b1, Option.bind_some, u1, f1]
    · simp only [b2, Option.bind_some, u2, f2]
  · rw [if_neg g, if_neg g]
    exact ⟨(-3, tlM M 3), (-3, tlN N 3), rfl, rfl, rfl, hR.tell (by decide)⟩
theorem rest_in {M0 N0 : sd_Mem} (hR : Rel M0 N0) {n : Nat → Nat} {c d : Nat → Nat → Nat} {v h l w o t kd a tw jw : Nat} {O T : Nat → Nat → Nat} (q0 : Qr n c d v h l w M0 N0) (p0 : Pr o t kd O T M0 N0) (lw0 : Lw a tw jw M0 N0) {z W : Nat} {OW : Nat → Nat → Nat} (hz : z < 2) (hW : (z = 0 ∧ W = o) ∨ (z = 1 ∧ W = t)) (pw0 : Wn W OW M0 N0) {k17 k17' : sd_Mem → Int32 → Int32 → Int32 → Option (Int32 × sd_Mem)} (hk : ∀ M N : sd_Mem, keepM [9] M0 M → keepN [9] N0 N → ∃ q1 q2 : Int32 × sd_Mem, k17 M (nI o) (nI t) (nI (z + 1)) = some q1 ∧ k17' N (nI o) (nI t) (nI (z + 1)) = some q2 ∧ q1.1 = q2.1 ∧ Rel q1.2 q2.2) : ∀ (f i : Nat) (M N : sd_Mem), i ≤ n z → n z - i < f → keepM [9] M0 M → keepN [9] N0 N → ∃ q1 q2 : Int32 × sd_Mem, fn_X10_rest_48 k17 f M (nI o) (nI t) (nI z) (23 + 1 + 2 * W) (nI i) = some q1 ∧ fn_X11_rest_26 k17' f N (nI o) (nI t) (nI z) (nI i) = some q2 ∧ q1.1 = q2.1 ∧ Rel q1.2 q2.2 := by
  have hn := (q0.1 z hz).1
  have ho := p0.1
  have ht := p0.2.1
  intro f
  induction f with
  | zero => intro i M N h1 h2; omega
  | succ f ih =>
    intro i M N h1 h2 kM kN
    have q := q0.keep kM kN (show 4 ∉ [9] by decide)
    have pw := pw0.keep kM kN (show 3 ∉ [9] by decide)
    have lw := lw0.keep kM kN (show 5 ∉ [9] by decide)
    have sel : ∀ X : sd_Mem, (if nI z = 0 then fn_X11_rest_49 k17' (fn_X11_rest_26 k17' f) X (nI o) (nI t) (nI z) (nI i) (nI o) else fn_X11_rest_49 k17' (fn_X11_rest_26 k17' f) X (nI o) (nI t) (nI z) (nI i) (nI t)) = fn_X11_rest_49 k17' (fn_X11_rest_26 k17' f) X (nI o) (nI t) (nI z) (nI i) (nI W) := by
      intro X
      rcases hW with ⟨rfl, rfl⟩ | ⟨rfl, rfl⟩
      · rw [if_pos n00]
      · rw [if_neg n10]
    unfold fn_X10_rest_48 fn_X11_rest_26
    rw [srtS q hz, Option.bind_some, clm (show z < 2 ^ 31 by omega), if_neg (bd2 hz (by decide)), (q.1 z hz).2.2.1, sel]
    by_cases hi : i = n z
    · rw [if_pos (nI_le (by omega) (by omega)), if_pos (nI_le (by omega) (by omega)), nI_1]
      exact hk M N kM kN
    · have hi2 : i < n z := by omega
      obtain ⟨V, M', N', b1, b2, kM1, kN1⟩ := best_eq q pw lw hz hi2
      have kM' := kM.tr kM1
      have kN' := kN.tr kN1
      have q' := q0.keep kM' kN' (show 4 ∉ [9] by decide)
      have p' := p0.keep kM' kN' (show 3 ∉ [9] by decide)
      have lw' := lw0.keep kM' kN' (show 5 ∉ [9] by decide)
      obtain ⟨V2, w1, w2⟩ := worth_eq q' p' lw' hz hi2
      rw [if_neg (nI_ge hi2 (by omega)), if_neg (nI_ge hi2 (by omega)), fn_X11_rest_49, b1, b2, Option.bind_some, Option.bind_some]
      dsimp only
      rw [clm (show o < 2 ^ 31 by omega), clm (show t < 2 ^ 31 by omega), if_neg (bd2 ho (by decide)), if_neg (bd2 ht (by decide)), w1, w2, Option.bind_some, Option.bind_some, nI_1 i]
      by_cases g : lg_cmp V V2 ≤ 0
      · rw [if_pos g, if_pos g]
        exact ih (i + 1) M' N' (by omega) (by omega) kM' kN'
      · rw [if_neg g, if_neg g]
        exact ⟨_, _, rfl, rfl, rfl, hR.sc kM' kN'⟩
theorem st_24 : sd_St24 Rel := by
  intro M N hR x1 x2
  obtain ⟨n, c, d, v, h, l, w, q⟩ := hR 4
  obtain ⟨a, tw, jw, lw⟩ := hR 5
  rcases ref hR x1 x2 0 with ⟨r, M', N', hr0, hr1, g1, g2, hR'⟩ | ⟨g1, g2, o, t, kd, O, T, rfl, rfl, p, -⟩
  · refine ⟨(r, M'), (r, N'), ?_, ?_, rfl, hR'⟩
    · simp only [fn_X10_rest, fn_X10_rest_0, g1, Option.bind_some, if_neg hr0]
    · simp only [fn_X11_rest, fn_X11_rest_0, g2, Option.bind_some, if_neg hr1]
  have hn0 := (q.1 0 (by decide)).1
  have hn1 := (q.1 1 (by decide)).1
  have c1 := clm (show o < 2 ^ 31 by have := p.1; omega)
  have c2 := clm (show t < 2 ^ 31 by have := p.2.1; omega)
  have b1 := bd2 p.1 (show 8 < 2 ^ 31 by decide)
  have b2 := bd2 p.2.1 (show 8 < 2 ^ 31 by decide)
  have z2 : ∀ (f : Nat) (M1 N1 : sd_Mem), keepM [9] M M1 → keepN [9] N N1 → ∃ q1 q2 : Int32 × sd_Mem, fn_X10_rest_17 (f + 1) M1 (nI o) (nI t) (nI (1 + 1)) = some q1 ∧ fn_X11_rest_17 (f + 1) N1 (nI o) (nI t) (nI (1 + 1)) = some q2 ∧ q1.1 = q2.1 ∧ Rel q1.2 q2.2 := by
    intro f M1 N1 kM kN
    refine ⟨(-9, M1), (-9, N1), ?_, ?_, rfl, hR.sc kM kN⟩
    · rw [fn_X10_rest_17, if_pos (by decide)]
    · rw [fn_X11_rest_17, if_pos (by decide)]
  have z1 : ∀ (f : Nat) (M1 N1 : sd_Mem), keepM [9] M M1 → keepN [9] N N1 → ∃ q1 q2 : Int32 × sd_Mem, fn_X10_rest_17 (f + 1 + 1) M1 (nI o) (nI t) (nI (0 + 1)) = some q1 ∧ fn_X11_rest_17 (f + 1 + 1) N1 (nI o) (nI t) (nI (0 + 1)) = some q2 ∧ q1.1 = q2.1 ∧ Rel q1.2 q2.2 := by
    intro f M1 N1 kM kN
    obtain ⟨q1, q2, e1, e2, e3⟩ := rest_in hR q p lw (z := 1) (W := t) (by decide) (Or.inr ⟨rfl, rfl⟩) p.wn.2 (k17 := fn_X10_rest_17 (f + 1)) (k17' := fn_X11_rest_17 (f + 1)) (z2 f) sd_FU 0 M1 N1 (Nat.zero_le _) (by rw [FU_eq]; omega) kM kN
    refine ⟨q1, q2, ?_, ?_, e3⟩
    · rw [fn_X10_rest_17, if_neg (by decide), if_neg (by decide), c2, if_neg b2]; exact e1
    · rw [fn_X11_rest_17, if_neg (by decide)]; exact e2
  obtain ⟨q1, q2, e1, e2, e3, e4⟩ := rest_in hR q p lw (z := 0) (W := o) (by decide) (Or.inl ⟨rfl, rfl⟩) p.wn.1 (k17 := fn_X10_rest_17 999) (k17' := fn_X11_rest_17 999) (z1 997) sd_FU 0 M N (Nat.zero_le _) (by rw [FU_eq]; omega) keepM.rf keepN.rf
  refine ⟨q1, q2, ?_, ?_, e3, e4⟩
  · simp only [fn_X10_rest, fn_X10_rest_0, g1, Option.bind_some, if_true]
    rw [show fn_X10_rest_17 sd_FU = fn_X10_rest_17 (999 + 1) from rfl, fn_X10_rest_17, if_neg (by decide), if_pos rfl, c1, if_neg b1]; exact e1
  · simp only [fn_X11_rest, fn_X11_rest_0, g2, Option.bind_some, if_pos z0]
    rw [show fn_X11_rest_17 sd_FU = fn_X11_rest_17 (999 + 1) from rfl, fn_X11_rest_17, if_neg (by decide)]; exact e2
