theorem cellM {M : sd_Mem} {h n i : Nat} (e : M.1 h 1 = nI n) (hn : n ≤ sd_ln (h + 1)) (hn2 : n ≤ 60) (hi : i < n) : fn_X1_cell M h (nI i) = some (M.1 (h + 1) i) := by
  unfold fn_X1_cell fn_X1_cell_0
  rw [e, if_neg (nI_pos (by omega)), if_neg (nI_ge hi (by omega)), clm (show i < 2 ^ 31 by omega), if_neg (fun q => q.elim (nI_pos (by omega)) (fun z => by omega))]
theorem rowN {N : sd_Mem} {r i : Nat} (hr : r < 6) (hi : i < 40) : fn_X11_rowAt N (nI r) (nI i) = some (N.1 103 (40 * r + i)) := by
  simp only [fn_X11_rowAt, fn_X11_rowAt_0, ix (a := 40) (A := 40) rfl, clm (show 40 * r + i < 2 ^ 31 by omega), if_neg (bd2 (show 40 * r + i < 240 by omega) (show 240 < 2 ^ 31 by decide))]
theorem sa0 {N : sd_Mem} {x1 x2 x3 : Int32} : ∀ (f i : Nat), i ≤ 10 → 10 - i < f → fn_X11_setAll_71 f N x1 x2 x3 0 (nI i) = fn_X11_setAll_112 N x1 x2 x3 0 := by
  intro f
  induction f with
  | zero => intro i h1 h2; omega
  | succ f ih =>
    intro i h1 h2
    unfold fn_X11_setAll_71
    by_cases hi : i = 10
    · subst hi; rw [if_pos (by decide)]
    · rw [if_neg (show ¬ (10 : Int32) ≤ nI i from nI_ge (b := 10) (by omega) (by decide)), if_pos rfl, nI_1]
      exact ih (i + 1) (by omega) (by omega)
theorem sa1 {M N : sd_Mem} (hR : Rel M N) {w r k : Nat} {x2 : Int32} (hw : w < 8) (hr : r < 6) (hk : k ≤ 4) (e1 : M.1 (23 + 1 + 2 * w) 1 = nI k) (e2 : N.1 115 w = nI k) (er : M.1 (1 + 1 + 2 * r) 1 = nI 10) : ∀ (f i : Nat), i ≤ 10 → 10 - i < f → (∀ u, u < i → ∃ nn : Nat, nn ≤ kbd k ∧ (M.1 (1 + 1 + 2 * r + 1) u).toInt8.toInt32 = nI nn) → (fn_X10_setAll_84 f M (nI w) x2 (nI r) (nI i) = some (-3, tlM M 3) ∧ fn_X11_setAll_71 f N (nI w) x2 (nI r) 1 (nI i) = some (-3, tlN N 3)) ∨ (fn_X10_setAll_84 f M (nI w) x2 (nI r) (nI i) = fn_X10_setAll_133 sd_FU M (nI w) x2 (nI r) 0 ∧ fn_X11_setAll_71 f N (nI w) x2 (nI r) 1 (nI i) = fn_X11_setAll_126 sd_FU N (nI w) x2 (nI r) 0 ∧ ∀ u, u < 10 → ∃ nn : Nat, nn ≤ kbd k ∧ (M.1 (1 + 1 + 2 * r + 1) u).toInt8.toInt32 = nI nn) := by
  have b1 := bd2 hw (show 8 < 2 ^ 31 by decide)
  have b3 := bd2 hr (show 6 < 2 ^ 31 by decide)
  have c1 := clm (show w < 2 ^ 31 by omega)
  have c3 := clm (show r < 2 ^ 31 by omega)
  intro f
  induction f with
  | zero => intro i h1 h2; omega
  | succ f ih =>
    intro i h1 h2 h3
    unfold fn_X10_setAll_84 fn_X11_setAll_71
    by_cases hi : i = 10
    · subst hi
      right
      refine ⟨by rw [if_pos (by decide)], ?_, h3⟩
      rw [if_pos (by decide), fn_X11_setAll_112, if_neg I1ne]
    · have hi10 : ¬ (10 : Int32) ≤ nI i := nI_ge (b := 10) (by omega) (by decide)
      have ce := cellM er (by rw [ln_row r hr]; decide) (by decide) (show i < 10 by omega)
      have re : N.1 103 (40 * r + i) = M.1 (1 + 1 + 2 * r + 1) i := ((hR 1 r hr).2 i (by omega)).symm
      have ro := rowN (N := N) hr (show i < 40 by omega)
      rw [re] at ro
      simp only [if_neg hi10, c1, c3, if_neg b1, if_neg b3, ce, ro, Option.bind_some, if_neg I1ne, nI_1]
      rcases fit (v := (M.1 (1 + 1 + 2 * r + 1) i).toInt8.toInt32) hw hk e1 e2 with ⟨f1, f2⟩ | ⟨⟨f1, f2⟩, nn, v1, v2⟩
      · left
        simp only [f1, f2, Option.bind_some, if_true, fn_X10_setAll_115, tl3]
        refine ⟨trivial, ?_⟩
        rw [sa0 f (i + 1) (by omega) (by omega)]
        simp only [fn_X11_setAll_112, if_true, me3, Option.bind_some]
      · simp only [f1, f2, Option.bind_some, if_neg I1ne]
        refine ih (i + 1) (by omega) (by omega) (fun u hu => ?_)
        by_cases g : u = i
        · subst g; exact ⟨nn, v2, v1⟩
        · exact h3 u (by omega)
theorem sa2 {M : sd_Mem} {w r s k : Nat} (hw : w < 8) (hr : r < 6) (hs : s < 3) (hk : k ≤ 4) (er : M.1 (1 + 1 + 2 * r) 1 = nI 10) (hf : ∀ u, u < 10 → ∃ nn : Nat, nn ≤ kbd k ∧ (M.1 (1 + 1 + 2 * r + 1) u).toInt8.toInt32 = nI nn) : ∀ (f i : Nat) (Mk Nk : sd_Mem), i ≤ 10 → 10 - i < f → Rel Mk Nk → keepM [3] M Mk → Mk.1 (23 + 1 + 2 * w) 1 = nI k → ∃ q1 q2 : Int32 × sd_Mem, fn_X10_setAll_133 f Mk (nI w) (nI s) (nI r) (nI i) = some q1 ∧ fn_X11_setAll_126 f Nk (nI w) (nI s) (nI r) (nI i) = some q2 ∧ q1.1 = q2.1 ∧ Rel q1.2 q2.2 := by
  have b1 := bd2 hw (show 8 < 2 ^ 31 by decide)
  have b3 := bd2 hr (show 6 < 2 ^ 31 by decide)
  have c1 := clm (show w < 2 ^ 31 by omega)
  have c3 := clm (show r < 2 ^ 31 by omega)
  intro f
  induction f with
  | zero => intro i Mk Nk h1 h2; omega
  | succ f ih =>
    intro i Mk Nk h1 h2 hR hkM ek
    unfold fn_X10_setAll_133 fn_X11_setAll_126
    by_cases hi : i = 10
    · subst hi
      exact ⟨(1, Mk), (1, Nk), by rw [if_pos (by decide)], by rw [if_pos (by decide)], rfl, hR⟩
    · have hi10 : ¬ (10 : Int32) ≤ nI i := nI_ge (b := 10) (by omega) (by decide)
      have er2 : Mk.1 (1 + 1 + 2 * r) 1 = nI 10 := by rw [hkM.e _ _ 1 (rgM_row hr).1 (by decide)]; exact er
      have ce := cellM er2 (by rw [ln_row r hr]; decide) (by decide) (show i < 10 by omega)
      have re : Nk.1 103 (40 * r + i) = Mk.1 (1 + 1 + 2 * r + 1) i := ((hR 1 r hr).2 i (by omega)).symm
      have ro := rowN (N := Nk) hr (show i < 40 by omega)
      rw [re] at ro
      obtain ⟨nn, hn1, hn2⟩ := hf i (by omega)
      rw [hkM.e _ _ 1 (rgM_row hr).2 (by decide)] at ce ro
      have sw := wswap (M := Mk) (h := 23 + 1 + 2 * w) (v := nI nn) hs (show 1 ≤ i + 1 by omega) (show i + 1 ≤ 10 by omega) (plc1 hs (by omega) (by omega))
      have e4 : (30 : Int32) * nI w + 10 * nI s + nI i = nI (30 * w + 10 * s + i) := by
        rw [show (30 : Int32) = nI 30 from rfl, show (10 : Int32) = nI 10 from rfl, pk_mul, pk_mul, nI_add, nI_add]
      simp only [if_neg hi10, c1, c3, if_neg b1, if_neg b3, ce, ro, Option.bind_some, hn2, nI_1, sw, e4, clm (show 30 * w + 10 * s + i < 2 ^ 31 by omega), if_neg (bd2 (show 30 * w + 10 * s + i < 240 by omega) (show 240 < 2 ^ 31 by decide))]
      have hset := hR.setw hw (show 10 * s + i < 30 by omega) hk ek hn1
      rw [show 10 * s + (i + 1) - 1 = 10 * s + i by omega]
      rw [show 30 * w + (10 * s + i) = 30 * w + 10 * s + i by omega] at hset
      exact ih (i + 1) _ _ (by omega) (by omega) hset (keepM.I (by rw [(rgM_way hw).2]; decide) hkM) (by rw [gIa (by omega)]; exact ek)
theorem st_15 : sd_St15 Rel := by
  intro M N hR x1 x2 x3
  rcases six x1 8 (by decide) with hx | ⟨w, hw, rfl⟩
  · exact ⟨(-1, M), (-1, N), by simp [fn_X10_setAll, fn_X10_setAll_0, isWay_out hx], by simp [fn_X11_setAll, fn_X11_setAll_0, isWayN_out hx], rfl, hR⟩
  have i1 := isWay_in (vp_in_nI hw (by decide))
  have i2 := isWayN_in (vp_in_nI hw (by decide))
  have d1 : fn_X11_in 1 1 10 = some 1 := in_in (by decide) (by decide)
  rcases cs (x := x2) (a := 0) (b := 2) 0 2 (by decide) (by decide) rfl rfl with ⟨e1, e2⟩ | ⟨⟨e1, e2⟩, s, -, hs, rfl⟩
  · refine ⟨(-1, M), (-1, N), by simp [fn_X10_setAll, fn_X10_setAll_0, i1, e1], ?_, rfl, hR⟩
    simp only [fn_X11_setAll, fn_X11_setAll_0, i2, fn_X11_isPlace, fn_X11_isPlace_0, e2, Option.bind_some, if_neg I1ne, if_true]
  have p2 : fn_X11_isPlace (nI s) 1 = some 1 := by simp only [fn_X11_isPlace, fn_X11_isPlace_0, fn_X11_isDay, fn_X11_isDay_0, e2, d1, Option.bind_some, if_neg I1ne, if_neg I11]
  rcases six x3 6 (by decide) with hx | ⟨r, hr, rfl⟩
  · exact ⟨(-1, M), (-1, N), by simp [fn_X10_setAll, fn_X10_setAll_0, i1, e1, isRow_out hx], by simp [fn_X11_setAll, fn_X11_setAll_0, i2, p2, isRowN_out hx], rfl, hR⟩
  have i3 := isRow_in (vp_in_nI hr (by decide))
  have i4 := isRowN_in (vp_in_nI hr (by decide))
  have b1 := bd2 hw (show 8 < 2 ^ 31 by decide)
  have b3 := bd2 hr (show 6 < 2 ^ 31 by decide)
  have c1 := clm (show w < 2 ^ 31 by omega)
  have c3 := clm (show r < 2 ^ 31 by omega)
  rcases (hR 3 w hw).1 with ⟨s1, s2⟩ | ⟨k, hk, s1, s2⟩
  · refine ⟨(-3, tlM M 1), (-3, tlN N 1), ?_, ?_, rfl, hR.tell (by decide)⟩
    · simp only [fn_X10_setAll, fn_X10_setAll_0, i1, e1, i3, Option.bind_some, if_neg I1ne, c1, if_neg b1, wmiss1 s1, tl1]
    · simp only [fn_X11_setAll, fn_X11_setAll_0, i2, p2, i4, Option.bind_some, if_neg I1ne, c1, if_neg b1, s2, if_pos (show (-9 : Int32) < 0 by decide), me1]
  have j1 := wmiss0 (show k < 2 ^ 31 by omega) s1
  have j2 := nI_pos (show k < 2 ^ 31 by omega)
  rcases (hR 1 r hr).1 with ⟨u1, u2⟩ | ⟨n, hn, u1, u2⟩
  · refine ⟨(-3, tlM M 1), (-3, tlN N 1), ?_, ?_, rfl, hR.tell (by decide)⟩
    · simp only [fn_X10_setAll, fn_X10_setAll_0, i1, e1, i3, Option.bind_some, if_neg I1ne, c1, if_neg b1, j1, if_true, c3, if_neg b3, miss1 u1, tl1]
    · simp only [fn_X11_setAll, fn_X11_setAll_0, i2, p2, i4, Option.bind_some, if_neg I1ne, c1, if_neg b1, s2, if_neg j2, c3, if_neg b3, u2, if_neg n9, me1]
  have j3 := miss0 (show n < 2 ^ 31 by omega) u1
  have j4 := nI_pos' (show n < 2 ^ 31 by omega)
  by_cases h10 : ¬ n = 10
  · have h10 : ¬ nI n = 10 := fun z => h10 ((nI_eq (a := n) (b := 10) (by omega) (by decide)).mp z)
    refine ⟨(-3, tlM M 5), (-3, tlN N 5), ?_, ?_, rfl, hR.tell (by decide)⟩
    · simp only [fn_X10_setAll, fn_X10_setAll_0, i1, e1, i3, Option.bind_some, if_neg I1ne, c1, if_neg b1, j1, if_true, c3, if_neg b3, j3, fn_X1_size, fn_X1_size_0, u1, if_neg h10, tl5]
    · simp only [fn_X11_setAll, fn_X11_setAll_0, i2, p2, i4, Option.bind_some, if_neg I1ne, c1, if_neg b1, s2, if_neg j2, c3, if_neg b3, u2, if_pos j4, if_neg h10, me5]
  have h10 := Decidable.of_not_not h10
  subst h10
  have eM : fn_X10_setAll M (nI w) (nI s) (nI r) = fn_X10_setAll_84 sd_FU M (nI w) (nI s) (nI r) 0 := by
    simp only [fn_X10_setAll, fn_X10_setAll_0, i1, e1, i3, Option.bind_some, if_neg I1ne, c1, if_neg b1, j1, if_true, c3, if_neg b3, j3, fn_X1_size, fn_X1_size_0, u1, if_pos (show nI 10 = 10 from rfl)]
  have eN : fn_X11_setAll N (nI w) (nI s) (nI r) = fn_X11_setAll_71 sd_FU N (nI w) (nI s) (nI r) 1 0 := by
    simp only [fn_X11_setAll, fn_X11_setAll_0, i2, p2, i4, Option.bind_some, if_neg I1ne, c1, if_neg b1, s2, if_neg j2, c3, if_neg b3, u2, if_pos j4, if_pos (show nI 10 = 10 from rfl)]
  rw [eM, eN]
  rcases sa1 hR (x2 := nI s) hw hr hk s1 s2 u1 sd_FU 0 (by decide) (by decide) (fun u hu => by omega) with ⟨f1, f2⟩ | ⟨f1, f2, f3⟩
  · exact ⟨(-3, tlM M 3), (-3, tlN N 3), f1, f2, rfl, hR.tell (by decide)⟩
  · have f1 : fn_X10_setAll_84 sd_FU M (nI w) (nI s) (nI r) 0 = _ := f1
    have f2 : fn_X11_setAll_71 sd_FU N (nI w) (nI s) (nI r) 1 0 = _ := f2
    rw [f1, f2]
    exact sa2 hw hr (show s < 3 by omega) hk u1 f3 sd_FU 0 M N (by decide) (by decide) hR keepM.rf s1
