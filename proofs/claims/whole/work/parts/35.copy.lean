theorem holdG {M : sd_Mem} {h s : Nat} {x y : Int32} (hs : s ≤ 60) (e : M.1 h 1 = nI s) (hy : 0 ≤ y) : (fn_X1_holds M h x y = some 0 ∧ (x < 0 ∨ (¬ x < 0 ∧ 0 < lg_cmp (x.toInt64 + y.toInt64) (nI s).toInt64))) ∨ (fn_X1_holds M h x y = some 1 ∧ ¬ lg_cmp (x.toInt64 + y.toInt64) (nI s).toInt64 > 0 ∧ ∃ i k : Nat, x = nI i ∧ y = nI k ∧ i + k ≤ s) := by
  unfold fn_X1_holds fn_X1_holds_0
  rw [e, if_neg (Int32.not_lt.mpr hy)]
  obtain ⟨k, hk, rfl⟩ := nI_of (Int32.not_lt.mpr hy)
  have ek : (nI k).toInt = (k : Int) := nI_toInt hk
  have es : (nI s).toInt = (s : Int) := nI_toInt (by omega)
  have esl : (nI s).toInt64.toInt = (s : Int) := by rw [Int32.toInt_toInt64, es]
  by_cases hx : x < 0
  · left
    refine ⟨?_, Or.inl hx⟩
    by_cases h1 : nI s < nI k
    · rw [if_pos h1]
    · rw [if_neg h1, if_pos hx]
  · obtain ⟨i, hi, rfl⟩ := nI_of hx
    have ei : (nI i).toInt = (i : Int) := nI_toInt hi
    have cmp : 0 < lg_cmp ((nI i).toInt64 + (nI k).toInt64) (nI s).toInt64 ↔ s < i + k := by
      rw [lg_cmp_gt, Int64.lt_iff_toInt_lt, lg_i2l_add, esl, ei, ek]; omega
    by_cases h1 : s < k
    · left
      exact ⟨by rw [if_pos (nI_lt h1 hk)], Or.inr ⟨hx, cmp.mpr (by omega)⟩⟩
    · rw [if_neg (nI_nlt (by omega) (by omega)), if_neg hx, pk_sub (by omega)]
      by_cases h2 : s - k < i
      · left
        exact ⟨by rw [if_pos (nI_lt h2 hi)], Or.inr ⟨hx, cmp.mpr (by omega)⟩⟩
      · right
        exact ⟨by rw [if_neg (nI_nlt (by omega) (by omega))], fun z => by have := cmp.mp z; omega, i, k, rfl, rfl, by omega⟩
theorem cp1 {N : sd_Mem} {r i r3 : Nat} {x4 : Int32} (hr : r < 6) {k : Nat} (hk : i + k ≤ 40) : ∀ (f j : Nat) (N' : sd_Mem), j ≤ k → k - j < f → (∀ b, b ≠ 104 → N'.1 b = N.1 b) → N'.2 = N.2 → (∀ u, u < j → N'.1 104 u = N.1 103 (40 * r + i + u)) → ∃ N2 : sd_Mem, fn_X11_copy_104 f N' (nI r) (nI i) (nI r3) x4 (nI k) (nI j) = fn_X11_copy_136 sd_FU N2 (nI r3) x4 (nI k) 0 ∧ (∀ b, b ≠ 104 → N2.1 b = N.1 b) ∧ N2.2 = N.2 ∧ (∀ u, u < k → N2.1 104 u = N.1 103 (40 * r + i + u)) := by
  intro f
  induction f with
  | zero => intro j N' h1 h2; omega
  | succ f ih =>
    intro j N' h1 h2 h3 h4 h5
    unfold fn_X11_copy_104
    by_cases hj : j = k
    · subst hj
      exact ⟨N', by rw [if_pos (nI_le (Nat.le_refl _) (by omega))], h3, h4, h5⟩
    · rw [if_neg (nI_ge (by omega) (by omega))]
      have e : (40 : Int32) * nI r + (nI i + nI j) = nI (40 * r + i + j) := by rw [nI_add, ix (a := 40) (A := 40) rfl, Nat.add_assoc]
      simp only [fn_X11_rowAt, fn_X11_rowAt_0, e, clm (show 40 * r + i + j < 2 ^ 31 by omega), clm (show j < 2 ^ 31 by omega), if_neg (bd2 (show 40 * r + i + j < 240 by omega) (show 240 < 2 ^ 31 by decide)), if_neg (bd2 (show j < 40 by omega) (show 40 < 2 ^ 31 by decide)), Option.bind_some, nI_1]
      refine ih (j + 1) _ (by omega) (by omega) (fun b hb => ?_) h4 (fun u hu => ?_)
      · rw [← h3 b hb]; exact funext fun z => gIa hb
      · rw [gI]
        by_cases g : u = j
        · subst g; rw [if_pos ⟨rfl, rfl⟩, h3 103 (by decide)]
        · rw [if_neg (fun z => g z.2)]; exact h5 u (by omega)
theorem cp2 {N : sd_Mem} {r i : Nat} (hr : r < 6) {k : Nat} (hk : i + k ≤ 40) : ∀ (f j : Nat) (N' : sd_Mem), j ≤ k → k - j < f → (∀ b, b ≠ 103 → N'.1 b = N.1 b) → N'.2 = N.2 → (∀ u, N'.1 103 u = if 40 * r + i ≤ u ∧ u < 40 * r + i + j then N.1 104 (u - (40 * r + i)) else N.1 103 u) → ∃ N2 : sd_Mem, fn_X11_copy_136 f N' (nI r) (nI i) (nI k) (nI j) = some (1, N2) ∧ (∀ b, b ≠ 103 → N2.1 b = N.1 b) ∧ N2.2 = N.2 ∧ (∀ u, N2.1 103 u = if 40 * r + i ≤ u ∧ u < 40 * r + i + k then N.1 104 (u - (40 * r + i)) else N.1 103 u) := by
  intro f
  induction f with
  | zero => intro j N' h1 h2; omega
  | succ f ih =>
    intro j N' h1 h2 h3 h4 h5
    unfold fn_X11_copy_136
    by_cases hj : j = k
    · subst hj
      exact ⟨N', by rw [if_pos (nI_le (Nat.le_refl _) (by omega))], h3, h4, h5⟩
    · rw [if_neg (nI_ge (by omega) (by omega))]
      have e : (40 : Int32) * nI r + nI i + nI j = nI (40 * r + i + j) := by rw [ix (a := 40) (A := 40) rfl, nI_add]
      simp only [e, clm (show 40 * r + i + j < 2 ^ 31 by omega), clm (show j < 2 ^ 31 by omega), if_neg (bd2 (show 40 * r + i + j < 240 by omega) (show 240 < 2 ^ 31 by decide)), if_neg (bd2 (show j < 40 by omega) (show 40 < 2 ^ 31 by decide)), nI_1]
      refine ih (j + 1) _ (by omega) (by omega) (fun b hb => ?_) h4 (fun u => ?_)
      · rw [← h3 b hb]; exact funext fun z => gIa hb
      · rw [gI]
        by_cases g : u = 40 * r + i + j
        · subst g; rw [if_pos ⟨rfl, rfl⟩, h3 104 (by decide), if_pos (by omega), show 40 * r + i + j - (40 * r + i) = j by omega]
        · rw [if_neg (fun z => g z.2), h5 u]
          by_cases g2 : 40 * r + i ≤ u ∧ u < 40 * r + i + j
          · rw [if_pos g2, if_pos (by omega)]
          · rw [if_neg g2, if_neg (by omega)]
theorem st_3 : sd_St3 Rel := by
  intro M N hR x1 x2 x3 x4 x5
  rcases six x1 6 (by decide) with hx | ⟨r, hr, rfl⟩
  · exact ⟨(-1, M), (-1, N), by simp [fn_X10_copy, fn_X10_copy_0, isRow_out hx], by simp [fn_X11_copy, fn_X11_copy_0, isRowN_out hx], rfl, hR⟩
  have i1 := isRow_in (vp_in_nI hr (by decide))
  have i2 := isRowN_in (vp_in_nI hr (by decide))
  rcases six x3 6 (by decide) with hx | ⟨r3, hr3, rfl⟩
  · exact ⟨(-1, M), (-1, N), by simp [fn_X10_copy, fn_X10_copy_0, i1, isRow_out hx], by simp [fn_X11_copy, fn_X11_copy_0, i2, isRowN_out hx], rfl, hR⟩
  have i3 := isRow_in (vp_in_nI hr3 (by decide))
  have i4 := isRowN_in (vp_in_nI hr3 (by decide))
  by_cases h5 : ¬ 0 ≤ x5
  · exact ⟨(-3, tlM M 5), (-3, tlN N 5), by simp [fn_X10_copy, fn_X10_copy_0, i1, i3, h5, tl5], by simp [fn_X11_copy, fn_X11_copy_0, i2, i4, h5, me5], rfl, hR.tell (by decide)⟩
  have h5 := Decidable.of_not_not h5
  have b := bd2 hr (show 6 < 2 ^ 31 by decide)
  have c1 := clm (show r < 2 ^ 31 by omega)
  have b3 := bd2 hr3 (show 6 < 2 ^ 31 by decide)
  have c3 := clm (show r3 < 2 ^ 31 by omega)
  obtain ⟨hs, hc⟩ := hR 1 r hr
  obtain ⟨hs3, hc3⟩ := hR 1 r3 hr3
  rcases hs with ⟨s1, s2⟩ | ⟨n, hn, s1, s2⟩
  · refine ⟨(-3, tlM M 1), (-3, tlN N 1), ?_, ?_, rfl, hR.tell (by decide)⟩
    · simp only [fn_X10_copy, fn_X10_copy_0, i1, i3, Option.bind_some, if_neg I1ne, if_pos h5, c1, if_neg b, miss1 s1, tl1]
    · simp only [fn_X11_copy, fn_X11_copy_0, i2, i4, Option.bind_some, if_neg I1ne, if_pos h5, c1, if_neg b, s2, if_pos (show (-9 : Int32) < 0 by decide), me1]
  have j1 := miss0 (show n < 2 ^ 31 by omega) s1
  have j2 := nI_pos (show n < 2 ^ 31 by omega)
  rcases hs3 with ⟨u1, u2⟩ | ⟨n3, hn3, u1, u2⟩
  · refine ⟨(-3, tlM M 1), (-3, tlN N 1), ?_, ?_, rfl, hR.tell (by decide)⟩
    · simp only [fn_X10_copy, fn_X10_copy_0, i1, i3, Option.bind_some, if_neg I1ne, if_pos h5, c1, if_neg b, j1, if_true, c3, if_neg b3, miss1 u1, tl1]
    · simp only [fn_X11_copy, fn_X11_copy_0, i2, i4, Option.bind_some, if_neg I1ne, if_pos h5, c1, if_neg b, s2, if_neg j2, c3, if_neg b3, u2, if_neg n9, me1]
  have j3 := miss0 (show n3 < 2 ^ 31 by omega) u1
  have j4 := nI_pos' (show n3 < 2 ^ 31 by omega)
  have eN : fn_X11_copy N (nI r) x2 (nI r3) x4 x5 = if x2 < 0 then some (-3, tlN N 2) else if x4 < 0 then some (-3, tlN N 2) else if 0 < lg_cmp (x2.toInt64 + x5.toInt64) (nI n).toInt64 then some (-3, tlN N 2) else if lg_cmp (x4.toInt64 + x5.toInt64) (nI n3).toInt64 ≤ 0 then fn_X11_copy_104 sd_FU N (nI r) x2 (nI r3) x4 x5 0 else some (-3, tlN N 2) := by
    simp only [fn_X11_copy, fn_X11_copy_0, i2, i4, Option.bind_some, if_neg I1ne, if_pos h5, c1, if_neg b, s2, if_neg j2, c3, if_neg b3, u2, if_pos j4, me2]
  rcases holdG (x := x2) (y := x5) (show n ≤ 60 by omega) s1 h5 with ⟨g1, g2⟩ | ⟨g1, g2, i, k, rfl, rfl, hik⟩
  · refine ⟨(-3, tlM M 2), (-3, tlN N 2), ?_, ?_, rfl, hR.tell (by decide)⟩
    · simp only [fn_X10_copy, fn_X10_copy_0, i1, i3, Option.bind_some, if_neg I1ne, if_pos h5, c1, if_neg b, j1, if_true, c3, if_neg b3, j3, g1, tl2]
    · rw [eN]
      rcases g2 with g2 | ⟨g2, g3⟩
      · rw [if_pos g2]
      · rw [if_neg g2, if_pos g3]; split <;> rfl
  rcases holdG (x := x4) (y := nI k) (show n3 ≤ 60 by omega) u1 h5 with ⟨p1, p2⟩ | ⟨p1, p2, i', k', rfl, hkk, hik'⟩
  · refine ⟨(-3, tlM M 2), (-3, tlN N 2), ?_, ?_, rfl, hR.tell (by decide)⟩
    · simp only [fn_X10_copy, fn_X10_copy_0, i1, i3, Option.bind_some, if_neg I1ne, if_pos h5, c1, if_neg b, j1, if_true, c3, if_neg b3, j3, g1, p1, tl2]
    · rw [eN, if_neg (nI_pos (by omega))]
      rcases p2 with p2 | ⟨p2, p3⟩
      · rw [if_pos p2]
      · rw [if_neg p2, if_neg g2, if_neg (Int32.not_le.mpr p3)]
  have hkk : k' = k := ((nI_eq (by omega) (by omega)).mp hkk).symm
  subst hkk
  obtain ⟨N1, e1, e2, e3, e4⟩ := cp1 (N := N) (i := i) (r3 := r3) (x4 := nI i') hr (k := k') (by omega) sd_FU 0 N (by omega) (by rw [FU_eq]; omega) (fun _ _ => rfl) rfl (fun u hu => by omega)
  obtain ⟨N2, f1, f2, f3, f4⟩ := cp2 (N := N1) (i := i') hr3 (k := k') (by omega) sd_FU 0 N1 (by omega) (by rw [FU_eq]; omega) (fun _ _ => rfl) rfl (fun u => by rw [if_neg (by omega)])
  refine ⟨(1, sd_setA M (1 + 1 + 2 * r3 + 1) (va_cpy (M.1 (1 + 1 + 2 * r + 1)) (M.1 (1 + 1 + 2 * r3 + 1)) i i' k')), (1, N2), ?_, ?_, rfl, ?_⟩
  · have cc1 := clm (show i < 2 ^ 31 by omega)
    have cc2 := clm (show i' < 2 ^ 31 by omega)
    have cc3 := clm (show k' < 2 ^ 31 by omega)
    have bb : ¬ (nI i < 0 ∨ nI i' < 0 ∨ nI k' < 0 ∨ 40 < i + k' ∨ 40 < i' + k') := fun z => by
      rcases z with z | z | z | z | z
      · exact nI_pos (by omega) z
      · exact nI_pos (by omega) z
      · exact nI_pos (by omega) z
      · omega
      · omega
    simp only [fn_X10_copy, fn_X10_copy_0, i1, i3, Option.bind_some, if_neg I1ne, if_pos h5, c1, if_neg b, j1, if_true, c3, if_neg b3, j3, g1, p1, fn_X1_take, fn_X1_take_0, ln_row r hr, ln_row r3 hr3, cc1, cc2, cc3, if_neg bb]
  · rw [eN, if_neg (nI_pos (by omega)), if_neg (nI_pos (by omega)), if_neg g2, if_pos (Int32.not_lt.mp p2)]
    exact e1.trans f1
  · refine hR.one 1 (keepM.A (by rw [(rgM_row hr3).2]; decide) keepM.rf) (fun id z q => ?_) fun r' hr' => ?_
    · have q1 : id ≠ 103 := fun e => q (by rw [e, rgN_o (by decide)]; decide)
      have q2 : id ≠ 104 := fun e => q (by rw [e, rgN_o (by decide)]; decide)
      rw [f2 id q1, e2 id q2, f3, e3]
      exact ⟨rfl, rfl⟩
    · obtain ⟨p1, p2⟩ := hR 1 r' hr'
      rw [gA, if_neg (by omega), f2 102 (by decide), e2 102 (by decide)]
      refine ⟨p1, fun z hz => ?_⟩
      rw [gA, f4]
      by_cases g : r' = r3
      · subst g
        rw [if_pos rfl]
        unfold va_cpy
        by_cases g2 : i' ≤ z ∧ z < i' + k'
        · rw [if_pos g2, if_pos (by omega), e4 _ (by omega), hc _ (by omega), show 40 * r + i + (40 * r' + z - (40 * r' + i')) = 40 * r + (i + (z - i')) by omega]
        · rw [if_neg g2, if_neg (by omega), e2 103 (by decide)]
          exact p2 z hz
      · rw [if_neg (by omega), if_neg (by omega), e2 103 (by decide)]
        exact p2 z hz
