theorem Mn.keep {S : List Nat} {M M' N N' : sd_Mem} (hM : keepM S M M') (hN : keepN S N N') (h6 : 6 ∉ S) {m l t : Nat → Nat} (h : Mn m l t M N) : Mn m l t M' N' := fun k hk => by
  rw [hM.e 91 k 6 rfl h6, hM.e 92 k 6 rfl h6, hM.e 93 k 6 rfl h6, hN.e 119 k 6 (rgN_o (by decide)) h6, hN.e 120 k 6 (rgN_o (by decide)) h6, hN.e 121 k 6 (rgN_o (by decide)) h6]
  exact h k hk
theorem beginM (M : sd_Mem) (x who : Int32) : ∃ M' : sd_Mem, fn_X8_begin M x who = some M' ∧ (∀ k, k < 6 → M'.1 94 k = if nI k = who then 0 else M.1 92 k) ∧ (∀ k, k < 6 → M'.1 95 k = 0) ∧ M'.1 90 5 = x ∧ keepM [9] M M' := by
  have key : ∀ (f i : Nat) (M' : sd_Mem), i ≤ 6 → 6 - i < f → (∀ k, k < i → M'.1 94 k = if nI k = who then 0 else M.1 92 k) → (∀ k, k < i → M'.1 95 k = 0) → keepM [9] M M' → (∀ k, M'.1 92 k = M.1 92 k) → ∃ M'' : sd_Mem, fn_X8_begin_2 f M' x who (nI i) = some M'' ∧ (∀ k, k < 6 → M''.1 94 k = if nI k = who then 0 else M.1 92 k) ∧ (∀ k, k < 6 → M''.1 95 k = 0) ∧ M''.1 90 5 = x ∧ keepM [9] M M'' := by
    intro f
    induction f with
    | zero => intro i M' h1 h2; omega
    | succ f ih =>
      intro i M' h1 h2 hA hB hk h92
      unfold fn_X8_begin_2
      by_cases hi : i = 6
      · subst hi
        rw [if_pos (by decide)]
        exact ⟨_, rfl, fun k hk => by rw [gIa (by decide)]; exact hA k hk, fun k hk => by rw [gIa (by decide)]; exact hB k hk, gIs _ _ _ _, keepM.I (by decide) hk⟩
      · have hi6 : i < 6 := by omega
        have go : ∀ z : Int32, z = (if nI i = who then 0 else M.1 92 i) → ∃ M'' : sd_Mem, fn_X8_begin_2 f (sd_setI (sd_setI M' 94 i z) 95 i (0 &&& 1)) x who (nI (i + 1)) = some M'' ∧ (∀ k, k < 6 → M''.1 94 k = if nI k = who then 0 else M.1 92 k) ∧ (∀ k, k < 6 → M''.1 95 k = 0) ∧ M''.1 90 5 = x ∧ keepM [9] M M'' := by
          intro z hz
          refine ih (i + 1) _ (by omega) (by omega) (fun k hk => ?_) (fun k hk => ?_) (keepM.I (by decide) (keepM.I (by decide) hk)) (fun k => by rw [gIa (by decide), gIa (by decide)]; exact h92 k)
          · rw [gIa (by decide), gI]
            by_cases e : k = i
            · subst e; rw [if_pos ⟨rfl, rfl⟩, hz]
            · rw [if_neg (fun z => e z.2)]; exact hA k (by omega)
          · rw [gI]
            by_cases e : k = i
            · subst e; rw [if_pos ⟨rfl, rfl⟩]; rfl
            · rw [if_neg (fun z => e z.2), gIa (by decide)]; exact hB k (by omega)
        have b6 := bd2 hi6 (show 6 < 2 ^ 31 by decide)
        rw [if_neg (show ¬ (6 : Int32) ≤ nI i from nI_ge (b := 6) hi6 (by decide))]
        simp only [fn_X8_begin_28, clm (show i < 2 ^ 31 by omega), if_neg b6, nI_1, h92]
        by_cases g : nI i = who
        · rw [if_pos g]; exact go 0 (by rw [if_pos g])
        · rw [if_neg g]; exact go _ (by rw [if_neg g])
  exact key sd_FU 0 M (by decide) (by decide) (fun k hk => by omega) (fun k hk => by omega) keepM.rf (fun _ => rfl)
theorem beginN (N : sd_Mem) (x : Int32) : ∃ N' : sd_Mem, fn_X11_begins N x = some N' ∧ (∀ k, k < 6 → N'.1 122 k = N.1 120 k) ∧ N'.1 100 30 = 0 ∧ N'.1 100 32 = x ∧ N'.1 100 33 = 0 ∧ N'.1 100 34 = 0 ∧ keepN [9] N N' := by
  have key : ∀ (f i : Nat) (N' : sd_Mem), i ≤ 6 → 6 - i < f → (∀ k, k < i → N'.1 122 k = N.1 120 k) → (∀ k, N'.1 120 k = N.1 120 k) → ∃ N'' : sd_Mem, fn_X11_begins_22 f N' (nI i) = some N'' ∧ (∀ k, k < 6 → N''.1 122 k = N.1 120 k) ∧ On 122 N' N'' := by
    intro f
    induction f with
    | zero => intro i N' h1 h2; omega
    | succ f ih =>
      intro i N' h1 h2 hA h120
      unfold fn_X11_begins_22
      by_cases hi : i = 6
      · subst hi
        exact ⟨N', by rw [if_pos (by decide)], hA, On.rf⟩
      · have hi6 : i < 6 := by omega
        have b6 := bd2 hi6 (show 6 < 2 ^ 31 by decide)
        rw [if_neg (show ¬ (6 : Int32) ≤ nI i from nI_ge (b := 6) hi6 (by decide))]
        simp only [clm (show i < 2 ^ 31 by omega), if_neg b6, nI_1, h120]
        obtain ⟨N2, e1, e2, e3⟩ := ih (i + 1) (sd_setI N' 122 i (N.1 120 i)) (by omega) (by omega) (fun k hk => by
          rw [gI]
          by_cases e : k = i
          · subst e; rw [if_pos ⟨rfl, rfl⟩]
          · rw [if_neg (fun z => e z.2)]; exact hA k (by omega)) (fun k => by rw [gIa (by decide)]; exact h120 k)
        exact ⟨N2, e1, e2, On.rf.I.tr e3⟩
  obtain ⟨N2, e1, e2, e3⟩ := key sd_FU 0 (sd_setI (sd_setI (sd_setI (sd_setI N 100 30 0) 100 32 x) 100 33 0) 100 34 0) (by decide) (by decide) (fun k hk => by omega) (fun k => by simp [gI])
  refine ⟨N2, e1, e2, ?_, ?_, ?_, ?_, ?_⟩
  · rw [e3.kept (by decide)]; simp [gI]
  · rw [e3.kept (by decide)]; simp [gI]
  · rw [e3.kept (by decide)]; simp [gI]
  · rw [e3.kept (by decide)]; simp [gI]
  · exact (keepN.I (by decide) (keepN.I (by decide) (keepN.I (by decide) (keepN.I (by decide) keepN.rf)))).tr (e3.kN (fun k => by rw [rgN_o (by decide)]; rfl))
theorem begin_eq {m lf t : Nat → Nat} {M N : sd_Mem} (hm : Mn m lf t M N) (x : Int32) : ∃ M' N' : sd_Mem, fn_X8_begin M x (-9) = some M' ∧ fn_X11_begins N x = some N' ∧ Sk 0 M' N' ∧ N'.1 100 33 = 0 ∧ N'.1 100 34 = 0 ∧ keepM [9] M M' ∧ keepN [9] N N' := by
  obtain ⟨M', a1, a2, a3, a4, a5⟩ := beginM M x (-9)
  obtain ⟨N', b1, b2, b3, b4, b5, b6, b7⟩ := beginN N x
  refine ⟨M', N', a1, b1, ⟨by decide, fun k hk => ?_, b3, fun k hk => ?_, a4.trans b4.symm⟩, b5, b6, a5, b7⟩
  · rw [a3 k hk, Nat.zero_testBit]; rfl
  · rw [a2 k hk, b2 k hk, if_neg (nIm9 (by omega)), (hm k hk).2.1.2.1, (hm k hk).2.1.2.2]
theorem isFund_eq (x y : Int32) : (fn_X10_isFund x y = some 0 ∧ fn_X11_isFund x y = some 0) ∨ (fn_X10_isFund x y = some 1 ∧ fn_X11_isFund x y = some 1) := by
  unfold fn_X10_isFund fn_X10_isFund_0 fn_X11_isFund fn_X11_isFund_0
  rcases cs (x := x) (a := 0) (b := 9999) 0 9999 (by decide) (by decide) rfl rfl with ⟨e1, e2⟩ | ⟨⟨e1, e2⟩, -⟩
  · left; rw [e1, e2]; exact ⟨rfl, rfl⟩
  · rcases cs (x := y) (a := 0) (b := 999) 0 999 (by decide) (by decide) rfl rfl with ⟨f1, f2⟩ | ⟨⟨f1, f2⟩, -⟩
    · left; rw [e1, e2, f1, f2]; exact ⟨rfl, rfl⟩
    · right; rw [e1, e2, f1, f2]; exact ⟨rfl, rfl⟩
section FU
variable {m lf t : Nat → Nat} {M N : sd_Mem} {x : Int32} {X : Nat}
theorem live_loop (hm : Mn m lf t M N) (hX : X ≤ 99) : ∀ (f d : Nat) (Mk Nk : sd_Mem) (W : Nat), d ≤ X + 1 → X + 1 - d < f → keepM [9] M Mk → keepN [9] N Nk → Sk W Mk Nk → ∃ (M' N' : sd_Mem) (R : Nat), fn_X8_liveTill_10 f Mk (nI X) x (nI d) = some M' ∧ fn_X11_gone_28 f Nk (nI X) x (nI d) = fn_X11_gone_51 sd_FU N' 0 0 ∧ Sk R M' N' ∧ keepM [9] M M' ∧ keepN [9] N N' := by
  intro f
  induction f with
  | zero => intro d Mk Nk W h1 h2; omega
  | succ f ih =>
    intro d Mk Nk W h1 h2 kM kN hS
    unfold fn_X8_liveTill_10 fn_X11_gone_28
    by_cases hd : d = X + 1
    · subst hd
      rw [if_pos (nI_lt (by omega) (by omega)), if_pos (nI_lt (by omega) (by omega))]
      exact ⟨Mk, Nk, W, rfl, rfl, hS, kM, kN⟩
    · obtain ⟨M1, M2, N2, R, r, a1, a2, a3, a4, a5, a6, a7, a8, a9, a10, a11, -⟩ := day (hm.keep kM kN (by decide)) hS x
      rw [if_neg (nI_nlt (by omega) (by omega)), if_neg (nI_nlt (by omega) (by omega)), a1, a5, Option.bind_some, Option.bind_some, a4, Option.bind_some, nI_1]
      exact ih (d + 1) M2 N2 R (by omega) (by omega) (kM.tr a9) (kN.tr a10) a7
theorem nle0 {k : Nat} (hk : k ≤ 99) : (nI k ≤ 0) = (k = 0) := propext ⟨fun z => by
  apply Decidable.byContradiction; intro g; exact nI_nle (by omega) (by omega) z, fun z => by subst z; decide⟩
theorem kinds_M {W : Nat} (hm : Mn m lf t M N) (hF : Fl W M) : fn_X8_kindsBack M = some (nI (o1 (fun k => W.testBit k && decide (m k ≠ 0)) 0 6)) := by
  have key : ∀ (f i : Nat), i ≤ 6 → 6 - i < f → fn_X8_kindsBack_4 M f (nI (o1 (fun k => W.testBit k && decide (m k ≠ 0)) 0 i)) (nI i) = some (nI (o1 (fun k => W.testBit k && decide (m k ≠ 0)) 0 6)) := by
    intro f
    induction f with
    | zero => intro i h1 h2; omega
    | succ f ih =>
      intro i h1 h2
      unfold fn_X8_kindsBack_4
      by_cases hi : i = 6
      · subst hi; rw [if_pos (by decide)]
      · have hi6 : i < 6 := by omega
        have step := ih (i + 1) (by omega) (by omega)
        rw [o1] at step
        rw [if_neg (show ¬ (6 : Int32) ≤ nI i from nI_ge (b := 6) hi6 (by decide)), clm (show i < 2 ^ 31 by omega), nI_1, or0, orN _ (o1_lt (by decide) (by omega)) i hi6, hF i hi6, (hm i hi6).1.2.1]
        simp only [if_neg (bd2 hi6 (show 6 < 2 ^ 31 by decide)), nle0 (hm i hi6).1.1]
        by_cases g : W.testBit i = true
        · rw [if_pos g, if_neg I1ne]
          by_cases g2 : m i = 0
          · rw [if_pos g2]; rw [if_neg (by simp [g2])] at step; exact step
          · rw [if_neg g2]; rw [if_pos (by simp [g, g2])] at step; exact step
        · rw [if_neg g, if_pos rfl]; rw [if_neg (by simp [g])] at step; exact step
  exact key sd_FU 0 (by decide) (by decide)
theorem kinds_N {W : Nat} (hm : Mn m lf t M N) (hW : W < 64) (hN : N.1 100 30 = nI W) : fn_X11_gone_51 sd_FU N 0 0 = fn_X11_gone_99 N (nI (o1 (fun k => W.testBit k && decide (m k ≠ 0)) 0 6)) := by
  have key : ∀ (f i : Nat), i ≤ 6 → 6 - i < f → fn_X11_gone_51 f N (nI (o1 (fun k => W.testBit k && decide (m k ≠ 0)) 0 i)) (nI i) = fn_X11_gone_99 N (nI (o1 (fun k => W.testBit k && decide (m k ≠ 0)) 0 6)) := by
    intro f
    induction f with
    | zero => intro i h1 h2; omega
    | succ f ih =>
      intro i h1 h2
      unfold fn_X11_gone_51
      by_cases hi : i = 6
      · subst hi; rw [if_pos (by decide)]
      · have hi6 : i < 6 := by omega
        have step := ih (i + 1) (by omega) (by omega)
        rw [o1] at step
        rw [if_neg (show ¬ (6 : Int32) ≤ nI i from nI_ge (b := 6) hi6 (by decide)), hN, inN W hW i hi6, Option.bind_some, clm (show i < 2 ^ 31 by omega), nI_1, or0, orN _ (o1_lt (by decide) (by omega)) i hi6, (hm i hi6).1.2.2]
        simp only [if_neg (bd2 hi6 (show 6 < 2 ^ 31 by decide)), nle0 (hm i hi6).1.1]
        by_cases g : W.testBit i = true
        · rw [if_pos g, if_neg I1ne]
          by_cases g2 : m i = 0
          · rw [if_pos g2]; rw [if_neg (by simp [g2])] at step; exact step
          · rw [if_neg g2]; rw [if_pos (by simp [g, g2])] at step; exact step
        · rw [if_neg g, if_pos rfl]; rw [if_neg (by simp [g])] at step; exact step
  exact key sd_FU 0 (by decide) (by decide)
end FU
theorem st_33 : sd_St33 Rel := by
  intro M N hR x1 x2 x3
  rcases cs (x := x1) (a := 1) (b := 99) 1 99 (by decide) (by decide) rfl rfl with ⟨e1, e2⟩ | ⟨⟨e1, e2⟩, X, hX1, hX, rfl⟩
  · exact ⟨(-1, M), (-1, N), by simp [fn_X10_gone, fn_X10_gone_0, e1], by simp [fn_X11_gone, fn_X11_gone_0, e2], rfl, hR⟩
  rcases isFund_eq x2 x3 with ⟨f1, f2⟩ | ⟨f1, f2⟩
  · exact ⟨(-1, M), (-1, N), by simp [fn_X10_gone, fn_X10_gone_0, e1, f1], by simp [fn_X11_gone, fn_X11_gone_0, e2, f2], rfl, hR⟩
  obtain ⟨m, lf, t, hm⟩ := hR 6
  obtain ⟨M0, N0, a1, a2, a3, -, -, a6, a7⟩ := begin_eq hm x2
  obtain ⟨M1, N1, W, b1, b2, b3, b4, b5⟩ := live_loop hm (x := x3) hX sd_FU 1 M0 N0 0 (by omega) (by rw [FU_eq]; omega) a6 a7 a3
  have hm1 := hm.keep b4 b5 (by decide)
  have k1 := kinds_M hm1 b3.2.1
  have k2 := kinds_N hm1 b3.1 b3.2.2.1
  generalize o1 (fun k => W.testBit k && decide (m k ≠ 0)) 0 6 = K at *
  have mb := menBackM (m := m) (W := W) (M := sd_setI M1 0 13 (nI K)) (fun k hk => by rw [gIa (by decide)]; exact (hm1 k hk).1.2.1) (fun k hk => by rw [gIa (by decide)]; exact b3.2.1 k hk)
  have nb := menOfN (m := m) (W := W) (N := N1) (fun k hk => (hm1 k hk).1.2.2) b3.1
  have b1 : fn_X8_liveTill M (nI X) x2 x3 = some M1 := by
    unfold fn_X8_liveTill fn_X8_liveTill_0
    rw [a1, Option.bind_some]; exact b1
  refine ⟨(nI (cnt m W 6), sd_setI M1 0 13 (nI K)), (nI (cnt m W 6), sd_setI N1 100 2 (nI K)), ?_, ?_, rfl, (hR.sc b4 b5).ask _⟩
  · simp only [fn_X10_gone, fn_X10_gone_0, e1, f1, Option.bind_some, if_neg I1ne, b1, k1, mb]
  · simp only [fn_X11_gone, fn_X11_gone_0, e2, f2, Option.bind_some, if_neg I1ne, a2]
    refine Eq.trans b2 ?_
    rw [k2, fn_X11_gone_99, b3.2.2.1, nb]
    rfl
theorem all_loop {m lf t : Nat → Nat} {M N : sd_Mem} {x : Int32} (hR : Rel M N) (hm : Mn m lf t M N) : ∀ (f d : Nat) (Mk Nk : sd_Mem) (W : Nat), d ≤ 100 → 100 - d < f → keepM [9] M Mk → keepN [9] N Nk → Sk W Mk Nk → ∃ q1 q2 : Int32 × sd_Mem, fn_X8_dayAllBack_10 f Mk 99 x (nI d) = some q1 ∧ fn_X11_all_17 f Nk x (nI d) = some q2 ∧ q1.1 = q2.1 ∧ Rel q1.2 q2.2 := by
  intro f
  induction f with
  | zero => intro d Mk Nk W h1 h2; omega
  | succ f ih =>
    intro d Mk Nk W h1 h2 kM kN hS
    unfold fn_X8_dayAllBack_10 fn_X11_all_17
    by_cases hd : d = 100
    · subst hd
      rw [if_pos (by decide), if_pos (by decide)]
      exact ⟨_, _, rfl, rfl, rfl, hR.sc kM kN⟩
    · have h99 : ¬ (99 : Int32) < nI d := nI_nlt (a := 99) (by omega) (by decide)
      have hmk := hm.keep kM kN (by decide)
      obtain ⟨M1, M2, N2, R, r, a1, a2, a3, a4, a5, a6, a7, a8, a9, a10, a11, -⟩ := day hmk hS x
      have hm2 := hm.keep (kM.tr a9) (kN.tr a10) (by decide)
      have nb := menOfN (m := m) (W := R) (N := N2) (fun k hk => (hm2 k hk).1.2.2) a7.1
      have nl : fn_X11_menOf N2 63 = _ := menOfN (m := m) (W := 63) (N := N2) (fun k hk => (hm2 k hk).1.2.2) (by decide)
      rw [if_neg h99, if_neg h99, a1, Option.bind_some, a2, Option.bind_some, a3, Option.bind_some, a5, Option.bind_some, a7.2.2.1, nb, Option.bind_some, nl, Option.bind_some]
      by_cases g : nI (cnt m R 6) = nI (cnt m 63 6)
      · rw [if_pos g, if_pos g]
        exact ⟨_, _, rfl, rfl, rfl, hR.sc (kM.tr a8) (kN.tr a10)⟩
      · rw [if_neg g, if_neg g, a4, Option.bind_some, nI_1]
        exact ih (d + 1) M2 N2 R (by omega) (by omega) (kM.tr a9) (kN.tr a10) a7
theorem st_34 : sd_St34 Rel := by
  intro M N hR x1 x2
  rcases isFund_eq x1 x2 with ⟨f1, f2⟩ | ⟨f1, f2⟩
  · exact ⟨(-1, M), (-1, N), by simp [fn_X10_all, fn_X10_all_0, f1], by simp [fn_X11_all, fn_X11_all_0, f2], rfl, hR⟩
  obtain ⟨m, lf, t, hm⟩ := hR 6
  obtain ⟨M0, N0, a1, a2, a3, -, -, a6, a7⟩ := begin_eq hm x1
  obtain ⟨q1, q2, b1, b2, b3, b4⟩ := all_loop hR hm (x := x2) sd_FU 1 M0 N0 0 (by decide) (by decide) a6 a7 a3
  have b1 : fn_X8_dayAllBack M 99 x1 x2 (-9) = some q1 := by
    unfold fn_X8_dayAllBack fn_X8_dayAllBack_0
    rw [a1, Option.bind_some]; exact b1
  refine ⟨q1, q2, ?_, ?_, b3, b4⟩
  · simp only [fn_X10_all, fn_X10_all_0, f1, Option.bind_some, if_neg I1ne, b1]
  · simp only [fn_X11_all, fn_X11_all_0, f2, Option.bind_some, if_neg I1ne, a2]
    exact b2
theorem fund_end {m lf t : Nat → Nat} {M N : sd_Mem} {x : Int32} (hm : Mn m lf t M N) : ∀ (f d : Nat) (Mk Nk : sd_Mem) (W : Nat), d ≤ 100 → 100 - d < f → keepM [9] M Mk → keepN [9] N Nk → Sk W Mk Nk → ¬ Nk.1 100 34 = 0 → ∃ N' : sd_Mem, fn_X11_fund_17 f Nk x (nI d) = some (Nk.1 100 33, N') ∧ keepN [9] N N' := by
  intro f
  induction f with
  | zero => intro d Mk Nk W h1 h2; omega
  | succ f ih =>
    intro d Mk Nk W h1 h2 kM kN hS h34
    unfold fn_X11_fund_17
    by_cases hd : d = 100
    · subst hd
      rw [if_pos (by decide)]
      exact ⟨Nk, rfl, kN⟩
    · have h99 : ¬ (99 : Int32) < nI d := nI_nlt (a := 99) (by omega) (by decide)
      obtain ⟨M1, M2, N2, R, r, a1, a2, a3, a4, a5, a6, a7, a8, a9, a10, a11, a12, a13⟩ := day (hm.keep kM kN (by decide)) hS x
      rw [if_neg h34] at a12
      rw [a12, if_neg I1ne, Int32.add_zero] at a13
      rw [if_neg h99, a5, Option.bind_some, nI_1, ← a13]
      exact ih (d + 1) M2 N2 R (by omega) (by omega) (kM.tr a9) (kN.tr a10) a7 (by rw [a12]; decide)
theorem fund_loop {m lf t : Nat → Nat} {M N : sd_Mem} {x : Int32} (hR : Rel M N) (hm : Mn m lf t M N) : ∀ (f d : Nat) (Mk Nk : sd_Mem) (W : Nat), 1 ≤ d → d ≤ 100 → 100 - d < f → keepM [9] M Mk → keepN [9] N Nk → Sk W Mk Nk → Nk.1 100 34 = 0 → Nk.1 100 33 = nI (d - 1) → ∃ q1 q2 : Int32 × sd_Mem, fn_X8_daysPaid_9 f Mk x (nI d) = some q1 ∧ fn_X11_fund_17 f Nk x (nI d) = some q2 ∧ q1.1 = q2.1 ∧ Rel q1.2 q2.2 := by
  intro f
  induction f with
  | zero => intro d Mk Nk W h1 h2; omega
  | succ f ih =>
    intro d Mk Nk W h0 h1 h2 kM kN hS h34 h33
    unfold fn_X8_daysPaid_9
    by_cases hd : d = 100
    · subst hd
      unfold fn_X11_fund_17
      rw [if_pos (by decide), if_pos (by decide), h33]
      exact ⟨_, _, rfl, rfl, rfl, hR.sc kM kN⟩
    · have h99 : ¬ (99 : Int32) < nI d := nI_nlt (a := 99) (by omega) (by decide)
      obtain ⟨M1, M2, N2, R, r, a1, a2, a3, a4, a5, a6, a7, a8, a9, a10, a11, a12, a13⟩ := day (hm.keep kM kN (by decide)) hS x
      rw [if_pos h34] at a12
      rw [h33] at a13
      rw [if_neg h99, a1, Option.bind_some, a4, Option.bind_some]
      rcases a11 with rfl | rfl
      · rw [if_pos rfl] at a12
        rw [a12, if_neg I1ne, Int32.add_zero] at a13
        unfold fn_X11_fund_17
        rw [if_pos rfl, if_neg h99, a5, Option.bind_some, nI_1]
        obtain ⟨N', e1, e2⟩ := fund_end hm (x := x) f (d + 1) M2 N2 R (by omega) (by omega) (kM.tr a9) (kN.tr a10) a7 (by rw [a12]; decide)
        rw [a13] at e1
        refine ⟨_, _, rfl, e1, ?_, hR.sc (kM.tr a9) e2⟩
        exact sub1 (b := 1) h0
      · rw [if_neg I1ne] at a12
        rw [a12, if_pos rfl, nI_1, show d - 1 + 1 = d by omega] at a13
        unfold fn_X11_fund_17
        rw [if_neg I1ne, if_neg h99, a5, Option.bind_some, nI_1]
        exact ih (d + 1) M2 N2 R (by omega) (by omega) (by omega) (kM.tr a9) (kN.tr a10) a7 a12 (by rw [a13]; rfl)
theorem fund_M {M M0 : sd_Mem} {x1 x2 : Int32} {q1 : Int32 × sd_Mem} (f1 : fn_X10_isFund x1 x2 = some 1) (a1 : fn_X8_begin M x1 (-9) = some M0) (b1 : fn_X8_daysPaid_9 sd_FU M0 x2 1 = some q1) : fn_X10_fund M x1 x2 = some q1 := by
  unfold fn_X10_fund fn_X10_fund_0
  rw [f1, Option.bind_some, if_neg I1ne]
  unfold fn_X8_daysPaid fn_X8_daysPaid_0
  rw [a1, Option.bind_some, b1, Option.bind_some]
theorem fund_N {N N0 : sd_Mem} {x1 x2 : Int32} {q1 : Int32 × sd_Mem} (f1 : fn_X11_isFund x1 x2 = some 1) (a1 : fn_X11_begins N x1 = some N0) (b1 : fn_X11_fund_17 sd_FU N0 x2 1 = some q1) : fn_X11_fund N x1 x2 = some q1 := by
  unfold fn_X11_fund fn_X11_fund_0
  rw [f1, Option.bind_some, if_neg I1ne, a1, Option.bind_some, b1]
theorem st_36 : sd_St36 Rel := by
  intro M N hR x1 x2
  rcases isFund_eq x1 x2 with ⟨f1, f2⟩ | ⟨f1, f2⟩
  · exact ⟨(-1, M), (-1, N), by simp [fn_X10_fund, fn_X10_fund_0, f1], by simp [fn_X11_fund, fn_X11_fund_0, f2], rfl, hR⟩
  obtain ⟨m, lf, t, hm⟩ := hR 6
  obtain ⟨M0, N0, a1, a2, a3, a4, a5, a6, a7⟩ := begin_eq hm x1
  have a4 : N0.1 100 33 = nI (1 - 1) := by rw [a4]; rfl
  have hfu : 100 - 1 < sd_FU := by rw [FU_eq]; omega
  obtain ⟨q1, q2, b1, b2, b3, b4⟩ := fund_loop hR hm (x := x2) sd_FU 1 M0 N0 0 (Nat.le_refl _) (by omega) hfu a6 a7 a3 a5 a4
  rw [show nI 1 = 1 from rfl] at b1 b2
  exact ⟨q1, q2, fund_M f1 a1 b1, fund_N f2 a2 b2, b3, b4⟩
