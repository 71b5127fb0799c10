theorem sub63 {R : Nat} : Sub R 63 := fun k hk _ => b63 k hk
section TU
variable {m lf t : Nat → Nat} {M N : sd_Mem} {X : Nat}
theorem tn34 {W : Nat} {Nk : sd_Mem} (hm : Mn m lf t M N) (kN : keepN [9] N Nk) (hW : W < 64) (h30 : Nk.1 100 30 = nI W) : fn_X11_turnsAll_34 Nk = if nI (cnt m W 6) = nI (cnt m 63 6) then some (1, Nk) else some (0, Nk) := by
  have hk : ∀ k, k < 6 → Nk.1 119 k = nI (m k) := fun k hk => by rw [kN.e 119 k 6 (rgN_o (by decide)) (by decide)]; exact (hm k hk).1.2.2
  have nb := menOfN (m := m) (W := W) (N := Nk) hk hW
  have nl : fn_X11_menOf Nk 63 = _ := menOfN (m := m) (W := 63) (N := Nk) hk (by decide)
  unfold fn_X11_turnsAll_34
  rw [h30, nb, Option.bind_some, nl, Option.bind_some]
theorem tn_end (hm : Mn m lf t M N) (hX : X ≤ 99) : ∀ (f d : Nat) (Mk Nk : sd_Mem) (W : Nat), d ≤ X + 1 → X + 1 - d < f → keepM [9] M Mk → keepN [9] N Nk → Sk W Mk Nk → cnt m W 6 = cnt m 63 6 → ∃ N' : sd_Mem, fn_X11_turnsAll_18 f Nk (nI X) (nI d) = some (1, N') ∧ keepN [9] N N' := by
  intro f
  induction f with
  | zero => intro d Mk Nk W h1 h2; omega
  | succ f ih =>
    intro d Mk Nk W h1 h2 kM kN hS hc
    unfold fn_X11_turnsAll_18
    by_cases hd : d = X + 1
    · subst hd
      rw [if_pos (nI_lt (by omega) (by omega)), tn34 hm kN hS.1 hS.2.2.1, if_pos (by rw [hc])]
      exact ⟨Nk, rfl, kN⟩
    · obtain ⟨M1, M2, N2, R, r, a1, a2, a3, a4, a5, a6, a7, a8, a9, a10, -⟩ := day (hm.keep kM kN (by decide)) hS 0
      rw [if_neg (nI_nlt (by omega) (by omega)), a5, Option.bind_some, nI_1]
      have h1' := cnt_mono (m := m) a6 (i := 6) (by decide)
      have h2' := cnt_mono (m := m) (sub63 (R := R)) (i := 6) (by decide)
      exact ih (d + 1) M2 N2 R (by omega) (by omega) (kM.tr a9) (kN.tr a10) a7 (by omega)
theorem tn_loop (hm : Mn m lf t M N) (hX1 : 1 ≤ X) (hX : X ≤ 99) : ∀ (f d : Nat) (Mk Nk : sd_Mem) (W : Nat), 1 ≤ d → d ≤ X + 1 → X + 1 - d < f → keepM [9] M Mk → keepN [9] N Nk → Sk W Mk Nk → (d = 1 ∨ ¬ cnt m W 6 = cnt m 63 6) → ∃ (r : Int32) (M' N' : sd_Mem) (b : Int32), fn_X8_dayAllBack_10 f Mk (nI X) 0 (nI d) = some (r, M') ∧ keepM [9] M M' ∧ fn_X11_turnsAll_18 f Nk (nI X) (nI d) = some (b, N') ∧ keepN [9] N N' ∧ ((r = -9 ∧ b = 0) ∨ (¬ r = -9 ∧ b = 1)) := by
  have hc : ∀ V, cnt m V 6 ≤ 594 := fun V => cnt_le (m := m) (W := V) (i := 6) (fun k hk => (hm k hk).1.1)
  intro f
  induction f with
  | zero => intro d Mk Nk W h1 h2; omega
  | succ f ih =>
    intro d Mk Nk W h0 h1 h2 kM kN hS hne
    have hcW := hc W
    have hc63 := hc 63
    by_cases hd : d = X + 1
    · subst hd
      unfold fn_X8_dayAllBack_10 fn_X11_turnsAll_18
      rw [if_pos (nI_lt (by omega) (by omega)), if_pos (nI_lt (by omega) (by omega)), tn34 hm kN hS.1 hS.2.2.1, if_neg (fun z => by
        have := (nI_eq (by omega) (by omega)).mp z
        rcases hne with q | q
        · omega
        · exact q this)]
      exact ⟨-9, Mk, Nk, 0, rfl, kM, rfl, kN, Or.inl ⟨rfl, rfl⟩⟩
    · obtain ⟨M1, M2, N2, R, r, a1, a2, a3, a4, a5, a6, a7, a8, a9, a10, -⟩ := day (hm.keep kM kN (by decide)) hS 0
      have hcR := hc R
      unfold fn_X8_dayAllBack_10
      rw [if_neg (nI_nlt (by omega) (by omega)), a1, Option.bind_some, a2, Option.bind_some, a3, Option.bind_some]
      by_cases g : cnt m R 6 = cnt m 63 6
      · unfold fn_X11_turnsAll_18
        rw [if_pos (by rw [g]), if_neg (nI_nlt (by omega) (by omega)), a5, Option.bind_some, nI_1]
        obtain ⟨N', e1, e2⟩ := tn_end hm hX f (d + 1) M2 N2 R (by omega) (by omega) (kM.tr a9) (kN.tr a10) a7 g
        exact ⟨nI d, M1, N', 1, rfl, kM.tr a8, e1, e2, Or.inr ⟨nIm9 (by omega), rfl⟩⟩
      · unfold fn_X11_turnsAll_18
        rw [if_neg (fun z => g ((nI_eq (by omega) (by omega)).mp z)), if_neg (nI_nlt (by omega) (by omega)), a4, Option.bind_some, a5, Option.bind_some, nI_1]
        exact ih (d + 1) M2 N2 R (by omega) (by omega) (by omega) (kM.tr a9) (kN.tr a10) a7 (Or.inr g)
/-- whether all go back by day X, of themselves or once kind who has gone -/
theorem tn_eq (hm : Mn m lf t M N) (hX1 : 1 ≤ X) (hX : X ≤ 99) {who : Int32} (hw : who = -9 ∨ ∃ j : Nat, j < 6 ∧ who = nI j) : ∃ (r : Int32) (M' N' : sd_Mem) (b : Int32), fn_X8_dayAllBack M (nI X) 0 0 who = some (r, M') ∧ keepM [9] M M' ∧ fn_X11_turnsAll N (nI X) who = some (b, N') ∧ keepN [9] N N' ∧ ((r = -9 ∧ b = 0) ∨ (¬ r = -9 ∧ b = 1)) := by
  rcases hw with rfl | ⟨j, hj, rfl⟩
  · obtain ⟨M0, N0, a1, a2, a3, -, -, a6, a7⟩ := begin_eq hm 0
    obtain ⟨r, M', N', b, b1, b2, b3, b4, b5⟩ := tn_loop hm hX1 hX sd_FU 1 M0 N0 0 (by omega) (by omega) (by rw [FU_eq]; omega) a6 a7 a3 (Or.inl rfl)
    refine ⟨r, M', N', b, ?_, b2, ?_, b4, b5⟩
    · unfold fn_X8_dayAllBack fn_X8_dayAllBack_0
      rw [a1, Option.bind_some]; exact b1
    · unfold fn_X11_turnsAll fn_X11_turnsAll_0
      rw [a2, Option.bind_some, if_pos (by decide)]; exact b3
  · obtain ⟨M0, a1, a2, a3, a4, a5⟩ := beginM M 0 (nI j)
    obtain ⟨N0, c1, c2, c3, c4, -, -, c7⟩ := beginN N 0
    have kN : keepN [9] N (sd_setI N0 122 j 0) := keepN.I (by rw [rgN_o (by decide)]; decide) c7
    have hS : Sk 0 M0 (sd_setI N0 122 j 0) := by
      refine ⟨by decide, fun k hk => ?_, by rw [gIa (by decide)]; exact c3, fun k hk => ?_, by rw [gIa (by decide)]; exact a4.trans c4.symm⟩
      · rw [a3 k hk, Nat.zero_testBit]; rfl
      · rw [a2 k hk, gI]
        by_cases e : k = j
        · subst e; rw [if_pos rfl, if_pos ⟨rfl, rfl⟩]
        · rw [if_neg (fun z => e ((nI_eq (by omega) (by omega)).mp z)), if_neg (fun z => e z.2), c2 k hk, (hm k hk).2.1.2.1, (hm k hk).2.1.2.2]
    obtain ⟨r, M', N', b, b1, b2, b3, b4, b5⟩ := tn_loop hm hX1 hX sd_FU 1 M0 _ 0 (by omega) (by omega) (by rw [FU_eq]; omega) a5 kN hS (Or.inl rfl)
    refine ⟨r, M', N', b, ?_, b2, ?_, b4, b5⟩
    · unfold fn_X8_dayAllBack fn_X8_dayAllBack_0
      rw [a1, Option.bind_some]; exact b1
    · unfold fn_X11_turnsAll fn_X11_turnsAll_0
      rw [c1, Option.bind_some, if_neg (nI_pos (by omega)), clm (show j < 2 ^ 31 by omega), if_neg (bd2 hj (by decide))]; exact b3
theorem tk_loop (hR : Rel M N) (hm : Mn m lf t M N) (hX1 : 1 ≤ X) (hX : X ≤ 99) {M0 : sd_Mem} (h0 : fn_X8_dayAllBack M (nI X) 0 0 (-9) = some (-9, M0)) : ∀ (f k : Nat) (Mk Nk : sd_Mem) (p y : Int32), k ≤ 6 → 6 - k < f → keepM [9] M Mk → keepN [9] N Nk → ((p = -9 ∧ y = 100) ∨ ∃ j : Nat, j < 6 ∧ p = nI j ∧ y = nI (m j)) → ∃ q1 q2 : Int32 × sd_Mem, fn_X8_turningKind_26 f Mk (nI X) p y (nI k) = some q1 ∧ fn_X11_turns_17 f Nk (nI X) p (nI k) = some q2 ∧ q1.1 = q2.1 ∧ Rel q1.2 q2.2 := by
  intro f
  induction f with
  | zero => intro k Mk Nk p y h1 h2; omega
  | succ f ih =>
    intro k Mk Nk p y h1 h2 kM kN hp
    unfold fn_X8_turningKind_26 fn_X11_turns_17
    by_cases hk : k = 6
    · subst hk
      rw [if_pos (by decide), if_pos (by decide)]
      exact ⟨_, _, rfl, rfl, rfl, hR.sc kM kN⟩
    · have hk6 : k < 6 := by omega
      have h6 : ¬ (6 : Int32) ≤ nI k := nI_ge (b := 6) hk6 (by decide)
      obtain ⟨r1, M1, N1, b1, u1, u2, u3, u4, u5⟩ := tn_eq (hm.keep keepM.rf kN (by decide)) hX1 hX (who := -9) (Or.inl rfl)
      have er1 : r1 = -9 := by rw [h0] at u1; exact (congrArg Prod.fst (Option.some.inj u1)).symm
      have eb1 : b1 = 0 := by
        rcases u5 with z | z
        · exact z.2
        · exact absurd er1 z.1
      subst eb1
      have kN1 : keepN [9] N N1 := kN.tr u4
      have hm1 := hm.keep kM kN1 (by decide)
      have b6 := bd2 hk6 (show 6 < 2 ^ 31 by decide)
      have hmk := (hm k hk6).1.1
      simp only [if_neg h6, clm (show k < 2 ^ 31 by omega), if_neg b6, (hm1 k hk6).1.2.1, (hm1 k hk6).1.2.2, nle0 hmk, u3, Option.bind_some, if_true, nI_1]
      by_cases g0 : m k = 0
      · rw [if_pos g0, if_pos g0]
        exact ih (k + 1) Mk N1 p y (by omega) (by omega) kM kN1 hp
      · rw [if_neg g0, if_neg g0]
        obtain ⟨r2, M2, N2, b2, v1, v2, v3, v4, v5⟩ := tn_eq hm1 hX1 hX (who := nI k) (Or.inr ⟨k, hk6, rfl⟩)
        have kN2 : keepN [9] N N2 := kN1.tr v4
        have hm2 := hm.keep (kM.tr v2) kN2 (by decide)
        rw [v1, v3, Option.bind_some, Option.bind_some]
        simp only [(hm2 k hk6).1.2.1, (hm2 k hk6).1.2.2]
        rcases hp with ⟨rfl, rfl⟩ | ⟨j, hj, rfl, rfl⟩
        · rw [if_neg (show ¬ (100 : Int32) ≤ nI (m k) from nI_ge (b := 100) (by omega) (by decide))]
          rcases v5 with ⟨rfl, rfl⟩ | ⟨z1, rfl⟩
          · rw [if_pos rfl, if_pos rfl]
            exact ih (k + 1) M2 N2 _ _ (by omega) (by omega) (kM.tr v2) kN2 (Or.inl ⟨rfl, rfl⟩)
          · rw [if_neg z1, if_neg I1ne, if_pos (by decide)]
            exact ih (k + 1) M2 N2 _ _ (by omega) (by omega) (kM.tr v2) kN2 (Or.inr ⟨k, hk6, rfl, rfl⟩)
        · have hmj := (hm j hj).1.1
          rw [clm (show j < 2 ^ 31 by omega), if_neg (bd2 hj (by decide)), (hm2 j hj).1.2.2, if_neg (nI_pos (by omega))]
          by_cases g : m j ≤ m k
          · rw [if_pos (nI_le g (by omega)), if_pos (nI_le g (by omega))]
            rcases v5 with ⟨rfl, rfl⟩ | ⟨z1, rfl⟩
            · rw [if_pos rfl]
              exact ih (k + 1) Mk N2 _ _ (by omega) (by omega) kM kN2 (Or.inr ⟨j, hj, rfl, rfl⟩)
            · rw [if_neg I1ne]
              exact ih (k + 1) Mk N2 _ _ (by omega) (by omega) kM kN2 (Or.inr ⟨j, hj, rfl, rfl⟩)
          · rw [if_neg (nI_ge (by omega) (by omega)), if_neg (nI_ge (by omega) (by omega))]
            rcases v5 with ⟨rfl, rfl⟩ | ⟨z1, rfl⟩
            · rw [if_pos rfl, if_pos rfl]
              exact ih (k + 1) M2 N2 _ _ (by omega) (by omega) (kM.tr v2) kN2 (Or.inr ⟨j, hj, rfl, rfl⟩)
            · rw [if_neg z1, if_neg I1ne]
              exact ih (k + 1) M2 N2 _ _ (by omega) (by omega) (kM.tr v2) kN2 (Or.inr ⟨k, hk6, rfl, rfl⟩)
end TU
theorem turns_M {M : sd_Mem} {x1 : Int32} {q1 : Int32 × sd_Mem} (f1 : fn_X10_within x1 1 99 = some 1) (b1 : fn_X8_turningKind M x1 = some q1) : fn_X10_turns M x1 = some q1 := by
  unfold fn_X10_turns fn_X10_turns_0
  rw [f1, Option.bind_some, if_neg I1ne, b1, Option.bind_some]
theorem turns_N {N : sd_Mem} {x1 : Int32} {q1 : Int32 × sd_Mem} (f1 : fn_X11_in x1 1 99 = some 1) (b1 : fn_X11_turns_17 sd_FU N x1 (-9) 0 = some q1) : fn_X11_turns N x1 = some q1 := by
  unfold fn_X11_turns fn_X11_turns_0
  rw [f1, Option.bind_some, if_neg I1ne, b1]
theorem st_35 : sd_St35 Rel := by
  intro M N hR x1
  rcases cs (x := x1) (a := 1) (b := 99) 1 99 (by decide) (by decide) rfl rfl with ⟨e1, e2⟩ | ⟨⟨e1, e2⟩, X, hX1, hX, rfl⟩
  · exact ⟨(-1, M), (-1, N), by simp [fn_X10_turns, fn_X10_turns_0, e1], by simp [fn_X11_turns, fn_X11_turns_0, e2], rfl, hR⟩
  obtain ⟨m, lf, t, hm⟩ := hR 6
  obtain ⟨r, M0, N0, b, a1, a2, a3, a4, a5⟩ := tn_eq hm hX1 hX (who := -9) (Or.inl rfl)
  rcases a5 with ⟨rfl, rfl⟩ | ⟨z1, rfl⟩
  · obtain ⟨q1, q2, c1, c2, c3, c4⟩ := tk_loop hR hm hX1 hX a1 sd_FU 0 M0 N (-9) 100 (by omega) (by rw [FU_eq]; omega) a2 keepN.rf (Or.inl ⟨rfl, rfl⟩)
    refine ⟨q1, q2, turns_M e1 ?_, turns_N e2 c2, c3, c4⟩
    unfold fn_X8_turningKind fn_X8_turningKind_0
    rw [a1, Option.bind_some, if_pos rfl]
    exact c1
  · refine ⟨(-9, M0), (-9, N0), turns_M e1 ?_, turns_N e2 ?_, rfl, hR.sc a2 a4⟩
    · unfold fn_X8_turningKind fn_X8_turningKind_0
      rw [a1, Option.bind_some, if_neg z1]
    · rw [show sd_FU = 999 + 1 from rfl, fn_X11_turns_17, if_neg (by decide), a3, Option.bind_some, if_neg I1ne]
