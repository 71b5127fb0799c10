theorem cs {x : Int32} (lo hi : Nat) (hh : hi < 2 ^ 31) (hl : lo ≤ hi) {a b : Int32} (ea : nI lo = a) (eb : nI hi = b) : (fn_X10_within x a b = some 0 ∧ fn_X11_in x a b = some 0) ∨ ((fn_X10_within x a b = some 1 ∧ fn_X11_in x a b = some 1) ∧ ∃ k : Nat, lo ≤ k ∧ k ≤ hi ∧ x = nI k) := by
  by_cases h : x < a ∨ b < x
  · exact Or.inl ⟨wi_out h, in_out h⟩
  · have h1 : ¬ x < a := fun q => h (Or.inl q)
    have h2 : ¬ b < x := fun q => h (Or.inr q)
    refine Or.inr ⟨⟨wi_in h1 h2, in_in h1 h2⟩, ?_⟩
    subst ea; subst eb
    rw [Int32.not_lt, Int32.le_iff_toInt_le, nI_toInt (by omega)] at h1 h2
    have h0 : ¬ x < 0 := by rw [Int32.not_lt, Int32.le_iff_toInt_le, Int32.toInt_zero]; omega
    obtain ⟨k, hk, rfl⟩ := nI_of h0
    rw [nI_toInt hk] at h1 h2
    exact ⟨k, by omega, by omega, rfl⟩
theorem wiN {k lo hi : Nat} {a b : Int32} (ea : nI lo = a) (eb : nI hi = b) (h1 : lo ≤ k) (h2 : k ≤ hi) (hh : hi < 2 ^ 31) : fn_X10_within (nI k) a b = some 1 := by
  subst ea; subst eb
  exact wi_in (nI_nlt h1 (by omega)) (nI_nlt h2 hh)
theorem nIm1 {n : Nat} (h : n < 2 ^ 31) : ¬ nI n = -1 := fun e => by
  have := congrArg Int32.toInt e
  rw [nI_toInt h, show (-1 : Int32).toInt = -1 from rfl] at this
  omega
theorem nIm9 {n : Nat} (h : n < 2 ^ 31) : ¬ nI n = -9 := fun e => by
  have := congrArg Int32.toInt e
  rw [nI_toInt h, show (-9 : Int32).toInt = -9 from rfl] at this
  omega
theorem n9 : ¬ (0 : Int32) ≤ -9 := by decide
theorem n3 : ¬ (0 : Int32) ≤ -3 := by decide
theorem n1 : ¬ (0 : Int32) ≤ -1 := by decide
theorem z0 : (0 : Int32) ≤ 0 := by decide
theorem ix {a r k : Nat} {A : Int32} (e : nI a = A) : A * nI r + nI k = nI (a * r + k) := by subst e; rw [pk_mul, nI_add]
theorem bnd {k n : Nat} (h : k < n) (hn : n < 2 ^ 31) : ¬ (nI k < 0 ∨ n ≤ (nI k).toNatClampNeg) := vp_in_nI h hn
theorem bd2 {k n : Nat} (h : k < n) (hn : n < 2 ^ 31) : ¬ (nI k < 0 ∨ n ≤ k) := fun q => q.elim (nI_pos (by omega)) (fun z => absurd h (Nat.not_lt.mpr z))
theorem clm {k : Nat} (h : k < 2 ^ 31) : (nI k).toNatClampNeg = k := nI_clamp h
theorem FU_lt : 200 < sd_FU := by decide
/-- an index in range is a number below n; else both sides say so -/
theorem six (x : Int32) (n : Nat) (hn : n < 2 ^ 31) : ¬ vp_in x n ∨ ∃ k : Nat, k < n ∧ x = nI k := by
  by_cases h : vp_in x n
  · exact Or.inr (vp_in_of h hn)
  · exact Or.inl h
theorem miss1 {M : sd_Mem} {h : Nat} (e : M.1 h 1 = -1) : fn_X1_isMissing M h = some 1 := by unfold fn_X1_isMissing fn_X1_isMissing_0; rw [if_pos e]
theorem miss0 {M : sd_Mem} {h n : Nat} (hn : n < 2 ^ 31) (e : M.1 h 1 = nI n) : fn_X1_isMissing M h = some 0 := by unfold fn_X1_isMissing fn_X1_isMissing_0; rw [e, if_neg (nIm1 hn)]
theorem wmiss1 {M : sd_Mem} {h : Nat} (e : M.1 h 1 = -1) : fn_X9_isMissing M h = some 1 := by unfold fn_X9_isMissing fn_X9_isMissing_0; rw [if_pos e]
theorem wmiss0 {M : sd_Mem} {h n : Nat} (hn : n < 2 ^ 31) (e : M.1 h 1 = nI n) : fn_X9_isMissing M h = some 0 := by unfold fn_X9_isMissing fn_X9_isMissing_0; rw [e, if_neg (nIm1 hn)]
theorem aRow_out {N : sd_Mem} {x : Int32} (h : ¬ vp_in x 6) : fn_X11_askedRow N x = some (-1, N) := by
  unfold fn_X11_askedRow fn_X11_askedRow_0
  rw [isRowN_out h, Option.bind_some, if_pos rfl]
theorem aRow_miss {N : sd_Mem} {r : Nat} (h : r < 6) (e : N.1 102 r = -9) : fn_X11_askedRow N (nI r) = some (-3, tlN N 1) := by
  unfold fn_X11_askedRow fn_X11_askedRow_0
  rw [isRowN_in (vp_in_nI h (by decide)), Option.bind_some, if_neg I1ne, if_neg (bnd h (by decide)), clm (by omega), e, if_neg n9, me1]
  rfl
theorem aRow_ok {N : sd_Mem} {r n : Nat} (h : r < 6) (hn : n < 2 ^ 31) (e : N.1 102 r = nI n) : fn_X11_askedRow N (nI r) = some (0, N) := by
  unfold fn_X11_askedRow fn_X11_askedRow_0
  rw [isRowN_in (vp_in_nI h (by decide)), Option.bind_some, if_neg I1ne, if_neg (bnd h (by decide)), clm (by omega), e, if_pos (nI_pos' hn)]
theorem aText_out {N : sd_Mem} {x : Int32} (h : ¬ vp_in x 4) : fn_X11_askedText N x = some (-1, N) := by
  unfold fn_X11_askedText fn_X11_askedText_0
  rw [isTextN_out h, Option.bind_some, if_pos rfl]
theorem aText_miss {N : sd_Mem} {r : Nat} (h : r < 4) (e : N.1 105 r = -9) : fn_X11_askedText N (nI r) = some (-3, tlN N 1) := by
  unfold fn_X11_askedText fn_X11_askedText_0
  rw [isTextN_in (vp_in_nI h (by decide)), Option.bind_some, if_neg I1ne, if_neg (bnd h (by decide)), clm (by omega), e, if_neg n9, me1]
  rfl
theorem aText_ok {N : sd_Mem} {r n : Nat} (h : r < 4) (hn : n < 2 ^ 31) (e : N.1 105 r = nI n) : fn_X11_askedText N (nI r) = some (0, N) := by
  unfold fn_X11_askedText fn_X11_askedText_0
  rw [isTextN_in (vp_in_nI h (by decide)), Option.bind_some, if_neg I1ne, if_neg (bnd h (by decide)), clm (by omega), e, if_pos (nI_pos' hn)]
theorem aWay_out {N : sd_Mem} {x : Int32} (h : ¬ vp_in x 8) : fn_X11_askedWay N x = some (-1, N) := by
  unfold fn_X11_askedWay fn_X11_askedWay_0
  rw [isWayN_out h, Option.bind_some, if_pos rfl]
theorem aWay_miss {N : sd_Mem} {r : Nat} (h : r < 8) (e : N.1 115 r = -9) : fn_X11_askedWay N (nI r) = some (-3, tlN N 1) := by
  unfold fn_X11_askedWay fn_X11_askedWay_0
  rw [isWayN_in (vp_in_nI h (by decide)), Option.bind_some, if_neg I1ne, if_neg (bnd h (by decide)), clm (by omega), e, if_neg n9, me1]
  rfl
theorem aWay_ok {N : sd_Mem} {r n : Nat} (h : r < 8) (hn : n < 2 ^ 31) (e : N.1 115 r = nI n) : fn_X11_askedWay N (nI r) = some (0, N) := by
  unfold fn_X11_askedWay fn_X11_askedWay_0
  rw [isWayN_in (vp_in_nI h (by decide)), Option.bind_some, if_neg I1ne, if_neg (bnd h (by decide)), clm (by omega), e, if_pos (nI_pos' hn)]
/-! loops that fill -/
theorem fill_loop {h L : Nat} {v : Int32} (hL : sd_ln h = L) (hL2 : L < 1000) : ∀ (n i : Nat) (M : sd_Mem), i ≤ L → L - i < n → ∃ M' : sd_Mem, fn_J7_fill_53178_5 h n M v (nI i) (nI L) = some M' ∧ (∀ k, M'.1 h k = if i ≤ k ∧ k < L then v else M.1 h k) ∧ (∀ b, b ≠ h → M'.1 b = M.1 b) ∧ M'.2 = M.2 := by
  intro n
  induction n with
  | zero => intro i M h1 h2; omega
  | succ n ih =>
    intro i M h1 h2
    unfold fn_J7_fill_53178_5
    by_cases hi : i = L
    · subst hi
      refine ⟨M, by rw [if_pos (nI_le (Nat.le_refl _) (by omega))], fun k => by rw [if_neg (by omega)], fun _ _ => rfl, rfl⟩
    · rw [if_neg (nI_ge (by omega) (by omega)), hL, if_neg (bnd (by omega) (by omega)), clm (by omega), nI_1]
      obtain ⟨M', e1, e2, e3, e4⟩ := ih (i + 1) (sd_setI M h i v) (by omega) (by omega)
      refine ⟨M', e1, fun k => ?_, fun b hb => ?_, e4⟩
      · rw [e2 k, gI]
        by_cases hk : k = i
        · subst hk; rw [if_neg (by omega), if_pos ⟨rfl, rfl⟩, if_pos (by omega)]
        · by_cases hq : i + 1 ≤ k ∧ k < L
          · rw [if_pos hq, if_pos (by omega)]
          · rw [if_neg hq, if_neg (fun z => hk z.2), if_neg (by omega)]
      · rw [e3 b hb]
        exact funext fun k => gIa hb
theorem fill_eq {h L : Nat} (M : sd_Mem) (v : Int32) (hL : sd_ln h = L) (hL2 : L < 1000) : ∃ M' : sd_Mem, fn_J7_fill_53178 M h v = some M' ∧ (∀ k, M'.1 h k = if k < L then v else M.1 h k) ∧ (∀ b, b ≠ h → M'.1 b = M.1 b) ∧ M'.2 = M.2 := by
  obtain ⟨M', e1, e2, e3⟩ := fill_loop (v := v) hL hL2 sd_FU 0 M (Nat.zero_le _) (by have : sd_FU = 1000 := rfl; omega)
  refine ⟨M', ?_, fun k => ?_, e3⟩
  · unfold fn_J7_fill_53178 fn_J7_fill_53178_0
    rw [hL]
    exact e1
  · rw [e2 k]
    by_cases hk : k < L
    · rw [if_pos ⟨Nat.zero_le _, hk⟩, if_pos hk]
    · rw [if_neg (fun z => hk z.2), if_neg hk]
theorem Nrow_loop {r : Nat} (hr : r < 6) {x2 : Int32} : ∀ (n i : Nat) (N : sd_Mem), i ≤ 40 → 40 - i < n → ∃ N' : sd_Mem, fn_X11_row_34 n N (nI r) x2 (nI i) = some (x2, N') ∧ (∀ k, N'.1 103 k = if 40 * r + i ≤ k ∧ k < 40 * r + 40 then 0 else N.1 103 k) ∧ (∀ b, b ≠ 103 → N'.1 b = N.1 b) ∧ N'.2 = N.2 := by
  intro n
  induction n with
  | zero => intro i N h1 h2; omega
  | succ n ih =>
    intro i N h1 h2
    unfold fn_X11_row_34
    by_cases hi : i = 40
    · subst hi
      refine ⟨N, by rw [if_pos (by decide)], fun k => by rw [if_neg (by omega)], fun _ _ => rfl, rfl⟩
    · rw [if_neg (show ¬ (40 : Int32) ≤ nI i from nI_ge (b := 40) (by omega) (by decide)), ix (a := 40) (A := 40) rfl, if_neg (bnd (by omega) (by decide)), clm (by omega), nI_1]
      obtain ⟨N', e1, e2, e3, e4⟩ := ih (i + 1) (sd_setI N 103 (40 * r + i) 0) (by omega) (by omega)
      refine ⟨N', e1, fun k => ?_, fun b hb => ?_, e4⟩
      · rw [e2 k, gI]
        by_cases hk : k = 40 * r + i
        · subst hk; rw [if_neg (by omega), if_pos ⟨rfl, rfl⟩, if_pos (by omega)]
        · by_cases hq : 40 * r + (i + 1) ≤ k ∧ k < 40 * r + 40
          · rw [if_pos hq, if_pos (by omega)]
          · rw [if_neg hq, if_neg (fun z => hk z.2), if_neg (by omega)]
      · rw [e3 b hb]
        exact funext fun k => gIa hb
theorem Ntext_loop {r : Nat} (hr : r < 4) {x2 : Int32} : ∀ (n i : Nat) (N : sd_Mem), i ≤ 60 → 60 - i < n → ∃ N' : sd_Mem, fn_X11_text_34 n N (nI r) x2 (nI i) = some (x2, N') ∧ (∀ k, N'.1 106 k = if 60 * r + i ≤ k ∧ k < 60 * r + 60 then 32 else N.1 106 k) ∧ (∀ b, b ≠ 106 → N'.1 b = N.1 b) ∧ N'.2 = N.2 := by
  intro n
  induction n with
  | zero => intro i N h1 h2; omega
  | succ n ih =>
    intro i N h1 h2
    unfold fn_X11_text_34
    by_cases hi : i = 60
    · subst hi
      refine ⟨N, by rw [if_pos (by decide)], fun k => by rw [if_neg (by omega)], fun _ _ => rfl, rfl⟩
    · rw [if_neg (show ¬ (60 : Int32) ≤ nI i from nI_ge (b := 60) (by omega) (by decide)), ix (a := 60) (A := 60) rfl, if_neg (bnd (by omega) (by decide)), clm (by omega), nI_1]
      obtain ⟨N', e1, e2, e3, e4⟩ := ih (i + 1) (sd_setI N 106 (60 * r + i) 32) (by omega) (by omega)
      refine ⟨N', e1, fun k => ?_, fun b hb => ?_, e4⟩
      · rw [e2 k, gI]
        by_cases hk : k = 60 * r + i
        · subst hk; rw [if_neg (by omega), if_pos ⟨rfl, rfl⟩, if_pos (by omega)]
        · by_cases hq : 60 * r + (i + 1) ≤ k ∧ k < 60 * r + 60
          · rw [if_pos hq, if_pos (by omega)]
          · rw [if_neg hq, if_neg (fun z => hk z.2), if_neg (by omega)]
      · rw [e3 b hb]
        exact funext fun k => gIa hb
theorem Nway_loop {r : Nat} (hr : r < 8) : ∀ (n i : Nat) (N : sd_Mem), i ≤ 30 → 30 - i < n → ∃ N' : sd_Mem, fn_X11_way_27 n N (nI r) (nI i) = some (1, N') ∧ (∀ k, N'.1 116 k = if 30 * r + i ≤ k ∧ k < 30 * r + 30 then 0 else N.1 116 k) ∧ (∀ b, b ≠ 116 → N'.1 b = N.1 b) ∧ N'.2 = N.2 := by
  intro n
  induction n with
  | zero => intro i N h1 h2; omega
  | succ n ih =>
    intro i N h1 h2
    unfold fn_X11_way_27
    by_cases hi : i = 30
    · subst hi
      refine ⟨N, by rw [if_pos (by decide)], fun k => by rw [if_neg (by omega)], fun _ _ => rfl, rfl⟩
    · rw [if_neg (show ¬ (30 : Int32) ≤ nI i from nI_ge (b := 30) (by omega) (by decide)), ix (a := 30) (A := 30) rfl, if_neg (bnd (by omega) (by decide)), clm (by omega), nI_1]
      obtain ⟨N', e1, e2, e3, e4⟩ := ih (i + 1) (sd_setI N 116 (30 * r + i) 0) (by omega) (by omega)
      refine ⟨N', e1, fun k => ?_, fun b hb => ?_, e4⟩
      · rw [e2 k, gI]
        by_cases hk : k = 30 * r + i
        · subst hk; rw [if_neg (by omega), if_pos ⟨rfl, rfl⟩, if_pos (by omega)]
        · by_cases hq : 30 * r + (i + 1) ≤ k ∧ k < 30 * r + 30
          · rw [if_pos hq, if_pos (by omega)]
          · rw [if_neg hq, if_neg (fun z => hk z.2), if_neg (by omega)]
      · rw [e3 b hb]
        exact funext fun k => gIa hb
/-! the first calls -/
theorem st_11 : sd_St11 Rel := by
  intro M N hR x1
  rcases cs (x := x1) (a := 1) (b := 10) 1 10 (by decide) (by decide) rfl rfl with ⟨e1, e2⟩ | ⟨⟨e1, e2⟩, k, h1, h2, rfl⟩
  · exact ⟨(-1, M), (-1, N), by simp [fn_X10_notice, fn_X10_notice_0, e1], by simp [fn_X11_notice, fn_X11_notice_0, fn_X11_isDay, fn_X11_isDay_0, e2], rfl, hR⟩
  · obtain ⟨a, t, w, ⟨ha, ha1, ha2⟩, ⟨ht, ht1, ht2⟩, ⟨hw, hw1, hw2⟩⟩ := hR 5
    refine ⟨(M.1 58 0, sd_setI M 58 0 (nI k)), (N.1 100 14, sd_setI N 100 14 (nI k)), by simp [fn_X10_notice, fn_X10_notice_0, e1], by simp [fn_X11_notice, fn_X11_notice_0, fn_X11_isDay, fn_X11_isDay_0, e2], ha1.trans ha2.symm, hR.one 5 (keepM.I (by decide) keepM.rf) (keepN.I (by decide) keepN.rf) ⟨k, t, w, ?_⟩⟩
    simp [Lw, gI, h1, h2, ht, ht1, ht2, hw, hw1, hw2]
theorem st_12 : sd_St12 Rel := by
  intro M N hR x1 x2
  rcases cs (x := x1) (a := 0) (b := 12) 0 12 (by decide) (by decide) rfl rfl with ⟨e1, e2⟩ | ⟨⟨e1, e2⟩, k, h1, h2, rfl⟩
  · exact ⟨(-1, M), (-1, N), by simp [fn_X10_judge, fn_X10_judge_0, e1], by simp [fn_X11_judge, fn_X11_judge_0, e2], rfl, hR⟩
  · rcases cs (x := x2) (a := 0) (b := 12) 0 12 (by decide) (by decide) rfl rfl with ⟨f1, f2⟩ | ⟨⟨f1, f2⟩, j, h3, h4, rfl⟩
    · exact ⟨(-1, M), (-1, N), by simp [fn_X10_judge, fn_X10_judge_0, e1, f1], by simp [fn_X11_judge, fn_X11_judge_0, e2, f2], rfl, hR⟩
    · obtain ⟨a, t, w, ⟨ha, ha1, ha2⟩, ⟨ht, ht1, ht2⟩, ⟨hw, hw1, hw2⟩⟩ := hR 5
      refine ⟨(1, sd_setI (sd_setI M 58 1 (nI k)) 58 2 (nI j)), (1, sd_setI (sd_setI N 100 15 (nI k)) 100 16 (nI j)), by simp [fn_X10_judge, fn_X10_judge_0, e1, f1], by simp [fn_X11_judge, fn_X11_judge_0, e2, f2], rfl, hR.one 5 (keepM.I (by decide) (keepM.I (by decide) keepM.rf)) (keepN.I (by decide) (keepN.I (by decide) keepN.rf)) ⟨a, k, j, ?_⟩⟩
      simp [Lw, gI, h2, h4, ha, ha1, ha2]
theorem st_38 : sd_St38 Rel := fun M N hR => ⟨M.1 0 13, N.1 100 2, rfl, rfl, hR 0, hR⟩
theorem st_39 : sd_St39 Rel := fun M N hR => ⟨M.2 96 0, N.2 100 3, rfl, rfl, (hR 7).1, hR⟩
theorem st_40 : sd_St40 Rel := fun M N hR => ⟨M.2 96 1, N.2 100 4, rfl, rfl, (hR 7).2, hR⟩
theorem st_42 : sd_St42 Rel := fun M N hR => ⟨M.1 97 1, N.1 100 0, rfl, rfl, (hR 8).1, hR⟩
theorem st_43 : sd_St43 Rel := by
  intro M N hR x1
  rcases cs (x := x1) (a := 1) (b := 5) 1 5 (by decide) (by decide) rfl rfl with ⟨e1, e2⟩ | ⟨⟨e1, e2⟩, k, h1, h2, rfl⟩
  · exact ⟨-1, -1, by simp [fn_X10_findings, fn_X10_findings_0, e1], by simp [fn_X11_findings, fn_X11_findings_0, e2], rfl, hR⟩
  · have b := bd2 (show k < 6 by omega) (by decide)
    refine ⟨M.1 98 k, N.1 101 k, ?_, ?_, (hR 8).2 k (by omega), hR⟩
    · simp only [fn_X10_findings, fn_X10_findings_0, fn_X2_often, fn_X2_often_0, e1, Option.bind_some, if_neg I1ne, if_neg b, clm (show k < 2 ^ 31 by omega)]
    · simp only [fn_X11_findings, fn_X11_findings_0, e2, Option.bind_some, if_neg I1ne, if_neg b, clm (show k < 2 ^ 31 by omega)]
theorem pact_eq : ∀ (n : Nat) (a b c d : Int32), fn_X10_pact_35 n a b c d = fn_X11_pact_35 n a b c d := by
  intro n
  induction n with
  | zero => intros; rfl
  | succ n ih => intro a b c d; unfold fn_X10_pact_35 fn_X11_pact_35; rw [ih]
theorem pact_some {a b c : Int32} : ∀ (n k : Nat), k ≤ 100 → 100 - k < n → ∃ r, fn_X10_pact_35 n a b c (nI k) = some r := by
  intro n
  induction n with
  | zero => intro k h1 h2; omega
  | succ n ih =>
    intro k h1 h2
    unfold fn_X10_pact_35
    by_cases hk : k = 100
    · subst hk; exact ⟨-9, by rw [if_pos (by decide)]⟩
    · rw [if_neg (show ¬ (99 : Int32) < nI k from nI_nlt (a := 99) (by omega) (by decide)), nI_1]
      by_cases q : b * nI k < c * (a - 1)
      · rw [if_pos q]; exact ih (k + 1) (by omega) (by omega)
      · rw [if_neg q]; exact ⟨_, rfl⟩
theorem st_37 : sd_St37 Rel := by
  intro M N hR x1 x2 x3
  rcases cs (x := x1) (a := 1) (b := 9) 1 9 (by decide) (by decide) rfl rfl with ⟨e1, e2⟩ | ⟨⟨e1, e2⟩, -⟩
  · exact ⟨-1, -1, by simp [fn_X10_pact, fn_X10_pact_0, e1], by simp [fn_X11_pact, fn_X11_pact_0, e2], rfl, hR⟩
  rcases cs (x := x2) (a := 0) (b := 99) 0 99 (by decide) (by decide) rfl rfl with ⟨f1, f2⟩ | ⟨⟨f1, f2⟩, -⟩
  · exact ⟨-1, -1, by simp [fn_X10_pact, fn_X10_pact_0, e1, f1], by simp [fn_X11_pact, fn_X11_pact_0, e2, f2], rfl, hR⟩
  rcases cs (x := x3) (a := 0) (b := 99) 0 99 (by decide) (by decide) rfl rfl with ⟨g1, g2⟩ | ⟨⟨g1, g2⟩, -⟩
  · exact ⟨-1, -1, by simp [fn_X10_pact, fn_X10_pact_0, e1, f1, g1], by simp [fn_X11_pact, fn_X11_pact_0, e2, f2, g2], rfl, hR⟩
  obtain ⟨r, hr⟩ := pact_some (a := x1) (b := x2) (c := x3) sd_FU 1 (by decide) (by decide)
  refine ⟨r, r, ?_, ?_, rfl, hR⟩
  · simp only [fn_X10_pact, fn_X10_pact_0, e1, f1, g1, Option.bind_some, if_neg I1ne]; exact hr
  · simp only [fn_X11_pact, fn_X11_pact_0, e2, f2, g2, Option.bind_some, if_neg I1ne]; rw [← pact_eq]; exact hr
theorem st_31 : sd_St31 Rel := by
  intro M N hR x1 x2 x3 x4
  have hk : ∀ x, (fn_X10_isKindOfMen x = some 0 ∧ fn_X11_isKindOfMen x = some 0) ∨ ((fn_X10_isKindOfMen x = some 1 ∧ fn_X11_isKindOfMen x = some 1) ∧ ∃ k : Nat, k < 6 ∧ x = nI k) := by
    intro x
    rcases cs (x := x) (a := 0) (b := 5) 0 5 (by decide) (by decide) rfl rfl with ⟨e1, e2⟩ | ⟨⟨e1, e2⟩, k, -, h2, rfl⟩
    · exact Or.inl ⟨by simp [fn_X10_isKindOfMen, fn_X10_isKindOfMen_0, e1], by simp [fn_X11_isKindOfMen, fn_X11_isKindOfMen_0, e2]⟩
    · exact Or.inr ⟨⟨by simp only [fn_X10_isKindOfMen, fn_X10_isKindOfMen_0, e1, Option.bind_some, if_neg I11], by simp only [fn_X11_isKindOfMen, fn_X11_isKindOfMen_0, e2, Option.bind_some, if_neg I11]⟩, k, by omega, rfl⟩
  rcases hk x1 with ⟨e1, e2⟩ | ⟨⟨e1, e2⟩, k, hk6, rfl⟩
  · exact ⟨(-1, M), (-1, N), by simp [fn_X10_men, fn_X10_men_0, e1], by simp [fn_X11_men, fn_X11_men_0, e2], rfl, hR⟩
  rcases cs (x := x2) (a := 0) (b := 99) 0 99 (by decide) (by decide) rfl rfl with ⟨f1, f2⟩ | ⟨⟨f1, f2⟩, a, -, ha, rfl⟩
  · exact ⟨(-1, M), (-1, N), by simp [fn_X10_men, fn_X10_men_0, e1, f1], by simp [fn_X11_men, fn_X11_men_0, e2, f2], rfl, hR⟩
  rcases cs (x := x3) (a := 0) (b := 99) 0 99 (by decide) (by decide) rfl rfl with ⟨g1, g2⟩ | ⟨⟨g1, g2⟩, b, -, hb, rfl⟩
  · exact ⟨(-1, M), (-1, N), by simp [fn_X10_men, fn_X10_men_0, e1, f1, g1], by simp [fn_X11_men, fn_X11_men_0, e2, f2, g2], rfl, hR⟩
  rcases cs (x := x4) (a := 0) (b := 100) 0 100 (by decide) (by decide) rfl rfl with ⟨i1, i2⟩ | ⟨⟨i1, i2⟩, c, -, hc, rfl⟩
  · exact ⟨(-1, M), (-1, N), by simp [fn_X10_men, fn_X10_men_0, e1, f1, g1, i1], by simp [fn_X11_men, fn_X11_men_0, e2, f2, g2, i2], rfl, hR⟩
  have bb := bd2 hk6 (by decide)
  refine ⟨(1, sd_setI (sd_setI (sd_setI M 91 k (nI a)) 92 k (nI b)) 93 k (nI c)), (1, sd_setI (sd_setI (sd_setI N 119 k (nI a)) 120 k (nI b)) 121 k (nI c)), ?_, ?_, rfl, ?_⟩
  · simp only [fn_X10_men, fn_X10_men_0, e1, f1, g1, i1, Option.bind_some, if_neg I1ne, if_neg bb, clm (show k < 2 ^ 31 by omega)]
  · simp only [fn_X11_men, fn_X11_men_0, e2, f2, g2, i2, Option.bind_some, if_neg I1ne, if_neg bb, clm (show k < 2 ^ 31 by omega)]
  · obtain ⟨m, l, t, h⟩ := hR 6
    refine hR.one 6 (keepM.I (by decide) (keepM.I (by decide) (keepM.I (by decide) keepM.rf))) (keepN.I (by rw [rgN_o (by decide)]; decide) (keepN.I (by rw [rgN_o (by decide)]; decide) (keepN.I (by rw [rgN_o (by decide)]; decide) keepN.rf))) ⟨fun j => if j = k then a else m j, fun j => if j = k then b else l j, fun j => if j = k then c else t j, fun j hj => ?_⟩
    obtain ⟨⟨m1, m2, m3⟩, ⟨l1, l2, l3⟩, ⟨t1, t2, t3⟩⟩ := h j hj
    by_cases q : j = k
    · subst q; simp [gI, ha, hb, hc]
    · simp [gI, q, m1, m2, m3, l1, l2, l3, t1, t2, t3]
