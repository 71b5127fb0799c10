theorem read_loop {r s : Nat} {T : Nat → Int32} : ∀ (f g p i : Nat) (n : Nat → Nat) (c d : Nat → Nat → Nat) (v h l w : Nat) (M N : sd_Mem), s - p < f → s - p < g → i ≤ p → p ≤ s → Tx r s T M N → M.1 60 1 = nI p → N.1 100 21 = nI p → Dr n c d v h l w M N → ∃ (R : Int32) (M' N' : sd_Mem), fn_X6_read_14 (14 + 1 + 2 * r) f M (nI i) = some (R, M') ∧ fn_X11_reads_49 g N (nI r) = some (R, N') ∧ keepM [9] M M' ∧ keepN [9] N N' ∧ (R = -9 → ∃ (n : Nat → Nat) (c d : Nat → Nat → Nat) (v h l w : Nat), Dr n c d v h l w M' N' ∧ 1 ≤ n 0 ∧ 1 ≤ n 1 ∧ l ≤ h) := by
  intro f
  induction f with
  | zero => intro g p i n c d v h l w M N h1; omega
  | succ f ih =>
    intro g p i n c d v h l w M N h1 h2 h3 h4 t hM hN q
    have hs := t.2.1
    have hr := t.1
    obtain ⟨p', g', M1, N1, a1, a2, a3, a4, a5, a6, a7, a8⟩ := skip t (s - p) p sd_FU g M N (Nat.le_refl _) h4 (by rw [FU_eq]; omega) h2 ⟨hM, fun _ _ _ => rfl, keepM.rf⟩ ⟨hN, fun _ _ _ => rfl, keepN.rf⟩
    have a5 : fn_X6_skipBlanks M (14 + 1 + 2 * r) = some M1 := a5
    have t1 := t.keep a7.2.2 a8.2.2
    have q1 := q.mv a7.D a8.D
    have e14 : fn_X6_read_14 (14 + 1 + 2 * r) (f + 1) M (nI i) = if nI p' < nI s then (fn_X6_readItem M1 (14 + 1 + 2 * r)).bind fun q55 => (if q55.1 = 0 then some (q55.2.1 60 1, q55.2) else fn_X6_read_14 (14 + 1 + 2 * r) f q55.2 (nI (i + 1))) else fn_X6_read_36 (14 + 1 + 2 * r) M1 := by
      rw [fn_X6_read_14, if_neg (show ¬ (60 : Int32) < nI i from nI_nlt (a := 60) (by omega) (by decide)), a5, Option.bind_some, fn_X1_size, fn_X1_size_0, t1.2.2.1, Option.bind_some, a7.1, nI_1]
    rw [e14, a6]
    obtain ⟨g', rfl⟩ : ∃ j, g' = j + 1 := ⟨g' - 1, by omega⟩
    by_cases hp : p' < s
    · have n32 := a3 hp
      have hh := hereT t1 (p := p') (by omega) a8.1
      rw [if_pos hp] at hh
      rw [if_pos (nI_lt hp (by omega)), fn_X11_reads_49, clm (show r < 2 ^ 31 by omega), if_neg (bd2 hr (by decide)), t1.2.2.2.1, a8.1, if_neg (nI_ge hp (by omega)), hh, Option.bind_some, if_neg n32]
      have key : It r s p' T M1 N1 (fn_X11_reads_49 g') (fn_X6_readItem M1 (14 + 1 + 2 * r)) (if T p' = 109 then fn_X11_reads_109 (fn_X11_reads_49 g') N1 (nI r) (T p') 0 else if T p' = 111 then fn_X11_reads_109 (fn_X11_reads_49 g') N1 (nI r) (T p') 1 else fn_X11_reads_109 (fn_X11_reads_49 g') N1 (nI r) (T p') (-9)) := by
        by_cases x109 : T p' = 109
        · rw [if_pos x109, x109]; exact it_m t1 hp a7.1 a8.1 q1 x109
        rw [if_neg x109]
        by_cases x111 : T p' = 111
        · rw [if_pos x111, x111]; exact it_o t1 hp a7.1 a8.1 q1 x111
        rw [if_neg x111]
        by_cases x118 : T p' = 118
        · rw [x118]; exact it_v t1 hp a7.1 a8.1 q1 x118
        by_cases x104 : T p' = 104
        · rw [x104]; exact it_h t1 hp a7.1 a8.1 q1 x104
        by_cases x108 : T p' = 108
        · rw [x108]; exact it_l t1 hp a7.1 a8.1 q1 x108
        by_cases x119 : T p' = 119
        · rw [x119]; exact it_w t1 hp a7.1 a8.1 q1 x119
        exact it_x t1 hp a7.1 a8.1 rfl x104 x108 x109 x111 x118 x119
      rcases key with ⟨M2, N2, b1, b2, b3, b4, k, hk, b5⟩ | ⟨M2, N2, p2, n2, c2, d2, v2, h2', l2, w2, b1, b2, b3, b4, b5, b6, b7, b8, b9⟩
      · rw [b1, b2, Option.bind_some]
        dsimp only
        rw [if_pos rfl]
        exact ⟨_, M2, N2, rfl, rfl, a7.2.2.tr b3, a8.2.2.tr b4, fun e => by rw [b5] at e; exact absurd e (nIm9 (by omega))⟩
      · rw [b1, b2, Option.bind_some]
        dsimp only
        rw [if_neg I1ne]
        obtain ⟨R, M3, N3, r1, r2, r3, r4, r5⟩ := ih g' p2 (i + 1) n2 c2 d2 v2 h2' l2 w2 M2 N2 (by omega) (by omega) (by omega) b4 (t1.keep b7 b8) b5 b6 b9
        exact ⟨R, M3, N3, r1, r2, a7.2.2.tr (b7.tr r3), a8.2.2.tr (b8.tr r4), r5⟩
    · have hps : p' = s := by omega
      obtain ⟨y0, y1, y2, -, -⟩ := q1.1 0 (by decide)
      obtain ⟨w0, w1, w2, -, -⟩ := q1.1 1 (by decide)
      obtain ⟨-, -, ⟨hb, hb1, hb2⟩, ⟨lb, lb1, lb2⟩, -⟩ := q1
      have s1 := t1.2.2.1
      have s2 := t1.2.2.2.1
      have k2 : (2 : Int32).toNatClampNeg = 2 := rfl
      have cr := clm (show r < 2 ^ 31 by omega)
      have br := bd2 hr (show 4 < 2 ^ 31 by decide)
      have g24 : ¬ ((2 : Int32) < 0 ∨ 4 ≤ (2 : Int32).toNatClampNeg) := by decide
      have g14 : ¬ ((1 : Int32) < 0 ∨ 4 ≤ (1 : Int32).toNatClampNeg) := by decide
      have eM : fn_X6_read_36 (14 + 1 + 2 * r) M1 = if nI (n 0) ≤ 0 then some (nI s, M1) else if nI (n 1) ≤ 0 then some (nI s, M1) else if nI h < nI l then some (nI s, M1) else some (-9, M1) := by
        rw [fn_X6_read_36, fn_X6_isWhole, fn_X6_isWhole_0, srt0, Option.bind_some, show M1.1 (49 + 1) 0 = nI (n 0) from y1, srt1, show M1.1 (49 + 1) 1 = nI (n 1) from w1, hb1, lb1, fn_X1_size, fn_X1_size_0, s1]
        by_cases d0 : nI (n 0) ≤ 0
        · rw [if_pos d0, if_pos d0, Option.bind_some, if_pos rfl, Option.bind_some]
        rw [if_neg d0, if_neg d0, Option.bind_some]
        by_cases d1 : nI (n 1) ≤ 0
        · rw [if_pos d1, if_pos d1, Option.bind_some, if_pos rfl, Option.bind_some]
        rw [if_neg d1, if_neg d1]
        by_cases d2 : nI h < nI l
        · rw [if_pos d2, if_pos d2, Option.bind_some, if_pos rfl, Option.bind_some]
        rw [if_neg d2, if_neg d2, Option.bind_some, if_neg I1ne]
      have eN : fn_X11_reads_254 N1 (nI r) = if nI (n 0) = 0 then some (nI s, N1) else if nI (n 1) = 0 then some (nI s, N1) else if nI l ≤ nI h then some (-9, N1) else some (nI s, N1) := by
        rw [fn_X11_reads_254, if_neg g02, if_neg g12, if_neg g24, if_neg g14, k0, k1, k2, y2, cr, if_neg br, s2, w2, hb2, lb2]
      rw [if_neg (nI_nlt (by omega) (by omega)), fn_X11_reads_49, cr, if_neg br, s2, a8.1, if_pos (nI_le (by omega) (by omega)), eM, eN]
      by_cases c0 : n 0 = 0
      · rw [if_pos (show nI (n 0) ≤ 0 by rw [c0]; decide), if_pos (show nI (n 0) = 0 by rw [c0]; rfl)]
        exact ⟨_, M1, N1, rfl, rfl, a7.2.2, a8.2.2, fun e => absurd e (nIm9 (by omega))⟩
      rw [if_neg (show ¬ nI (n 0) ≤ 0 from nI_nle (by omega) (by omega)), if_neg (show ¬ nI (n 0) = 0 from nI_ne0 (by omega) (by omega))]
      by_cases c1 : n 1 = 0
      · rw [if_pos (show nI (n 1) ≤ 0 by rw [c1]; decide), if_pos (show nI (n 1) = 0 by rw [c1]; rfl)]
        exact ⟨_, M1, N1, rfl, rfl, a7.2.2, a8.2.2, fun e => absurd e (nIm9 (by omega))⟩
      rw [if_neg (show ¬ nI (n 1) ≤ 0 from nI_nle (by omega) (by omega)), if_neg (show ¬ nI (n 1) = 0 from nI_ne0 (by omega) (by omega))]
      by_cases ch : l ≤ h
      · rw [if_neg (nI_nlt ch (by omega)), if_pos (nI_le ch (by omega))]
        exact ⟨_, M1, N1, rfl, rfl, a7.2.2, a8.2.2, fun _ => ⟨n, c, d, v, h, l, w, q.mv a7.D a8.D, by omega, by omega, ch⟩⟩
      · rw [if_pos (nI_lt (by omega) (by omega)), if_neg (nI_ge (by omega) (by omega))]
        exact ⟨_, M1, N1, rfl, rfl, a7.2.2, a8.2.2, fun e => absurd e (nIm9 (by omega))⟩
theorem clearF {M : sd_Mem} {h0 : Nat} (l1 : sd_ln (h0 + 1) = 2) (l2 : sd_ln (h0 + 2) = 2) : ∃ M' : sd_Mem, fn_X5_clear M h0 = some M' ∧ (∀ y, y < 2 → M'.1 (h0 + 1) y = 0 ∧ M'.1 (h0 + 2) y = 0) ∧ (M'.1 h0 4 = 10 ∧ M'.1 h0 5 = 20 ∧ M'.1 h0 6 = 5 ∧ M'.1 h0 7 = 5) ∧ (∀ id j, (id < h0 ∨ h0 + 3 ≤ id) → M'.1 id j = M.1 id j) ∧ M'.2 = M.2 := by
  obtain ⟨A, e1, e2, e3, e4⟩ := fill_eq M 0 l1 (by decide)
  obtain ⟨B, f1, f2, f3, f4⟩ := fill_eq A 0 l2 (by decide)
  refine ⟨_, by unfold fn_X5_clear fn_X5_clear_0; rw [e1, Option.bind_some, f1, Option.bind_some], fun y hy => ⟨?_, ?_⟩, ⟨?_, ?_, ?_, ?_⟩, fun id j hid => ?_, ?_⟩
  · rw [gIa (by omega), gIa (by omega), gIa (by omega), gIa (by omega), f3 (h0 + 1) (by omega), e2, if_pos hy]
  · rw [gIa (by omega), gIa (by omega), gIa (by omega), gIa (by omega), f2, if_pos hy]
  · rw [gIk (by decide), gIk (by decide), gIk (by decide), gIs]
  · rw [gIk (by decide), gIk (by decide), gIs]
  · rw [gIk (by decide), gIs]
  · rw [gIs]
  · rw [gIa (by omega), gIa (by omega), gIa (by omega), gIa (by omega), f3 id (by omega), e3 id (by omega)]
  · exact f4.trans e4
theorem read_eq {M N : sd_Mem} (hR : Rel M N) {r k : Nat} (hr : r < 4) (hk : k ≤ 60) (s1 : M.1 (14 + 1 + 2 * r) 1 = nI k) (s2 : N.1 105 r = nI k) : ∃ (R : Int32) (M' N' : sd_Mem), fn_X6_read M (14 + 1 + 2 * r) = some (R, M') ∧ fn_X11_reads N (nI r) = some (R, N') ∧ keepM [9] M M' ∧ keepN [9] N N' ∧ (R = -9 → ∃ (n : Nat → Nat) (c d : Nat → Nat → Nat) (v h l w : Nat), Dr n c d v h l w M' N' ∧ 1 ≤ n 0 ∧ 1 ≤ n 1 ∧ l ≤ h) := by
  have tx : Tx r k (fun i => M.1 (14 + 1 + 2 * r + 1) i) M N := ⟨hr, hk, s1, s2, fun i hi => ⟨rfl, ((hR 2 r hr).2 i (by omega)).symm⟩⟩
  obtain ⟨A, e1, e2, ⟨e3, e4, e5, e6⟩, e7, e8⟩ := clearF (M := M) (h0 := 49) (by decide) (by decide)
  have kA : keepM [9] M A := fun id j g => by
    have hid : id < 49 ∨ 49 + 3 ≤ id := by
      rcases Nat.lt_or_ge id 49 with g' | g'
      · omega
      · rcases Nat.lt_or_ge id 52 with g2 | g2
        · exact absurd (show rgM id ∈ [9] from (show ∀ id, id < 52 → 49 ≤ id → rgM id ∈ [9] by decide) id g2 g') g
        · omega
    exact ⟨e7 id j hid, by rw [e8]⟩
  have kM : keepM [9] M (sd_setI A 60 1 0) := keepM.I (by decide) kA
  have o9 : ∀ id k, id = 111 ∨ id = 114 → rgN id k ∈ [9] := fun id k e => by
    rcases e with rfl | rfl <;> (rw [rgN_o (by decide)]; decide)
  have kN : keepN [9] N (sd_setI (sd_setI (sd_setI (sd_setI (sd_setI (sd_setI (sd_setI N 111 0 0) 111 1 0) 114 0 10) 114 1 20) 114 2 5) 114 3 5) 100 21 0) := keepN.I (by decide) (keepN.I (o9 _ _ (by decide)) (keepN.I (o9 _ _ (by decide)) (keepN.I (o9 _ _ (by decide)) (keepN.I (o9 _ _ (by decide)) (keepN.I (o9 _ _ (by decide)) (keepN.I (o9 _ _ (by decide)) keepN.rf))))))
  have dr : Dr (fun _ => 0) (fun _ _ => 0) (fun _ _ => 0) 10 20 5 5 (sd_setI A 60 1 0) (sd_setI (sd_setI (sd_setI (sd_setI (sd_setI (sd_setI (sd_setI N 111 0 0) 111 1 0) 114 0 10) 114 1 20) 114 2 5) 114 3 5) 100 21 0) := by
    refine ⟨fun z hz => ⟨Nat.zero_le _, (gIa (by decide)).trans (e2 z hz).1, ?_, (gIa (by decide)).trans (e2 z hz).2, fun s hs => absurd hs (Nat.not_lt_zero _)⟩, ⟨by decide, (gIa (by decide)).trans e3, ?_⟩, ⟨by decide, (gIa (by decide)).trans e4, ?_⟩, ⟨by decide, (gIa (by decide)).trans e5, ?_⟩, ⟨by decide, (gIa (by decide)).trans e6, ?_⟩⟩
    · rcases (show z = 0 ∨ z = 1 by omega) with rfl | rfl <;> (simp [gI]; rfl)
    · simp [gI]; rfl
    · simp [gI]; rfl
    · simp [gI]; rfl
    · simp [gI]; rfl
  obtain ⟨R, M', N', r1, r2, r3, r4, r5⟩ := read_loop sd_FU sd_FU 0 0 _ _ _ _ _ _ _ _ _ (by rw [FU_eq]; omega) (by rw [FU_eq]; omega) (Nat.le_refl _) (Nat.zero_le _) (tx.keep kM kN) (gIs _ _ _ _) (gIs _ _ _ _) dr
  refine ⟨R, M', N', ?_, ?_, kM.tr r3, kN.tr r4, r5⟩
  · unfold fn_X6_read fn_X6_read_0
    rw [e1, Option.bind_some]; exact r1
  · have eN : fn_X11_reads N (nI r) = fn_X11_reads_49 sd_FU (sd_setI (sd_setI (sd_setI (sd_setI (sd_setI (sd_setI (sd_setI N 111 0 0) 111 1 0) 114 0 10) 114 1 20) 114 2 5) 114 3 5) 100 21 0) (nI r) := by
      unfold fn_X11_reads fn_X11_reads_0
      rw [if_neg g02, if_neg g12, if_neg (by decide), if_neg (by decide), if_neg (by decide), if_neg (by decide)]
      rfl
    rw [eN]; exact r2
theorem st_7 : sd_St7 Rel := by
  intro M N hR x1
  rcases six x1 4 (by decide) with hx | ⟨r, hr, rfl⟩
  · exact ⟨(-1, M), (-1, N), by simp [fn_X10_fault, fn_X10_fault_0, isText_out hx], by simp only [fn_X11_fault, fn_X11_fault_0, aText_out hx, Option.bind_some, if_neg n1], rfl, hR⟩
  have i1 := isText_in (vp_in_nI hr (by decide))
  have b := bd2 hr (show 4 < 2 ^ 31 by decide)
  have c1 := clm (show r < 2 ^ 31 by omega)
  rcases (hR 2 r hr).1 with ⟨s1, s2⟩ | ⟨k, hk, s1, s2⟩
  · refine ⟨(-3, tlM M 1), (-3, tlN N 1), ?_, ?_, rfl, hR.tell (by decide)⟩
    · simp only [fn_X10_fault, fn_X10_fault_0, i1, Option.bind_some, if_neg I1ne, c1, if_neg b, miss1 s1, tl1]
    · simp only [fn_X11_fault, fn_X11_fault_0, aText_miss hr s2, Option.bind_some, if_neg n3]
  obtain ⟨R, M', N', r1, r2, r3, r4, -⟩ := read_eq hR hr hk s1 s2
  refine ⟨(R, M'), (R, N'), ?_, ?_, rfl, hR.sc r3 r4⟩
  · simp only [fn_X10_fault, fn_X10_fault_0, i1, Option.bind_some, if_neg I1ne, c1, if_neg b, miss0 (show k < 2 ^ 31 by omega) s1, if_true, r1]
  · simp only [fn_X11_fault, fn_X11_fault_0, aText_ok hr (show k < 2 ^ 31 by omega) s2, Option.bind_some, if_pos z0, r2]
