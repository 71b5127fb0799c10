theorem setLL {N : sd_Mem} {a k : Nat} {x y : Int64} : sd_setL (sd_setL N a k x) a k y = sd_setL N a k y := by
  have h : (sd_setL (sd_setL N a k x) a k y).2 = (sd_setL N a k y).2 := by
    funext b j
    rw [gL, gL, gL]
    by_cases g : b = a ∧ j = k
    · rw [if_pos g, if_pos g]
    · rw [if_neg g, if_neg g, if_neg g]
  exact Prod.ext rfl h
theorem mixN {N : sd_Mem} {L : Int64} {x : Int32} : fn_X11_mix (sd_setL N 100 35 L) x = some (sd_setL N 100 35 (31 * L + x.toInt64)) := by
  unfold fn_X11_mix fn_X11_mix_0
  rw [setLL, gL, if_pos ⟨rfl, rfl⟩]
theorem Rel.mx {M N : sd_Mem} (hR : Rel M N) (L : Int64) : Rel M (sd_setL N 100 35 L) := hR.sc keepM.rf (keepN.L (by decide) keepN.rf)
def fm (v : Nat → Int32) : Nat → Int64 → Int64
  | 0, L => L
  | i + 1, L => 31 * fm v i L + (v i).toInt64
theorem fm_congr {f g : Nat → Int32} {L : Int64} : ∀ {n : Nat}, (∀ i, i < n → f i = g i) → fm f n L = fm g n L
  | 0, _ => rfl
  | n + 1, h => by rw [fm, fm, fm_congr (n := n) (fun i hi => h i (by omega)), h n (by omega)]
section DG
variable {M N : sd_Mem}
theorem dg1 (hR : Rel M N) : ∀ (f i : Nat) (L : Int64), i ≤ 5 → 5 - i < f → ∃ L' : Int64, fn_X10_digest_6 M f L (nI i) = fn_X10_digest_32 M sd_FU L' 0 ∧ fn_X11_digest_9 f (sd_setL N 100 35 L) (nI i) = (fn_X11_mixQuarrel (sd_setL N 100 35 L')).bind fun q30 => fn_X11_digest_35 sd_FU q30 0 := by
  intro f
  induction f with
  | zero => intro i L h1 h2; omega
  | succ f ih =>
    intro i L h1 h2
    unfold fn_X10_digest_6 fn_X11_digest_9
    by_cases hi : i = 5
    · subst hi
      exact ⟨L, by rw [if_pos (by decide)], by rw [if_pos (by decide)]⟩
    · have h4 : ¬ (4 : Int32) < nI i := nI_nlt (a := 4) (by omega) (by decide)
      obtain ⟨v, e1, e2⟩ := counts_eq (hR.mx L) (show i ≤ 4 by omega)
      rw [if_neg h4, if_neg h4, e1, e2, Option.bind_some, Option.bind_some, mixN, Option.bind_some, nI_1]
      exact ih (i + 1) _ (by omega) (by omega)
theorem dg2 (hR : Rel M N) : ∀ (f i : Nat) (L : Int64), i ≤ 9 → 9 - i < f → ∃ L' : Int64, fn_X10_digest_32 M f L (nI i) = fn_X10_digest_57 M L' ∧ fn_X11_mixQuarrel_2 f (sd_setL N 100 35 L) (nI i) = fn_X11_mixQuarrel_25 sd_FU (sd_setL N 100 35 L') 0 := by
  intro f
  induction f with
  | zero => intro i L h1 h2; omega
  | succ f ih =>
    intro i L h1 h2
    unfold fn_X10_digest_32 fn_X11_mixQuarrel_2
    by_cases hi : i = 9
    · subst hi
      exact ⟨L, by rw [if_pos (by decide)], by rw [if_pos (by decide)]⟩
    · have h4 : ¬ (8 : Int32) < nI i := nI_nlt (a := 8) (by omega) (by decide)
      obtain ⟨v, e1, e2⟩ := told_eq (hR.mx L) (show i ≤ 8 by omega)
      rw [if_neg h4, if_neg h4, e1, e2, Option.bind_some, Option.bind_some, mixN, Option.bind_some, nI_1]
      exact ih (i + 1) _ (by omega) (by omega)
theorem dg3_in {n : Nat → Nat} {c d : Nat → Nat → Nat} {v h l w : Nat} (q : Qr n c d v h l w M N) {z : Nat} (hz : z < 2) {k k' : _} : ∀ (f s : Nat) (L : Int64), s ≤ n z → n z - s < f → ∃ L' : Int64, fn_X5_mixInto_14 M 40 k f L (nI z) (nI s) = k L' (nI (z + 1)) ∧ fn_X11_mixQuarrel_32 k' f (sd_setL N 100 35 L) (nI z) (nI s) = k' (sd_setL N 100 35 L') (nI (z + 1)) := by
  have hn := (q.1 z hz).1
  intro f
  induction f with
  | zero => intro s L h1 h2; omega
  | succ f ih =>
    intro s L h1 h2
    unfold fn_X5_mixInto_14 fn_X11_mixQuarrel_32
    rw [srtS q hz, Option.bind_some, clm (show z < 2 ^ 31 by omega), if_neg (bd2 hz (by decide)), show (sd_setL N 100 35 L).1 107 z = nI (n z) from (q.1 z hz).2.2.1, nI_1]
    by_cases hs : s = n z
    · rw [hs, if_pos (nI_le (Nat.le_refl _) (by omega)), if_pos (nI_le (Nat.le_refl _) (by omega))]
      exact ⟨L, rfl, rfl⟩
    · have hs2 : s < n z := by omega
      obtain ⟨-, -, -, g4, -, g6⟩ := (q.1 z hz).2.2.2.2 s hs2
      have x3 : (3 : Int32) * nI z + nI s = nI (3 * z + s) := ix rfl
      have c3 := clm (show 3 * z + s < 2 ^ 31 by omega)
      have b3 := bd2 (show 3 * z + s < 6 by omega) (show 6 < 2 ^ 31 by decide)
      rw [if_neg (nI_ge hs2 (by omega)), if_neg (nI_ge hs2 (by omega)), chaQ q hz hs2, cosQ q hz hs2]
      simp only [Option.bind_some, x3, c3, if_neg b3, nI_1, mixN, gL1, g4, g6]
      exact ih (s + 1) _ (by omega) (by omega)
theorem dg3 {n : Nat → Nat} {c d : Nat → Nat → Nat} {v h l w : Nat} (q : Qr n c d v h l w M N) : ∀ (f z : Nat) (L : Int64), z ≤ 2 → 2 - z < f → ∃ L' : Int64, fn_X5_mixInto_5 M 40 f L (nI z) = some L' ∧ fn_X11_mixQuarrel_25 f (sd_setL N 100 35 L) (nI z) = fn_X11_mixQuarrel_84 sd_FU (sd_setL N 100 35 L') 0 := by
  intro f
  induction f with
  | zero => intro z L h1 h2; omega
  | succ f ih =>
    intro z L h1 h2
    unfold fn_X5_mixInto_5 fn_X11_mixQuarrel_25
    by_cases hz : z = 2
    · subst hz
      exact ⟨L, by rw [if_pos (by decide)], by rw [if_pos (by decide)]⟩
    · have hn := (q.1 z (by omega)).1
      rw [if_neg (show ¬ (1 : Int32) < nI z from nI_nlt (a := 1) (by omega) (by decide)), if_neg (show ¬ (2 : Int32) ≤ nI z from nI_ge (b := 2) (by omega) (by decide))]
      obtain ⟨L1, e1, e2⟩ := dg3_in q (z := z) (by omega) (k := fn_X5_mixInto_5 M 40 f) (k' := fn_X11_mixQuarrel_25 f) sd_FU 0 L (by omega) (by rw [FU_eq]; omega)
      obtain ⟨L2, e3, e4⟩ := ih (z + 1) L1 (by omega) (by omega)
      exact ⟨L2, e1.trans e3, e2.trans e4⟩
theorem dg4_M {h : Nat} {L : Int64} : ∀ (f i : Nat), i ≤ 30 → 30 - i < f → fn_X9_mixInto_35 M h f (fm (M.1 (h + 1)) i L) 30 (nI i) = some (fm (M.1 (h + 1)) 30 L) := by
  intro f
  induction f with
  | zero => intro i h1 h2; omega
  | succ f ih =>
    intro i h1 h2
    unfold fn_X9_mixInto_35
    by_cases hi : i = 30
    · subst hi; rw [if_pos (by decide)]
    · rw [if_neg (show ¬ (30 : Int32) ≤ nI i from nI_ge (b := 30) (by omega) (by decide)), clm (show i < 2 ^ 31 by omega), if_neg (bd2 (show i < 30 by omega) (by decide)), nI_1]
      exact ih (i + 1) (by omega) (by omega)
theorem dg4_N {k' : _} {w kk : Nat} (hw : w < 8) (hk : kk ≤ 4) (e : N.1 115 w = nI kk) {L : Int64} : ∀ (f i : Nat), i ≤ 30 → 30 - i < f → fn_X11_mixQuarrel_115 k' f (sd_setL N 100 35 (fm (fun i => N.1 116 (30 * w + i)) i L)) (nI w) (nI i) = k' (sd_setL N 100 35 (fm (fun i => N.1 116 (30 * w + i)) 30 L)) (nI (w + 1)) := by
  intro f
  induction f with
  | zero => intro i h1 h2; omega
  | succ f ih =>
    intro i h1 h2
    unfold fn_X11_mixQuarrel_115
    by_cases hi : i = 30
    · subst hi; rw [if_pos (by decide), nI_1]
    · have x3 : (30 : Int32) * nI w + nI i = nI (30 * w + i) := ix rfl
      rw [if_neg (show ¬ (30 : Int32) ≤ nI i from nI_ge (b := 30) (by omega) (by decide)), clm (show w < 2 ^ 31 by omega), if_neg (bd2 hw (by decide)), gL1, e, if_neg (nI_pos (by omega)), x3, clm (show 30 * w + i < 2 ^ 31 by omega), if_neg (bd2 (show 30 * w + i < 240 by omega) (by decide)), mixN, Option.bind_some, nI_1]
      have step := ih (i + 1) (by omega) (by omega)
      rw [fm] at step
      exact step
theorem dg4 (hR : Rel M N) : ∀ (f w : Nat) (L : Int64), w ≤ 8 → 8 - w < f → ∃ L' : Int64, fn_X10_digest_78 M f L 8 (nI w) = fn_X10_digest_104 M L' ∧ fn_X11_mixQuarrel_84 f (sd_setL N 100 35 L) (nI w) = fn_X11_mixQuarrel_159 sd_FU (sd_setL N 100 35 L') 0 := by
  intro f
  induction f with
  | zero => intro w L h1 h2; omega
  | succ f ih =>
    intro w L h1 h2
    unfold fn_X10_digest_78 fn_X11_mixQuarrel_84
    by_cases hw : w = 8
    · subst hw
      exact ⟨L, by rw [if_pos (by decide)], by rw [if_pos (by decide)]⟩
    · have hw8 : w < 8 := by omega
      have h8 : ¬ (8 : Int32) ≤ nI w := nI_ge (b := 8) hw8 (by decide)
      have cw := clm (show w < 2 ^ 31 by omega)
      have bw := bd2 hw8 (show 8 < 2 ^ 31 by decide)
      obtain ⟨hs, hc⟩ := hR 3 w hw8
      rcases hs with ⟨s1, s2⟩ | ⟨kk, hk, s1, s2⟩
      · have eM : fn_X9_mixInto M (23 + 1 + 2 * w) L = some (31 * L + (-1 : Int32).toInt64) := by
          simp only [fn_X9_mixInto, fn_X9_mixInto_0, wmiss1 s1, Option.bind_some, if_neg I1ne, s1]
        simp only [if_neg h8, cw, if_neg bw, eM, Option.bind_some, nI_1, gL1, s2, if_neg n9, mixN]
        obtain ⟨L2, e3, e4⟩ := ih (w + 1) (31 * L + (-1 : Int32).toInt64) (by omega) (by omega)
        refine ⟨L2, e3, ?_⟩
        rw [show sd_FU = 999 + 1 from rfl, fn_X11_mixQuarrel_115, if_neg (by decide), cw, if_neg bw, gL1, s2, if_pos (by decide), nI_1]
        exact e4
      · have eM : fn_X9_mixInto M (23 + 1 + 2 * w) L = some (fm (M.1 (23 + 1 + 2 * w + 1)) 30 (31 * L + (nI kk).toInt64)) := by
          simp only [fn_X9_mixInto, fn_X9_mixInto_0, wmiss0 (show kk < 2 ^ 31 by omega) s1, Option.bind_some, if_true, s1]
          exact dg4_M sd_FU 0 (by decide) (by decide)
        have eN := dg4_N (k' := fn_X11_mixQuarrel_84 f) hw8 hk s2 (L := 31 * L + (nI kk).toInt64) sd_FU 0 (by decide) (by decide)
        rw [fm, fm_congr (g := M.1 (23 + 1 + 2 * w + 1)) (fun i hi => (hc i hi).1.symm)] at eN
        obtain ⟨L2, e3, e4⟩ := ih (w + 1) (fm (M.1 (23 + 1 + 2 * w + 1)) 30 (31 * L + (nI kk).toInt64)) (by omega) (by omega)
        simp only [if_neg h8, cw, if_neg bw, eM, Option.bind_some, nI_1, gL1, s2, if_pos (nI_pos' (show kk < 2 ^ 31 by omega)), mixN]
        exact ⟨L2, e3, eN.trans e4⟩
theorem dg5 {m lf t : Nat → Nat} (hm : Mn m lf t M N) : ∀ (f k : Nat) (L : Int64), k ≤ 6 → 6 - k < f → ∃ L' : Int64, fn_X8_mixInto_5 M f L (nI k) = some L' ∧ fn_X11_mixQuarrel_159 f (sd_setL N 100 35 L) (nI k) = some (sd_setL N 100 35 L') := by
  intro f
  induction f with
  | zero => intro k L h1 h2; omega
  | succ f ih =>
    intro k L h1 h2
    unfold fn_X8_mixInto_5 fn_X11_mixQuarrel_159
    by_cases hk : k = 6
    · subst hk
      exact ⟨L, by rw [if_pos (by decide)], by rw [if_pos (by decide)]⟩
    · have hk6 : k < 6 := by omega
      have h6 : ¬ (6 : Int32) ≤ nI k := nI_ge (b := 6) hk6 (by decide)
      obtain ⟨⟨-, m2, m3⟩, ⟨-, l2, l3⟩, ⟨-, t2, t3⟩⟩ := hm k hk6
      simp only [if_neg h6, clm (show k < 2 ^ 31 by omega), if_neg (bd2 hk6 (show 6 < 2 ^ 31 by decide)), mixN, Option.bind_some, gL1, m2, m3, l2, l3, t2, t3, nI_1]
      exact ih (k + 1) _ (by omega) (by omega)
theorem dg6_M {h s : Nat} (e : M.1 h 1 = nI s) (hs : s ≤ sd_ln (h + 1)) (hs2 : s ≤ 60) {L : Int64} : ∀ (f i : Nat), i ≤ s → s - i < f → fn_X1_mixInto_15 M h f (fm (M.1 (h + 1)) i L) (nI i) = some (fm (M.1 (h + 1)) s L) := by
  intro f
  induction f with
  | zero => intro i h1 h2; omega
  | succ f ih =>
    intro i h1 h2
    unfold fn_X1_mixInto_15
    rw [e]
    by_cases hi : i = s
    · subst hi; rw [if_pos (nI_le (Nat.le_refl _) (by omega))]
    · rw [if_neg (nI_ge (by omega) (by omega)), clm (show i < 2 ^ 31 by omega), if_neg (fun q => q.elim (nI_pos (by omega)) (fun z => by omega)), nI_1]
      exact ih (i + 1) (by omega) (by omega)
theorem dg6_N {k' : _} {r s : Nat} (hr : r < 6) (hs : s ≤ 40) (e : N.1 102 r = nI s) {L : Int64} : ∀ (f i : Nat), i ≤ s → s - i < f → fn_X11_digest_66 k' f (sd_setL N 100 35 (fm (fun i => N.1 103 (40 * r + i)) i L)) (nI r) (nI i) = k' (sd_setL N 100 35 (fm (fun i => N.1 103 (40 * r + i)) s L)) (nI (r + 1)) := by
  intro f
  induction f with
  | zero => intro i h1 h2; omega
  | succ f ih =>
    intro i h1 h2
    unfold fn_X11_digest_66
    rw [clm (show r < 2 ^ 31 by omega), if_neg (bd2 hr (by decide)), gL1, e]
    by_cases hi : i = s
    · subst hi; rw [if_pos (nI_le (Nat.le_refl _) (by omega)), nI_1]
    · have x3 : (40 : Int32) * nI r + nI i = nI (40 * r + i) := ix rfl
      have step := ih (i + 1) (by omega) (by omega)
      rw [fm] at step
      rw [if_neg (nI_ge (by omega) (by omega))]
      simp only [fn_X11_rowAt, fn_X11_rowAt_0, x3, clm (show 40 * r + i < 2 ^ 31 by omega), if_neg (bd2 (show 40 * r + i < 240 by omega) (show 240 < 2 ^ 31 by decide)), mixN, gL1, Option.bind_some, nI_1]
      exact step
theorem dg6 (hR : Rel M N) : ∀ (f r : Nat) (L : Int64), r ≤ 6 → 6 - r < f → ∃ L' : Int64, fn_X10_digest_125 M f L 6 (nI r) = fn_X10_digest_151 M L' ∧ fn_X11_digest_35 f (sd_setL N 100 35 L) (nI r) = fn_X11_digest_100 sd_FU (sd_setL N 100 35 L') 0 := by
  intro f
  induction f with
  | zero => intro r L h1 h2; omega
  | succ f ih =>
    intro r L h1 h2
    unfold fn_X10_digest_125 fn_X11_digest_35
    by_cases hr : r = 6
    · subst hr
      exact ⟨L, by rw [if_pos (by decide)], by rw [if_pos (by decide)]⟩
    · have hr8 : r < 6 := by omega
      have h8 : ¬ (6 : Int32) ≤ nI r := nI_ge (b := 6) hr8 (by decide)
      have cr := clm (show r < 2 ^ 31 by omega)
      have br := bd2 hr8 (show 6 < 2 ^ 31 by decide)
      obtain ⟨hs, hc⟩ := hR 1 r hr8
      rcases hs with ⟨s1, s2⟩ | ⟨s, hs, s1, s2⟩
      · have eM : fn_X1_mixInto M (1 + 1 + 2 * r) L = some (31 * L + (-1 : Int32).toInt64) := by
          unfold fn_X1_mixInto fn_X1_mixInto_0
          rw [show sd_FU = 999 + 1 from rfl, fn_X1_mixInto_15, s1, if_pos (by decide)]
        simp only [if_neg h8, cr, if_neg br, eM, Option.bind_some, nI_1, gL1, s2, if_neg n9, mixN]
        obtain ⟨L2, e3, e4⟩ := ih (r + 1) (31 * L + (-1 : Int32).toInt64) (by omega) (by omega)
        refine ⟨L2, e3, ?_⟩
        rw [show sd_FU = 999 + 1 from rfl, fn_X11_digest_66, cr, if_neg br, gL1, s2, if_pos (by decide), nI_1]
        exact e4
      · have eM : fn_X1_mixInto M (1 + 1 + 2 * r) L = some (fm (M.1 (1 + 1 + 2 * r + 1)) s (31 * L + (nI s).toInt64)) := by
          unfold fn_X1_mixInto fn_X1_mixInto_0
          rw [s1]
          exact dg6_M s1 (by rw [ln_row r hr8]; exact hs) (by omega) sd_FU 0 (by omega) (by rw [FU_eq]; omega)
        have eN := dg6_N (k' := fn_X11_digest_35 f) hr8 hs s2 (L := 31 * L + (nI s).toInt64) sd_FU 0 (by omega) (by rw [FU_eq]; omega)
        rw [fm, fm_congr (g := M.1 (1 + 1 + 2 * r + 1)) (fun i hi => (hc i (by omega)).symm)] at eN
        obtain ⟨L2, e3, e4⟩ := ih (r + 1) (fm (M.1 (1 + 1 + 2 * r + 1)) s (31 * L + (nI s).toInt64)) (by omega) (by omega)
        simp only [if_neg h8, cr, if_neg br, eM, Option.bind_some, nI_1, gL1, s2, if_pos (nI_pos' (show s < 2 ^ 31 by omega)), mixN]
        exact ⟨L2, e3, eN.trans e4⟩
theorem dg7_N {k' : _} {r s : Nat} (hr : r < 4) (hs : s ≤ 60) (e : N.1 105 r = nI s) {L : Int64} : ∀ (f i : Nat), i ≤ s → s - i < f → fn_X11_digest_130 k' f (sd_setL N 100 35 (fm (fun i => N.1 106 (60 * r + i)) i L)) (nI r) (nI i) = k' (sd_setL N 100 35 (fm (fun i => N.1 106 (60 * r + i)) s L)) (nI (r + 1)) := by
  intro f
  induction f with
  | zero => intro i h1 h2; omega
  | succ f ih =>
    intro i h1 h2
    unfold fn_X11_digest_130
    rw [clm (show r < 2 ^ 31 by omega), if_neg (bd2 hr (by decide)), gL1, e]
    by_cases hi : i = s
    · subst hi; rw [if_pos (nI_le (Nat.le_refl _) (by omega)), nI_1]
    · have x3 : (60 : Int32) * nI r + nI i = nI (60 * r + i) := ix rfl
      have step := ih (i + 1) (by omega) (by omega)
      rw [fm] at step
      rw [if_neg (nI_ge (by omega) (by omega))]
      simp only [fn_X11_rowAt, fn_X11_rowAt_0, x3, clm (show 60 * r + i < 2 ^ 31 by omega), if_neg (bd2 (show 60 * r + i < 240 by omega) (show 240 < 2 ^ 31 by decide)), mixN, gL1, Option.bind_some, nI_1]
      exact step
theorem dg7 (hR : Rel M N) : ∀ (f r : Nat) (L : Int64), r ≤ 4 → 4 - r < f → ∃ L' : Int64, fn_X10_digest_163 M f L 4 (nI r) = some L' ∧ fn_X11_digest_100 f (sd_setL N 100 35 L) (nI r) = some (L', sd_setL N 100 35 L') := by
  intro f
  induction f with
  | zero => intro r L h1 h2; omega
  | succ f ih =>
    intro r L h1 h2
    unfold fn_X10_digest_163 fn_X11_digest_100
    by_cases hr : r = 4
    · subst hr
      exact ⟨L, by rw [if_pos (by decide)], by rw [if_pos (by decide)]; simp [gL]⟩
    · have hr8 : r < 4 := by omega
      have h8 : ¬ (4 : Int32) ≤ nI r := nI_ge (b := 4) hr8 (by decide)
      have cr := clm (show r < 2 ^ 31 by omega)
      have br := bd2 hr8 (show 4 < 2 ^ 31 by decide)
      obtain ⟨hs, hc⟩ := hR 2 r hr8
      rcases hs with ⟨s1, s2⟩ | ⟨s, hs, s1, s2⟩
      · have eM : fn_X1_mixInto M (14 + 1 + 2 * r) L = some (31 * L + (-1 : Int32).toInt64) := by
          unfold fn_X1_mixInto fn_X1_mixInto_0
          rw [show sd_FU = 999 + 1 from rfl, fn_X1_mixInto_15, s1, if_pos (by decide)]
        simp only [if_neg h8, cr, if_neg br, eM, Option.bind_some, nI_1, gL1, s2, if_neg n9, mixN]
        obtain ⟨L2, e3, e4⟩ := ih (r + 1) (31 * L + (-1 : Int32).toInt64) (by omega) (by omega)
        refine ⟨L2, e3, ?_⟩
        rw [show sd_FU = 999 + 1 from rfl, fn_X11_digest_130, cr, if_neg br, gL1, s2, if_pos (by decide), nI_1]
        exact e4
      · have eM : fn_X1_mixInto M (14 + 1 + 2 * r) L = some (fm (M.1 (14 + 1 + 2 * r + 1)) s (31 * L + (nI s).toInt64)) := by
          unfold fn_X1_mixInto fn_X1_mixInto_0
          rw [s1]
          exact dg6_M s1 (by rw [ln_txt r hr8]; exact hs) (by omega) sd_FU 0 (by omega) (by rw [FU_eq]; omega)
        have eN := dg7_N (k' := fn_X11_digest_100 f) hr8 hs s2 (L := 31 * L + (nI s).toInt64) sd_FU 0 (by omega) (by rw [FU_eq]; omega)
        rw [fm, fm_congr (g := M.1 (14 + 1 + 2 * r + 1)) (fun i hi => (hc i (by omega)).symm)] at eN
        obtain ⟨L2, e3, e4⟩ := ih (r + 1) (fm (M.1 (14 + 1 + 2 * r + 1)) s (31 * L + (nI s).toInt64)) (by omega) (by omega)
        simp only [if_neg h8, cr, if_neg br, eM, Option.bind_some, nI_1, gL1, s2, if_pos (nI_pos' (show s < 2 ^ 31 by omega)), mixN]
        exact ⟨L2, e3, eN.trans e4⟩
end DG
theorem st_44 : sd_St44 Rel := by
  intro M N hR
  obtain ⟨n, c, d, v, h, l, w, q⟩ := hR 4
  obtain ⟨m, lf, t, hm⟩ := hR 6
  obtain ⟨L1, a1, b1⟩ := dg1 hR sd_FU 0 17 (by decide) (by decide)
  obtain ⟨L2, a2, b2⟩ := dg2 hR sd_FU 0 L1 (by decide) (by decide)
  obtain ⟨L3, a3, b3⟩ := dg3 q sd_FU 0 L2 (by decide) (by decide)
  obtain ⟨L4, a4, b4⟩ := dg4 hR sd_FU 0 L3 (by decide) (by decide)
  obtain ⟨L5, a5, b5⟩ := dg5 hm sd_FU 0 L4 (by decide) (by decide)
  obtain ⟨L6, a6, b6⟩ := dg6 hR sd_FU 0 L5 (by decide) (by decide)
  obtain ⟨L7, a7, b7⟩ := dg7 hR sd_FU 0 L6 (by decide) (by decide)
  refine ⟨L7, (L7, sd_setL N 100 35 L7), ?_, ?_, rfl, hR.mx L7⟩
  · refine Eq.trans a1 (Eq.trans a2 ?_)
    have a3 : fn_X5_mixInto M 40 L2 = some L3 := a3
    have a5 : fn_X8_mixInto M L4 = some L5 := a5
    unfold fn_X10_digest_57
    rw [a3, Option.bind_some]
    refine Eq.trans a4 ?_
    unfold fn_X10_digest_104
    rw [a5, Option.bind_some]
    exact a6.trans a7
  · refine Eq.trans b1 ?_
    have e : fn_X11_mixQuarrel (sd_setL N 100 35 L1) = some (sd_setL N 100 35 L5) := Eq.trans b2 (Eq.trans b3 (Eq.trans b4 b5))
    rw [e, Option.bind_some]
    exact b6.trans b7
