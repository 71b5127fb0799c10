section QRS6
variable {n : Nat → Nat} {c d : Nat → Nat → Nat} {v h l w : Nat} {M N : sd_Mem} {o t kd : Nat} {O T : Nat → Nat → Nat} {a tw jw : Nat}
theorem endN_in (q : Qr n c d v h l w M N) {D : Nat → Nat → Nat} {hh : Nat} (hD : DyF D hh o t l M N) {k : _} {x i : Nat} (hx : x ≤ 12) (hi : i < n 1) (A : Int64) : ∀ (f j : Nat), j ≤ n 0 → n 0 - j < f → fn_X11_end_53 k f N (nI o) (nI t) (nI x) (A + sI (ew c D x i) j) (nI i) (nI j) = k N (nI o) (nI t) (nI x) (A + sI (ew c D x i) (n 0)) (nI (i + 1)) := by
  have hn0 := (q.1 0 (by decide)).1
  have hn1 := (q.1 1 (by decide)).1
  have hl := q.2.2.2.1.1
  intro f
  induction f with
  | zero => intro j h1 h2; omega
  | succ f ih =>
    intro j h1 h2
    unfold fn_X11_end_53
    rw [if_neg g02, k0, (q.1 0 (by decide)).2.2.1]
    by_cases hj : j = n 0
    · rw [← hj, if_pos (nI_le (Nat.le_refl _) (by omega)), nI_1]
    · have hj2 : j < n 0 := by omega
      obtain ⟨⟨d1, d2⟩, -, d3⟩ := hD i j (by omega) (by omega)
      obtain ⟨y1, y2, y3, y4, -, -⟩ := chaN q hi hj2
      rw [if_neg (nI_ge hj2 (by omega)), d3, Option.bind_some, if_neg y1, if_neg y2, y3, y4, nI_1]
      have := ih (j + 1) (by omega) (by omega)
      rw [sI, ew, ← Int64.add_assoc] at this
      by_cases g : D i j = x
      · rw [if_pos (show nI (D i j) = nI x by rw [g])]
        rw [if_pos g] at this
        exact this
      · rw [if_neg (fun z => g ((nI_eq (by omega) (by omega)).mp z))]
        rw [if_neg g] at this
        exact this
theorem endN (q : Qr n c d v h l w M N) {D : Nat → Nat → Nat} {hh : Nat} (hD : DyF D hh o t l M N) {x : Nat} (hx : x ≤ 12) : fn_X11_end_39 sd_FU N (nI o) (nI t) (nI x) 0 0 = fn_X11_end_118 N (s2 (ew c D x) (n 1) (n 0)) := by
  have hn1 := (q.1 1 (by decide)).1
  have hn0 := (q.1 0 (by decide)).1
  have key : ∀ (f i : Nat), i ≤ n 1 → n 1 - i < f → fn_X11_end_39 f N (nI o) (nI t) (nI x) (sI (fun i => sI (ew c D x i) (n 0)) i) (nI i) = fn_X11_end_118 N (s2 (ew c D x) (n 1) (n 0)) := by
    intro f
    induction f with
    | zero => intro i h1 h2; omega
    | succ f ih =>
      intro i h1 h2
      unfold fn_X11_end_39
      rw [if_neg g12, k1, (q.1 1 (by decide)).2.2.1]
      by_cases hi : i = n 1
      · rw [hi, if_pos (nI_le (Nat.le_refl _) (by omega))]; rfl
      · rw [if_neg (nI_ge (by omega) (by omega))]
        have e := endN_in q hD (k := fn_X11_end_39 f) (x := x) (i := i) hx (by omega) (sI (fun i => sI (ew c D x i) (n 0)) i) sd_FU 0 (by omega) (by rw [FU_eq]; omega)
        rw [sI, Int64.add_zero] at e
        refine e.trans ?_
        exact ih (i + 1) (by omega) (by omega)
  exact key sd_FU 0 (by omega) (by rw [FU_eq]; omega)
/-! days lost -/
theorem lost_loop (q : Qr n c d v h l w M N) {D : Nat → Nat → Nat} {hh : Nat} (hD : DyF D hh o t l M N) : ∀ (f x : Nat), x ≤ l + 1 → l + 1 - x < f → fn_X7_lostDays_5 M hh (23 + 1 + 2 * o) (23 + 1 + 2 * t) f (tX (fun x => (nI x - 1).toInt64) D (wt c) (n 1) (n 0) x) (nI (x + 1)) = some (tX (fun x => (nI x - 1).toInt64) D (wt c) (n 1) (n 0) (l + 1)) := by
  have hl := q.2.2.2.1.1
  intro f
  induction f with
  | zero => intro x h1 h2; omega
  | succ f ih =>
    intro x h1 h2
    unfold fn_X7_lostDays_5
    rw [q.2.2.2.1.2.1, nI_1]
    by_cases hx : x = l + 1
    · subst hx; rw [if_pos (nI_lt (by omega) (by omega))]
    · rw [if_neg (nI_nlt (by omega) (by omega)), ending q hD (by omega), Option.bind_some, nI_1]
      have := ih (x + 1) (by omega) (by omega)
      rw [tX] at this
      exact this
/-- what a pair loses -/
def lp (c d : Nat → Nat → Nat) (v : Nat) (D : Nat → Nat → Nat) (k : Int32) (i j : Nat) : Int64 := (((nI (D i j) - 1).toInt64 * (nI (c 1 i)).toInt64) * (nI (c 0 j)).toInt64) * (if k = 0 then (1 : Int32).toInt64 else (nI v + nI (d 1 i) + nI (d 0 j)).toInt64)
theorem loses_in (q : Qr n c d v h l w M N) {D : Nat → Nat → Nat} {hh : Nat} (hD : DyF D hh o t l M N) {kk : _} {i : Nat} {k : Int32} (hi : i < n 1) (A : Int64) : ∀ (f j : Nat), j ≤ n 0 → n 0 - j < f → fn_X11_loses_37 kk f N (nI o) (nI t) k (A + sI (lp c d v D k i) j) (nI i) (nI j) = kk N (nI o) (nI t) k (A + sI (lp c d v D k i) (n 0)) (nI (i + 1)) := by
  have hn0 := (q.1 0 (by decide)).1
  have hn1 := (q.1 1 (by decide)).1
  intro f
  induction f with
  | zero => intro j h1 h2; omega
  | succ f ih =>
    intro j h1 h2
    unfold fn_X11_loses_37
    rw [if_neg g02, k0, (q.1 0 (by decide)).2.2.1]
    by_cases hj : j = n 0
    · rw [← hj, if_pos (nI_le (Nat.le_refl _) (by omega)), nI_1]
    · have hj2 : j < n 0 := by omega
      obtain ⟨-, -, d3⟩ := hD i j (by omega) (by omega)
      obtain ⟨y1, y2, y3, y4, y5, y6⟩ := chaN q hi hj2
      rw [if_neg (nI_ge hj2 (by omega)), d3, Option.bind_some, if_neg y1, if_neg y2, y3, y4, nI_1]
      have := ih (j + 1) (by omega) (by omega)
      rw [sI, lp, ← Int64.add_assoc] at this
      by_cases g : k = 0
      · rw [if_pos g]
        rw [if_pos g] at this
        exact this
      · rw [if_neg g, if_neg (show ¬ ((0 : Int32) < 0 ∨ 4 ≤ 0) by decide), if_neg y1, if_neg y2, y5, y6, q.2.1.2.2]
        rw [if_neg g] at this
        exact this
theorem loses (q : Qr n c d v h l w M N) {D : Nat → Nat → Nat} {hh : Nat} (hD : DyF D hh o t l M N) {k : Int32} : fn_X11_loses_23 sd_FU N (nI o) (nI t) k 0 0 = fn_X11_loses_136 N (s2 (lp c d v D k) (n 1) (n 0)) := by
  have hn1 := (q.1 1 (by decide)).1
  have hn0 := (q.1 0 (by decide)).1
  have key : ∀ (f i : Nat), i ≤ n 1 → n 1 - i < f → fn_X11_loses_23 f N (nI o) (nI t) k (sI (fun i => sI (lp c d v D k i) (n 0)) i) (nI i) = fn_X11_loses_136 N (s2 (lp c d v D k) (n 1) (n 0)) := by
    intro f
    induction f with
    | zero => intro i h1 h2; omega
    | succ f ih =>
      intro i h1 h2
      unfold fn_X11_loses_23
      rw [if_neg g12, k1, (q.1 1 (by decide)).2.2.1]
      by_cases hi : i = n 1
      · rw [hi, if_pos (nI_le (Nat.le_refl _) (by omega))]; rfl
      · rw [if_neg (nI_ge (by omega) (by omega))]
        have e := loses_in q hD (kk := fn_X11_loses_23 f) (k := k) (i := i) (by omega) (sI (fun i => sI (lp c d v D k i) (n 0)) i) sd_FU 0 (by omega) (by rw [FU_eq]; omega)
        rw [sI, Int64.add_zero] at e
        refine e.trans ?_
        exact ih (i + 1) (by omega) (by omega)
  exact key sd_FU 0 (by omega) (by rw [FU_eq]; omega)
theorem rg3 (g a b : Int64) : g * (a * b) = ((g * a) * b) * (1 : Int32).toInt64 := by
  rw [show (1 : Int32).toInt64 = 1 from rfl]; grind
theorem rg4 (g a b x : Int64) : (a * b) * x * g = ((g * a) * b) * x := by grind
theorem lostDays_eq (q : Qr n c d v h l w M N) {D : Nat → Nat → Nat} {hh : Nat} (hD : DyF D hh o t l M N) : fn_X7_lostDays M hh (23 + 1 + 2 * o) (23 + 1 + 2 * t) = some (s2 (lp c d v D 0) (n 1) (n 0)) := by
  have hn1 := (q.1 1 (by decide)).1
  have hn0 := (q.1 0 (by decide)).1
  have hl := q.2.2.2.1.1
  have e := lost_loop q hD sd_FU 0 (by omega) (by rw [FU_eq]; omega)
  refine Eq.trans e (congrArg some ?_)
  rw [tX_eq (fun i hi j hj => (hD i j (by omega) (by omega)).1.1)]
  refine s2_congr fun i hi j hj => ?_
  rw [if_pos (hD i j (by omega) (by omega)).1.2, lp, if_pos rfl, wt]
  exact rg3 _ _ _
theorem goods_in (q : Qr n c d v h l w M N) {D : Nat → Nat → Nat} {hh : Nat} (hD : DyF D hh o t l M N) {kk : _} {i : Nat} (hi : i < n 1) (A : Int64) : ∀ (f j : Nat), j ≤ n 0 → n 0 - j < f → fn_X7_lostGoods_21 M hh (23 + 1 + 2 * o) (23 + 1 + 2 * t) kk f (A + sI (lp c d v D 1 i) j) (nI i) (nI j) = kk (A + sI (lp c d v D 1 i) (n 0)) (nI (i + 1)) := by
  have hn0 := (q.1 0 (by decide)).1
  have hn1 := (q.1 1 (by decide)).1
  intro f
  induction f with
  | zero => intro j h1 h2; omega
  | succ f ih =>
    intro j h1 h2
    unfold fn_X7_lostGoods_21
    rw [srt0Q q, Option.bind_some]
    by_cases hj : j = n 0
    · rw [← hj, if_pos (nI_le (Nat.le_refl _) (by omega)), nI_1]
    · have hj2 : j < n 0 := by omega
      obtain ⟨-, d3, -⟩ := hD i j (by omega) (by omega)
      have e1 : fn_X5_cost M 40 1 (nI i) = some (nI (d 1 i)) := cosQ q (z := 1) (by decide) hi
      have e0 : fn_X5_cost M 40 0 (nI j) = some (nI (d 0 j)) := cosQ q (z := 0) (by decide) hj2
      rw [if_neg (nI_ge hj2 (by omega)), e1, e0, Option.bind_some, Option.bind_some, pwM q hi hj2, Option.bind_some, d3, Option.bind_some, q.2.1.2.1, nI_1]
      have := ih (j + 1) (by omega) (by omega)
      rw [sI, lp, ← Int64.add_assoc, if_neg (by decide)] at this
      rw [wt, rg4]
      exact this
theorem goods (q : Qr n c d v h l w M N) {D : Nat → Nat → Nat} {hh : Nat} (hD : DyF D hh o t l M N) : fn_X7_lostGoods M hh (23 + 1 + 2 * o) (23 + 1 + 2 * t) = some (s2 (lp c d v D 1) (n 1) (n 0)) := by
  have hn1 := (q.1 1 (by decide)).1
  have hn0 := (q.1 0 (by decide)).1
  have key : ∀ (f i : Nat), i ≤ n 1 → n 1 - i < f → fn_X7_lostGoods_5 M hh (23 + 1 + 2 * o) (23 + 1 + 2 * t) f (sI (fun i => sI (lp c d v D 1 i) (n 0)) i) (nI i) = some (s2 (lp c d v D 1) (n 1) (n 0)) := by
    intro f
    induction f with
    | zero => intro i h1 h2; omega
    | succ f ih =>
      intro i h1 h2
      unfold fn_X7_lostGoods_5
      rw [srt1Q q, Option.bind_some]
      by_cases hi : i = n 1
      · rw [hi, if_pos (nI_le (Nat.le_refl _) (by omega))]; rfl
      · rw [if_neg (nI_ge (by omega) (by omega))]
        have e := goods_in q hD (kk := fn_X7_lostGoods_5 M hh (23 + 1 + 2 * o) (23 + 1 + 2 * t) f) (i := i) (by omega) (sI (fun i => sI (lp c d v D 1 i) (n 0)) i) sd_FU 0 (by omega) (by rw [FU_eq]; omega)
        rw [sI, Int64.add_zero] at e
        refine e.trans ?_
        exact ih (i + 1) (by omega) (by omega)
  exact key sd_FU 0 (by omega) (by rw [FU_eq]; omega)
end QRS6
theorem st_22 : sd_St22 Rel := by
  intro M N hR x1 x2 x3
  obtain ⟨n, c, d, v, h, l, w, q⟩ := hR 4
  obtain ⟨a, tw, jw, lw⟩ := hR 5
  have hl := q.2.2.2.1.1
  rcases cs (x := x3) (a := 1) (b := nI (l + 1)) 1 (l + 1) (by omega) (by omega) rfl rfl with ⟨f1, f2⟩ | ⟨⟨f1, f2⟩, x, hx1, hx2, rfl⟩
  · exact ⟨(-1, M), (-1, N), by simp only [fn_X10_end, fn_X10_end_0, lastM q, Option.bind_some, nI_1, f1, if_true], by simp only [fn_X11_end, fn_X11_end_0, lastN q, Option.bind_some, nI_1, f2, if_true], rfl, hR⟩
  rcases ref hR x1 x2 1 with ⟨r, M', N', hr0, hr1, g1, g2, hR'⟩ | ⟨g1, g2, o, t, kd, O, T, rfl, rfl, p, -⟩
  · refine ⟨(r, M'), (r, N'), ?_, ?_, rfl, hR'⟩
    · simp only [fn_X10_end, fn_X10_end_0, lastM q, nI_1, f1, g1, Option.bind_some, if_neg I1ne, if_neg hr0]
    · simp only [fn_X11_end, fn_X11_end_0, lastN q, nI_1, f2, g2, Option.bind_some, if_neg I1ne, if_neg hr1]
  have c1 := clm (show o < 2 ^ 31 by have := p.1; omega)
  have c2 := clm (show t < 2 ^ 31 by have := p.2.1; omega)
  have b1 := bd2 p.1 (show 8 < 2 ^ 31 by decide)
  have b2 := bd2 p.2.1 (show 8 < 2 ^ 31 by decide)
  obtain ⟨D, hD⟩ := settleF q p (hh := 61) lw.1.2.1 lw.1.2.2 lw.1.1
  obtain ⟨b, hb0, hb, s1, s2'⟩ := pairs_eq q
  obtain ⟨u, u2, k1, k2⟩ := frac (M := M) (N := N) (s2 (ew c D x) (n 1) (n 0)) hb0 (by omega) 1
  refine ⟨(1, sd_setL (sd_setL M 96 0 u) 96 1 u2), (1, sd_setL (sd_setL N 100 3 u) 100 4 u2), ?_, ?_, rfl, hR.frac u u2⟩
  · simp only [fn_X10_end, fn_X10_end_0, lastM q, nI_1, f1, g1, Option.bind_some, if_neg I1ne, if_true, c1, c2, if_neg b1, if_neg b2, ending q hD (show x ≤ 12 by omega), s1, k1]
  · simp only [fn_X11_end, fn_X11_end_0, lastN q, nI_1, f2, g2, Option.bind_some, if_neg I1ne, if_pos z0, endN q hD (show x ≤ 12 by omega), fn_X11_end_118, s2', k2]
theorem st_27 : sd_St27 Rel := by
  intro M N hR x1 x2
  obtain ⟨n, c, d, v, h, l, w, q⟩ := hR 4
  obtain ⟨a, tw, jw, lw⟩ := hR 5
  rcases ref hR x1 x2 1 with ⟨r, M', N', hr0, hr1, g1, g2, hR'⟩ | ⟨g1, g2, o, t, kd, O, T, rfl, rfl, p, -⟩
  · refine ⟨(r, M'), (r, N'), ?_, ?_, rfl, hR'⟩
    · simp only [fn_X10_longer, fn_X10_longer_0, g1, Option.bind_some, if_neg hr0]
    · simp only [fn_X11_longer, fn_X11_longer_0, fn_X11_loses, fn_X11_loses_0, g2, Option.bind_some, if_neg hr1]
  have c1 := clm (show o < 2 ^ 31 by have := p.1; omega)
  have c2 := clm (show t < 2 ^ 31 by have := p.2.1; omega)
  have b1 := bd2 p.1 (show 8 < 2 ^ 31 by decide)
  have b2 := bd2 p.2.1 (show 8 < 2 ^ 31 by decide)
  obtain ⟨D, hD⟩ := settleF q p (hh := 61) lw.1.2.1 lw.1.2.2 lw.1.1
  obtain ⟨b, hb0, hb, s1, s2'⟩ := pairs_eq q
  obtain ⟨u, u2, k1, k2⟩ := frac (M := M) (N := N) (s2 (lp c d v D 0) (n 1) (n 0)) hb0 (by omega) 1
  refine ⟨(1, sd_setL (sd_setL M 96 0 u) 96 1 u2), (1, sd_setL (sd_setL N 100 3 u) 100 4 u2), ?_, ?_, rfl, hR.frac u u2⟩
  · simp only [fn_X10_longer, fn_X10_longer_0, g1, Option.bind_some, if_true, c1, c2, if_neg b1, if_neg b2, lostDays_eq q hD, s1, k1]
  · simp only [fn_X11_longer, fn_X11_longer_0, fn_X11_loses, fn_X11_loses_0, g2, Option.bind_some, if_pos z0, loses q hD, fn_X11_loses_136, s2', k2]
theorem st_28 : sd_St28 Rel := by
  intro M N hR x1 x2
  obtain ⟨n, c, d, v, h, l, w, q⟩ := hR 4
  obtain ⟨a, tw, jw, lw⟩ := hR 5
  rcases ref hR x1 x2 1 with ⟨r, M', N', hr0, hr1, g1, g2, hR'⟩ | ⟨g1, g2, o, t, kd, O, T, rfl, rfl, p, -⟩
  · refine ⟨(r, M'), (r, N'), ?_, ?_, rfl, hR'⟩
    · simp only [fn_X10_lost, fn_X10_lost_0, g1, Option.bind_some, if_neg hr0]
    · simp only [fn_X11_lost, fn_X11_lost_0, fn_X11_loses, fn_X11_loses_0, g2, Option.bind_some, if_neg hr1]
  have c1 := clm (show o < 2 ^ 31 by have := p.1; omega)
  have c2 := clm (show t < 2 ^ 31 by have := p.2.1; omega)
  have b1 := bd2 p.1 (show 8 < 2 ^ 31 by decide)
  have b2 := bd2 p.2.1 (show 8 < 2 ^ 31 by decide)
  obtain ⟨D, hD⟩ := settleF q p (hh := 61) lw.1.2.1 lw.1.2.2 lw.1.1
  obtain ⟨b, hb0, hb, s1, s2'⟩ := pairs_eq q
  obtain ⟨u, u2, k1, k2⟩ := frac (M := M) (N := N) (s2 (lp c d v D 1) (n 1) (n 0)) hb0 (by omega) 1
  refine ⟨(1, sd_setL (sd_setL M 96 0 u) 96 1 u2), (1, sd_setL (sd_setL N 100 3 u) 100 4 u2), ?_, ?_, rfl, hR.frac u u2⟩
  · simp only [fn_X10_lost, fn_X10_lost_0, g1, Option.bind_some, if_true, c1, c2, if_neg b1, if_neg b2, goods q hD, s1, k1]
  · simp only [fn_X11_lost, fn_X11_lost_0, fn_X11_loses, fn_X11_loses_0, g2, Option.bind_some, if_pos z0, loses q hD, fn_X11_loses_136, s2', k2]
