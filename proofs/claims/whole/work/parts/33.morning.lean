def Sm (x : Int64) : Prop := -100000 ≤ x.toInt ∧ x.toInt ≤ 100000
theorem sm_sub {x y : Int64} (hx : Sm x) (hy : Sm y) : (x - y).toInt = x.toInt - y.toInt := by
  unfold Sm at hx hy
  exact Jvm.Kit.i64_sub (by omega) (by omega)
theorem pv_small {d : Nat → Nat → Nat} {v h z s D y : Nat} (hv : v ≤ 99) (hh : h ≤ 40) (hd : d z s ≤ 99) (hD1 : 1 ≤ D) (hD : D ≤ h + 1) (hD2 : D ≤ 11) (hy : y ≤ 12) : Sm (pv d v h z s (nI D) (nI y)) := by
  have e1 : nI h - nI D + 1 = nI (h + 1 - D) := by
    rw [Int32.sub_eq_add_neg, Int32.add_assoc, Int32.add_comm (-nI D), ← Int32.add_assoc, ← Int32.sub_eq_add_neg, nI_1, sub1 hD]
  have e2 : nI D - 1 = nI (D - 1) := sub1 (b := 1) hD1
  have e3 : (nI v - nI y).toInt64 = lN v - lN y := by
    rw [← Int64.toInt_inj, Int32.toInt_toInt64, pk_sub_toInt (by omega) (by omega), ← nI_l (show v < 2 ^ 31 by omega), ← nI_l (show y < 2 ^ 31 by omega), lg_i2l_sub, nI_toInt (by omega), nI_toInt (by omega)]
  have m1 := Nat.mul_le_mul hy (show h + 1 - D ≤ 40 by omega)
  have m2 := Nat.mul_le_mul hv (show h + 1 - D ≤ 40 by omega)
  have m3 := Nat.mul_le_mul hd (show D - 1 ≤ 10 by omega)
  have key : ∀ A B : Nat, A ≤ 10000 → B ≤ 10000 → Sm (lN A - lN B) := by
    intro A B hA hB
    have a1 : (lN A).toInt = (A : Int) := pk_lT (by omega)
    have b1 : (lN B).toInt = (B : Int) := pk_lT (by omega)
    unfold Sm
    rw [sm_sub ⟨by rw [a1]; omega, by rw [a1]; omega⟩ ⟨by rw [b1]; omega, by rw [b1]; omega⟩, a1, b1]
    omega
  unfold pv
  rw [e1, e2, e3, nI_l (show h + 1 - D < 2 ^ 31 by omega), nI_l (show d z s < 2 ^ 31 by omega), nI_l (show D - 1 < 2 ^ 31 by omega), nI_l (show y < 2 ^ 31 by omega)]
  by_cases g : z = 0
  · rw [if_pos g, lN_mul, lN_mul]
    exact key _ _ (by omega) (by omega)
  · rw [if_neg g]
    have : (lN v - lN y) * lN (h + 1 - D) - lN (d z s) * lN (D - 1) = lN (v * (h + 1 - D)) - lN (y * (h + 1 - D) + d z s * (D - 1)) := by
      rw [← lN_add, ← lN_mul, ← lN_mul, ← lN_mul]
      grind
    rw [this]
    exact key _ _ (by omega) (by omega)
theorem morning_loop {n : Nat → Nat} {c d : Nat → Nat → Nat} {v h l w : Nat} {M N : sd_Mem} (q : Qr n c d v h l w M N) {ow m D y : Nat} (how : ow < n 1) (hm : m < n 0) (hD1 : 1 ≤ D) (hD : D ≤ l + 1) (hy : y ≤ 12) : ∀ (f x : Nat) (S : Int32), x ≤ 13 → 13 - x < f → ∃ S' : Int32, fn_X10_morning_92 f M (nI ow) (nI m) (nI D) (nI y) S (nI x) = some (S', M) ∧ fn_X11_morning_90 f N (nI ow) (nI m) (pv d v h 0 m (nI D) (nI y)) (pv d v h 1 ow (nI D) (nI y)) S (nI x) = some (S', N) := by
  have hl := q.2.2.2.1.1
  have hv := q.2.1.1
  have hh := q.2.2.1.1
  intro f
  induction f with
  | zero => intro x S h1 h2; omega
  | succ f ih =>
    intro x S h1 h2
    unfold fn_X10_morning_92 fn_X11_morning_90
    by_cases hx : x = 13
    · subst hx
      exact ⟨S, by rw [if_pos (by decide)], by rw [if_pos (by decide)]⟩
    · have hx12 : ¬ (12 : Int32) < nI x := nI_nlt (a := 12) (by omega) (by decide)
      have p1 := fun D y => payM q (z := 0) (by decide) hm D y
      have p2 := fun D y => payM q (z := 1) (by decide) how D y
      have p3 := fun D y => payN q (z := 0) (by decide) hm D y
      have p4 := fun D y => payN q (z := 1) (by decide) how D y
      simp only [show nI 0 = 0 from rfl, show nI 1 = 1 from rfl] at p1 p2 p3 p4
      simp only [if_neg hx12, p1, p2, p3, p4, Option.bind_some, or0, nI_1, fn_X11_morning_154]
      have d0 := ((q.1 0 (by decide)).2.2.2.2 m hm).2.1
      have d1 := ((q.1 1 (by decide)).2.2.2.2 ow how).2.1
      have sA := pv_small (d := d) (v := v) (h := h) (z := 0) (s := m) (D := 1) (y := x) hv hh.2 d0 (by decide) (by omega) (by omega) (by omega)
      have sB := pv_small (d := d) (v := v) (h := h) (z := 0) (s := m) (D := D) (y := y) hv hh.2 d0 hD1 (by omega) (by omega) hy
      have sC := pv_small (d := d) (v := v) (h := h) (z := 1) (s := ow) (D := 1) (y := x) hv hh.2 d1 (by decide) (by omega) (by omega) (by omega)
      have sE := pv_small (d := d) (v := v) (h := h) (z := 1) (s := ow) (D := D) (y := y) hv hh.2 d1 hD1 (by omega) (by omega) hy
      rw [show nI 1 = 1 from rfl] at sA sC
      generalize pv d v h 0 m 1 (nI x) = A at *
      generalize pv d v h 0 m (nI D) (nI y) = B at *
      generalize pv d v h 1 ow 1 (nI x) = C at *
      generalize pv d v h 1 ow (nI D) (nI y) = E at *
      have e1 := sm_sub sA sB
      have e2 := sm_sub sC sE
      have e3 : ((A - B) + (C - E)).toInt = (A.toInt - B.toInt) + (C.toInt - E.toInt) := by
        unfold Sm at sA sB sC sE
        rw [Jvm.Kit.i64_add (by omega) (by omega), e1, e2]
      have q1 : lg_cmp (A - B) 0 < 0 ↔ A.toInt < B.toInt := by rw [lg_cmp_lt, Int64.lt_iff_toInt_lt, e1, Int64.toInt_zero]; omega
      have q2 : lg_cmp (C - E) 0 < 0 ↔ C.toInt < E.toInt := by rw [lg_cmp_lt, Int64.lt_iff_toInt_lt, e2, Int64.toInt_zero]; omega
      have q3 : lg_cmp ((A - B) + (C - E)) 0 ≤ 0 ↔ (A.toInt - B.toInt) + (C.toInt - E.toInt) ≤ 0 := by rw [lg_cmp_le, Int64.le_iff_toInt_le, e3, Int64.toInt_zero]
      have r1 : lg_cmp A B < 0 ↔ A.toInt < B.toInt := by rw [lg_cmp_lt, Int64.lt_iff_toInt_lt]
      have r2 : lg_cmp C E < 0 ↔ C.toInt < E.toInt := by rw [lg_cmp_lt, Int64.lt_iff_toInt_lt]
      have r3 : 0 < lg_cmp A B ↔ B.toInt < A.toInt := by rw [lg_cmp_gt, Int64.lt_iff_toInt_lt]
      have r4 : lg_cmp C E ≤ 0 ↔ C.toInt ≤ E.toInt := by rw [lg_cmp_le, Int64.le_iff_toInt_le]
      by_cases g1 : A.toInt < B.toInt
      · rw [if_pos (q1.mpr g1), if_pos (r1.mpr g1)]
        exact ih (x + 1) S (by omega) (by omega)
      rw [if_neg (fun z => g1 (q1.mp z)), if_neg (fun z => g1 (r1.mp z))]
      by_cases g2 : C.toInt < E.toInt
      · rw [if_pos (q2.mpr g2), if_pos (r2.mpr g2)]
        exact ih (x + 1) S (by omega) (by omega)
      rw [if_neg (fun z => g2 (q2.mp z)), if_neg (fun z => g2 (r2.mp z))]
      by_cases g3 : B.toInt < A.toInt
      · rw [if_neg (fun z => by have := q3.mp z; omega), if_pos (r3.mpr g3)]
        exact ih (x + 1) _ (by omega) (by omega)
      rw [if_neg (show ¬ 0 < lg_cmp A B from fun z => g3 (r3.mp z))]
      by_cases g4 : C.toInt ≤ E.toInt
      · rw [if_pos (q3.mpr (by omega)), if_pos (r4.mpr g4)]
        exact ih (x + 1) S (by omega) (by omega)
      · rw [if_neg (fun z => by have := q3.mp z; omega), if_neg (fun z => g4 (r4.mp z))]
        exact ih (x + 1) _ (by omega) (by omega)
theorem st_29 : sd_St29 Rel := by
  intro M N hR x1 x2 x3 x4
  obtain ⟨n, c, d, v, h, l, w, q⟩ := hR 4
  obtain ⟨a, tw, jw, lw⟩ := hR 5
  rcases srtAt q (z := 1) (by decide) x3 with ⟨e1, e2⟩ | ⟨⟨e1, e2⟩, ow, how, rfl⟩
  · rw [show nI 1 = 1 from rfl] at e1 e2
    exact ⟨(-1, M), (-1, N), by simp [fn_X10_morning, fn_X10_morning_0, e1], by simp [fn_X11_morning, fn_X11_morning_0, e2], rfl, hR⟩
  rw [show nI 1 = 1 from rfl] at e1 e2
  rcases srtAt q (z := 0) (by decide) x4 with ⟨f1, f2⟩ | ⟨⟨f1, f2⟩, m, hm, rfl⟩
  · rw [show nI 0 = 0 from rfl] at f1 f2
    exact ⟨(-1, M), (-1, N), by simp [fn_X10_morning, fn_X10_morning_0, e1, f1], by simp [fn_X11_morning, fn_X11_morning_0, e2, f2], rfl, hR⟩
  rw [show nI 0 = 0 from rfl] at f1 f2
  rcases ref hR x1 x2 1 with ⟨r, M', N', hr0, hr1, g1, g2, hR'⟩ | ⟨g1, g2, o, t, kd, O, T, rfl, rfl, p, -⟩
  · refine ⟨(r, M'), (r, N'), ?_, ?_, rfl, hR'⟩
    · simp only [fn_X10_morning, fn_X10_morning_0, e1, f1, g1, Option.bind_some, if_neg I1ne, if_neg hr0]
    · simp only [fn_X11_morning, fn_X11_morning_0, e2, f2, g2, Option.bind_some, if_neg I1ne, if_neg hr1]
  have c1 := clm (show o < 2 ^ 31 by have := p.1; omega)
  have c2 := clm (show t < 2 ^ 31 by have := p.2.1; omega)
  have b1 := bd2 p.1 (show 8 < 2 ^ 31 by decide)
  have b2 := bd2 p.2.1 (show 8 < 2 ^ 31 by decide)
  have hn1 := (q.1 1 (by decide)).1
  have hn0 := (q.1 0 (by decide)).1
  have hl := q.2.2.2.1.1
  obtain ⟨D, hD, d1, d2⟩ := settle q p (hh := 61) lw.1.2.1 lw.1.2.2 lw.1.1 (show ow < 3 by omega) (show m < 3 by omega)
  obtain ⟨w1, w2⟩ := wage q p (hh := 61) (show ow < 3 by omega) hD.2.1 hD.2.2.1
  have hy : (if D ≤ l then O ow D else w) ≤ 12 := by
    by_cases g : D ≤ l
    · rw [if_pos g]; exact (p.2.2.2.2.2.2.2 ow (by omega) D hD.2.1 (by omega)).1.1
    · rw [if_neg g]; exact q.2.2.2.2.1
  generalize (if D ≤ l then O ow D else w) = y at *
  obtain ⟨S, s1, s2⟩ := morning_loop q how hm hD.2.1 hD.2.2.1 hy sd_FU 0 0 (by decide) (by decide)
  have p3 := payN q (z := 0) (by decide) hm (nI D) (nI y)
  have p4 := payN q (z := 1) (by decide) how (nI D) (nI y)
  rw [show nI 0 = 0 from rfl] at p3 s1 s2
  rw [show nI 1 = 1 from rfl] at p4
  refine ⟨(S, M), (S, N), ?_, ?_, rfl, hR⟩
  · simp only [fn_X10_morning, fn_X10_morning_0, e1, f1, g1, Option.bind_some, if_neg I1ne, if_true, c1, c2, if_neg b1, if_neg b2, d1, w1, s1]
  · simp only [fn_X11_morning, fn_X11_morning_0, e2, f2, g2, Option.bind_some, if_neg I1ne, if_pos z0, d2, w2, p3, p4, s2]
