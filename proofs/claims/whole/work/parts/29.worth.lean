theorem oth {z : Nat} (hz : z < 2) : fn_X10_otherSide (nI z) = some (nI (1 - z)) := by
  rcases (show z = 0 ∨ z = 1 by omega) with rfl | rfl
  · rfl
  · rfl
theorem oneSub {z : Nat} (hz : z < 2) : (1 : Int32) - nI z = nI (1 - z) := sub1 (a := 1) (by omega)
theorem srtS {n : Nat → Nat} {c d : Nat → Nat → Nat} {v h l w : Nat} {M N : sd_Mem} (q : Qr n c d v h l w M N) {z : Nat} (hz : z < 2) : fn_X5_sorts M 40 (nI z) = some (nI (n z)) := by
  rw [srtM hz]; exact congrArg some (q.1 z hz).2.1
theorem p12 : ∀ l, l ≤ 10 → 0 < 12 ^ l ∧ 12 ^ l ≤ 61917364224 := by decide +kernel
section QRS3
variable {n : Nat → Nat} {c d : Nat → Nat → Nat} {v h l w : Nat} {M N : sd_Mem} {o t kd : Nat} {O T : Nat → Nat → Nat} {a tw jw : Nat}
theorem chaQ (q : Qr n c d v h l w M N) {z i : Nat} (hz : z < 2) (hi : i < n z) : fn_X5_chance M 40 (nI z) (nI i) = some (nI (c z i)) := by
  have hn := (q.1 z hz).1
  rw [chaM hz (by omega) (hasIn (h := 40) hz hn.2 (q.1 z hz).2.1 hi)]
  exact congrArg some ((q.1 z hz).2.2.2.2 i hi).2.2.1
theorem cosQ (q : Qr n c d v h l w M N) {z i : Nat} (hz : z < 2) (hi : i < n z) : fn_X5_cost M 40 (nI z) (nI i) = some (nI (d z i)) := by
  have hn := (q.1 z hz).1
  rw [cosM hz (by omega) (hasIn (h := 40) hz hn.2 (q.1 z hz).2.1 hi)]
  exact congrArg some ((q.1 z hz).2.2.2.2 i hi).2.2.2.2.1
theorem worth_loop (q : Qr n c d v h l w M N) (p : Pr o t kd O T M N) (lw : Lw a tw jw M N) {z s : Nat} (hz : z < 2) (hs : s < n z) : ∀ (f i : Nat) (A : Int64), i ≤ n (1 - z) → n (1 - z) - i < f → ∃ V : Int64, fn_X7_worthSum_12 M 61 (23 + 1 + 2 * o) (23 + 1 + 2 * t) f (nI z) (nI s) (nI (1 - z)) A (nI i) = some V ∧ fn_X11_worthIn_6 N f (nI o) (nI t) (nI z) (nI s) A (nI i) = some V := by
  have hz1 : 1 - z < 2 := by omega
  have hn := (q.1 z hz).1
  have hn1 := (q.1 (1 - z) hz1).1
  obtain ⟨⟨ha, ha1, ha2⟩, ⟨-, ht1, ht2⟩, ⟨-, hw1, hw2⟩⟩ := lw
  intro f
  induction f with
  | zero => intro i A h1 h2; omega
  | succ f ih =>
    intro i A h1 h2
    unfold fn_X7_worthSum_12 fn_X11_worthIn_6
    rw [srtS q hz1, Option.bind_some, oneSub hz, clm (show 1 - z < 2 ^ 31 by omega), if_neg (bd2 hz1 (by decide)), (q.1 (1 - z) hz1).2.2.1]
    by_cases hi : i = n (1 - z)
    · rw [← hi, if_pos (nI_le (Nat.le_refl _) (by omega)), if_pos (nI_le (Nat.le_refl _) (by omega))]
      exact ⟨A, rfl, rfl⟩
    · have hi2 : i < n (1 - z) := by omega
      rw [if_neg (nI_ge hi2 (by omega)), if_neg (nI_ge hi2 (by omega))]
      have ch := chaQ q hz1 hi2
      have ch2 := ((q.1 (1 - z) hz1).2.2.2.2 i hi2).2.2.2.1
      have c3 := clm (show 3 * (1 - z) + i < 2 ^ 31 by omega)
      have b3 := bd2 (show 3 * (1 - z) + i < 6 by omega) (show 6 < 2 ^ 31 by decide)
      have x3 : (3 : Int32) * (1 - nI z) + nI i = nI (3 * (1 - z) + i) := by rw [oneSub hz]; exact ix rfl
      rcases (show z = 0 ∨ z = 1 by omega) with rfl | rfl
      · obtain ⟨D, hD, d1, d2⟩ := settle q p (hh := 61) ha1 ha2 ha (ow := i) (m := s) (by omega) (by omega)
        obtain ⟨w1, w2⟩ := wage q p (hh := 61) (ow := i) (by omega) hD.2.1 hD.2.2.1
        obtain ⟨V, j1, j2⟩ := jud q (hh := 61) hz hs ht1 hw1 ht2 hw2 (nI (if D ≤ l then O i D else w)) hD.2.1 hD.2.2.1
        obtain ⟨V2, k1, k2⟩ := ih (i + 1) (A + (nI (c (1 - 0) i)).toInt64 * V) (by omega) (by omega)
        refine ⟨V2, ?_, ?_⟩
        · simp only [show nI 0 = 0 from rfl, if_true, fn_X7_worthSum_37, fn_X7_worthSum_50] at j1 ⊢
          simp only [d1, Option.bind_some, ch, w1, j1, nI_1]
          exact k1
        · simp only [show nI 0 = 0 from rfl, if_true, fn_X11_worthIn_30, fn_X11_worthIn_48] at j2 x3 ⊢
          simp only [d2, Option.bind_some, x3, c3, if_neg b3, ch2, w2, j2, nI_1]
          exact k2
      · obtain ⟨D, hD, d1, d2⟩ := settle q p (hh := 61) ha1 ha2 ha (ow := s) (m := i) (by omega) (by omega)
        obtain ⟨w1, w2⟩ := wage q p (hh := 61) (ow := s) (by omega) hD.2.1 hD.2.2.1
        obtain ⟨V, j1, j2⟩ := jud q (hh := 61) hz hs ht1 hw1 ht2 hw2 (nI (if D ≤ l then O s D else w)) hD.2.1 hD.2.2.1
        obtain ⟨V2, k1, k2⟩ := ih (i + 1) (A + (nI (c (1 - 1) i)).toInt64 * V) (by omega) (by omega)
        refine ⟨V2, ?_, ?_⟩
        · simp only [show ¬ nI 1 = 0 by decide, if_false, fn_X7_worthSum_37, fn_X7_worthSum_50] at j1 ⊢
          simp only [d1, Option.bind_some, ch, w1, j1, nI_1]
          exact k1
        · simp only [show ¬ nI 1 = 0 by decide, if_false, fn_X11_worthIn_30, fn_X11_worthIn_48] at j2 x3 ⊢
          simp only [d2, Option.bind_some, x3, c3, if_neg b3, ch2, w2, j2, nI_1]
          exact k2
theorem worth_eq (q : Qr n c d v h l w M N) (p : Pr o t kd O T M N) (lw : Lw a tw jw M N) {z s : Nat} (hz : z < 2) (hs : s < n z) : ∃ V : Int64, fn_X7_worthSum M 61 (23 + 1 + 2 * o) (23 + 1 + 2 * t) (nI z) (nI s) = some V ∧ fn_X11_worthIn N (nI o) (nI t) (nI z) (nI s) = some V := by
  have hn1 := (q.1 (1 - z) (by omega)).1
  obtain ⟨V, h1, h2⟩ := worth_loop q p lw hz hs sd_FU 0 0 (by omega) (by rw [FU_eq]; omega)
  refine ⟨V, ?_, h2⟩
  unfold fn_X7_worthSum fn_X7_worthSum_0
  rw [oth hz, Option.bind_some]
  exact h1
theorem shares_eq (q : Qr n c d v h l w M N) {z : Nat} (hz : z < 2) : ∃ b : Nat, 0 < b ∧ b < 2 ^ 63 ∧ fn_X7_worthShares M 61 (nI z) = some (lN b) ∧ fn_X11_whole N (nI z) = some (lN b) := by
  have hz1 : 1 - z < 2 := by omega
  have hl := q.2.2.2.1.1
  have hn1 := (q.1 (1 - z) hz1).1
  have hs := sum1_le (c := c (1 - z)) (k := n (1 - z)) (fun s hs => ((q.1 (1 - z) hz1).2.2.2.2 s hs).1.2)
  have hp := sum1_pos (c := c (1 - z)) (k := n (1 - z)) hn1.1 (fun s hs => ((q.1 (1 - z) hz1).2.2.2.2 s hs).1.1)
  obtain ⟨p1, p2⟩ := p12 l hl.2.1
  have t1 := totM q hz1
  have t2 := totN q hz1
  have t3 := whoAllN q hz1
  generalize sum1 (c (1 - z)) (n (1 - z)) = S at *
  refine ⟨12 ^ l * S, Nat.mul_pos p1 (by omega), ?_, ?_, ?_⟩
  · have := Nat.mul_le_mul p2 (show S ≤ 27 by omega)
    omega
  · simp only [fn_X7_worthShares, fn_X7_worthShares_0, oth hz, Option.bind_some, t1, fn_X5_judgings, fn_X5_judgings_0, q.2.2.2.1.2.1, powM l hl.2.1, nI_l (show S < 2 ^ 31 by omega), lN_mul, Nat.mul_comm]
  · simp only [fn_X11_whole, fn_X11_whole_0, lastN q, Option.bind_some, powN l hl.2.1, oneSub hz, t3, t2, nI_l (show S < 2 ^ 31 by omega), lN_mul]
end QRS3
theorem st_20 : sd_St20 Rel := by
  intro M N hR x1 x2 x3 x4
  obtain ⟨n, c, d, v, h, l, w, q⟩ := hR 4
  obtain ⟨a, tw, jw, lw⟩ := hR 5
  rcases srt q.n x3 x4 with ⟨e1, e2⟩ | ⟨⟨e1, e2⟩, z, s, hz, hs, rfl, rfl⟩
  · exact ⟨(-1, M), (-1, N), by simp [fn_X10_worth, fn_X10_worth_0, e1], by simp [fn_X11_worth, fn_X11_worth_0, e2], rfl, hR⟩
  rcases ref hR x1 x2 1 with ⟨r, M', N', hr0, hr1, g1, g2, hR'⟩ | ⟨g1, g2, o, t, kd, O, T, rfl, rfl, p, -⟩
  · refine ⟨(r, M'), (r, N'), ?_, ?_, rfl, hR'⟩
    · simp only [fn_X10_worth, fn_X10_worth_0, e1, g1, Option.bind_some, if_neg I1ne, if_neg hr0]
    · simp only [fn_X11_worth, fn_X11_worth_0, e2, g2, Option.bind_some, if_neg I1ne, if_neg hr1]
  have c1 := clm (show o < 2 ^ 31 by have := p.1; omega)
  have c2 := clm (show t < 2 ^ 31 by have := p.2.1; omega)
  have b1 := bd2 p.1 (show 8 < 2 ^ 31 by decide)
  have b2 := bd2 p.2.1 (show 8 < 2 ^ 31 by decide)
  obtain ⟨V, v1, v2⟩ := worth_eq q p lw hz hs
  obtain ⟨b, hb0, hb, s1, s2⟩ := shares_eq q hz
  obtain ⟨u, u2, f1, f2⟩ := frac (M := M) (N := N) V hb0 hb 1
  refine ⟨(1, sd_setL (sd_setL M 96 0 u) 96 1 u2), (1, sd_setL (sd_setL N 100 3 u) 100 4 u2), ?_, ?_, rfl, hR.frac u u2⟩
  · simp only [fn_X10_worth, fn_X10_worth_0, e1, g1, Option.bind_some, if_neg I1ne, if_true, c1, c2, if_neg b1, if_neg b2, v1, s1, f1]
  · simp only [fn_X11_worth, fn_X11_worth_0, e2, g2, Option.bind_some, if_neg I1ne, if_pos z0, v2, s2, f2]
