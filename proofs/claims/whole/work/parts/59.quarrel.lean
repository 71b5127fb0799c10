/-- the quarrel, as far as the draft's SORTS have come over -/
def BI (m : Nat → Nat) (c d : Nat → Nat → Nat) (M0 M : sd_Mem) : Prop := (∀ y, y < 2 → M.1 (40 + 1) y = nI (m y) ∧ M.1 (40 + 2) y = nI (sum1 (c y) (m y)) ∧ ∀ s, s < m y → M.1 (40 + 3 + 1 + y) s = nI (c y s) ∧ M.1 (40 + 6 + 1 + y) s = nI (d y s)) ∧ (∀ id j, (id < 40 ∨ 49 ≤ id) → M.1 id j = M0.1 id j) ∧ M.2 = M0.2
section BC
variable {n : Nat → Nat} {c d : Nat → Nat → Nat} {v h l w : Nat} {M0 N : sd_Mem}
theorem bec_in (q : Dr n c d v h l w M0 N) {z : Nat} (hz : z < 2) {k6 : sd_Mem → Int32 → Option sd_Mem} : ∀ (f i : Nat) (m : Nat → Nat) (M : sd_Mem), i ≤ n z → n z - i < f → m z = i → BI m c d M0 M → ∃ (m' : Nat → Nat) (M' : sd_Mem), fn_X5_become_13 40 49 k6 f M (nI z) (nI i) = k6 M' (nI (z + 1)) ∧ m' z = n z ∧ (∀ y, y ≠ z → m' y = m y) ∧ BI m' c d M0 M' := by
  obtain ⟨n3, -, -, -, q5⟩ := q.1 z hz
  intro f
  induction f with
  | zero => intro i m M h1 h2; omega
  | succ f ih =>
    intro i m M h1 h2 h3 b
    have e50 : M.1 (49 + 1) z = nI (n z) := (b.2.1 50 z (by omega)).trans (q.1 z hz).2.1
    rw [fn_X5_become_13, srtM hz, Option.bind_some, e50]
    by_cases hi : i = n z
    · rw [if_pos (nI_le (by omega) (by omega)), nI_1]
      exact ⟨m, M, rfl, by omega, fun _ _ => rfl, b⟩
    · have hi2 : i < n z := by omega
      obtain ⟨-, -, c1, -, c2, -⟩ := q5 i hi2
      have hh := hasIn (h := 49) hz n3 e50 hi2
      have x1 : M.1 (49 + 3 + 1 + z) i = nI (c z i) := (b.2.1 _ i (by omega)).trans c1
      have x2 : M.1 (49 + 6 + 1 + z) i = nI (d z i) := (b.2.1 _ i (by omega)).trans c2
      obtain ⟨b1, b2, b3⟩ := b.1 z hz
      rw [h3] at b1 b2 b3
      obtain ⟨M3, a1, a2, a3, a4, a5, a6, a7⟩ := addF (M := M) (h0 := 40) (X := nI (c z i)) (Y := nI (d z i)) hz (show i < 3 by omega) b1
      rw [if_neg (nI_ge hi2 (by omega)), chaM hz (show i < 3 by omega) hh, Option.bind_some, cosM hz (show i < 3 by omega) hh, Option.bind_some, x1, x2, a1, Option.bind_some, nI_1]
      have nb : BI (fun y => if y = z then i + 1 else m y) c d M0 M3 := by
        refine ⟨fun y hy => ?_, fun id j hid => (a6 id j (by omega)).trans (b.2.1 id j hid), a7.trans b.2.2⟩
        obtain ⟨g1, g2, g3⟩ := b.1 y hy
        by_cases g : y = z
        · subst g
          rw [a2, a3, if_pos rfl, if_pos rfl, b2, nI_add]
          simp only [if_true]
          refine ⟨trivial, rfl, fun s hs => ?_⟩
          by_cases gs : s = i
          · subst gs
            exact ⟨by rw [a4 y hy, if_pos ⟨rfl, rfl⟩], by rw [a5 y hy, if_pos ⟨rfl, rfl⟩]⟩
          · have := b3 s (by omega)
            exact ⟨by rw [a4 y hy, if_neg (fun x => gs x.2)]; exact this.1, by rw [a5 y hy, if_neg (fun x => gs x.2)]; exact this.2⟩
        · rw [a2, a3, if_neg g, if_neg g]
          simp only [if_neg g]
          refine ⟨g1, g2, fun s hs => ?_⟩
          have := g3 s hs
          exact ⟨by rw [a4 y hy, if_neg (fun x => g x.1)]; exact this.1, by rw [a5 y hy, if_neg (fun x => g x.1)]; exact this.2⟩
      obtain ⟨m', M', r1, r2, r3, r4⟩ := ih (i + 1) (fun y => if y = z then i + 1 else m y) M3 (by omega) (by omega) (if_pos rfl) nb
      exact ⟨m', M', r1, r2, fun y hy => (r3 y hy).trans (if_neg hy), r4⟩
theorem bec_eq (q : Dr n c d v h l w M0 N) : ∃ M' : sd_Mem, fn_X5_become M0 40 49 = some M' ∧ (∀ y, y < 2 → M'.1 41 y = nI (n y) ∧ M'.1 42 y = nI (sum1 (c y) (n y)) ∧ ∀ s, s < n y → M'.1 (40 + 3 + 1 + y) s = nI (c y s) ∧ M'.1 (40 + 6 + 1 + y) s = nI (d y s)) ∧ (M'.1 40 4 = nI v ∧ M'.1 40 5 = nI h ∧ M'.1 40 6 = nI l ∧ M'.1 40 7 = nI w) ∧ (∀ id j, (id < 40 ∨ 49 ≤ id) → M'.1 id j = M0.1 id j) ∧ M'.2 = M0.2 := by
  have n0 := (q.1 0 (by decide)).1
  have n1' := (q.1 1 (by decide)).1
  obtain ⟨A, e1, e2, -, e7, e8⟩ := clearF (M := M0) (h0 := 40) (by decide) (by decide)
  have b0 : BI (fun _ => 0) c d M0 A := ⟨fun y hy => ⟨(e2 y hy).1, (e2 y hy).2, fun s hs => absurd hs (Nat.not_lt_zero _)⟩, fun id j hid => e7 id j (by omega), e8⟩
  obtain ⟨m1, M1, r1, r2, r3, r4⟩ := bec_in q (z := 0) (by decide) (k6 := fn_X5_become_6 40 49 999) sd_FU 0 _ A (Nat.zero_le _) (by rw [FU_eq]; omega) rfl b0
  obtain ⟨m2, M2, u1, u2, u3, u4⟩ := bec_in q (z := 1) (by decide) (k6 := fn_X5_become_6 40 49 998) sd_FU 0 m1 M1 (Nat.zero_le _) (by rw [FU_eq]; omega) (r3 1 (by decide)) r4
  have u5 : m2 0 = n 0 := (u3 0 (by decide)).trans r2
  obtain ⟨w1, w2, w3⟩ := u4
  have f4 : M2.1 49 4 = nI v := (w2 49 4 (by omega)).trans q.2.1.2.1
  have f5 : M2.1 49 5 = nI h := (w2 49 5 (by omega)).trans q.2.2.1.2.1
  have f6 : M2.1 49 6 = nI l := (w2 49 6 (by omega)).trans q.2.2.2.1.2.1
  have f7 : M2.1 49 7 = nI w := (w2 49 7 (by omega)).trans q.2.2.2.2.2.1
  refine ⟨sd_setI (sd_setI (sd_setI (sd_setI M2 40 4 (nI v)) 40 5 (nI h)) 40 6 (nI l)) 40 7 (nI w), ?_, fun y hy => ?_, ⟨?_, ?_, ?_, ?_⟩, fun id j hid => ?_, w3⟩
  · unfold fn_X5_become fn_X5_become_0
    rw [e1, Option.bind_some]
    have s1 : fn_X5_become_6 40 49 sd_FU A 0 = fn_X5_become_6 40 49 999 M1 (nI (0 + 1)) := by
      rw [show fn_X5_become_6 40 49 sd_FU = fn_X5_become_6 40 49 (999 + 1) from rfl, fn_X5_become_6, if_neg (by decide)]
      exact r1
    have s2 : fn_X5_become_6 40 49 999 M1 (nI (0 + 1)) = fn_X5_become_6 40 49 998 M2 (nI (1 + 1)) := by
      rw [show fn_X5_become_6 40 49 999 = fn_X5_become_6 40 49 (998 + 1) from rfl, fn_X5_become_6, if_neg (by decide)]
      exact u1
    have s3 : fn_X5_become_6 40 49 998 M2 (nI (1 + 1)) = fn_X5_become_51 40 49 M2 := by
      rw [show fn_X5_become_6 40 49 998 = fn_X5_become_6 40 49 (997 + 1) from rfl, fn_X5_become_6, if_pos (by decide)]
    rw [s1, s2, s3, fn_X5_become_51]
    have o : ∀ (X : sd_Mem) (k j : Nat) (x : Int32), (sd_setI X 40 k x).1 49 j = X.1 49 j := fun X k j x => gIa (by decide)
    simp only [o, f4, f5, f6, f7]
  · obtain ⟨g1, g2, g3⟩ := w1 y hy
    have my : m2 y = n y := by
      rcases (show y = 0 ∨ y = 1 by omega) with rfl | rfl
      · exact u5
      · exact u2
    rw [my] at g1 g2 g3
    refine ⟨by rw [gIa (by decide), gIa (by decide), gIa (by decide), gIa (by decide)]; exact g1, by rw [gIa (by decide), gIa (by decide), gIa (by decide), gIa (by decide)]; exact g2, fun s hs => ⟨?_, ?_⟩⟩
    · rw [gIa (by omega), gIa (by omega), gIa (by omega), gIa (by omega)]; exact (g3 s hs).1
    · rw [gIa (by omega), gIa (by omega), gIa (by omega), gIa (by omega)]; exact (g3 s hs).2
  · rw [gIk (by decide), gIk (by decide), gIk (by decide), gIs]
  · rw [gIk (by decide), gIk (by decide), gIs]
  · rw [gIk (by decide), gIs]
  · rw [gIs]
  · rw [gIa (by omega), gIa (by omega), gIa (by omega), gIa (by omega)]; exact w2 id j hid
end BC
theorem cp27 : ∀ (f i : Nat) (N : sd_Mem), i ≤ 6 → 6 - i < f → ∃ N' : sd_Mem, fn_X11_quarrel_27 f N (nI i) = fn_X11_quarrel_65 sd_FU N' 0 ∧ (∀ j, j < 6 → N'.1 108 j = if i ≤ j then N.1 112 j else N.1 108 j) ∧ (∀ j, j < 6 → N'.1 109 j = if i ≤ j then N.1 113 j else N.1 109 j) ∧ (∀ b, b ≠ 108 → b ≠ 109 → N'.1 b = N.1 b) ∧ N'.2 = N.2 := by
  intro f
  induction f with
  | zero => intro i N h1 h2; omega
  | succ f ih =>
    intro i N h1 h2
    rw [fn_X11_quarrel_27]
    by_cases hi : i = 6
    · subst hi
      rw [if_pos (by decide)]
      exact ⟨N, rfl, fun j hj => by rw [if_neg (by omega)], fun j hj => by rw [if_neg (by omega)], fun _ _ _ => rfl, rfl⟩
    · have b := bd2 (show i < 6 by omega) (show 6 < 2 ^ 31 by decide)
      rw [if_neg (show ¬ (6 : Int32) ≤ nI i from nI_ge (b := 6) (by omega) (by decide)), clm (show i < 2 ^ 31 by omega), if_neg b, if_neg b, if_neg b, if_neg b, nI_1, gIa (a := 108) (b := 113) (by decide)]
      obtain ⟨N', r1, r2, r3, r4, r5⟩ := ih (i + 1) (sd_setI (sd_setI N 108 i (N.1 112 i)) 109 i (N.1 113 i)) (by omega) (by omega)
      refine ⟨N', r1, fun j hj => ?_, fun j hj => ?_, fun b' h8 h9 => ?_, r5⟩
      · rw [r2 j hj, gIa (by decide), gIa (by decide), gIa (a := 109) (by decide), gI]
        by_cases g : j = i
        · subst g; rw [if_neg (by omega), if_pos ⟨rfl, rfl⟩, if_pos (Nat.le_refl _)]
        · rw [if_neg (show ¬ (108 = 108 ∧ j = i) from fun x => g x.2)]
          by_cases g2 : i + 1 ≤ j
          · rw [if_pos g2, if_pos (by omega)]
          · rw [if_neg g2, if_neg (by omega)]
      · rw [r3 j hj, gIa (b := 113) (by decide), gIa (b := 113) (by decide), gI, gIa (b := 109) (by decide)]
        by_cases g : j = i
        · subst g; rw [if_neg (by omega), if_pos ⟨rfl, rfl⟩, if_pos (Nat.le_refl _)]
        · rw [if_neg (show ¬ (109 = 109 ∧ j = i) from fun x => g x.2)]
          by_cases g2 : i + 1 ≤ j
          · rw [if_pos g2, if_pos (by omega)]
          · rw [if_neg g2, if_neg (by omega)]
      · rw [r4 b' h8 h9]
        exact funext fun k => (gIa h9).trans (gIa h8)
theorem cp65 : ∀ (f i : Nat) (N : sd_Mem), i ≤ 4 → 4 - i < f → ∃ N' : sd_Mem, fn_X11_quarrel_65 f N (nI i) = fn_X11_quarrel_88 N' ∧ (∀ j, j < 4 → N'.1 110 j = if i ≤ j then N.1 114 j else N.1 110 j) ∧ (∀ b, b ≠ 110 → N'.1 b = N.1 b) ∧ N'.2 = N.2 := by
  intro f
  induction f with
  | zero => intro i N h1 h2; omega
  | succ f ih =>
    intro i N h1 h2
    rw [fn_X11_quarrel_65]
    by_cases hi : i = 4
    · subst hi
      rw [if_pos (by decide)]
      exact ⟨N, rfl, fun j hj => by rw [if_neg (by omega)], fun _ _ => rfl, rfl⟩
    · have b := bd2 (show i < 4 by omega) (show 4 < 2 ^ 31 by decide)
      rw [if_neg (show ¬ (4 : Int32) ≤ nI i from nI_ge (b := 4) (by omega) (by decide)), clm (show i < 2 ^ 31 by omega), if_neg b, if_neg b, nI_1]
      obtain ⟨N', r1, r2, r4, r5⟩ := ih (i + 1) (sd_setI N 110 i (N.1 114 i)) (by omega) (by omega)
      refine ⟨N', r1, fun j hj => ?_, fun b' h8 => ?_, r5⟩
      · rw [r2 j hj, gIa (b := 114) (by decide), gI]
        by_cases g : j = i
        · subst g; rw [if_neg (by omega), if_pos ⟨rfl, rfl⟩, if_pos (Nat.le_refl _)]
        · rw [if_neg (show ¬ (110 = 110 ∧ j = i) from fun x => g x.2)]
          by_cases g2 : i + 1 ≤ j
          · rw [if_pos g2, if_pos (by omega)]
          · rw [if_neg g2, if_neg (by omega)]
      · rw [r4 b' h8]
        exact funext fun k => gIa h8
theorem qrN {N : sd_Mem} : ∃ N' : sd_Mem, fn_X11_quarrel_27 sd_FU N 0 = some (N.1 111 0 + N.1 111 1, N') ∧ (∀ j, j < 6 → N'.1 108 j = N.1 112 j ∧ N'.1 109 j = N.1 113 j) ∧ (∀ j, j < 4 → N'.1 110 j = N.1 114 j) ∧ (N'.1 107 0 = N.1 111 0 ∧ N'.1 107 1 = N.1 111 1) ∧ (∀ b, (b < 107 ∨ 110 < b) → N'.1 b = N.1 b) ∧ N'.2 = N.2 := by
  obtain ⟨A, a1, a2, a3, a4, a5⟩ := cp27 sd_FU 0 N (by decide) (by decide)
  obtain ⟨B, b1, b2, b3, b4⟩ := cp65 sd_FU 0 A (by decide) (by decide)
  have a1 : fn_X11_quarrel_27 sd_FU N 0 = _ := a1
  have b1 : fn_X11_quarrel_65 sd_FU A 0 = _ := b1
  have m0 : B.1 111 0 = N.1 111 0 := by rw [b3 111 (by decide), a4 111 (by decide) (by decide)]
  have m1 : B.1 111 1 = N.1 111 1 := by rw [b3 111 (by decide), a4 111 (by decide) (by decide)]
  refine ⟨sd_setI (sd_setI B 107 0 (N.1 111 0)) 107 1 (N.1 111 1), ?_, fun j hj => ⟨?_, ?_⟩, fun j hj => ?_, ⟨?_, ?_⟩, fun b hb => ?_, b4.trans a5⟩
  · rw [a1, b1, fn_X11_quarrel_88, if_neg g02, if_neg g02, if_neg g12, if_neg g12, if_neg g02, if_neg g12, k0, k1, gIa (a := 107) (b := 111) (by decide), m0, m1, gIk (by decide), gIs, gIs]
  · rw [gIa (by decide), gIa (by decide), b3 108 (by decide), a2 j hj, if_pos (Nat.zero_le _)]
  · rw [gIa (by decide), gIa (by decide), b3 109 (by decide), a3 j hj, if_pos (Nat.zero_le _)]
  · rw [gIa (by decide), gIa (by decide), b2 j hj, if_pos (Nat.zero_le _), a4 114 (by decide) (by decide)]
  · rw [gIk (by decide), gIs]
  · rw [gIs]
  · have : ∀ k, (sd_setI (sd_setI B 107 0 (N.1 111 0)) 107 1 (N.1 111 1)).1 b k = N.1 b k := fun k => by rw [gIa (by omega), gIa (by omega), b3 b (by omega), a4 b (by omega) (by omega)]
    exact funext this
theorem st_8 : sd_St8 Rel := by
  intro M N hR x1
  rcases six x1 4 (by decide) with hx | ⟨r, hr, rfl⟩
  · exact ⟨(-1, M), (-1, N), by simp [fn_X10_quarrel, fn_X10_quarrel_0, isText_out hx], by simp only [fn_X11_quarrel, fn_X11_quarrel_0, aText_out hx, Option.bind_some, if_neg n1], rfl, hR⟩
  have i1 := isText_in (vp_in_nI hr (by decide))
  have b := bd2 hr (show 4 < 2 ^ 31 by decide)
  have c1 := clm (show r < 2 ^ 31 by omega)
  rcases (hR 2 r hr).1 with ⟨s1, s2⟩ | ⟨k, hk, s1, s2⟩
  · refine ⟨(-3, tlM M 1), (-3, tlN N 1), ?_, ?_, rfl, hR.tell (by decide)⟩
    · simp only [fn_X10_quarrel, fn_X10_quarrel_0, i1, Option.bind_some, if_neg I1ne, c1, if_neg b, miss1 s1, tl1]
    · simp only [fn_X11_quarrel, fn_X11_quarrel_0, aText_miss hr s2, Option.bind_some, if_neg n3]
  obtain ⟨R, M', N', r1, r2, r3, r4, r5⟩ := read_eq hR hr hk s1 s2
  have eM : fn_X10_quarrel M (nI r) = if R = -9 then (fn_X5_become M' 40 49).bind fun q62 => (fn_X5_sorts q62 40 0).bind fun q70 => (fn_X5_sorts q62 40 1).bind fun q78 => some (q70 + q78, q62) else some (-4, M') := by
    simp only [fn_X10_quarrel, fn_X10_quarrel_0, i1, Option.bind_some, if_neg I1ne, c1, if_neg b, miss0 (show k < 2 ^ 31 by omega) s1, if_true, r1, fn_X6_draft, fn_X6_draft_0]
  have eN : fn_X11_quarrel N (nI r) = if R = -9 then fn_X11_quarrel_27 sd_FU N' 0 else some (-4, N') := by
    simp only [fn_X11_quarrel, fn_X11_quarrel_0, aText_ok hr (show k < 2 ^ 31 by omega) s2, Option.bind_some, if_pos z0, r2]
  rw [eM, eN]
  by_cases g : R = -9
  · obtain ⟨n, c, d, v, h, l, w, q, h0, h1, hlh⟩ := r5 g
    obtain ⟨A, a1, a2, ⟨a3, a4, a5, a6⟩, a7, a8⟩ := bec_eq q
    obtain ⟨B, b1, b2, b3, ⟨b4, b5⟩, b6, b7⟩ := qrN (N := N')
    have kA : keepM [4, 9] M A := fun id j gg => by
      have hid : id < 40 ∨ 49 ≤ id := by
        rcases Nat.lt_or_ge id 40 with g' | g'
        · omega
        · rcases Nat.lt_or_ge id 49 with g2 | g2
          · exact absurd (show rgM id ∈ [4, 9] from (show ∀ id, id < 49 → 40 ≤ id → rgM id ∈ [4, 9] by decide) id g2 g') gg
          · omega
      have k9 := (r3.mono (T := [4, 9]) (fun i hi => by simp at hi; simp [hi])) id j gg
      exact ⟨(a7 id j hid).trans k9.1, by rw [a8]; exact k9.2⟩
    have kB : keepN [4, 9] N B := fun id j gg => by
      have hid : id < 107 ∨ 110 < id := by
        rcases Nat.lt_or_ge id 107 with g' | g'
        · omega
        · rcases Nat.lt_or_ge id 111 with g2 | g2
          · exact absurd (show rgN id j ∈ [4, 9] by rw [rgN_o (by omega)]; exact (show ∀ id, id < 111 → 107 ≤ id → rgN id 0 ∈ [4, 9] by decide) id g2 g') gg
          · omega
      have k9 := (r4.mono (T := [4, 9]) (fun i hi => by simp at hi; simp [hi])) id j gg
      exact ⟨by rw [b6 id hid]; exact k9.1, by rw [b7]; exact k9.2⟩
    have y0 := q.1 0 (by decide)
    have y1 := q.1 1 (by decide)
    have z0' : N'.1 111 0 = nI (n 0) := y0.2.2.1
    have z1' : N'.1 111 1 = nI (n 1) := y1.2.2.1
    have qr : Qr n c d v h l w A B := by
      refine ⟨fun z hz => ?_, ⟨q.2.1.1, a3, (b3 0 (by decide)).trans q.2.1.2.2⟩, ⟨q.2.2.1.1, a4, (b3 1 (by decide)).trans q.2.2.1.2.2⟩, ⟨⟨q.2.2.2.1.1.1, q.2.2.2.1.1.2, hlh⟩, a5, (b3 2 (by decide)).trans q.2.2.2.1.2.2⟩, ⟨q.2.2.2.2.1, a6, (b3 3 (by decide)).trans q.2.2.2.2.2.2⟩⟩
      obtain ⟨t1, t2, t3, t4, t5⟩ := q.1 z hz
      obtain ⟨u1, u2, u3⟩ := a2 z hz
      refine ⟨⟨?_, t1⟩, u1, ?_, u2, fun s hs => ?_⟩
      · rcases (show z = 0 ∨ z = 1 by omega) with rfl | rfl
        · exact h0
        · exact h1
      · rcases (show z = 0 ∨ z = 1 by omega) with rfl | rfl
        · exact b4.trans t3
        · exact b5.trans t3
      · obtain ⟨p1, p2, p3, p4, p5, p6⟩ := t5 s hs
        obtain ⟨x1, x2⟩ := u3 s hs
        obtain ⟨x3, x4⟩ := b2 (3 * z + s) (by omega)
        exact ⟨p1, p2, x1, x3.trans p4, x2, x4.trans p6⟩
    refine ⟨(nI (n 0) + nI (n 1), A), (nI (n 0) + nI (n 1), B), ?_, ?_, rfl, hR.one 4 kA kB ⟨n, c, d, v, h, l, w, qr⟩⟩
    · rw [if_pos g, a1, Option.bind_some, srt0Q qr, Option.bind_some, srt1Q qr, Option.bind_some]
    · rw [if_pos g, b1, z0', z1']
  · rw [if_neg g, if_neg g]
    exact ⟨(-4, M'), (-4, N'), rfl, rfl, rfl, hR.sc r3 r4⟩
