theorem sum1_congr {f g : Nat → Nat} : ∀ {k : Nat}, (∀ s, s < k → f s = g s) → sum1 f k = sum1 g k
  | 0, _ => rfl
  | k + 1, hh => by rw [sum1, sum1, sum1_congr (k := k) (fun s hs => hh s (by omega)), hh k (by omega)]
/-- a SORT added -/
theorem addF {M : sd_Mem} {h0 z k : Nat} {X Y : Int32} (hz : z < 2) (hk : k < 3) (e : M.1 (h0 + 1) z = nI k) : ∃ M' : sd_Mem, fn_X5_addSort M h0 (nI z) X Y = some M' ∧ (∀ y, M'.1 (h0 + 1) y = if y = z then nI (k + 1) else M.1 (h0 + 1) y) ∧ (∀ y, M'.1 (h0 + 2) y = if y = z then M.1 (h0 + 2) z + X else M.1 (h0 + 2) y) ∧ (∀ y, y < 2 → ∀ s, M'.1 (h0 + 3 + 1 + y) s = if y = z ∧ s = k then X else M.1 (h0 + 3 + 1 + y) s) ∧ (∀ y, y < 2 → ∀ s, M'.1 (h0 + 6 + 1 + y) s = if y = z ∧ s = k then Y else M.1 (h0 + 6 + 1 + y) s) ∧ (∀ id j, (id ≤ h0 ∨ h0 + 9 ≤ id) → M'.1 id j = M.1 id j) ∧ M'.2 = M.2 := by
  have b := bd2 hz (show 2 < 2 ^ 31 by decide)
  have b3 := bd2 hk (show 3 < 2 ^ 31 by decide)
  refine ⟨sd_setI (sd_setI (sd_setI (sd_setI M (h0 + 3 + 1 + z) k X) (h0 + 6 + 1 + z) k Y) (h0 + 1) z (nI (k + 1))) (h0 + 2) z (M.1 (h0 + 2) z + X), ?_, fun y => ?_, fun y => ?_, fun y hy s => ?_, fun y hy s => ?_, fun id j hid => ?_, rfl⟩
  · unfold fn_X5_addSort fn_X5_addSort_0
    rw [srtM hz, Option.bind_some, wiN (a := 0) (b := 1) (lo := 0) (hi := 1) rfl rfl (Nat.zero_le _) (show z ≤ 1 by omega) (by decide), Option.bind_some, if_neg I1ne, e, if_neg (show ¬ (3 : Int32) ≤ nI k from nI_ge (b := 3) hk (by decide)), clm (show z < 2 ^ 31 by omega), clm (show k < 2 ^ 31 by omega), if_neg b, if_neg b3, if_neg b, if_neg b3, if_neg b, if_neg b, if_neg b, gIa (b := h0 + 2) (by omega), gIa (b := h0 + 2) (by omega), gIa (b := h0 + 2) (by omega), nI_1]
  · rw [gIa (by omega), gI]
    by_cases g : y = z
    · rw [if_pos ⟨rfl, g⟩, if_pos g]
    · rw [if_neg (fun q => g q.2), if_neg g, gIa (by omega), gIa (by omega)]
  · rw [gI]
    by_cases g : y = z
    · rw [if_pos ⟨rfl, g⟩, if_pos g]
    · rw [if_neg (fun q => g q.2), if_neg g, gIa (by omega), gIa (by omega), gIa (by omega)]
  · rw [gIa (by omega), gIa (by omega), gIa (by omega), gI]
    by_cases g : y = z ∧ s = k
    · rw [if_pos (by omega), if_pos g]
    · rw [if_neg (by omega), if_neg g]
  · rw [gIa (by omega), gIa (by omega), gI]
    by_cases g : y = z ∧ s = k
    · rw [if_pos (by omega), if_pos g]
    · rw [if_neg (by omega), if_neg g, gIa (by omega)]
  · rw [gIa (by omega), gIa (by omega), gIa (by omega), gIa (by omega)]
/-- the draft with a SORT more -/
theorem Dr.add {n : Nat → Nat} {c d : Nat → Nat → Nat} {v h l w : Nat} {M N M' N' : sd_Mem} (q : Dr n c d v h l w M N) {z u t : Nat} (hz : z < 2) (hk : n z < 3) (hu : 1 ≤ u ∧ u ≤ 9) (ht : t ≤ 99)
    (m1 : ∀ y, M'.1 50 y = if y = z then nI (n z + 1) else M.1 50 y) (m2 : ∀ y, M'.1 51 y = if y = z then M.1 51 z + nI u else M.1 51 y) (m3 : ∀ y, y < 2 → ∀ s, M'.1 (49 + 3 + 1 + y) s = if y = z ∧ s = n z then nI u else M.1 (49 + 3 + 1 + y) s) (m4 : ∀ y, y < 2 → ∀ s, M'.1 (49 + 6 + 1 + y) s = if y = z ∧ s = n z then nI t else M.1 (49 + 6 + 1 + y) s) (m5 : ∀ j, M'.1 49 j = M.1 49 j)
    (n1 : ∀ y, N'.1 111 y = if y = z then nI (n z + 1) else N.1 111 y) (n3 : ∀ i, N'.1 112 i = if i = 3 * z + n z then nI u else N.1 112 i) (n4 : ∀ i, N'.1 113 i = if i = 3 * z + n z then nI t else N.1 113 i) (n5 : ∀ i, N'.1 114 i = N.1 114 i) :
    Dr (fun y => if y = z then n z + 1 else n y) (fun y s => if y = z ∧ s = n z then u else c y s) (fun y s => if y = z ∧ s = n z then t else d y s) v h l w M' N' := by
  obtain ⟨q1, ⟨a1, a2, a3⟩, ⟨b1, b2, b3⟩, ⟨c1, c2, c3⟩, ⟨d1, d2, d3⟩⟩ := q
  refine ⟨fun y hy => ?_, ⟨a1, (m5 4).trans a2, (n5 0).trans a3⟩, ⟨b1, (m5 5).trans b2, (n5 1).trans b3⟩, ⟨c1, (m5 6).trans c2, (n5 2).trans c3⟩, ⟨d1, (m5 7).trans d2, (n5 3).trans d3⟩⟩
  obtain ⟨e1, e2, e3, e4, e5⟩ := q1 y hy
  by_cases g : y = z
  · subst g
    simp only [if_true, true_and]
    rw [m1, m2, n1, if_pos rfl, if_pos rfl, if_pos rfl, e4]
    refine ⟨by omega, rfl, rfl, ?_, fun s hs => ?_⟩
    · rw [nI_add, sum1, if_pos rfl]
      congr 2
      exact sum1_congr fun s hs => by rw [if_neg (by omega)]
    · by_cases gs : s = n y
      · subst gs
        have x3 : M'.1 (49 + 3 + 1 + y) (n y) = nI u := by rw [m3 y hy, if_pos ⟨rfl, rfl⟩]
        have x4 : M'.1 (49 + 6 + 1 + y) (n y) = nI t := by rw [m4 y hy, if_pos ⟨rfl, rfl⟩]
        have y3 : N'.1 112 (3 * y + n y) = nI u := by rw [n3, if_pos rfl]
        have y4 : N'.1 113 (3 * y + n y) = nI t := by rw [n4, if_pos rfl]
        rw [if_pos rfl, if_pos rfl]
        exact ⟨hu, ht, x3, y3, x4, y4⟩
      · have x3 : M'.1 (49 + 3 + 1 + y) s = M.1 (49 + 3 + 1 + y) s := by rw [m3 y hy, if_neg (fun q => gs q.2)]
        have x4 : M'.1 (49 + 6 + 1 + y) s = M.1 (49 + 6 + 1 + y) s := by rw [m4 y hy, if_neg (fun q => gs q.2)]
        have y3 : N'.1 112 (3 * y + s) = N.1 112 (3 * y + s) := by rw [n3, if_neg (by omega)]
        have y4 : N'.1 113 (3 * y + s) = N.1 113 (3 * y + s) := by rw [n4, if_neg (by omega)]
        rw [if_neg gs, if_neg gs, x3, x4, y3, y4]
        exact e5 s (by omega)
  · simp only [if_neg g, show ∀ p : Prop, (y = z ∧ p) = False from fun p => by simp [g], if_false]
    rw [m1, m2, n1, if_neg g, if_neg g, if_neg g]
    refine ⟨e1, e2, e3, e4, fun s hs => ?_⟩
    have x3 : M'.1 (49 + 3 + 1 + y) s = M.1 (49 + 3 + 1 + y) s := by rw [m3 y hy, if_neg (fun q => g q.1)]
    have x4 : M'.1 (49 + 6 + 1 + y) s = M.1 (49 + 6 + 1 + y) s := by rw [m4 y hy, if_neg (fun q => g q.1)]
    have y3 : N'.1 112 (3 * y + s) = N.1 112 (3 * y + s) := by rw [n3, if_neg (by omega)]
    have y4 : N'.1 113 (3 * y + s) = N.1 113 (3 * y + s) := by rw [n4, if_neg (by omega)]
    rw [x3, x4, y3, y4]
    exact e5 s hs
theorem Dr.sv {n : Nat → Nat} {c d : Nat → Nat → Nat} {v h l w : Nat} {M N : sd_Mem} (q : Dr n c d v h l w M N) {u : Nat} (hu : u ≤ 99) : Dr n c d u h l w (sd_setI M 49 4 (nI u)) (sd_setI N 114 0 (nI u)) := by
  obtain ⟨q1, ⟨a1, a2, a3⟩, ⟨b1, b2, b3⟩, ⟨c1, c2, c3⟩, ⟨e1, e2, e3⟩⟩ := q
  refine ⟨fun z hz => ?_, ⟨hu, gIs _ _ _ _, gIs _ _ _ _⟩, ⟨b1, (gIk (by decide)).trans b2, (gIk (by decide)).trans b3⟩, ⟨c1, (gIk (by decide)).trans c2, (gIk (by decide)).trans c3⟩, ⟨e1, (gIk (by decide)).trans e2, (gIk (by decide)).trans e3⟩⟩
  obtain ⟨f1, f2, f3, f4, f5⟩ := q1 z hz
  refine ⟨f1, (gIa (by decide)).trans f2, (gIa (by decide)).trans f3, (gIa (by decide)).trans f4, fun s hs => ?_⟩
  obtain ⟨g1, g2, g3, g4, g5, g6⟩ := f5 s hs
  exact ⟨g1, g2, (gIa (by omega)).trans g3, (gIa (by decide)).trans g4, (gIa (by omega)).trans g5, (gIa (by decide)).trans g6⟩
theorem Dr.sh {n : Nat → Nat} {c d : Nat → Nat → Nat} {v h l w : Nat} {M N : sd_Mem} (q : Dr n c d v h l w M N) {u : Nat} (hu : 1 ≤ u ∧ u ≤ 40) : Dr n c d v u l w (sd_setI M 49 5 (nI u)) (sd_setI N 114 1 (nI u)) := by
  obtain ⟨q1, ⟨a1, a2, a3⟩, ⟨b1, b2, b3⟩, ⟨c1, c2, c3⟩, ⟨e1, e2, e3⟩⟩ := q
  refine ⟨fun z hz => ?_, ⟨a1, (gIk (by decide)).trans a2, (gIk (by decide)).trans a3⟩, ⟨hu, gIs _ _ _ _, gIs _ _ _ _⟩, ⟨c1, (gIk (by decide)).trans c2, (gIk (by decide)).trans c3⟩, ⟨e1, (gIk (by decide)).trans e2, (gIk (by decide)).trans e3⟩⟩
  obtain ⟨f1, f2, f3, f4, f5⟩ := q1 z hz
  refine ⟨f1, (gIa (by decide)).trans f2, (gIa (by decide)).trans f3, (gIa (by decide)).trans f4, fun s hs => ?_⟩
  obtain ⟨g1, g2, g3, g4, g5, g6⟩ := f5 s hs
  exact ⟨g1, g2, (gIa (by omega)).trans g3, (gIa (by decide)).trans g4, (gIa (by omega)).trans g5, (gIa (by decide)).trans g6⟩
theorem Dr.sl {n : Nat → Nat} {c d : Nat → Nat → Nat} {v h l w : Nat} {M N : sd_Mem} (q : Dr n c d v h l w M N) {u : Nat} (hu : 1 ≤ u ∧ u ≤ 10) : Dr n c d v h u w (sd_setI M 49 6 (nI u)) (sd_setI N 114 2 (nI u)) := by
  obtain ⟨q1, ⟨a1, a2, a3⟩, ⟨b1, b2, b3⟩, ⟨c1, c2, c3⟩, ⟨e1, e2, e3⟩⟩ := q
  refine ⟨fun z hz => ?_, ⟨a1, (gIk (by decide)).trans a2, (gIk (by decide)).trans a3⟩, ⟨b1, (gIk (by decide)).trans b2, (gIk (by decide)).trans b3⟩, ⟨hu, gIs _ _ _ _, gIs _ _ _ _⟩, ⟨e1, (gIk (by decide)).trans e2, (gIk (by decide)).trans e3⟩⟩
  obtain ⟨f1, f2, f3, f4, f5⟩ := q1 z hz
  refine ⟨f1, (gIa (by decide)).trans f2, (gIa (by decide)).trans f3, (gIa (by decide)).trans f4, fun s hs => ?_⟩
  obtain ⟨g1, g2, g3, g4, g5, g6⟩ := f5 s hs
  exact ⟨g1, g2, (gIa (by omega)).trans g3, (gIa (by decide)).trans g4, (gIa (by omega)).trans g5, (gIa (by decide)).trans g6⟩
theorem Dr.sw {n : Nat → Nat} {c d : Nat → Nat → Nat} {v h l w : Nat} {M N : sd_Mem} (q : Dr n c d v h l w M N) {u : Nat} (hu : u ≤ 12) : Dr n c d v h l u (sd_setI M 49 7 (nI u)) (sd_setI N 114 3 (nI u)) := by
  obtain ⟨q1, ⟨a1, a2, a3⟩, ⟨b1, b2, b3⟩, ⟨c1, c2, c3⟩, ⟨e1, e2, e3⟩⟩ := q
  refine ⟨fun z hz => ?_, ⟨a1, (gIk (by decide)).trans a2, (gIk (by decide)).trans a3⟩, ⟨b1, (gIk (by decide)).trans b2, (gIk (by decide)).trans b3⟩, ⟨c1, (gIk (by decide)).trans c2, (gIk (by decide)).trans c3⟩, ⟨hu, gIs _ _ _ _, gIs _ _ _ _⟩⟩
  obtain ⟨f1, f2, f3, f4, f5⟩ := q1 z hz
  refine ⟨f1, (gIa (by decide)).trans f2, (gIa (by decide)).trans f3, (gIa (by decide)).trans f4, fun s hs => ?_⟩
  obtain ⟨g1, g2, g3, g4, g5, g6⟩ := f5 s hs
  exact ⟨g1, g2, (gIa (by omega)).trans g3, (gIa (by decide)).trans g4, (gIa (by omega)).trans g5, (gIa (by decide)).trans g6⟩
section RD2
variable {r s : Nat} {T : Nat → Int32} {M N : sd_Mem}
/-- a number behind a letter, in its bounds or not, on both sides -/
theorem numItem (h : Tx r s T M N) {p : Nat} (hp : p < s) (hM : M.1 60 1 = nI p) (hN : N.1 100 21 = nI p) {lo hi : Nat} {a b : Int32} (ea : nI lo = a) (eb : nI hi = b) (hh : hi < 2 ^ 31) (hl : lo ≤ hi) :
    (∃ (V : Int32) (M1 N' : sd_Mem) (p' : Nat), (V = -1 ∨ ∃ u : Nat, u ≤ 99 ∧ V = nI u) ∧ p' ≤ s ∧ fn_X6_readValue M (14 + 1 + 2 * r) = some (V, M1) ∧ fn_X10_within V a b = some 0 ∧ fn_X11_readsNumber (sd_setI N 100 21 (nI (p + 1))) (nI r) a b = some (0, N') ∧ Ps p' M M1 ∧ Pn p' N N') ∨
    (∃ (u : Nat) (M1 N' : sd_Mem) (p' : Nat), lo ≤ u ∧ u ≤ hi ∧ p < p' ∧ p' ≤ s ∧ fn_X6_readValue M (14 + 1 + 2 * r) = some (nI u, M1) ∧ fn_X10_within (nI u) a b = some 1 ∧ fn_X11_readsNumber (sd_setI N 100 21 (nI (p + 1))) (nI r) a b = some (1, N') ∧ N'.1 100 22 = nI u ∧ Ps p' M M1 ∧ Pn p' N N') := by
  have kN : keepN [9] N (sd_setI N 100 21 (nI (p + 1))) := keepN.I (by decide) keepN.rf
  obtain ⟨k, u, M', N', hk, hks, hu, e1, e2, e3, e4, e5⟩ := rdNum (h.keep keepM.rf kN) hp hM (gIs _ _ _ _)
  have e3' : Pn (p + 1 + k) N N' := ⟨e3.1, fun id j g => (e3.2.1 id j g).trans (gIa g), kN.tr e3.2.2⟩
  by_cases g : k = 0
  · rw [if_pos g] at e1
    refine Or.inl ⟨-1, M', N', p + 1 + k, Or.inl rfl, hks, e1, wi_out (Or.inl ?_), by rw [e5, if_pos g], e2, e3'⟩
    rw [← ea, Int32.lt_iff_toInt_lt, nI_toInt (by omega), show (-1 : Int32).toInt = -1 from rfl]
    omega
  · rw [if_neg g] at e1
    rcases cs (x := nI u) (a := a) (b := b) lo hi hh hl ea eb with ⟨f1, f2⟩ | ⟨⟨f1, f2⟩, j, h1, h2, f3⟩
    · refine Or.inl ⟨nI u, M', N', p + 1 + k, Or.inr ⟨u, hu, rfl⟩, hks, e1, f1, ?_, e2, e3'⟩
      rw [e5, if_neg g, f2, Option.bind_some, if_pos rfl]
    · have : u = j := (nI_eq (by omega) (by omega)).mp f3
      subst this
      refine Or.inr ⟨u, M', N', p + 1 + k, h1, h2, by omega, hks, e1, f1, ?_, e4, e2, e3'⟩
      rw [e5, if_neg g, f2, Option.bind_some, if_neg I1ne]
/-- what an item comes to: a FAULT at the same place, or the draft goes on -/
def It (r s p : Nat) (T : Nat → Int32) (M N : sd_Mem) (k49 : sd_Mem → Int32 → Option (Int32 × sd_Mem)) (A B : Option (Int32 × sd_Mem)) : Prop :=
  (∃ (M' N' : sd_Mem), A = some (0, M') ∧ B = some (M'.1 60 1, N') ∧ keepM [9] M M' ∧ keepN [9] N N' ∧ ∃ k : Nat, k ≤ 60 ∧ M'.1 60 1 = nI k) ∨
  (∃ (M' N' : sd_Mem) (p' : Nat) (n : Nat → Nat) (c d : Nat → Nat → Nat) (v h l w : Nat), A = some (1, M') ∧ B = k49 N' (nI r) ∧ p < p' ∧ p' ≤ s ∧ M'.1 60 1 = nI p' ∧ N'.1 100 21 = nI p' ∧ keepM [9] M M' ∧ keepN [9] N N' ∧ Dr n c d v h l w M' N')
theorem Ps.c {p : Nat} {M M' : sd_Mem} (h : Ps p M M') (F : Nat) (V : Int32) : keepM [9] M (sd_setI M' 49 F V) ∧ (sd_setI M' 49 F V).1 60 1 = nI p := ⟨keepM.I (by decide) h.2.2, (gIa (by decide)).trans h.1⟩
theorem it_v (h : Tx r s T M N) {p : Nat} (hp : p < s) (hM : M.1 60 1 = nI p) (hN : N.1 100 21 = nI p) {n : Nat → Nat} {c d : Nat → Nat → Nat} {v hz l w : Nat} (q : Dr n c d v hz l w M N) (hx : T p = 118) {k49 : sd_Mem → Int32 → Option (Int32 × sd_Mem)} : It r s p T M N k49 (fn_X6_readItem M (14 + 1 + 2 * r)) (fn_X11_reads_109 k49 N (nI r) 118 (-9)) := by
  have hs := h.2.1
  have cM : fn_X1_cell M (14 + 1 + 2 * r) (M.1 60 1) = some 118 := by rw [hM, cellT h (by omega), if_pos hp, hx]
  have eM : fn_X6_readItem M (14 + 1 + 2 * r) = (fn_X6_readValue M (14 + 1 + 2 * r)).bind fun q134 => (fn_X10_within ((sd_setI q134.2 49 4 q134.1).1 49 4) 0 99).bind fun q150 => if q150 &&& 1 ≠ q150 then none else some (q150, sd_setI q134.2 49 4 q134.1) := by
    unfold fn_X6_readItem fn_X6_readItem_0
    rw [cM, Option.bind_some, if_neg (by decide), if_neg (by decide), if_neg (by decide), if_neg (by decide), if_neg (by decide), if_neg (by decide), if_neg (by decide), if_neg (by decide), if_neg (by decide), if_neg (by decide), if_neg (by decide), if_neg (by decide), if_neg (by decide), if_neg (by decide), if_neg (by decide), if_pos rfl]
  have eN : fn_X11_reads_109 k49 N (nI r) 118 (-9) = (fn_X11_readsNumber (sd_setI N 100 21 (nI (p + 1))) (nI r) 0 99).bind fun q220 => fn_X11_reads_223 k49 q220.2 (nI r) 0 q220.1 := by
    have ew : fn_X11_which 118 = some 0 := by decide
    rw [fn_X11_reads_109, ew, Option.bind_some, if_neg (by decide), if_neg (by decide), fn_X11_reads_125, if_pos (by decide), fn_X11_reads_144, if_pos (by decide), if_neg (by decide), if_neg (by decide), hN, nI_1, fn_X11_reads_186, if_pos rfl]
  rw [eM, eN]
  rcases numItem h hp hM hN (lo := 0) (hi := 99) (a := 0) (b := 99) rfl rfl (by decide) (by decide) with ⟨V, M1, N', p', -, hp', e1, e2, e3, e4, e5⟩ | ⟨u, M1, N', p', h1, h2, g1, g2, e1, e2, e3, e6, e4, e5⟩
  · rw [e1, e3, Option.bind_some, Option.bind_some]
    dsimp only
    rw [gIs, e2, Option.bind_some, if_neg I00, fn_X11_reads_223, if_pos rfl]
    exact Or.inl ⟨_, N', rfl, by rw [(e4.c 4 V).2, e5.1], (e4.c 4 V).1, e5.2.2, p', by omega, (e4.c 4 V).2⟩
  · rw [e1, e3, Option.bind_some, Option.bind_some]
    dsimp only
    rw [gIs, e2, Option.bind_some, if_neg I11, fn_X11_reads_223, if_neg I1ne, if_neg (by decide), if_neg (by decide), e6]
    exact Or.inr ⟨sd_setI M1 49 4 (nI u), sd_setI N' 114 0 (nI u), p', n, c, d, u, hz, l, w, rfl, rfl, g1, g2, (e4.c 4 (nI u)).2, (gIa (by decide)).trans e5.1, (e4.c 4 (nI u)).1, keepN.I (by rw [rgN_o (by decide)]; decide) e5.2.2, (q.mv e4.D e5.D).sv h2⟩
theorem it_h (h : Tx r s T M N) {p : Nat} (hp : p < s) (hM : M.1 60 1 = nI p) (hN : N.1 100 21 = nI p) {n : Nat → Nat} {c d : Nat → Nat → Nat} {v hz l w : Nat} (q : Dr n c d v hz l w M N) (hx : T p = 104) {k49 : sd_Mem → Int32 → Option (Int32 × sd_Mem)} : It r s p T M N k49 (fn_X6_readItem M (14 + 1 + 2 * r)) (fn_X11_reads_109 k49 N (nI r) 104 (-9)) := by
  have hs := h.2.1
  have cM : fn_X1_cell M (14 + 1 + 2 * r) (M.1 60 1) = some 104 := by rw [hM, cellT h (by omega), if_pos hp, hx]
  have eM : fn_X6_readItem M (14 + 1 + 2 * r) = (fn_X6_readValue M (14 + 1 + 2 * r)).bind fun q134 => (fn_X10_within ((sd_setI q134.2 49 5 q134.1).1 49 5) 1 40).bind fun q150 => if q150 &&& 1 ≠ q150 then none else some (q150, sd_setI q134.2 49 5 q134.1) := by
    unfold fn_X6_readItem fn_X6_readItem_0
    rw [cM, Option.bind_some, if_neg (by decide), if_pos rfl]
  have eN : fn_X11_reads_109 k49 N (nI r) 104 (-9) = (fn_X11_readsNumber (sd_setI N 100 21 (nI (p + 1))) (nI r) 1 40).bind fun q220 => fn_X11_reads_223 k49 q220.2 (nI r) 1 q220.1 := by
    have ew : fn_X11_which 104 = some 1 := by decide
    rw [fn_X11_reads_109, ew, Option.bind_some, if_neg (by decide), if_neg (by decide), fn_X11_reads_125, if_pos (by decide), fn_X11_reads_144, if_pos (by decide), if_pos rfl, hN, nI_1, fn_X11_reads_186, if_neg (by decide), if_pos rfl]
  rw [eM, eN]
  rcases numItem h hp hM hN (lo := 1) (hi := 40) (a := 1) (b := 40) rfl rfl (by decide) (by decide) with ⟨V, M1, N', p', -, hp', e1, e2, e3, e4, e5⟩ | ⟨u, M1, N', p', h1, h2, g1, g2, e1, e2, e3, e6, e4, e5⟩
  · rw [e1, e3, Option.bind_some, Option.bind_some]
    dsimp only
    rw [gIs, e2, Option.bind_some, if_neg I00, fn_X11_reads_223, if_pos rfl]
    exact Or.inl ⟨_, N', rfl, by rw [(e4.c 5 V).2, e5.1], (e4.c 5 V).1, e5.2.2, p', by omega, (e4.c 5 V).2⟩
  · rw [e1, e3, Option.bind_some, Option.bind_some]
    dsimp only
    rw [gIs, e2, Option.bind_some, if_neg I11, fn_X11_reads_223, if_neg I1ne, if_neg (by decide), if_neg (by decide), e6]
    exact Or.inr ⟨sd_setI M1 49 5 (nI u), sd_setI N' 114 1 (nI u), p', n, c, d, v, u, l, w, rfl, rfl, g1, g2, (e4.c 5 (nI u)).2, (gIa (by decide)).trans e5.1, (e4.c 5 (nI u)).1, keepN.I (by rw [rgN_o (by decide)]; decide) e5.2.2, (q.mv e4.D e5.D).sh ⟨h1, h2⟩⟩
theorem it_l (h : Tx r s T M N) {p : Nat} (hp : p < s) (hM : M.1 60 1 = nI p) (hN : N.1 100 21 = nI p) {n : Nat → Nat} {c d : Nat → Nat → Nat} {v hz l w : Nat} (q : Dr n c d v hz l w M N) (hx : T p = 108) {k49 : sd_Mem → Int32 → Option (Int32 × sd_Mem)} : It r s p T M N k49 (fn_X6_readItem M (14 + 1 + 2 * r)) (fn_X11_reads_109 k49 N (nI r) 108 (-9)) := by
  have hs := h.2.1
  have cM : fn_X1_cell M (14 + 1 + 2 * r) (M.1 60 1) = some 108 := by rw [hM, cellT h (by omega), if_pos hp, hx]
  have eM : fn_X6_readItem M (14 + 1 + 2 * r) = (fn_X6_readValue M (14 + 1 + 2 * r)).bind fun q134 => (fn_X10_within ((sd_setI q134.2 49 6 q134.1).1 49 6) 1 10).bind fun q150 => if q150 &&& 1 ≠ q150 then none else some (q150, sd_setI q134.2 49 6 q134.1) := by
    unfold fn_X6_readItem fn_X6_readItem_0
    rw [cM, Option.bind_some, if_neg (by decide), if_neg (by decide), if_neg (by decide), if_neg (by decide), if_neg (by decide), if_pos rfl]
  have eN : fn_X11_reads_109 k49 N (nI r) 108 (-9) = (fn_X11_readsNumber (sd_setI N 100 21 (nI (p + 1))) (nI r) 1 10).bind fun q220 => fn_X11_reads_223 k49 q220.2 (nI r) 2 q220.1 := by
    have ew : fn_X11_which 108 = some 2 := by decide
    rw [fn_X11_reads_109, ew, Option.bind_some, if_neg (by decide), if_neg (by decide), fn_X11_reads_125, if_pos (by decide), fn_X11_reads_144, if_pos (by decide), if_neg (by decide), if_pos rfl, hN, nI_1, fn_X11_reads_186, if_neg (by decide), if_neg (by decide), if_pos rfl]
  rw [eM, eN]
  rcases numItem h hp hM hN (lo := 1) (hi := 10) (a := 1) (b := 10) rfl rfl (by decide) (by decide) with ⟨V, M1, N', p', -, hp', e1, e2, e3, e4, e5⟩ | ⟨u, M1, N', p', h1, h2, g1, g2, e1, e2, e3, e6, e4, e5⟩
  · rw [e1, e3, Option.bind_some, Option.bind_some]
    dsimp only
    rw [gIs, e2, Option.bind_some, if_neg I00, fn_X11_reads_223, if_pos rfl]
    exact Or.inl ⟨_, N', rfl, by rw [(e4.c 6 V).2, e5.1], (e4.c 6 V).1, e5.2.2, p', by omega, (e4.c 6 V).2⟩
  · rw [e1, e3, Option.bind_some, Option.bind_some]
    dsimp only
    rw [gIs, e2, Option.bind_some, if_neg I11, fn_X11_reads_223, if_neg I1ne, if_neg (by decide), if_neg (by decide), e6]
    exact Or.inr ⟨sd_setI M1 49 6 (nI u), sd_setI N' 114 2 (nI u), p', n, c, d, v, hz, u, w, rfl, rfl, g1, g2, (e4.c 6 (nI u)).2, (gIa (by decide)).trans e5.1, (e4.c 6 (nI u)).1, keepN.I (by rw [rgN_o (by decide)]; decide) e5.2.2, (q.mv e4.D e5.D).sl ⟨h1, h2⟩⟩
theorem it_w (h : Tx r s T M N) {p : Nat} (hp : p < s) (hM : M.1 60 1 = nI p) (hN : N.1 100 21 = nI p) {n : Nat → Nat} {c d : Nat → Nat → Nat} {v hz l w : Nat} (q : Dr n c d v hz l w M N) (hx : T p = 119) {k49 : sd_Mem → Int32 → Option (Int32 × sd_Mem)} : It r s p T M N k49 (fn_X6_readItem M (14 + 1 + 2 * r)) (fn_X11_reads_109 k49 N (nI r) 119 (-9)) := by
  have hs := h.2.1
  have cM : fn_X1_cell M (14 + 1 + 2 * r) (M.1 60 1) = some 119 := by rw [hM, cellT h (by omega), if_pos hp, hx]
  have eM : fn_X6_readItem M (14 + 1 + 2 * r) = (fn_X6_readValue M (14 + 1 + 2 * r)).bind fun q134 => (fn_X10_within ((sd_setI q134.2 49 7 q134.1).1 49 7) 0 12).bind fun q150 => if q150 &&& 1 ≠ q150 then none else some (q150, sd_setI q134.2 49 7 q134.1) := by
    unfold fn_X6_readItem fn_X6_readItem_0
    rw [cM, Option.bind_some, if_neg (by decide), if_neg (by decide), if_neg (by decide), if_neg (by decide), if_neg (by decide), if_neg (by decide), if_neg (by decide), if_neg (by decide), if_neg (by decide), if_neg (by decide), if_neg (by decide), if_neg (by decide), if_neg (by decide), if_neg (by decide), if_neg (by decide), if_neg (by decide), if_pos rfl]
  have eN : fn_X11_reads_109 k49 N (nI r) 119 (-9) = (fn_X11_readsNumber (sd_setI N 100 21 (nI (p + 1))) (nI r) 0 12).bind fun q220 => fn_X11_reads_223 k49 q220.2 (nI r) 3 q220.1 := by
    have ew : fn_X11_which 119 = some 3 := by decide
    rw [fn_X11_reads_109, ew, Option.bind_some, if_neg (by decide), if_neg (by decide), fn_X11_reads_125, if_pos (by decide), fn_X11_reads_144, if_pos (by decide), if_neg (by decide), if_neg (by decide), hN, nI_1, fn_X11_reads_186, if_neg (by decide), if_neg (by decide), if_neg (by decide)]
  rw [eM, eN]
  rcases numItem h hp hM hN (lo := 0) (hi := 12) (a := 0) (b := 12) rfl rfl (by decide) (by decide) with ⟨V, M1, N', p', -, hp', e1, e2, e3, e4, e5⟩ | ⟨u, M1, N', p', h1, h2, g1, g2, e1, e2, e3, e6, e4, e5⟩
  · rw [e1, e3, Option.bind_some, Option.bind_some]
    dsimp only
    rw [gIs, e2, Option.bind_some, if_neg I00, fn_X11_reads_223, if_pos rfl]
    exact Or.inl ⟨_, N', rfl, by rw [(e4.c 7 V).2, e5.1], (e4.c 7 V).1, e5.2.2, p', by omega, (e4.c 7 V).2⟩
  · rw [e1, e3, Option.bind_some, Option.bind_some]
    dsimp only
    rw [gIs, e2, Option.bind_some, if_neg I11, fn_X11_reads_223, if_neg I1ne, if_neg (by decide), if_neg (by decide), e6]
    exact Or.inr ⟨sd_setI M1 49 7 (nI u), sd_setI N' 114 3 (nI u), p', n, c, d, v, hz, l, u, rfl, rfl, g1, g2, (e4.c 7 (nI u)).2, (gIa (by decide)).trans e5.1, (e4.c 7 (nI u)).1, keepN.I (by rw [rgN_o (by decide)]; decide) e5.2.2, (q.mv e4.D e5.D).sw h2⟩
end RD2
