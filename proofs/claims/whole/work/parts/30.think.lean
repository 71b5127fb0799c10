theorem orb : ∀ S, S < 8 → ∀ i, i < 3 → S < 2 ^ i → nI S ||| ((1 : Int32) <<< (nI i &&& 31)) = nI (S + 2 ^ i) ∧ S + 2 ^ i < 2 ^ (i + 1) ∧ 2 ^ (i + 1) ≤ 8 ∧ (S + 2 ^ i).testBit i = true ∧ ∀ j, j < i → (S + 2 ^ i).testBit j = S.testBit j := by decide +kernel
theorem or0 (x : Int32) : x ||| 0 = x := by
  rw [← Int32.toBitVec_inj]; simp
theorem acc_pos {S : Nat} {c : Nat → Nat} : ∀ {k i : Nat}, i < k → S.testBit i = true → 1 ≤ c i → 0 < acc S c k
  | 0, i, h, _, _ => by omega
  | k + 1, i, h, hb, hc => by
    rw [acc]
    by_cases e : i = k
    · subst e; rw [if_pos hb]; omega
    · have := acc_pos (k := k) (c := c) (show i < k by omega) hb hc
      omega
theorem two_le : ∀ i, i ≤ 3 → 2 ^ i ≤ 8 := by decide
theorem anyBit : ∀ k, k ≤ 3 → ∀ S, S < 8 → S < 2 ^ k → S ≠ 0 → ∃ i, i < k ∧ S.testBit i = true := by decide +kernel
theorem g02 : ¬ ((0 : Int32) < 0 ∨ 2 ≤ (0 : Int32).toNatClampNeg) := by decide
theorem g12 : ¬ ((1 : Int32) < 0 ∨ 2 ≤ (1 : Int32).toNatClampNeg) := by decide
theorem k0 : (0 : Int32).toNatClampNeg = 0 := rfl
theorem k1 : (1 : Int32).toNatClampNeg = 1 := rfl
theorem n00 : nI 0 = 0 := rfl
theorem n10 : ¬ nI 1 = 0 := by decide
theorem srt0Q {n : Nat → Nat} {c d : Nat → Nat → Nat} {v h l w : Nat} {M N : sd_Mem} (q : Qr n c d v h l w M N) : fn_X5_sorts M 40 0 = some (nI (n 0)) := srtS q (z := 0) (by decide)
theorem srt1Q {n : Nat → Nat} {c d : Nat → Nat → Nat} {v h l w : Nat} {M N : sd_Mem} (q : Qr n c d v h l w M N) : fn_X5_sorts M 40 1 = some (nI (n 1)) := srtS q (z := 1) (by decide)
section QRS4
variable {n : Nat → Nat} {c d : Nat → Nat → Nat} {v h l w : Nat} {M N : sd_Mem} {o t kd : Nat} {O T : Nat → Nat → Nat} {a tw jw : Nat}
theorem still_loop (q : Qr n c d v h l w M N) (p : Pr o t kd O T M N) (lw : Lw a tw jw M N) {ow : Nat} (how : ow < 3) (y : Int32) : ∀ (f i S : Nat), i ≤ n 0 → n 0 - i < f → S < 2 ^ i → ∃ S', S' < 2 ^ n 0 ∧ fn_X7_stillOut_6 M 61 (23 + 1 + 2 * o) (23 + 1 + 2 * t) f (nI ow) y (nI S) (nI i) = some (nI S') ∧ fn_X11_notTaken_6 N f (nI o) (nI t) (nI ow) y (nI S) (nI i) = some (nI S') := by
  have hn := (q.1 0 (by decide)).1
  obtain ⟨⟨ha, ha1, ha2⟩, -⟩ := lw
  intro f
  induction f with
  | zero => intro i S h1 h2; omega
  | succ f ih =>
    intro i S h1 h2 h3
    unfold fn_X7_stillOut_6 fn_X11_notTaken_6
    rw [srt0Q q, Option.bind_some, if_neg g02, k0, (q.1 0 (by decide)).2.2.1]
    by_cases hi : i = n 0
    · subst hi
      rw [if_pos (nI_le (Nat.le_refl _) (by omega)), if_pos (nI_le (Nat.le_refl _) (by omega))]
      exact ⟨S, h3, rfl, rfl⟩
    · have hi2 : i < n 0 := by omega
      rw [if_neg (nI_ge hi2 (by omega)), if_neg (nI_ge hi2 (by omega))]
      obtain ⟨D, hD, d1, d2⟩ := settle q p (hh := 61) ha1 ha2 ha (ow := ow) (m := i) how (by omega)
      rw [d1, d2, Option.bind_some, Option.bind_some, nI_1, or0]
      have h8 : S < 8 := Nat.lt_of_lt_of_le h3 (two_le i (by omega))
      obtain ⟨o1, o2, -⟩ := orb S h8 i (by omega) h3
      by_cases g : nI D ≤ y
      · rw [if_pos g, if_pos g]
        exact ih (i + 1) S (by omega) (by omega) (by rw [Nat.pow_succ]; omega)
      · rw [if_neg g, if_neg g, o1]
        exact ih (i + 1) _ (by omega) (by omega) o2
theorem alike_in (q : Qr n c d v h l w M N) (p : Pr o t kd O T M N) {k k' : _} {ow i e : Nat} {x4 : Int32} (how : ow < 3) (hi : i < 3) (he : e ≤ l) : ∀ (f y : Nat) (b : Int32), 1 ≤ y → (y ≤ e + 1 ∨ y ≤ 10) → e + 1 - y < f → (b = 0 ∨ b = 1) → ∃ b' : Int32, (b = 1 → i = ow → b' = 1) ∧ fn_X7_offeringAlike_31 M 61 (23 + 1 + 2 * o) k f (nI ow) (nI e) x4 (nI i) b (nI y) = fn_X7_offeringAlike_71 M 61 (23 + 1 + 2 * o) k (nI ow) (nI e) x4 (nI i) b' ∧ fn_X11_alikeTo_26 N k' f (nI o) (nI ow) (nI e) x4 (nI i) b (nI y) = fn_X11_alikeTo_79 N k' (nI o) (nI ow) (nI e) x4 (nI i) b' := by
  have hl := q.2.2.2.1.1
  intro f
  induction f with
  | zero => intro y b h1 h2 h3; omega
  | succ f ih =>
    intro y b h1 h2 h3 hb
    unfold fn_X7_offeringAlike_31 fn_X11_alikeTo_26
    by_cases hy : e < y
    · rw [if_pos (nI_lt hy (by omega)), if_pos (nI_lt hy (by omega))]
      exact ⟨b, fun g _ => g, rfl, rfl⟩
    · rw [if_neg (nI_nlt (by omega) (by omega)), if_neg (nI_nlt (by omega) (by omega)), lastN q, Option.bind_some, if_neg (nI_nlt (by omega) (by omega)), nI_1]
      obtain ⟨n1, -, n3, -⟩ := nmM p hi h1 (show y ≤ 10 by omega)
      obtain ⟨m1, -, m3, -⟩ := nmM p how h1 (show y ≤ 10 by omega)
      rw [n1, n3, m1, m3]
      simp only [Option.bind_some]
      rcases hb with rfl | rfl
      · rw [if_pos rfl]
        obtain ⟨b', g1, g2, g3⟩ := ih (y + 1) 0 (by omega) (by omega) (by omega) (Or.inl rfl)
        refine ⟨b', fun z => absurd z (by decide), ?_, g3⟩
        by_cases g : nI (O i y) = nI (O ow y)
        · rw [if_pos g]; exact g2
        · rw [if_neg g]; exact g2
      · rw [if_neg I1ne]
        by_cases g : nI (O i y) = nI (O ow y)
        · rw [if_pos g, if_pos g]
          exact ih (y + 1) 1 (by omega) (by omega) (by omega) (Or.inr rfl)
        · rw [if_neg g, if_neg g]
          obtain ⟨b', g1, g2, g3⟩ := ih (y + 1) 0 (by omega) (by omega) (by omega) (Or.inl rfl)
          refine ⟨b', fun _ z => ?_, g2, g3⟩
          rw [z] at g
          exact absurd rfl g
theorem alike_loop (q : Qr n c d v h l w M N) (p : Pr o t kd O T M N) (lw : Lw a tw jw M N) {ow e : Nat} (how : ow < n 1) (he : e ≤ l) : ∀ (f i S : Nat), i ≤ n 1 → n 1 - i < f → S < 2 ^ i → (ow < i → S.testBit ow = true) → ∃ S', S' < 2 ^ n 1 ∧ S'.testBit ow = true ∧ fn_X7_offeringAlike_6 M 61 (23 + 1 + 2 * o) f (nI ow) (nI e) (nI S) (nI i) = some (nI S') ∧ fn_X11_alikeTo_6 N f (nI o) (nI ow) (nI e) (nI S) (nI i) = some (nI S') := by
  have hn := (q.1 1 (by decide)).1
  have hl := q.2.2.2.1.1
  obtain ⟨⟨ha, ha1, ha2⟩, -⟩ := lw
  intro f
  induction f with
  | zero => intro i S h1 h2; omega
  | succ f ih =>
    intro i S h1 h2 h3 h4
    unfold fn_X7_offeringAlike_6 fn_X11_alikeTo_6
    rw [srt1Q q, Option.bind_some, if_neg g12, k1, (q.1 1 (by decide)).2.2.1]
    by_cases hi : i = n 1
    · subst hi
      rw [if_pos (nI_le (Nat.le_refl _) (by omega)), if_pos (nI_le (Nat.le_refl _) (by omega))]
      exact ⟨S, h3, h4 how, rfl, rfl⟩
    · have hi2 : i < n 1 := by omega
      rw [if_neg (nI_ge hi2 (by omega)), if_neg (nI_ge hi2 (by omega)), show M.1 (61 - 3) 0 = nI a from ha1, ha2]
      obtain ⟨b', g1, g2, g3⟩ := alike_in q p (k := fn_X7_offeringAlike_6 M 61 (23 + 1 + 2 * o) f) (k' := fn_X11_alikeTo_6 N f) (ow := ow) (i := i) (e := e) (x4 := nI S) (by omega) (by omega) he sd_FU a 1 ha.1 (Or.inr ha.2) (by rw [FU_eq]; omega) (Or.inr rfl)
      rw [g2, g3]
      unfold fn_X7_offeringAlike_71 fn_X11_alikeTo_79
      rw [nI_1, or0]
      have h8 : S < 8 := Nat.lt_of_lt_of_le h3 (two_le i (by omega))
      obtain ⟨o1, o2, -, o4, o5⟩ := orb S h8 i (by omega) h3
      by_cases g : b' = 0
      · rw [if_pos g, if_pos g]
        refine ih (i + 1) S (by omega) (by omega) (by rw [Nat.pow_succ]; omega) (fun z => ?_)
        by_cases e : i = ow
        · have := g1 rfl e; rw [g] at this; exact absurd this (by decide)
        · exact h4 (by omega)
      · rw [if_neg g, if_neg g, o1]
        refine ih (i + 1) _ (by omega) (by omega) o2 (fun z => ?_)
        by_cases e : i = ow
        · subst e; exact o4
        · rw [o5 ow (by omega)]; exact h4 (by omega)
theorem think_end (q : Qr n c d v h l w M N) {z s S i : Nat} (hz : z < 2) (hs : s < n (1 - z)) (hS : S < 8) (hi : i < n (1 - z)) (hb : S.testBit i = true) (hR : Rel M N) : ∃ q1 q2 : Int32 × sd_Mem, fn_X10_think_138 M (nI z) (nI s) (nI S) = some q1 ∧ fn_X11_think_104 N (nI z) (nI s) (nI S) = some q2 ∧ q1.1 = q2.1 ∧ Rel q1.2 q2.2 := by
  have hz1 : 1 - z < 2 := by omega
  have hn1 := (q.1 (1 - z) hz1).1
  have hp := acc_pos (c := c (1 - z)) hi hb ((q.1 (1 - z) hz1).2.2.2.2 i hi).1.1
  have hq := acc_le (S := S) (c := c (1 - z)) (k := n (1 - z)) hn1.2 (fun s hs => ((q.1 (1 - z) hz1).2.2.2.2 s hs).1.2)
  have w1 := weightM q hz1 hS
  have w2 := chancesN q hz1 hS
  generalize acc S (c (1 - z)) (n (1 - z)) = W at *
  have c3 := clm (show 3 * (1 - z) + s < 2 ^ 31 by omega)
  have b3 := bd2 (show 3 * (1 - z) + s < 6 by omega) (show 6 < 2 ^ 31 by decide)
  have x3 : (3 : Int32) * nI (1 - z) + nI s = nI (3 * (1 - z) + s) := ix rfl
  by_cases hbs : S.testBit s = true
  · obtain ⟨u, u2, f1, f2⟩ := frac (M := M) (N := N) (nI (c (1 - z) s)).toInt64 (show 0 < W from hp) (by omega) 1
    refine ⟨(1, sd_setL (sd_setL M 96 0 u) 96 1 u2), (1, sd_setL (sd_setL N 100 3 u) 100 4 u2), ?_, ?_, rfl, hR.frac u u2⟩
    · simp only [fn_X10_think_138, fn_X10_think_168, conM hS (show s < 3 by omega), Option.bind_some, hbs, if_true, if_neg I1ne, oth hz, chaQ q hz1 hs, w1, nI_l (show W < 2 ^ 31 by omega), f1]
    · simp only [fn_X11_think_104, fn_X11_think_136, isIn_eq hS (show s < 3 by omega), Option.bind_some, hbs, if_true, if_neg I1ne, oneSub hz, x3, c3, if_neg b3, ((q.1 (1 - z) hz1).2.2.2.2 s hs).2.2.2.1, w2, nI_l (show W < 2 ^ 31 by omega), f2]
  · obtain ⟨u, u2, f1, f2⟩ := frac (M := M) (N := N) 0 (show 0 < W from hp) (by omega) 1
    refine ⟨(1, sd_setL (sd_setL M 96 0 u) 96 1 u2), (1, sd_setL (sd_setL N 100 3 u) 100 4 u2), ?_, ?_, rfl, hR.frac u u2⟩
    · simp only [fn_X10_think_138, fn_X10_think_168, conM hS (show s < 3 by omega), Option.bind_some, if_neg hbs, if_true, oth hz, w1, nI_l (show W < 2 ^ 31 by omega), show (0 : Int32).toInt64 = 0 from rfl, f1]
    · simp only [fn_X11_think_104, fn_X11_think_136, isIn_eq hS (show s < 3 by omega), Option.bind_some, if_neg hbs, if_true, oneSub hz, w2, nI_l (show W < 2 ^ 31 by omega), f2]
end QRS4
theorem srtAt {n : Nat → Nat} {c d : Nat → Nat → Nat} {v h l w : Nat} {M N : sd_Mem} (q : Qr n c d v h l w M N) {z : Nat} (hz : z < 2) (y : Int32) : (fn_X5_hasSort M 40 (nI z) y = some 0 ∧ fn_X11_isSort N (nI z) y = some 0) ∨ ((fn_X5_hasSort M 40 (nI z) y = some 1 ∧ fn_X11_isSort N (nI z) y = some 1) ∧ ∃ s : Nat, s < n z ∧ y = nI s) := by
  rcases srt q.n (nI z) y with e | ⟨e, z', s, hz', hs, hz1, rfl⟩
  · exact Or.inl e
  · have : z = z' := (nI_eq (a := z) (b := z') (by omega) (by omega)).mp hz1
    subst this
    exact Or.inr ⟨e, s, hs, rfl⟩
theorem st_21 : sd_St21 Rel := by
  intro M N hR x1 x2 x3 x4 x5 x6
  obtain ⟨n, c, d, v, h, l, w, q⟩ := hR 4
  obtain ⟨a, tw, jw, lw⟩ := hR 5
  have hl := q.2.2.2.1.1
  rcases srtAt q (z := 1) (by decide) x3 with ⟨e1, e2⟩ | ⟨⟨e1, e2⟩, ow, how, rfl⟩
  · rw [show nI 1 = 1 from rfl] at e1 e2
    exact ⟨(-1, M), (-1, N), by simp [fn_X10_think, fn_X10_think_0, e1], by simp [fn_X11_think, fn_X11_think_0, e2], rfl, hR⟩
  rw [show nI 1 = 1 from rfl] at e1 e2
  rcases cs (x := x4) (a := 0) (b := nI l) 0 l (by omega) (by omega) rfl rfl with ⟨f1, f2⟩ | ⟨⟨f1, f2⟩, e, -, he, rfl⟩
  · exact ⟨(-1, M), (-1, N), by simp [fn_X10_think, fn_X10_think_0, e1, lastM q, f1], by simp [fn_X11_think, fn_X11_think_0, e2, lastN q, f2], rfl, hR⟩
  rcases cs (x := x5) (a := 0) (b := 1) 0 1 (by decide) (by decide) rfl rfl with ⟨i1, i2⟩ | ⟨⟨i1, i2⟩, z, -, hz, rfl⟩
  · exact ⟨(-1, M), (-1, N), by simp [fn_X10_think, fn_X10_think_0, e1, lastM q, f1, i1], by simp [fn_X11_think, fn_X11_think_0, e2, lastN q, f2, i2], rfl, hR⟩
  have hz : z < 2 := by omega
  rcases srtAt q (z := 1 - z) (by omega) x6 with ⟨j1, j2⟩ | ⟨⟨j1, j2⟩, s, hs, rfl⟩
  · refine ⟨(-1, M), (-1, N), ?_, ?_, rfl, hR⟩
    · simp only [fn_X10_think, fn_X10_think_0, e1, lastM q, f1, i1, Option.bind_some, if_neg I1ne, oth hz, j1, if_true]
    · simp only [fn_X11_think, fn_X11_think_0, e2, lastN q, f2, i2, Option.bind_some, if_neg I1ne, oneSub hz, j2, if_true]
  have z1 : 1 - z < 2 := by omega
  rcases ref hR x1 x2 1 with ⟨r, M', N', hr0, hr1, g1, g2, hR'⟩ | ⟨g1, g2, o, t, kd, O, T, rfl, rfl, p, -⟩
  · refine ⟨(r, M'), (r, N'), ?_, ?_, rfl, hR'⟩
    · simp only [fn_X10_think, fn_X10_think_0, e1, lastM q, f1, i1, g1, Option.bind_some, if_neg I1ne, oth hz, j1, if_neg hr0]
    · simp only [fn_X11_think, fn_X11_think_0, e2, lastN q, f2, i2, g2, Option.bind_some, if_neg I1ne, oneSub hz, j2, if_neg hr1]
  have c1 := clm (show o < 2 ^ 31 by have := p.1; omega)
  have c2 := clm (show t < 2 ^ 31 by have := p.2.1; omega)
  have b1 := bd2 p.1 (show 8 < 2 ^ 31 by decide)
  have b2 := bd2 p.2.1 (show 8 < 2 ^ 31 by decide)
  have hn0 := (q.1 0 (by decide)).1
  have hn1 := (q.1 1 (by decide)).1
  obtain ⟨S, hS, s1, s2⟩ := still_loop q p lw (ow := ow) (by omega) (nI e) sd_FU 0 0 (by omega) (by rw [FU_eq]; omega) (by decide)
  have s1 : fn_X7_stillOut M 61 (23 + 1 + 2 * o) (23 + 1 + 2 * t) (nI ow) (nI e) = some (nI S) := s1
  have s2 : fn_X11_notTaken N (nI o) (nI t) (nI ow) (nI e) = some (nI S) := s2
  have hS8 : S < 8 := Nat.lt_of_lt_of_le hS (two_le _ hn0.2)
  have eM : fn_X10_think M (nI o) (nI t) (nI ow) (nI e) (nI z) (nI s) = if nI S = 0 then some (-3, tlM M 4) else if nI z = 0 then (fn_X7_offeringAlike M 61 (23 + 1 + 2 * o) (nI ow) (nI e)).bind fun q130 => fn_X10_think_138 M (nI z) (nI s) q130 else fn_X10_think_138 M (nI z) (nI s) (nI S) := by
    simp only [fn_X10_think, fn_X10_think_0, e1, lastM q, f1, i1, g1, Option.bind_some, if_neg I1ne, oth hz, j1, if_true, c1, c2, if_neg b1, if_neg b2, s1, tl4]
  have eN : fn_X11_think N (nI o) (nI t) (nI ow) (nI e) (nI z) (nI s) = if nI S = 0 then some (-3, tlN N 4) else if nI z = 0 then (fn_X11_alikeTo N (nI o) (nI ow) (nI e)).bind fun q130 => fn_X11_think_104 N (nI z) (nI s) q130 else fn_X11_think_104 N (nI z) (nI s) (nI S) := by
    simp only [fn_X11_think, fn_X11_think_0, e2, lastN q, f2, i2, g2, Option.bind_some, if_neg I1ne, oneSub hz, j2, if_pos z0, s2, me4]
  rw [eM, eN]
  by_cases hS0 : S = 0
  · subst hS0
    exact ⟨(-3, tlM M 4), (-3, tlN N 4), by rw [if_pos n00], by rw [if_pos n00], rfl, hR.tell (by decide)⟩
  have hS1 : ¬ nI S = 0 := nI_ne0 (by omega) (by omega)
  rw [if_neg hS1, if_neg hS1]
  rcases (show z = 0 ∨ z = 1 by omega) with rfl | rfl
  · obtain ⟨A, hA, hA2, a1, a2⟩ := alike_loop q p lw how he sd_FU 0 0 (by omega) (by rw [FU_eq]; omega) (by decide) (fun z => by omega)
    have a1 : fn_X7_offeringAlike M 61 (23 + 1 + 2 * o) (nI ow) (nI e) = some (nI A) := a1
    have a2 : fn_X11_alikeTo N (nI o) (nI ow) (nI e) = some (nI A) := a2
    rw [if_pos n00, if_pos n00, a1, a2, Option.bind_some, Option.bind_some]
    exact think_end q (by decide) hs (Nat.lt_of_lt_of_le hA (two_le _ hn1.2)) how hA2 hR
  · rw [if_neg n10, if_neg n10]
    obtain ⟨i, hi, hb⟩ := anyBit (n 0) hn0.2 S hS8 hS hS0
    exact think_end q (z := 1) (by decide) hs hS8 hi hb hR
