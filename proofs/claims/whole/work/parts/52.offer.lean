theorem dj_of : ∀ P, P < 8 → ∀ Q, Q < 8 → ∀ i, i < 3 → (P < 2 ^ i ∧ Q < 2 ^ i ∧ P &&& Q = 0) → (P + 2 ^ i) &&& Q = 0 ∧ P &&& (Q + 2 ^ i) = 0 := by decide +kernel
theorem spl : ∀ P, P < 8 → ∀ Q, Q < 8 → P &&& Q = 0 → nI (P + Q) &&& (nI P ^^^ -1) = nI Q ∧ nI (P + Q) &&& (nI Q ^^^ -1) = nI P := by decide +kernel
theorem mods : ∀ S, S < 8 → ∀ i, i < 3 → S % 2 ^ (i + 1) = S % 2 ^ i + if S.testBit i = true then 2 ^ i else 0 := by decide +kernel
section OF
variable {n : Nat → Nat} {c d : Nat → Nat → Nat} {v h l w : Nat} {M N : sd_Mem} {W : Nat} {O : Nat → Nat → Nat} {a tw jw : Nat}
theorem split_loop (q : Qr n c d v h l w M N) (p : Wn W O M N) {S x y : Nat} (hS : S < 8) (hx1 : 1 ≤ x) (hx2 : x ≤ 10) (hy : y ≤ 12) : ∀ (f i R G : Nat), i ≤ n 0 → n 0 - i < f → R < 2 ^ i → G < 2 ^ i → R + G = S % 2 ^ i → R &&& G = 0 → ∃ R' G' : Nat, R' < 2 ^ n 0 ∧ G' < 2 ^ n 0 ∧ R' + G' = S % 2 ^ n 0 ∧ R' &&& G' = 0 ∧ fn_X0_refusing_6 M (23 + 1 + 2 * W) f (nI x) (nI S) (nI y) (nI R) (nI i) = some (nI R') ∧ fn_X11_taking_6 N f (nI W) (nI S) (nI x) (nI y) (nI G) (nI i) = some (nI G') := by
  have hn := (q.1 0 (by decide)).1
  intro f
  induction f with
  | zero => intro i R G h1 h2; omega
  | succ f ih =>
    intro i R G h1 h2 h3 h4 h5 h6
    unfold fn_X0_refusing_6 fn_X11_taking_6
    rw [srt0Q q, Option.bind_some, if_neg g02, k0, (q.1 0 (by decide)).2.2.1]
    by_cases hi : i = n 0
    · subst hi
      rw [if_pos (nI_le (Nat.le_refl _) (by omega)), if_pos (nI_le (Nat.le_refl _) (by omega))]
      exact ⟨R, G, h3, h4, h5, h6, rfl, rfl⟩
    · have hi2 : i < n 0 := by omega
      have r8 : R < 8 := Nat.lt_of_lt_of_le h3 (two_le i (by omega))
      have g8 : G < 8 := Nat.lt_of_lt_of_le h4 (two_le i (by omega))
      obtain ⟨o1, o2, -⟩ := orb R r8 i (by omega) h3
      obtain ⟨u1, u2, -⟩ := orb G g8 i (by omega) h4
      obtain ⟨d1, d2⟩ := dj_of R r8 G g8 i (by omega) ⟨h3, h4, h6⟩
      obtain ⟨m1, m2⟩ := wnM p (s := i) (by omega) hx1 hx2
      have hT := (p.2 i (by omega) x hx1 hx2).1
      have lr : R < 2 ^ (i + 1) := by rw [Nat.pow_succ]; omega
      have lg : G < 2 ^ (i + 1) := by rw [Nat.pow_succ]; omega
      have md := mods S hS i (by omega)
      rw [if_neg (nI_ge hi2 (by omega)), if_neg (nI_ge hi2 (by omega)), conM hS (show i < 3 by omega), isIn_eq hS (show i < 3 by omega), Option.bind_some, Option.bind_some, nI_1 i, or0 (nI R), or0 (nI G)]
      by_cases hb : S.testBit i = true
      · rw [if_pos hb] at md
        rw [if_pos hb, if_neg I1ne, if_neg I1ne, m1, m2, Option.bind_some, Option.bind_some]
        by_cases g : O i x ≤ y
        · rw [if_pos (nI_le g (by omega)), if_neg (nI_nlt g (by omega)), u1]
          exact ih (i + 1) R (G + 2 ^ i) (by omega) (by omega) lr u2 (by omega) d2
        · rw [if_neg (nI_ge (by omega) (by omega)), if_pos (nI_lt (by omega) (by omega)), o1]
          exact ih (i + 1) (R + 2 ^ i) G (by omega) (by omega) o2 lg (by omega) d1
      · rw [if_neg hb] at md
        rw [if_neg hb, if_pos rfl, if_pos rfl]
        exact ih (i + 1) R G (by omega) (by omega) lr lg (by omega) h6
/-- who refuses and who takes, of a set -/
theorem split_eq (q : Qr n c d v h l w M N) (p : Wn W O M N) {S x y : Nat} (hS : S < 2 ^ n 0) (hx1 : 1 ≤ x) (hx2 : x ≤ 10) (hy : y ≤ 12) : ∃ R G : Nat, R < 2 ^ n 0 ∧ R < 8 ∧ G < 8 ∧ fn_X0_refusing M (23 + 1 + 2 * W) (nI x) (nI S) (nI y) = some (nI R) ∧ fn_X11_taking N (nI W) (nI S) (nI x) (nI y) = some (nI G) ∧ nI S &&& (nI R ^^^ -1) = nI G ∧ nI S &&& (nI G ^^^ -1) = nI R := by
  have hn := (q.1 0 (by decide)).1
  have hK8 := two_le _ hn.2
  obtain ⟨R, G, r1, r2, r3, r4, r5, r6⟩ := split_loop q p (S := S) (x := x) (y := y) (by omega) hx1 hx2 hy sd_FU 0 0 0 (Nat.zero_le _) (by rw [FU_eq]; omega) (by decide) (by decide) (by rw [Nat.pow_zero, Nat.mod_one]) (by decide)
  rw [Nat.mod_eq_of_lt hS] at r3
  obtain ⟨s1, s2⟩ := spl R (by omega) G (by omega) r4
  rw [r3] at s1 s2
  exact ⟨R, G, r1, by omega, by omega, r5, r6, s1, s2⟩
theorem own_step (q : Qr n c d v h l w M N) (p : Wn W O M N) {k61 : sd_Mem → Int32 → Int32 → Int32 → Option sd_Mem} {k69 : sd_Mem → Int32 → Int32 → Int32 → Int32 → Option sd_Mem} {s S x k : Nat} (hs : s < n 1) (hS : S < 2 ^ n 0) (hx1 : 1 ≤ x) (hx : x ≤ l) (ha : N.1 100 14 = nI a) (hax : a ≤ x) (tb : Tb (2 ^ n 0) l x k M N) (f : Nat) {y : Nat} (hy : y ≤ 12) : ∃ B : Int64, ∀ (A : Int64) (g g' : Int32), fn_X0_bestByOffering_9 (23 + 1 + 2 * W) (f + 1) M (nI s) (nI x) (nI S) A g (nI y) = (if nI y = 0 then fn_X0_bestByOffering_9 (23 + 1 + 2 * W) f M (nI s) (nI x) (nI S) B (nI y) (nI (y + 1)) else if lg_cmp B A ≤ 0 then fn_X0_bestByOffering_9 (23 + 1 + 2 * W) f M (nI s) (nI x) (nI S) A g (nI (y + 1)) else fn_X0_bestByOffering_9 (23 + 1 + 2 * W) f M (nI s) (nI x) (nI S) B (nI y) (nI (y + 1))) ∧ fn_X11_setBestOfOwners_89 k61 k69 (f + 1) N (nI W) (nI s) (nI x) (nI S) A g' (nI y) = (if g' < 0 then fn_X11_setBestOfOwners_89 k61 k69 f N (nI W) (nI s) (nI x) (nI S) B (nI y) (nI (y + 1)) else if lg_cmp B A ≤ 0 then (if g' = nI y then fn_X11_setBestOfOwners_89 k61 k69 f N (nI W) (nI s) (nI x) (nI S) B g' (nI (y + 1)) else fn_X11_setBestOfOwners_89 k61 k69 f N (nI W) (nI s) (nI x) (nI S) A g' (nI (y + 1))) else fn_X11_setBestOfOwners_89 k61 k69 f N (nI W) (nI s) (nI x) (nI S) B (nI y) (nI (y + 1))) := by
  have hl := q.2.2.2.1.1
  obtain ⟨R, G, hR, hR8, hG8, e1, e2, e3, e4⟩ := split_eq q p (S := S) (x := x) (y := y) hS hx1 (by omega) hy
  have y12 : ¬ (12 : Int32) < nI y := nI_nlt (a := 12) hy (by decide)
  have e5 : fn_X0_settled M 1 (nI s) (nI x) (nI G) (nI y) = _ := setM q (z := 1) (by decide) hs hx hG8 (nI y)
  have e6 : fn_X11_worthOf N 1 (nI s) (nI x) (nI y) = _ := payN q (z := 1) (by decide) hs (nI x) (nI y)
  have e7 : fn_X11_chances N 0 (nI G) = some (nI (acc G (c (1 - 1)) (n (1 - 1)))) := chancesN q (z := 0) (by decide) hG8
  have e8 : pv d v h 1 s (nI x) (nI y) * (nI (acc G (c (1 - 1)) (n (1 - 1)))).toInt64 * lN (12 ^ (l - x)) = sv n c d v h l 1 s x G (nI y) := rfl
  refine ⟨sv n c d v h l 1 s x G (nI y) + M.2 (64 + 1 + (x + 1)) R, fun A g g' => ⟨?_, ?_⟩⟩
  · rw [fn_X0_bestByOffering_9, if_neg y12, e1, Option.bind_some, e3, e5, Option.bind_some, nI_1 x, sumIn (show 1 ≤ x + 1 by omega) (show x + 1 ≤ 11 by omega) hR8, Option.bind_some, nI_1 y]
  · rw [fn_X11_setBestOfOwners_89, if_neg y12, ha, if_neg (nI_nlt hax (by omega)), e2, Option.bind_some, e6, Option.bind_some, e7, Option.bind_some, lastN q, Option.bind_some, sub1 hx, powN (l - x) (by omega), Option.bind_some, e4, nI_1 x, ix8, if_neg (bnd (show 8 * (x + 1) + R < 96 by omega) (by decide)), clm (show 8 * (x + 1) + R < 2 ^ 31 by omega), ← tb (x + 1) R (by omega) hR (Or.inl (by omega)), e8]
    simp only [fn_X11_setBestOfOwners_186, nI_1 y, if_true]
theorem own_wages (q : Qr n c d v h l w M N) (p : Wn W O M N) {k61 : sd_Mem → Int32 → Int32 → Int32 → Option sd_Mem} {k69 : sd_Mem → Int32 → Int32 → Int32 → Int32 → Option sd_Mem} {s S x k : Nat} (hs : s < n 1) (hS : S < 2 ^ n 0) (hx1 : 1 ≤ x) (hx : x ≤ l) (ha : N.1 100 14 = nI a) (hax : a ≤ x) (tb : Tb (2 ^ n 0) l x k M N) : ∀ (f y g : Nat) (A : Int64), 1 ≤ y → y ≤ 13 → 13 - y < f → g < y → ∃ (V : Int64) (g' : Nat), g' ≤ 12 ∧ fn_X0_bestByOffering_9 (23 + 1 + 2 * W) f M (nI s) (nI x) (nI S) A (nI g) (nI y) = fn_X0_bestByOffering_83 (23 + 1 + 2 * W) M (nI x) (nI S) V (nI g') ∧ fn_X11_setBestOfOwners_89 k61 k69 f N (nI W) (nI s) (nI x) (nI S) A (nI g) (nI y) = fn_X11_setBestOfOwners_210 k61 k69 N (nI W) (nI s) (nI x) (nI S) V (nI g') := by
  intro f
  induction f with
  | zero => intro y g A h1 h2 h3; omega
  | succ f ih =>
    intro y g A h1 h2 h3 h4
    by_cases hy : y = 13
    · subst hy
      refine ⟨A, g, by omega, ?_, ?_⟩
      · rw [fn_X0_bestByOffering_9, if_pos (by decide)]
      · rw [fn_X11_setBestOfOwners_89, if_pos (by decide)]
    · obtain ⟨B, hB⟩ := own_step q p (k61 := k61) (k69 := k69) hs hS hx1 hx ha hax tb f (y := y) (by omega)
      obtain ⟨b1, b2⟩ := hB A (nI g) (nI g)
      rw [b1, b2, if_neg (nI_ne0 (by omega) (by omega)), if_neg (nI_pos (by omega))]
      by_cases gg : lg_cmp B A ≤ 0
      · rw [if_pos gg, if_pos gg, if_neg (fun z => by have := (nI_eq (a := g) (b := y) (by omega) (by omega)).mp z; omega)]
        exact ih (y + 1) g A (by omega) (by omega) (by omega) (by omega)
      · rw [if_neg gg, if_neg gg]
        exact ih (y + 1) y B (by omega) (by omega) (by omega) (by omega)
theorem own_first (q : Qr n c d v h l w M N) (p : Wn W O M N) {k61 : sd_Mem → Int32 → Int32 → Int32 → Option sd_Mem} {k69 : sd_Mem → Int32 → Int32 → Int32 → Int32 → Option sd_Mem} {s S x k : Nat} (hs : s < n 1) (hS : S < 2 ^ n 0) (hx1 : 1 ≤ x) (hx : x ≤ l) (ha : N.1 100 14 = nI a) (hax : a ≤ x) (tb : Tb (2 ^ n 0) l x k M N) : ∃ (V : Int64) (g' : Nat), g' ≤ 12 ∧ fn_X0_bestByOffering M (23 + 1 + 2 * W) (nI s) (nI x) (nI S) = some (V, sd_setI M (77 + 1 + x) S (nI g')) ∧ fn_X11_setBestOfOwners_89 k61 k69 sd_FU N (nI W) (nI s) (nI x) (nI S) 0 (-9) 0 = fn_X11_setBestOfOwners_210 k61 k69 N (nI W) (nI s) (nI x) (nI S) V (nI g') := by
  have hl := q.2.2.2.1.1
  have hn := (q.1 0 (by decide)).1
  have hK8 := two_le _ hn.2
  obtain ⟨B, hB⟩ := own_step q p (k61 := k61) (k69 := k69) hs hS hx1 hx ha hax tb 999 (y := 0) (by decide)
  obtain ⟨b1, b2⟩ := hB 0 0 (-9)
  obtain ⟨V, g', hg, e1, e2⟩ := own_wages q p (k61 := k61) (k69 := k69) hs hS hx1 hx ha hax tb 999 1 0 B (by decide) (by decide) (by decide) (by decide)
  rw [if_pos n00] at b1
  rw [if_pos (by decide)] at b2
  refine ⟨V, g', hg, ?_, ?_⟩
  · refine (show fn_X0_bestByOffering M (23 + 1 + 2 * W) (nI s) (nI x) (nI S) = _ from b1).trans (e1.trans ?_)
    simp only [fn_X0_bestByOffering_83, heldIn hx1 (show x ≤ 11 by omega) (show S < 8 by omega), Option.bind_some, if_neg I1ne, clm (show x < 2 ^ 31 by omega), clm (show S < 2 ^ 31 by omega), if_neg (bd2 (show x < 12 by omega) (show 12 < 2 ^ 31 by decide)), if_neg (bd2 (show S < 8 by omega) (show 8 < 2 ^ 31 by decide))]
  · exact (show fn_X11_setBestOfOwners_89 k61 k69 sd_FU N (nI W) (nI s) (nI x) (nI S) 0 (-9) 0 = _ from b2).trans e2
theorem own_before {k61 : sd_Mem → Int32 → Int32 → Int32 → Option sd_Mem} {k69 : sd_Mem → Int32 → Int32 → Int32 → Int32 → Option sd_Mem} {x : Nat} {x1 x2 x4 : Int32} (ha : N.1 100 14 = nI a) (hax : x < a) (ha2 : a ≤ 10) : fn_X11_setBestOfOwners_89 k61 k69 sd_FU N x1 x2 (nI x) x4 0 (-9) 0 = fn_X11_setBestOfOwners_210 k61 k69 N x1 x2 (nI x) x4 0 (-9) := by
  rw [show sd_FU = 999 + 1 from rfl, fn_X11_setBestOfOwners_89, if_neg (by decide), ha, if_pos (nI_lt hax (by omega))]
theorem fin67o (q : Qr n c d v h l w M N) (lw : Lw a tw jw M N) {h1 : Nat} {k14 : sd_Mem → Int32 → Int32 → Option sd_Mem} {k22 : sd_Mem → Int32 → Int32 → Int32 → Option sd_Mem} {s x S : Nat} {U : Int64} (hs : s < n 1) (hx1 : 1 ≤ x) (hx : x ≤ l) (hS : S < 8) : fn_X0_weighOffering_67 h1 k14 k22 M (nI s) (nI x) (nI S) U = k22 (sd_setL M (64 + 1 + x) S (jv n c d v h l 1 s x S tw jw U)) (nI s) (nI x) (nI (S + 1)) := by
  have hl := q.2.2.2.1.1
  have e1 : fn_X0_judged M 1 (nI s) (nI x) (nI S) U = _ := juM q lw (z := 1) (by decide) hs hx hS U
  rw [fn_X0_weighOffering_67, e1, Option.bind_some, keepIn hx1 (by omega) hS, Option.bind_some, nI_1]
theorem fin237 (q : Qr n c d v h l w M N) (lw : Lw a tw jw M N) {k61 : sd_Mem → Int32 → Int32 → Int32 → Option sd_Mem} {k69 : sd_Mem → Int32 → Int32 → Int32 → Int32 → Option sd_Mem} {x1 x7 : Int32} {s x S : Nat} {U : Int64} (hs : s < n 1) (hx : x ≤ l) (hS : S < 8) : fn_X11_setBestOfOwners_237 k61 k69 N x1 (nI s) (nI x) (nI S) x7 U = k69 (sd_setL (sd_setI N 118 (8 * x + S) x7) 117 (8 * x + S) (jv n c d v h l 1 s x S tw jw U)) x1 (nI s) (nI x) (nI (S + 1)) := by
  have hl := q.2.2.2.1.1
  have kN : keepN [9] N (sd_setI N 118 (8 * x + S) x7) := keepN.I (by rw [rgN_o (by decide)]; decide) keepN.rf
  have q' := q.keep keepM.rf kN (show 4 ∉ [9] by decide)
  have lw' := lw.keep keepM.rf kN (show 5 ∉ [9] by decide)
  have e1 : fn_X11_byJudge (sd_setI N 118 (8 * x + S) x7) 1 (nI s) (nI x) (nI S) = _ := juN q' lw' (z := 1) (by decide) hs hx hS
  have b := bd2 (show 8 * x + S < 96 by omega) (show 96 < 2 ^ 31 by decide)
  rw [fn_X11_setBestOfOwners_237, ix8, clm (show 8 * x + S < 2 ^ 31 by omega), if_neg b, e1, Option.bind_some, if_neg b, lw'.2.1.2.2, nI_1]
  rfl
theorem own_sets {M0 N0 : sd_Mem} (q0 : Qr n c d v h l w M0 N0) (p0 : Wn W O M0 N0) (lw0 : Lw a tw jw M0 N0) {k14 : sd_Mem → Int32 → Int32 → Option sd_Mem} {k61 : sd_Mem → Int32 → Int32 → Int32 → Option sd_Mem} {s x : Nat} (hs : s < n 1) (hx1 : 1 ≤ x) (hx : x ≤ l) : ∀ (f S : Nat) (M N : sd_Mem), S ≤ 2 ^ n 0 → 2 ^ n 0 - S < f → keepM [9] M0 M → keepN [9] N0 N → Tb (2 ^ n 0) l x S M N → Of a (2 ^ n 0) l x S M N → ∃ M' N' : sd_Mem, fn_X0_weighOffering_22 (23 + 1 + 2 * W) k14 f M (nI s) (nI x) (nI S) = k14 M' (nI s) (nI x + -1) ∧ fn_X11_setBestOfOwners_69 k61 f N (nI W) (nI s) (nI x) (nI S) = k61 N' (nI W) (nI s) (nI x + -1) ∧ keepM [9] M0 M' ∧ keepN [9] N0 N' ∧ Tb (2 ^ n 0) l x (2 ^ n 0) M' N' ∧ Of a (2 ^ n 0) l x (2 ^ n 0) M' N' := by
  have hl := q0.2.2.2.1.1
  have hn := (q0.1 0 (by decide)).1
  have hK8 := two_le _ hn.2
  have hK1 := pow_ge _ hn.2
  intro f
  induction f with
  | zero => intro S M N h1 h2; omega
  | succ f ih =>
    intro S M N h1 h2 kM kN tb ofr
    have q := q0.keep kM kN (show 4 ∉ [9] by decide)
    have p := p0.keep kM kN (show 3 ∉ [9] by decide)
    have lw := lw0.keep kM kN (show 5 ∉ [9] by decide)
    have ha := lw.1.1
    have e1 : fn_X5_everySort M 40 0 = _ := everyM q (z := 0) (by decide)
    have e2 : fn_X11_whoAll N 0 = _ := whoAllN q (z := 0) (by decide)
    unfold fn_X0_weighOffering_22 fn_X11_setBestOfOwners_69
    rw [e1, e2, Option.bind_some, Option.bind_some]
    by_cases hS : S = 2 ^ n 0
    · rw [if_pos (nI_lt (show 2 ^ n 0 - 1 < S by omega) (by omega)), if_pos (nI_lt (show 2 ^ n 0 - 1 < S by omega) (by omega))]
      exact ⟨M, N, rfl, rfl, kM, kN, by rw [hS] at tb; exact tb, by rw [hS] at ofr; exact ofr⟩
    · have hS2 : S < 2 ^ n 0 := by omega
      have hS8 : S < 8 := by omega
      have ns : ¬ nI (2 ^ n 0 - 1) < nI S := nI_nlt (show S ≤ 2 ^ n 0 - 1 by omega) (by omega)
      rw [if_neg ns, if_neg ns, lw.1.2.1]
      by_cases hax : a ≤ x
      · obtain ⟨V, g', hg, v2, v3⟩ := own_first q p (k61 := k61) (k69 := fn_X11_setBestOfOwners_69 k61 f) hs hS2 hx1 hx lw.1.2.2 hax tb
        have kM1 : keepM [9] M (sd_setI M (77 + 1 + x) S (nI g')) := keepM.I (by rw [rg_off _ (by omega)]; decide) keepM.rf
        have q' := q.keep kM1 keepN.rf (show 4 ∉ [9] by decide)
        have lw' := lw.keep kM1 keepN.rf (show 5 ∉ [9] by decide)
        rw [if_pos (nI_le hax (by omega)), v2, Option.bind_some]
        dsimp only
        rw [v3, fn_X11_setBestOfOwners_210, lw.1.2.2, if_pos (nI_le hax (by omega)), fin67o q' lw' hs hx1 hx hS8, fin237 q lw hs hx hS8]
        exact ih (S + 1) _ _ (by omega) (by omega) (keepM.L (by rw [rg_sum _ (by omega)]; decide) (kM.tr kM1)) (keepN.L (by rw [rgN_o (by decide)]; decide) (keepN.I (by rw [rgN_o (by decide)]; decide) kN)) (Tb.put (M := sd_setI M (77 + 1 + x) S (nI g')) (N := sd_setI N 118 (8 * x + S) (nI g')) tb hK8 hS2 _) (ofr.put hK8 hS2 hg)
      · rw [if_neg (nI_ge (by omega) (by omega)), nI_1 x, sumIn (show 1 ≤ x + 1 by omega) (show x + 1 ≤ 11 by omega) hS8, Option.bind_some, own_before lw.1.2.2 (by omega) ha.2, fn_X11_setBestOfOwners_210, lw.1.2.2, if_neg (nI_ge (by omega) (by omega)), nI_1 x, ix8, if_neg (bnd (show 8 * (x + 1) + S < 96 by omega) (by decide)), clm (show 8 * (x + 1) + S < 2 ^ 31 by omega), ← tb (x + 1) S (by omega) hS2 (Or.inl (by omega)), fin67o q lw hs hx1 hx hS8, fin237 q lw hs hx hS8]
        exact ih (S + 1) _ _ (by omega) (by omega) (keepM.L (by rw [rg_sum _ (by omega)]; decide) kM) (keepN.L (by rw [rgN_o (by decide)]; decide) (keepN.I (by rw [rgN_o (by decide)]; decide) kN)) (Tb.put (N := sd_setI N 118 (8 * x + S) (-9)) tb hK8 hS2 _) (ofr.skip hK8 hS2 (by omega))
theorem own_days {M0 N0 : sd_Mem} (q0 : Qr n c d v h l w M0 N0) (p0 : Wn W O M0 N0) (lw0 : Lw a tw jw M0 N0) {s : Nat} (hs : s < n 1) : ∀ (f x : Nat) (M N : sd_Mem), x ≤ l → x < f → keepM [9] M0 M → keepN [9] N0 N → Tb (2 ^ n 0) l x 0 M N → Of a (2 ^ n 0) l x 0 M N → ∃ M' N' : sd_Mem, fn_X0_weighOffering_14 (23 + 1 + 2 * W) f M (nI s) (nI x) = some M' ∧ fn_X11_setBestOfOwners_61 f N (nI W) (nI s) (nI x) = some N' ∧ keepM [9] M0 M' ∧ keepN [9] N0 N' ∧ Tb (2 ^ n 0) l 0 0 M' N' ∧ Of a (2 ^ n 0) l 0 0 M' N' := by
  have hl := q0.2.2.2.1.1
  have hn := (q0.1 0 (by decide)).1
  have hK8 := two_le _ hn.2
  intro f
  induction f with
  | zero => intro x M N h1 h2; omega
  | succ f ih =>
    intro x M N h1 h2 kM kN tb ofr
    unfold fn_X0_weighOffering_14 fn_X11_setBestOfOwners_61
    by_cases hx : x = 0
    · subst hx
      rw [if_pos (by decide), if_pos (by decide)]
      exact ⟨M, N, rfl, rfl, kM, kN, tb, ofr⟩
    · have nx : ¬ nI x < 1 := nI_nlt (b := 1) (by omega) (by omega)
      rw [if_neg nx, if_neg nx]
      obtain ⟨M', N', e1, e2, e3, e4, e5, e6⟩ := own_sets q0 p0 lw0 (k14 := fn_X0_weighOffering_14 (23 + 1 + 2 * W) f) (k61 := fn_X11_setBestOfOwners_61 f) hs (show 1 ≤ x by omega) h1 sd_FU 0 M N (Nat.zero_le _) (by rw [FU_eq]; omega) kM kN tb ofr
      obtain ⟨j, rfl⟩ : ∃ j, x = j + 1 := ⟨x - 1, by omega⟩
      rw [pk_m1] at e1 e2
      have e1 : fn_X0_weighOffering_22 (23 + 1 + 2 * W) (fn_X0_weighOffering_14 (23 + 1 + 2 * W) f) sd_FU M (nI s) (nI (j + 1)) 0 = _ := e1
      have e2 : fn_X11_setBestOfOwners_69 (fn_X11_setBestOfOwners_61 f) sd_FU N (nI W) (nI s) (nI (j + 1)) 0 = _ := e2
      rw [e1, e2]
      exact ih j M' N' (by omega) (by omega) e3 e4 e5.next e6.next
/-- the best of OWNERS, on both sides -/
theorem own_eq (q : Qr n c d v h l w M N) (p : Wn W O M N) (lw : Lw a tw jw M N) {s : Nat} (hs : s < n 1) : ∃ M' N' : sd_Mem, fn_X0_weighOffering M (23 + 1 + 2 * W) (nI s) = some M' ∧ fn_X11_setBestOfOwners N (nI W) (nI s) = some N' ∧ keepM [9] M M' ∧ keepN [9] N N' ∧ Tb (2 ^ n 0) l 0 0 M' N' ∧ Of a (2 ^ n 0) l 0 0 M' N' := by
  have hl := q.2.2.2.1.1
  have hn := (q.1 0 (by decide)).1
  have hK8 := two_le _ hn.2
  obtain ⟨M1, a1, a2, a3⟩ := endM q (z := 1) (by decide) hs sd_FU 0 M (by decide) (by decide) keepM.rf (fun S hS => by omega)
  obtain ⟨N1, b1, b2, b3⟩ := endN1 q hs (x1 := nI W) sd_FU 0 N (by decide) (by decide) keepN.rf (fun S hS => by omega)
  have tb : Tb (2 ^ n 0) l l 0 M1 N1 := fun y S h1 h2 h3 => by
    have : y = l + 1 := by omega
    subst this
    rw [a3 S (by omega), b3 S (by omega)]
  have ofr : Of a (2 ^ n 0) l l 0 M1 N1 := fun y S h0 h1 h2 h3 => by omega
  obtain ⟨M', N', e1, e2, e3, e4, e5, e6⟩ := own_days q p lw hs sd_FU l M1 N1 (Nat.le_refl _) (by rw [FU_eq]; omega) a2 b2 tb ofr
  refine ⟨M', N', ?_, ?_, e3, e4, e5, e6⟩
  · have a1 : fn_X0_endUnsettled M 1 (nI s) = some M1 := a1
    have q1 := q.keep a2 b2 (show 4 ∉ [9] by decide)
    unfold fn_X0_weighOffering fn_X0_weighOffering_0
    rw [a1, Option.bind_some, q1.2.2.2.1.2.1]
    exact e1
  · have b1 : fn_X11_setBestOfOwners N (nI W) (nI s) = _ := b1
    rw [b1]
    exact e2
end OF
