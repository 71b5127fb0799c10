theorem mx1 (G T : Int64) : (if T < G then G else T) = if lg_cmp G T < 0 then T else G := by
  by_cases h1 : G < T
  · rw [if_pos ((lg_cmp_lt G T).mpr h1), if_neg (fun h2 => by rw [Int64.lt_iff_toInt_lt] at h1 h2; omega)]
  · rw [if_neg (fun z => h1 ((lg_cmp_lt G T).mp z))]
    by_cases h2 : T < G
    · rw [if_pos h2]
    · rw [if_neg h2]
      rw [Int64.lt_iff_toInt_lt] at h1 h2
      rw [← Int64.toInt_inj]; omega
section TK
variable {n : Nat → Nat} {c d : Nat → Nat → Nat} {v h l w : Nat} {M N : sd_Mem} {W : Nat} {O : Nat → Nat → Nat} {a tw jw : Nat}
theorem part_loop (q : Qr n c d v h l w M N) (p : Wn W O M N) {k6 : Int32 → Int32 → Int32 → Int64 → Int32 → Option Int64} {x2 : Int32} {l5 : Int64} {S x y : Nat} (hS : S < 8) (hx1 : 1 ≤ x) (hx2 : x ≤ 10) : ∀ (f i P : Nat), i ≤ n 1 → n 1 - i < f → P < 2 ^ i → ∃ P' : Nat, P' < 2 ^ n 1 ∧ (S = 0 → P = 0 → P' = 0) ∧ fn_X0_bestByTaking_19 M (23 + 1 + 2 * W) k6 f x2 (nI x) (nI S) l5 (nI y) (nI P) (nI i) = fn_X0_bestByTaking_73 M (23 + 1 + 2 * W) k6 x2 (nI x) (nI S) l5 (nI y) (nI P') ∧ fn_X11_offering_6 N f (nI W) (nI S) (nI x) (nI y) (nI P) (nI i) = some (nI P') := by
  have hn := (q.1 1 (by decide)).1
  intro f
  induction f with
  | zero => intro i P h1 h2; omega
  | succ f ih =>
    intro i P h1 h2 h3
    unfold fn_X0_bestByTaking_19 fn_X11_offering_6
    rw [srt1Q q, Option.bind_some, if_neg g12, k1, (q.1 1 (by decide)).2.2.1]
    by_cases hi : i = n 1
    · subst hi
      rw [if_pos (nI_le (Nat.le_refl _) (by omega)), if_pos (nI_le (Nat.le_refl _) (by omega))]
      exact ⟨P, h3, fun _ z => z, rfl, rfl⟩
    · have hi2 : i < n 1 := by omega
      have h8 : P < 8 := Nat.lt_of_lt_of_le h3 (two_le i (by omega))
      obtain ⟨o1, o2, -⟩ := orb P h8 i (by omega) h3
      obtain ⟨m1, m2⟩ := wnM p (s := i) (by omega) hx1 hx2
      have lo : P < 2 ^ (i + 1) := by rw [Nat.pow_succ]; omega
      rw [if_neg (nI_ge hi2 (by omega)), if_neg (nI_ge hi2 (by omega)), conM hS (show i < 3 by omega), isIn_eq hS (show i < 3 by omega), Option.bind_some, Option.bind_some, nI_1 i, or0]
      by_cases hb : S.testBit i = true
      · rw [if_pos hb, if_neg I1ne, if_neg I1ne, m1, m2, Option.bind_some, Option.bind_some]
        by_cases g : nI (O i x) = nI y
        · rw [if_pos g, if_pos g, o1]
          obtain ⟨P', e1, e2, e3, e4⟩ := ih (i + 1) _ (by omega) (by omega) o2
          refine ⟨P', e1, fun z => ?_, e3, e4⟩
          rw [z, Nat.zero_testBit] at hb
          exact absurd hb (by decide)
        · rw [if_neg g, if_neg g]
          exact ih (i + 1) P (by omega) (by omega) lo
      · rw [if_neg hb, if_pos rfl, if_pos rfl]
        exact ih (i + 1) P (by omega) (by omega) lo
theorem men_wages (q : Qr n c d v h l w M N) (p : Wn W O M N) {k61 : sd_Mem → Int32 → Int32 → Int32 → Option sd_Mem} {k69 : sd_Mem → Int32 → Int32 → Int32 → Int32 → Option sd_Mem} {s S x k : Nat} (hs : s < n 0) (hS : S < 2 ^ n 1) (hx1 : 1 ≤ x) (hx : x ≤ l) (ha : N.1 100 14 = nI a) (hax : a ≤ x) (tb : Tb (2 ^ n 1) l x k M N) (tz : Tz l x k M) : ∀ (f y : Nat) (A : Int64), y ≤ 13 → 13 - y < f → ∃ V : Int64, (S = 0 → A = 0 → V = 0) ∧ fn_X0_bestByTaking_6 M (23 + 1 + 2 * W) f (nI s) (nI x) (nI S) A (nI y) = some V ∧ fn_X11_setBestOfMen_85 k61 k69 f N (nI W) (nI s) (nI x) (nI S) A (nI y) = fn_X11_setBestOfMen_193 k61 k69 N (nI W) (nI s) (nI x) (nI S) V := by
  have hl := q.2.2.2.1.1
  have hn := (q.1 1 (by decide)).1
  have h8 : S < 8 := Nat.lt_of_lt_of_le hS (two_le _ hn.2)
  intro f
  induction f with
  | zero => intro y A h1 h2; omega
  | succ f ih =>
    intro y A g1 g2
    unfold fn_X0_bestByTaking_6 fn_X11_setBestOfMen_85
    by_cases hy : y = 13
    · subst hy
      rw [if_pos (by decide), if_pos (by decide)]
      exact ⟨A, fun _ z => z, rfl, rfl⟩
    · have y12 : ¬ (12 : Int32) < nI y := nI_nlt (a := 12) (by omega) (by decide)
      obtain ⟨P, hP, hP0, e1, e2⟩ := part_loop q p (k6 := fn_X0_bestByTaking_6 M (23 + 1 + 2 * W) f) (x2 := nI s) (l5 := A) (S := S) (x := x) (y := y) h8 hx1 (by omega) sd_FU 0 0 (Nat.zero_le _) (by rw [FU_eq]; omega) (by decide)
      have hP8 : P < 8 := Nat.lt_of_lt_of_le hP (two_le _ hn.2)
      have e1 : fn_X0_bestByTaking_19 M (23 + 1 + 2 * W) (fn_X0_bestByTaking_6 M (23 + 1 + 2 * W) f) sd_FU (nI s) (nI x) (nI S) A (nI y) 0 0 = _ := e1
      have e2 : fn_X11_offering N (nI W) (nI S) (nI x) (nI y) = some (nI P) := e2
      have e3 : fn_X0_settled M 0 (nI s) (nI x) (nI P) (nI y) = _ := setM q (z := 0) (by decide) hs hx hP8 (nI y)
      have e4 : fn_X11_worthOf N 0 (nI s) (nI x) (nI y) = _ := payN q (z := 0) (by decide) hs (nI x) (nI y)
      have e5 : fn_X11_chances N 1 (nI P) = some (nI (acc P (c (1 - 0)) (n (1 - 0)))) := chancesN q (z := 1) (by decide) hP8
      have e6 : pv d v h 0 s (nI x) (nI y) * (nI (acc P (c (1 - 0)) (n (1 - 0)))).toInt64 * lN (12 ^ (l - x)) = sv n c d v h l 0 s x P (nI y) := rfl
      rw [if_neg y12, if_neg y12, ha, if_neg (nI_nlt hax (by omega)), e1, fn_X0_bestByTaking_73, e3, Option.bind_some, nI_1 x, sumIn (show 1 ≤ x + 1 by omega) (show x + 1 ≤ 11 by omega) hP8, Option.bind_some, e2, Option.bind_some, e4, Option.bind_some, e5, Option.bind_some, lastN q, Option.bind_some, sub1 hx, powN (l - x) (by omega), Option.bind_some, ix8, if_neg (bnd (show 8 * (x + 1) + P < 96 by omega) (by decide)), clm (show 8 * (x + 1) + P < 2 ^ 31 by omega), nI_1 y, ← tb (x + 1) P (by omega) hP (Or.inl (by omega)), e6, mx1]
      by_cases hp : P = 0
      · subst hp
        rw [if_pos n00, sv_zero, tz (x + 1) (by omega) (Or.inl (by omega))]
        have : (if lg_cmp 0 0 < 0 then (0 : Int64) else 0) = 0 := by split <;> rfl
        rw [this]
        obtain ⟨V, v1, v2, v3⟩ := ih (y + 1) (A + 0) (by omega) (by omega)
        exact ⟨V, fun z z2 => v1 z (by rw [z2]; rfl), v2, v3⟩
      · rw [if_neg (nI_ne0 (by omega) (by omega))]
        by_cases g : lg_cmp (sv n c d v h l 0 s x P (nI y)) (M.2 (64 + 1 + (x + 1)) P) < 0
        · rw [if_pos g, if_pos g]
          obtain ⟨V, v1, v2, v3⟩ := ih (y + 1) (A + M.2 (64 + 1 + (x + 1)) P) (by omega) (by omega)
          exact ⟨V, fun z => absurd (hP0 z rfl) hp, v2, v3⟩
        · rw [if_neg g, if_neg g]
          obtain ⟨V, v1, v2, v3⟩ := ih (y + 1) (A + sv n c d v h l 0 s x P (nI y)) (by omega) (by omega)
          exact ⟨V, fun z => absurd (hP0 z rfl) hp, v2, v3⟩
theorem men_before {k61 : sd_Mem → Int32 → Int32 → Int32 → Option sd_Mem} {k69 : sd_Mem → Int32 → Int32 → Int32 → Int32 → Option sd_Mem} {x : Nat} {x1 x2 x4 : Int32} (ha : N.1 100 14 = nI a) (hax : x < a) (ha2 : a ≤ 10) : fn_X11_setBestOfMen_85 k61 k69 sd_FU N x1 x2 (nI x) x4 0 0 = fn_X11_setBestOfMen_193 k61 k69 N x1 x2 (nI x) x4 0 := by
  rw [show sd_FU = 999 + 1 from rfl, fn_X11_setBestOfMen_85, if_neg (by decide), ha, if_pos (nI_lt hax (by omega))]
theorem fin67 (q : Qr n c d v h l w M N) (lw : Lw a tw jw M N) {h1 : Nat} {k14 : sd_Mem → Int32 → Int32 → Option sd_Mem} {k22 : sd_Mem → Int32 → Int32 → Int32 → Option sd_Mem} {s x S : Nat} {U : Int64} (hs : s < n 0) (hx1 : 1 ≤ x) (hx : x ≤ l) (hS : S < 8) : fn_X0_weighTaking_67 h1 k14 k22 M (nI s) (nI x) (nI S) U = k22 (sd_setL M (64 + 1 + x) S (jv n c d v h l 0 s x S tw jw U)) (nI s) (nI x) (nI (S + 1)) := by
  have hl := q.2.2.2.1.1
  have e1 : fn_X0_judged M 0 (nI s) (nI x) (nI S) U = _ := juM q lw (z := 0) (by decide) hs hx hS U
  rw [fn_X0_weighTaking_67, e1, Option.bind_some, keepIn hx1 (by omega) hS, Option.bind_some, nI_1]
theorem fin220 (q : Qr n c d v h l w M N) (lw : Lw a tw jw M N) {k61 : sd_Mem → Int32 → Int32 → Int32 → Option sd_Mem} {k69 : sd_Mem → Int32 → Int32 → Int32 → Int32 → Option sd_Mem} {x1 : Int32} {s x S : Nat} {U : Int64} (hs : s < n 0) (hx : x ≤ l) (hS : S < 8) : fn_X11_setBestOfMen_220 k61 k69 N x1 (nI s) (nI x) (nI S) U = k69 (sd_setL N 117 (8 * x + S) (jv n c d v h l 0 s x S tw jw U)) x1 (nI s) (nI x) (nI (S + 1)) := by
  have hl := q.2.2.2.1.1
  have e1 : fn_X11_byJudge N 0 (nI s) (nI x) (nI S) = _ := juN q lw (z := 0) (by decide) hs hx hS
  rw [fn_X11_setBestOfMen_220, e1, Option.bind_some, ix8, if_neg (bnd (show 8 * x + S < 96 by omega) (by decide)), clm (show 8 * x + S < 2 ^ 31 by omega), lw.2.1.2.2, nI_1]
  rfl
theorem men_sets {M0 N0 : sd_Mem} (q0 : Qr n c d v h l w M0 N0) (p0 : Wn W O M0 N0) (lw0 : Lw a tw jw M0 N0) {k14 : sd_Mem → Int32 → Int32 → Option sd_Mem} {k61 : sd_Mem → Int32 → Int32 → Int32 → Option sd_Mem} {s x : Nat} (hs : s < n 0) (hx1 : 1 ≤ x) (hx : x ≤ l) : ∀ (f S : Nat) (M N : sd_Mem), S ≤ 2 ^ n 1 → 2 ^ n 1 - S < f → keepM [9] M0 M → keepN [9] N0 N → Tb (2 ^ n 1) l x S M N → Tz l x S M → ∃ M' N' : sd_Mem, fn_X0_weighTaking_22 (23 + 1 + 2 * W) k14 f M (nI s) (nI x) (nI S) = k14 M' (nI s) (nI x + -1) ∧ fn_X11_setBestOfMen_69 k61 f N (nI W) (nI s) (nI x) (nI S) = k61 N' (nI W) (nI s) (nI x + -1) ∧ keepM [9] M0 M' ∧ keepN [9] N0 N' ∧ Tb (2 ^ n 1) l x (2 ^ n 1) M' N' ∧ Tz l x (2 ^ n 1) M' := by
  have hl := q0.2.2.2.1.1
  have hn := (q0.1 1 (by decide)).1
  have hK8 := two_le _ hn.2
  have hK1 := pow_ge _ hn.2
  intro f
  induction f with
  | zero => intro S M N h1 h2; omega
  | succ f ih =>
    intro S M N h1 h2 kM kN tb tz
    have q := q0.keep kM kN (show 4 ∉ [9] by decide)
    have p := p0.keep kM kN (show 3 ∉ [9] by decide)
    have lw := lw0.keep kM kN (show 5 ∉ [9] by decide)
    have ha := lw.1.1
    have e1 : fn_X5_everySort M 40 1 = _ := everyM q (z := 1) (by decide)
    have e2 : fn_X11_whoAll N 1 = _ := whoAllN q (z := 1) (by decide)
    unfold fn_X0_weighTaking_22 fn_X11_setBestOfMen_69
    rw [e1, e2, Option.bind_some, Option.bind_some]
    by_cases hS : S = 2 ^ n 1
    · rw [if_pos (nI_lt (show 2 ^ n 1 - 1 < S by omega) (by omega)), if_pos (nI_lt (show 2 ^ n 1 - 1 < S by omega) (by omega))]
      exact ⟨M, N, rfl, rfl, kM, kN, by rw [hS] at tb; exact tb, by rw [hS] at tz; exact tz⟩
    · have hS2 : S < 2 ^ n 1 := by omega
      have hS8 : S < 8 := by omega
      have ns : ¬ nI (2 ^ n 1 - 1) < nI S := nI_nlt (show S ≤ 2 ^ n 1 - 1 by omega) (by omega)
      rw [if_neg ns, if_neg ns, lw.1.2.1]
      have go : ∀ U : Int64, (S = 0 → U = 0) → ∃ M' N' : sd_Mem, fn_X0_weighTaking_67 (23 + 1 + 2 * W) k14 (fn_X0_weighTaking_22 (23 + 1 + 2 * W) k14 f) M (nI s) (nI x) (nI S) U = k14 M' (nI s) (nI x + -1) ∧ fn_X11_setBestOfMen_220 k61 (fn_X11_setBestOfMen_69 k61 f) N (nI W) (nI s) (nI x) (nI S) U = k61 N' (nI W) (nI s) (nI x + -1) ∧ keepM [9] M0 M' ∧ keepN [9] N0 N' ∧ Tb (2 ^ n 1) l x (2 ^ n 1) M' N' ∧ Tz l x (2 ^ n 1) M' := by
        intro U hU
        rw [fin67 q lw hs hx1 hx hS8, fin220 q lw hs hx hS8]
        refine ih (S + 1) _ _ (by omega) (by omega) (keepM.L (by rw [rg_sum _ (by omega)]; decide) kM) (keepN.L (by rw [rgN_o (by decide)]; decide) kN) (tb.put hK8 hS2 _) (tz.put fun z => ?_)
        rw [hU z, z]; exact jv_zero
      by_cases hax : a ≤ x
      · obtain ⟨V, v1, v2, v3⟩ := men_wages q p (k61 := k61) (k69 := fn_X11_setBestOfMen_69 k61 f) hs hS2 hx1 hx lw.1.2.2 hax tb tz sd_FU 0 0 (by decide) (by decide)
        have v2 : fn_X0_bestByTaking M (23 + 1 + 2 * W) (nI s) (nI x) (nI S) = some V := v2
        have v3 : fn_X11_setBestOfMen_85 k61 (fn_X11_setBestOfMen_69 k61 f) sd_FU N (nI W) (nI s) (nI x) (nI S) 0 0 = _ := v3
        rw [if_pos (nI_le hax (by omega)), v2, Option.bind_some, v3, fn_X11_setBestOfMen_193, lw.1.2.2, if_pos (nI_le hax (by omega))]
        exact go V (fun z => v1 z rfl)
      · rw [if_neg (nI_ge (by omega) (by omega)), nI_1 x, sumIn (show 1 ≤ x + 1 by omega) (show x + 1 ≤ 11 by omega) hS8, Option.bind_some, men_before lw.1.2.2 (by omega) ha.2, fn_X11_setBestOfMen_193, lw.1.2.2, if_neg (nI_ge (by omega) (by omega)), nI_1 x, ix8, if_neg (bnd (show 8 * (x + 1) + S < 96 by omega) (by decide)), clm (show 8 * (x + 1) + S < 2 ^ 31 by omega), ← tb (x + 1) S (by omega) hS2 (Or.inl (by omega))]
        exact go _ (fun z => by rw [z]; exact tz (x + 1) (by omega) (Or.inl (by omega)))
theorem men_days {M0 N0 : sd_Mem} (q0 : Qr n c d v h l w M0 N0) (p0 : Wn W O M0 N0) (lw0 : Lw a tw jw M0 N0) {s : Nat} (hs : s < n 0) : ∀ (f x : Nat) (M N : sd_Mem), x ≤ l → x < f → keepM [9] M0 M → keepN [9] N0 N → Tb (2 ^ n 1) l x 0 M N → Tz l x 0 M → ∃ M' N' : sd_Mem, fn_X0_weighTaking_14 (23 + 1 + 2 * W) f M (nI s) (nI x) = some M' ∧ fn_X11_setBestOfMen_61 f N (nI W) (nI s) (nI x) = some N' ∧ keepM [9] M0 M' ∧ keepN [9] N0 N' ∧ Tb (2 ^ n 1) l 0 0 M' N' := by
  have hl := q0.2.2.2.1.1
  have hn := (q0.1 1 (by decide)).1
  have hK8 := two_le _ hn.2
  have hK1 := pow_ge _ hn.2
  intro f
  induction f with
  | zero => intro x M N h1 h2; omega
  | succ f ih =>
    intro x M N h1 h2 kM kN tb tz
    unfold fn_X0_weighTaking_14 fn_X11_setBestOfMen_61
    by_cases hx : x = 0
    · subst hx
      rw [if_pos (by decide), if_pos (by decide)]
      exact ⟨M, N, rfl, rfl, kM, kN, tb⟩
    · have nx : ¬ nI x < 1 := nI_nlt (b := 1) (by omega) (by omega)
      rw [if_neg nx, if_neg nx]
      obtain ⟨M', N', e1, e2, e3, e4, e5, e6⟩ := men_sets q0 p0 lw0 (k14 := fn_X0_weighTaking_14 (23 + 1 + 2 * W) f) (k61 := fn_X11_setBestOfMen_61 f) hs (show 1 ≤ x by omega) h1 sd_FU 0 M N (Nat.zero_le _) (by rw [FU_eq]; omega) kM kN tb tz
      obtain ⟨j, rfl⟩ : ∃ j, x = j + 1 := ⟨x - 1, by omega⟩
      rw [pk_m1] at e1 e2
      have e1 : fn_X0_weighTaking_22 (23 + 1 + 2 * W) (fn_X0_weighTaking_14 (23 + 1 + 2 * W) f) sd_FU M (nI s) (nI (j + 1)) 0 = _ := e1
      have e2 : fn_X11_setBestOfMen_69 (fn_X11_setBestOfMen_61 f) sd_FU N (nI W) (nI s) (nI (j + 1)) 0 = _ := e2
      rw [e1, e2]
      exact ih j M' N' (by omega) (by omega) e3 e4 e5.next (e6.next (by omega))
/-- the best of MEN, on both sides -/
theorem men_eq (q : Qr n c d v h l w M N) (p : Wn W O M N) (lw : Lw a tw jw M N) {s : Nat} (hs : s < n 0) : ∃ M' N' : sd_Mem, fn_X0_weighTaking M (23 + 1 + 2 * W) (nI s) = some M' ∧ fn_X11_setBestOfMen N (nI W) (nI s) = some N' ∧ keepM [9] M M' ∧ keepN [9] N N' ∧ Tb (2 ^ n 1) l 0 0 M' N' := by
  have hl := q.2.2.2.1.1
  have hn := (q.1 1 (by decide)).1
  have hK8 := two_le _ hn.2
  obtain ⟨M1, a1, a2, a3⟩ := endM q (z := 0) (by decide) hs sd_FU 0 M (by decide) (by decide) keepM.rf (fun S hS => by omega)
  obtain ⟨N1, b1, b2, b3⟩ := endN0 q hs (x1 := nI W) sd_FU 0 N (by decide) (by decide) keepN.rf (fun S hS => by omega)
  have tb : Tb (2 ^ n 1) l l 0 M1 N1 := fun y S h1 h2 h3 => by
    have : y = l + 1 := by omega
    subst this
    rw [a3 S (by omega), b3 S (by omega)]
  have tz : Tz l l 0 M1 := fun y h1 h2 => by
    have : y = l + 1 := by omega
    subst this
    rw [a3 0 (by decide), ev_zero]
  obtain ⟨M', N', e1, e2, e3, e4, e5⟩ := men_days q p lw hs sd_FU l M1 N1 (Nat.le_refl _) (by rw [FU_eq]; omega) a2 b2 tb tz
  refine ⟨M', N', ?_, ?_, e3, e4, e5⟩
  · have a1 : fn_X0_endUnsettled M 0 (nI s) = some M1 := a1
    have q1 := q.keep a2 b2 (show 4 ∉ [9] by decide)
    unfold fn_X0_weighTaking fn_X0_weighTaking_0
    rw [a1, Option.bind_some, q1.2.2.2.1.2.1]
    exact e1
  · have b1 : fn_X11_setBestOfMen N (nI W) (nI s) = _ := b1
    rw [b1]
    exact e2
end TK
