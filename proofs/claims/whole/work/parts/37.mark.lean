def mxf (v : Nat → Int32) : Nat → Int32
  | 0 => 0
  | i + 1 => if mxf v i < v i then v i else mxf v i
def mnf (s : Int32) (v : Nat → Int32) : Nat → Int32
  | 0 => s
  | i + 1 => if v i < mnf s v i then v i else mnf s v i
def smf (v : Nat → Int32) : Nat → Int32
  | 0 => 0
  | i + 1 => smf v i + v i
theorem mnf_eq {v : Nat → Int32} (hv : ∃ n : Nat, n ≤ 13 ∧ v 0 = nI n) : ∀ i, mnf 99 v (i + 1) = mnf 13 v (i + 1)
  | 0 => by
    obtain ⟨n, hn, e⟩ := hv
    show (if v 0 < 99 then v 0 else 99) = (if v 0 < 13 then v 0 else 13)
    rw [e]
    exact (show ∀ n, n ≤ 13 → (if nI n < 99 then nI n else (99 : Int32)) = (if nI n < 13 then nI n else 13) by decide) n hn
  | i + 1 => by
    rw [mnf, mnf_eq hv i, ← mnf]
theorem le_if {a b : Int32} {α : Type} (x y : α) : (if a ≤ b then x else y) = (if b < a then y else x) := by
  by_cases h : a ≤ b
  · rw [if_pos h, if_neg (Int32.not_lt.mpr h)]
  · rw [if_neg h, if_pos (Int32.not_le.mp h)]
section MK
variable {M N : sd_Mem} {w : Nat}
theorem grM {h : Nat} : ∀ (f i : Nat), i ≤ 30 → 30 - i < f → fn_X9_greatest_13 M h f (mxf (M.1 (h + 1)) i) 30 (nI i) = some (mxf (M.1 (h + 1)) 30) := by
  intro f
  induction f with
  | zero => intro i h1 h2; omega
  | succ f ih =>
    intro i h1 h2
    unfold fn_X9_greatest_13
    by_cases hi : i = 30
    · subst hi; rw [if_pos (by decide)]
    · rw [if_neg (show ¬ (30 : Int32) ≤ nI i from nI_ge (b := 30) (by omega) (by decide)), clm (show i < 2 ^ 31 by omega), if_neg (bd2 (show i < 30 by omega) (by decide)), nI_1]
      exact ih (i + 1) (by omega) (by omega)
theorem leM {h : Nat} : ∀ (f i : Nat), i ≤ 30 → 30 - i < f → fn_X9_least_14 M h f (mnf 13 (M.1 (h + 1)) i) 30 (nI i) = some (mnf 13 (M.1 (h + 1)) 30) := by
  intro f
  induction f with
  | zero => intro i h1 h2; omega
  | succ f ih =>
    intro i h1 h2
    unfold fn_X9_least_14
    by_cases hi : i = 30
    · subst hi; rw [if_pos (by decide)]
    · rw [if_neg (show ¬ (30 : Int32) ≤ nI i from nI_ge (b := 30) (by omega) (by decide)), clm (show i < 2 ^ 31 by omega), if_neg (bd2 (show i < 30 by omega) (by decide)), nI_1]
      exact ih (i + 1) (by omega) (by omega)
theorem suM {h : Nat} : ∀ (f i : Nat), i ≤ 30 → 30 - i < f → fn_X9_sum_13 M h f (smf (M.1 (h + 1)) i) 30 (nI i) = some (smf (M.1 (h + 1)) 30) := by
  intro f
  induction f with
  | zero => intro i h1 h2; omega
  | succ f ih =>
    intro i h1 h2
    unfold fn_X9_sum_13
    by_cases hi : i = 30
    · subst hi; rw [if_pos (by decide)]
    · rw [if_neg (show ¬ (30 : Int32) ≤ nI i from nI_ge (b := 30) (by omega) (by decide)), clm (show i < 2 ^ 31 by omega), if_neg (bd2 (show i < 30 by omega) (by decide)), nI_1]
      exact ih (i + 1) (by omega) (by omega)
theorem mkN {v : Nat → Int32} {x2 : Int32} (hw : w < 8) (hv : ∀ i, i < 30 → N.1 116 (30 * w + i) = v i) : ∀ (f i : Nat), i ≤ 30 → 30 - i < f → fn_X11_mark_70 f N (nI w) x2 (smf v i) (mnf 99 v i) (mxf v i) (nI (30 * w + i)) = fn_X11_mark_152 N x2 (smf v 30) (mnf 99 v 30) (mxf v 30) := by
  intro f
  induction f with
  | zero => intro i h1 h2; omega
  | succ f ih =>
    intro i h1 h2
    unfold fn_X11_mark_70
    have e30 : (30 : Int32) * nI w + 30 = nI (30 * w + 30) := ix (a := 30) (k := 30) rfl
    rw [e30]
    by_cases hi : i = 30
    · subst hi; rw [if_pos (nI_le (Nat.le_refl _) (by omega))]
    · rw [if_neg (nI_ge (by omega) (by omega)), clm (show 30 * w + i < 2 ^ 31 by omega), if_neg (bd2 (show 30 * w + i < 240 by omega) (by decide)), if_neg (bd2 (show 30 * w + i < 240 by omega) (by decide)), if_neg (bd2 (show 30 * w + i < 240 by omega) (by decide)), hv i (by omega)]
      have step := ih (i + 1) (by omega) (by omega)
      rw [smf, mnf, mxf] at step
      unfold fn_X11_mark_118
      rw [nI_1, clm (show 30 * w + i < 2 ^ 31 by omega), if_neg (bd2 (show 30 * w + i < 240 by omega) (by decide)), if_neg (bd2 (show 30 * w + i < 240 by omega) (by decide)), if_neg (bd2 (show 30 * w + i < 240 by omega) (by decide)), if_neg (bd2 (show 30 * w + i < 240 by omega) (by decide)), hv i (by omega)]
      rw [le_if, le_if, le_if]
      by_cases g1 : v i < mnf 99 v i
      · by_cases g2 : mxf v i < v i
        · rw [if_pos g1, if_pos g2] at step ⊢; exact step
        · rw [if_pos g1, if_neg g2] at step ⊢; exact step
      · by_cases g2 : mxf v i < v i
        · rw [if_neg g1, if_pos g2] at step ⊢; exact step
        · rw [if_neg g1, if_neg g2] at step ⊢; exact step
end MK
/-! how many SORTS carry -/
def bits (S : Nat) : Nat := S % 2 + S / 2 % 2 + S / 4 % 2
def mxb : Nat → Nat
  | 0 => 0
  | S + 1 => if mxb S < bits S then bits S else mxb S
theorem mxb_end : ∀ n, n ≤ 3 → 1 ≤ n → mxb (2 ^ n) = n := by decide
theorem mxb_le : ∀ S, S ≤ 8 → mxb S ≤ 3 := by decide
theorem bits_le : ∀ S, S < 8 → bits S ≤ 3 := by decide
theorem bc : ∀ S, S < 8 → fn_J6_bitCount_0f7a4 (nI S) = some (nI (bits S)) := by decide +kernel
theorem bN : ∀ S, S < 8 → ((nI S &&& 1) + ((nI S >>> ((1 : Int32) &&& 31)) &&& 1)) + ((nI S >>> ((2 : Int32) &&& 31)) &&& 1) = nI (bits S) := by decide +kernel
section QRS8
variable {n : Nat → Nat} {c d : Nat → Nat → Nat} {v h l w : Nat} {M N : sd_Mem}
/-- the least number of SORTS that carry, of the sets below S -/
def lc (s : Nat) (tot : Nat) (c0 : Nat → Nat) (n0 : Nat) : Nat → Nat
  | 0 => s
  | S + 1 => if tot < 2 * acc S c0 n0 then (if bits S < lc s tot c0 n0 S then bits S else lc s tot c0 n0 S) else lc s tot c0 n0 S
theorem lc_le {s tot : Nat} {c0 : Nat → Nat} {n0 : Nat} (hs : s ≤ 3) : ∀ S, lc s tot c0 n0 S ≤ 3
  | 0 => hs
  | S + 1 => by
    have := lc_le (tot := tot) (c0 := c0) (n0 := n0) hs S
    rw [lc]
    split
    · split
      · omega
      · exact this
    · exact this
theorem lc_min {s tot : Nat} {c0 : Nat → Nat} {n0 : Nat} (hs : s ≤ 3) : ∀ S, lc s tot c0 n0 S = min s (lc 3 tot c0 n0 S)
  | 0 => by rw [lc, lc, Nat.min_eq_left hs]
  | S + 1 => by
    have h1 := lc_min (tot := tot) (c0 := c0) (n0 := n0) hs S
    rw [lc, lc, h1]
    split
    · split <;> split <;> omega
    · rfl
theorem carryM (q : Qr n c d v h l w M N) {W : Nat} (hW : W ≤ 27) : fn_X5_carries M 40 (nI W) = some (if sum1 (c 0) (n 0) < 2 * W then 1 else 0) := by
  have hn0 := (q.1 0 (by decide)).1
  have hs0 := sum1_le (c := c 0) (k := n 0) (fun s hs => ((q.1 0 (by decide)).2.2.2.2 s hs).1.2)
  have t1 : fn_X5_total M 40 0 = _ := totM q (z := 0) (by decide)
  have m2 : (2 : Int32) * nI W = nI (2 * W) := by rw [show (2 : Int32) = nI 2 from rfl, pk_mul]
  simp only [fn_X5_carries, fn_X5_carries_0, t1, Option.bind_some, m2]
  by_cases g : sum1 (c 0) (n 0) < 2 * W
  · rw [if_neg (nI_ge g (by omega)), if_pos g]
  · rw [if_pos (nI_le (by omega) (by omega)), if_neg g]
theorem stc_loop (q : Qr n c d v h l w M N) : ∀ (f S : Nat), S ≤ 2 ^ n 0 → 2 ^ n 0 - S < f → fn_X5_sortsToCarry_8 M 40 f (nI (lc (n 0) (sum1 (c 0) (n 0)) (c 0) (n 0) S)) (nI S) = some (nI (lc (n 0) (sum1 (c 0) (n 0)) (c 0) (n 0) (2 ^ n 0))) := by
  have hn0 := (q.1 0 (by decide)).1
  have h8 : 2 ^ n 0 ≤ 8 := two_le _ hn0.2
  have hp : 0 < 2 ^ n 0 := Nat.two_pow_pos _
  intro f
  induction f with
  | zero => intro S h1 h2; omega
  | succ f ih =>
    intro S h1 h2
    unfold fn_X5_sortsToCarry_8
    have ev : fn_X5_everySort M 40 0 = _ := everyM q (z := 0) (by decide)
    rw [ev, Option.bind_some]
    by_cases hS : S = 2 ^ n 0
    · rw [hS, if_pos (nI_lt (by omega) (by omega))]
    · have hS8 : S < 8 := by omega
      have we : fn_X5_weight M 40 0 (nI S) = _ := weightM q (z := 0) (by decide) hS8
      have al := acc_le (S := S) (c := c 0) (k := n 0) hn0.2 (fun s hs => ((q.1 0 (by decide)).2.2.2.2 s hs).1.2)
      have bl := bits_le S hS8
      have ll := lc_le (tot := sum1 (c 0) (n 0)) (c0 := c 0) (n0 := n 0) hn0.2 S
      rw [if_neg (nI_nlt (by omega) (by omega)), we, Option.bind_some, carryM q (by omega), Option.bind_some, bc S hS8, nI_1]
      have step := ih (S + 1) (by omega) (by omega)
      rw [lc] at step
      by_cases g : sum1 (c 0) (n 0) < 2 * acc S (c 0) (n 0)
      · rw [if_pos g, if_neg I1ne, Option.bind_some]
        rw [if_pos g] at step
        by_cases g2 : bits S < lc (n 0) (sum1 (c 0) (n 0)) (c 0) (n 0) S
        · rw [if_pos (nI_lt g2 (by omega))]
          rw [if_pos g2] at step
          exact step
        · rw [if_neg (nI_nlt (by omega) (by omega))]
          rw [if_neg g2] at step
          exact step
      · rw [if_neg g, if_pos rfl]
        rw [if_neg g] at step
        exact step
theorem acc0 {c0 : Nat → Nat} : ∀ k, acc 0 c0 k = 0
  | 0 => rfl
  | k + 1 => by rw [acc, acc0 k]; simp
theorem lc1 {s tot : Nat} {c0 : Nat → Nat} {n0 : Nat} : lc s tot c0 n0 1 = s := by
  rw [lc, acc0, if_neg (by omega), lc]
theorem needN (q : Qr n c d v h l w M N) : ∀ (f S : Nat), S ≤ 2 ^ n 0 → 2 ^ n 0 - S < f → fn_X11_needed_6 N f (nI (mxb S)) (nI (lc 3 (sum1 (c 0) (n 0)) (c 0) (n 0) S)) (nI S) = fn_X11_needed_85 N (nI (mxb (2 ^ n 0))) (nI (lc 3 (sum1 (c 0) (n 0)) (c 0) (n 0) (2 ^ n 0))) := by
  have hn0 := (q.1 0 (by decide)).1
  have h8 : 2 ^ n 0 ≤ 8 := two_le _ hn0.2
  have hp : 0 < 2 ^ n 0 := Nat.two_pow_pos _
  have hs0 := sum1_le (c := c 0) (k := n 0) (fun s hs => ((q.1 0 (by decide)).2.2.2.2 s hs).1.2)
  intro f
  induction f with
  | zero => intro S h1 h2; omega
  | succ f ih =>
    intro S h1 h2
    unfold fn_X11_needed_6
    have ev : fn_X11_whoAll N 0 = _ := whoAllN q (z := 0) (by decide)
    have tt : fn_X11_chances N 0 _ = _ := totN q (z := 0) (by decide)
    rw [ev, Option.bind_some]
    by_cases hS : S = 2 ^ n 0
    · rw [hS, if_pos (nI_lt (by omega) (by omega))]
    · have hS8 : S < 8 := by omega
      have we : fn_X11_chances N 0 (nI S) = _ := chancesN q (z := 0) (by decide) hS8
      have al := acc_le (S := S) (c := c 0) (k := n 0) hn0.2 (fun s hs => ((q.1 0 (by decide)).2.2.2.2 s hs).1.2)
      have bl := bits_le S hS8
      have ml := mxb_le S (by omega)
      have ll := lc_le (s := 3) (tot := sum1 (c 0) (n 0)) (c0 := c 0) (n0 := n 0) (by decide) S
      have m2 : (2 : Int32) * nI (acc S (c 0) (n 0)) = nI (2 * acc S (c 0) (n 0)) := by rw [show (2 : Int32) = nI 2 from rfl, pk_mul]
      rw [if_neg (nI_nlt (by omega) (by omega)), we, Option.bind_some, Option.bind_some, tt, Option.bind_some, m2, bN S hS8]
      unfold fn_X11_needed_65
      rw [nI_1]
      have step := ih (S + 1) (by omega) (by omega)
      rw [lc, mxb] at step
      simp only [le_if]
      have q1 : (nI (sum1 (c 0) (n 0)) < nI (2 * acc S (c 0) (n 0))) = (sum1 (c 0) (n 0) < 2 * acc S (c 0) (n 0)) := propext (nI_ltI (by omega) (by omega))
      have q2 : (nI (bits S) < nI (lc 3 (sum1 (c 0) (n 0)) (c 0) (n 0) S)) = (bits S < lc 3 (sum1 (c 0) (n 0)) (c 0) (n 0) S) := propext (nI_ltI (by omega) (by omega))
      have q3 : (nI (mxb S) < nI (bits S)) = (mxb S < bits S) := propext (nI_ltI (by omega) (by omega))
      simp only [q1, q2, q3]
      by_cases g1 : sum1 (c 0) (n 0) < 2 * acc S (c 0) (n 0)
      · by_cases g2 : bits S < lc 3 (sum1 (c 0) (n 0)) (c 0) (n 0) S
        · by_cases g3 : mxb S < bits S
          · rw [if_pos g1, if_pos g2, if_pos g3] at step ⊢; exact step
          · rw [if_pos g1, if_pos g2, if_neg g3] at step ⊢; exact step
        · by_cases g3 : mxb S < bits S
          · rw [if_pos g1, if_neg g2, if_pos g3] at step ⊢; exact step
          · rw [if_pos g1, if_neg g2, if_neg g3] at step ⊢; exact step
      · by_cases g3 : mxb S < bits S
        · rw [if_neg g1, if_pos g3] at step ⊢; exact step
        · rw [if_neg g1, if_neg g3] at step ⊢; exact step
theorem need_eq (q : Qr n c d v h l w M N) : ∃ r : Int32, fn_X5_sortsToCarry M 40 = some r ∧ fn_X11_needed N = some r := by
  have hn0 := (q.1 0 (by decide)).1
  have hp : 0 < 2 ^ n 0 := Nat.two_pow_pos _
  have h8 : 2 ^ n 0 ≤ 8 := two_le _ hn0.2
  refine ⟨nI (lc (n 0) (sum1 (c 0) (n 0)) (c 0) (n 0) (2 ^ n 0)), ?_, ?_⟩
  · have e := stc_loop q sd_FU 1 (by omega) (by rw [FU_eq]; omega)
    rw [lc1] at e
    unfold fn_X5_sortsToCarry fn_X5_sortsToCarry_0
    rw [srt0Q q, Option.bind_some]
    exact e
  · have e := needN q sd_FU 0 (by omega) (by rw [FU_eq]; omega)
    have ll := lc_le (s := 3) (tot := sum1 (c 0) (n 0)) (c0 := c 0) (n0 := n 0) (by decide) (2 ^ n 0)
    rw [lc_min hn0.2]
    refine Eq.trans e ?_
    rw [mxb_end _ hn0.2 hn0.1, fn_X11_needed_85]
    by_cases g : n 0 ≤ lc 3 (sum1 (c 0) (n 0)) (c 0) (n 0) (2 ^ n 0)
    · rw [if_pos (nI_le g (by omega)), Nat.min_eq_left g]
    · rw [if_neg (nI_ge (by omega) (by omega)), Nat.min_eq_right (by omega)]
end QRS8
theorem st_18 : sd_St18 Rel := by
  intro M N hR x1 x2
  obtain ⟨n, c, d, v, h, l, w, q⟩ := hR 4
  rcases six x1 8 (by decide) with hx | ⟨r, hr, rfl⟩
  · refine ⟨(-1, M), (-1, N), by simp [fn_X10_mark, fn_X10_mark_0, isWay_out hx], ?_, rfl, hR⟩
    rcases cs (x := x2) (a := 1) (b := 4) 1 4 (by decide) (by decide) rfl rfl with ⟨-, e2⟩ | ⟨⟨-, e2⟩, -⟩ <;> simp [fn_X11_mark, fn_X11_mark_0, e2, aWay_out hx]
  have i1 := isWay_in (vp_in_nI hr (by decide))
  have b1 := bd2 hr (show 8 < 2 ^ 31 by decide)
  have c1 := clm (show r < 2 ^ 31 by omega)
  rcases cs (x := x2) (a := 1) (b := 4) 1 4 (by decide) (by decide) rfl rfl with ⟨e1, e2⟩ | ⟨⟨e1, e2⟩, j, hj1, hj4, rfl⟩
  · exact ⟨(-1, M), (-1, N), by simp [fn_X10_mark, fn_X10_mark_0, i1, e1], by simp [fn_X11_mark, fn_X11_mark_0, e2], rfl, hR⟩
  obtain ⟨hs, hc⟩ := hR 3 r hr
  rcases hs with ⟨s1, s2⟩ | ⟨k, hk, s1, s2⟩
  · refine ⟨(-3, tlM M 1), (-3, tlN N 1), ?_, ?_, rfl, hR.tell (by decide)⟩
    · simp only [fn_X10_mark, fn_X10_mark_0, i1, e1, Option.bind_some, if_neg I1ne, c1, if_neg b1, wmiss1 s1, tl1]
    · simp only [fn_X11_mark, fn_X11_mark_0, e2, aWay_miss hr s2, Option.bind_some, if_neg n3, if_neg I1ne]
  have j1 := wmiss0 (show k < 2 ^ 31 by omega) s1
  have j2 := aWay_ok hr (show k < 2 ^ 31 by omega) s2
  have wi := wis j (by omega) hk s1
  have qk : ∀ u, u ≤ 4 → (nI k = nI u) = (k = u) := fun u hu => propext (nI_eq (by omega) (by omega))
  have hN0 : fn_X11_mark N (nI r) (nI j) = if k = j then fn_X11_mark_54 N (nI r) (nI j) else if j = 2 then if k = 3 then fn_X11_mark_54 N (nI r) (nI j) else some (-3, tlN N 3) else some (-3, tlN N 3) := by
    have q2 : (nI j = 2) = (j = 2) := propext (nI_eq (a := j) (b := 2) (by omega) (by decide))
    have q3 : (nI k = 3) = (k = 3) := qk 3 (by decide)
    simp only [fn_X11_mark, fn_X11_mark_0, e2, j2, Option.bind_some, if_neg I1ne, if_pos z0, c1, if_neg b1, s2, me3, qk j hj4, q2, q3]
  by_cases hkj : ¬ (j = 0 ∨ k = j ∨ (j = 2 ∧ k = 3))
  · rw [if_neg hkj] at wi
    refine ⟨(-3, tlM M 3), (-3, tlN N 3), ?_, ?_, rfl, hR.tell (by decide)⟩
    · simp only [fn_X10_mark, fn_X10_mark_0, i1, e1, Option.bind_some, if_neg I1ne, c1, if_neg b1, j1, if_true, wi, tl3]
    · rw [hN0, if_neg (fun z => hkj (Or.inr (Or.inl z)))]
      by_cases g : j = 2
      · rw [if_pos g, if_neg (fun z => hkj (Or.inr (Or.inr ⟨g, z⟩)))]
      · rw [if_neg g]
  have hkj := Decidable.of_not_not hkj
  rw [if_pos hkj] at wi
  have hN1 : fn_X11_mark N (nI r) (nI j) = fn_X11_mark_54 N (nI r) (nI j) := by
    rw [hN0]
    rcases hkj with g | g | ⟨g1, g2⟩
    · omega
    · rw [if_pos g]
    · by_cases g : k = j
      · rw [if_pos g]
      · rw [if_neg g, if_pos g1, if_pos g2]
  have hv : ∀ i, i < 30 → N.1 116 (30 * r + i) = M.1 (23 + 1 + 2 * r + 1) i := fun i hi => (hc i hi).1.symm
  have hN2 := mkN (x2 := nI j) hr hv sd_FU 0 (by decide) (by decide)
  have hN3 : fn_X11_mark_54 N (nI r) (nI j) = fn_X11_mark_152 N (nI j) (smf (M.1 (23 + 1 + 2 * r + 1)) 30) (mnf 99 (M.1 (23 + 1 + 2 * r + 1)) 30) (mxf (M.1 (23 + 1 + 2 * r + 1)) 30) := by
    unfold fn_X11_mark_54
    rw [show (30 : Int32) * nI r = nI (30 * r + 0) from pk_mul 30 r]
    exact hN2
  rw [hN3] at hN1
  have gr : fn_X9_greatest M (23 + 1 + 2 * r) = some (mxf (M.1 (23 + 1 + 2 * r + 1)) 30) := grM sd_FU 0 (by decide) (by decide)
  have le : fn_X9_least M (23 + 1 + 2 * r) = some (mnf 13 (M.1 (23 + 1 + 2 * r + 1)) 30) := leM sd_FU 0 (by decide) (by decide)
  have su : fn_X9_sum M (23 + 1 + 2 * r) = some (smf (M.1 (23 + 1 + 2 * r + 1)) 30) := suM sd_FU 0 (by decide) (by decide)
  rw [hN1]
  rcases (show j = 1 ∨ j = 2 ∨ j = 3 ∨ j = 4 by omega) with rfl | rfl | rfl | rfl
  · refine ⟨(mxf (M.1 (23 + 1 + 2 * r + 1)) 30, M), (mxf (M.1 (23 + 1 + 2 * r + 1)) 30, N), ?_, ?_, rfl, hR⟩
    · simp only [fn_X10_mark, fn_X10_mark_0, i1, e1, Option.bind_some, if_neg I1ne, c1, if_neg b1, j1, if_true, wi, if_pos (show nI 1 = 1 from rfl), gr]
    · rw [fn_X11_mark_152, if_pos (show nI 1 = 1 from rfl)]
  · refine ⟨(mnf 13 (M.1 (23 + 1 + 2 * r + 1)) 30, M), (mnf 99 (M.1 (23 + 1 + 2 * r + 1)) 30, N), ?_, ?_, ?_, hR⟩
    · simp only [fn_X10_mark, fn_X10_mark_0, i1, e1, Option.bind_some, if_neg I1ne, c1, if_neg b1, j1, if_true, wi, if_pos (show nI 2 = 2 from rfl), if_neg (show ¬ nI 2 = 1 by decide), le]
    · rw [fn_X11_mark_152, if_neg (show ¬ nI 2 = 1 by decide), if_pos (show nI 2 = 2 from rfl)]
    · obtain ⟨nn, e, -, -, hb⟩ := (hc 0 (by decide)).2
      have hk23 : k = 2 ∨ k = 3 := by
        rcases hkj with g | g | ⟨g1, g2⟩
        · omega
        · exact Or.inl g
        · exact Or.inr g2
      have := hb (hk23.imp (fun z => by rw [s1, z]; rfl) (fun z => by rw [s1, z]; rfl))
      have z := mnf_eq (v := M.1 (23 + 1 + 2 * r + 1)) ⟨nn, this, e⟩ 29
      generalize hm : 29 + 1 = m30 at z
      have hm : 30 = m30 := hm
      subst hm
      simp only
      rw [z]
  · obtain ⟨rr, r1, r2⟩ := need_eq q
    refine ⟨(rr, M), (rr, N), ?_, ?_, rfl, hR⟩
    · simp only [fn_X10_mark, fn_X10_mark_0, i1, e1, Option.bind_some, if_neg I1ne, c1, if_neg b1, j1, if_true, wi, if_pos (show nI 3 = 3 from rfl), if_neg (show ¬ nI 3 = 1 by decide), if_neg (show ¬ nI 3 = 2 by decide), r1]
    · rw [fn_X11_mark_152, if_neg (show ¬ nI 3 = 1 by decide), if_neg (show ¬ nI 3 = 2 by decide), if_pos (show nI 3 = 3 from rfl), r2]; rfl
  · refine ⟨(smf (M.1 (23 + 1 + 2 * r + 1)) 30, M), (smf (M.1 (23 + 1 + 2 * r + 1)) 30, N), ?_, ?_, rfl, hR⟩
    · simp only [fn_X10_mark, fn_X10_mark_0, i1, e1, Option.bind_some, if_neg I1ne, c1, if_neg b1, j1, if_true, wi, if_neg (show ¬ nI 4 = 3 by decide), if_neg (show ¬ nI 4 = 1 by decide), if_neg (show ¬ nI 4 = 2 by decide), su]
    · rw [fn_X11_mark_152, if_neg (show ¬ nI 4 = 1 by decide), if_neg (show ¬ nI 4 = 2 by decide), if_neg (show ¬ nI 4 = 3 by decide)]
