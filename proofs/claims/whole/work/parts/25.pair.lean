/-- an OFFER at o and a TAKE (or VOTE) of KIND kd at t, with their numbers -/
def Pr (o t kd : Nat) (O T : Nat → Nat → Nat) (M N : sd_Mem) : Prop :=
  o < 8 ∧ t < 8 ∧ (kd = 2 ∨ kd = 3) ∧ M.1 (23 + 1 + 2 * o) 1 = nI 1 ∧ N.1 115 o = nI 1 ∧ M.1 (23 + 1 + 2 * t) 1 = nI kd ∧ N.1 115 t = nI kd ∧
  ∀ s, s < 3 → ∀ x, 1 ≤ x → x ≤ 10 → (O s x ≤ 12 ∧ M.1 (23 + 1 + 2 * o + 1) (10 * s + x - 1) = nI (O s x) ∧ N.1 116 (30 * o + 10 * s + x - 1) = nI (O s x)) ∧ (T s x ≤ 13 ∧ M.1 (23 + 1 + 2 * t + 1) (10 * s + x - 1) = nI (T s x) ∧ N.1 116 (30 * t + 10 * s + x - 1) = nI (T s x))
theorem wayNum {M N : sd_Mem} (hR : Rel M N) {w k : Nat} (hw : w < 8) (hk : k ≤ 4) (e : M.1 (23 + 1 + 2 * w) 1 = nI k) : ∀ s, s < 3 → ∀ x, 1 ≤ x → x ≤ 10 → (M.1 (23 + 1 + 2 * w + 1) (10 * s + x - 1)).toNatClampNeg ≤ kbd k ∧ M.1 (23 + 1 + 2 * w + 1) (10 * s + x - 1) = nI ((M.1 (23 + 1 + 2 * w + 1) (10 * s + x - 1)).toNatClampNeg) ∧ N.1 116 (30 * w + 10 * s + x - 1) = nI ((M.1 (23 + 1 + 2 * w + 1) (10 * s + x - 1)).toNatClampNeg) := by
  intro s hs x h1 h2
  obtain ⟨e1, n, e2, h99, hb1, hb2⟩ := (hR 3 w hw).2 (10 * s + x - 1) (by omega)
  rw [show 30 * w + (10 * s + x - 1) = 30 * w + 10 * s + x - 1 by omega] at e1
  rw [← e1, e2, clm (by omega)]
  refine ⟨?_, rfl, rfl⟩
  rw [e] at hb1 hb2
  unfold kbd
  by_cases q1 : k = 1
  · subst q1; exact hb1 rfl
  · rw [if_neg q1]
    by_cases q2 : k = 2 ∨ k = 3
    · rw [if_pos q2]
      exact hb2 (q2.imp (fun z => by rw [z]; rfl) (fun z => by rw [z]; rfl))
    · rw [if_neg q2]; exact h99
theorem plain {M : sd_Mem} {h k : Nat} (hk : k ≤ 4) (e : M.1 h 1 = nI k) : fn_X9_isPlainTake M h = some (if k = 2 then 1 else 0) := by
  unfold fn_X9_isPlainTake fn_X9_isPlainTake_0
  rw [e]
  exact (show ∀ k, k ≤ 4 → (if nI k = 2 then some 1 else some 0) = (some (if k = 2 then 1 else 0) : Option Int32) by decide) k hk
theorem refM {M : sd_Mem} {o t k1 k2 : Nat} {b : Int32} (ho : o < 8) (ht : t < 8) (hk1 : k1 ≤ 4) (hk2 : k2 ≤ 4) (e1 : M.1 (23 + 1 + 2 * o) 1 = nI k1) (e2 : M.1 (23 + 1 + 2 * t) 1 = nI k2) : fn_X10_refusePair M (nI o) (nI t) b = if k1 = 1 ∧ (k2 = 2 ∨ (k2 = 3 ∧ b ≠ 0)) then some (0, M) else some (-3, tlM M 3) := by
  have i1 := isWay_in (vp_in_nI ho (by decide))
  have i2 := isWay_in (vp_in_nI ht (by decide))
  have c1 := clm (show o < 2 ^ 31 by omega)
  have c2 := clm (show t < 2 ^ 31 by omega)
  have b1 := bd2 ho (show 8 < 2 ^ 31 by decide)
  have b2 := bd2 ht (show 8 < 2 ^ 31 by decide)
  have j1 := wmiss0 (show k1 < 2 ^ 31 by omega) e1
  have j2 := wmiss0 (show k2 < 2 ^ 31 by omega) e2
  have p1 : fn_X9_is M (23 + 1 + 2 * o) 1 = some (if k1 = 1 then 1 else 0) := by
    have := wis 1 (by decide) hk1 e1
    rw [show nI 1 = 1 from rfl] at this
    rw [this]; congr 1; simp
  have p2 : fn_X9_is M (23 + 1 + 2 * t) 2 = some (if k2 = 2 ∨ k2 = 3 then 1 else 0) := by
    have := wis 2 (by decide) hk2 e2
    rw [show nI 2 = 2 from rfl] at this
    rw [this]; congr 1; simp
  have p3 := plain hk2 e2
  have go : ∀ q : Int32, fn_X10_refusePair_75 M (nI o) q = if k1 = 1 ∧ q ≠ 0 then some (0, M) else some (-3, tlM M 3) := by
    intro q
    simp only [fn_X10_refusePair_75, c1, if_neg b1, p1, Option.bind_some, tl3]
    by_cases h1 : k1 = 1
    · by_cases h2 : q = 0 <;> simp [h1, h2]
    · simp [h1]
  simp only [fn_X10_refusePair, fn_X10_refusePair_0, i1, i2, Option.bind_some, if_neg I1ne, c1, c2, if_neg b1, if_neg b2, j1, j2, if_true, p2, p3, go]
  by_cases hb : b = 0
  · by_cases h2 : k2 = 2 <;> simp [hb, h2]
  · by_cases h2 : k2 = 2
    · simp [hb, h2]
    · by_cases h3 : k2 = 3 <;> simp [hb, h2, h3]
theorem refN {N : sd_Mem} {o t k1 k2 : Nat} {b : Int32} (ho : o < 8) (ht : t < 8) (hk1 : k1 ≤ 4) (hk2 : k2 ≤ 4) (e1 : N.1 115 o = nI k1) (e2 : N.1 115 t = nI k2) : fn_X11_askedTwo N (nI o) (nI t) b = if k1 = 1 ∧ (k2 = 2 ∨ (k2 = 3 ∧ b ≠ 0)) then some (0, N) else some (-3, tlN N 3) := by
  have i1 := isWayN_in (vp_in_nI ho (by decide))
  have i2 := isWayN_in (vp_in_nI ht (by decide))
  have c1 := clm (show o < 2 ^ 31 by omega)
  have c2 := clm (show t < 2 ^ 31 by omega)
  have b1 := bd2 ho (show 8 < 2 ^ 31 by decide)
  have b2 := bd2 ht (show 8 < 2 ^ 31 by decide)
  have q1 : (nI k1 = 1) = (k1 = 1) := propext (nI_eq (a := k1) (b := 1) (by omega) (by decide))
  have q2 : (nI k2 = 2) = (k2 = 2) := propext (nI_eq (a := k2) (b := 2) (by omega) (by decide))
  have q3 : (nI k2 = 3) = (k2 = 3) := propext (nI_eq (a := k2) (b := 3) (by omega) (by decide))
  simp only [fn_X11_askedTwo, fn_X11_askedTwo_0, i1, i2, Option.bind_some, if_neg I1ne, c1, c2, if_neg b1, if_neg b2, e1, e2, if_neg (nI_pos (show k1 < 2 ^ 31 by omega)), if_pos (nI_pos' (show k2 < 2 ^ 31 by omega)), me3, q1, q2, q3]
  by_cases h1 : k1 = 1
  · by_cases h2 : k2 = 2
    · simp [h1, h2]
    · by_cases h3 : k2 = 3
      · by_cases hb : b = 0 <;> simp [h1, h2, h3, hb]
      · simp [h1, h2, h3]
  · simp [h1]
/-- how all calls of an OFFER and a TAKE are refused, on both sides -/
theorem ref {M N : sd_Mem} (hR : Rel M N) (x1 x2 b : Int32) :
    (∃ (r : Int32) (M' N' : sd_Mem), ¬ r = 0 ∧ ¬ 0 ≤ r ∧ fn_X10_refusePair M x1 x2 b = some (r, M') ∧ fn_X11_askedTwo N x1 x2 b = some (r, N') ∧ Rel M' N') ∨
    (fn_X10_refusePair M x1 x2 b = some (0, M) ∧ fn_X11_askedTwo N x1 x2 b = some (0, N) ∧ ∃ (o t kd : Nat) (O T : Nat → Nat → Nat), x1 = nI o ∧ x2 = nI t ∧ Pr o t kd O T M N ∧ (b = 0 → kd = 2)) := by
  rcases six x1 8 (by decide) with hx | ⟨o, ho, rfl⟩
  · exact Or.inl ⟨-1, M, N, by decide, by decide, by simp [fn_X10_refusePair, fn_X10_refusePair_0, isWay_out hx], by simp [fn_X11_askedTwo, fn_X11_askedTwo_0, isWayN_out hx], hR⟩
  have i1 := isWay_in (vp_in_nI ho (by decide))
  have i2 := isWayN_in (vp_in_nI ho (by decide))
  rcases six x2 8 (by decide) with hx | ⟨t, ht, rfl⟩
  · exact Or.inl ⟨-1, M, N, by decide, by decide, by simp [fn_X10_refusePair, fn_X10_refusePair_0, i1, isWay_out hx], by simp [fn_X11_askedTwo, fn_X11_askedTwo_0, i2, isWayN_out hx], hR⟩
  have i3 := isWay_in (vp_in_nI ht (by decide))
  have i4 := isWayN_in (vp_in_nI ht (by decide))
  have c1 := clm (show o < 2 ^ 31 by omega)
  have c2 := clm (show t < 2 ^ 31 by omega)
  have b1 := bd2 ho (show 8 < 2 ^ 31 by decide)
  have b2 := bd2 ht (show 8 < 2 ^ 31 by decide)
  rcases (hR 3 o ho).1 with ⟨s1, s2⟩ | ⟨k1, hk1, s1, s2⟩
  · refine Or.inl ⟨-3, tlM M 1, tlN N 1, by decide, by decide, ?_, ?_, hR.tell (by decide)⟩
    · simp only [fn_X10_refusePair, fn_X10_refusePair_0, i1, i3, Option.bind_some, if_neg I1ne, c1, if_neg b1, wmiss1 s1, tl1]
    · simp only [fn_X11_askedTwo, fn_X11_askedTwo_0, i2, i4, Option.bind_some, if_neg I1ne, c1, if_neg b1, s2, if_pos (show (-9 : Int32) < 0 by decide), me1]
  have j1 := wmiss0 (show k1 < 2 ^ 31 by omega) s1
  rcases (hR 3 t ht).1 with ⟨u1, u2⟩ | ⟨k2, hk2, u1, u2⟩
  · refine Or.inl ⟨-3, tlM M 1, tlN N 1, by decide, by decide, ?_, ?_, hR.tell (by decide)⟩
    · simp only [fn_X10_refusePair, fn_X10_refusePair_0, i1, i3, Option.bind_some, if_neg I1ne, c1, if_neg b1, j1, if_true, c2, if_neg b2, wmiss1 u1, tl1]
    · simp only [fn_X11_askedTwo, fn_X11_askedTwo_0, i2, i4, Option.bind_some, if_neg I1ne, c1, if_neg b1, s2, if_neg (nI_pos (show k1 < 2 ^ 31 by omega)), c2, if_neg b2, u2, if_neg n9, me1]
  have fM := refM (b := b) ho ht hk1 hk2 s1 u1
  have fN := refN (b := b) ho ht hk1 hk2 s2 u2
  by_cases g : k1 = 1 ∧ (k2 = 2 ∨ (k2 = 3 ∧ b ≠ 0))
  · rw [if_pos g] at fM fN
    obtain ⟨rfl, g2⟩ := g
    refine Or.inr ⟨fM, fN, o, t, k2, fun s x => (M.1 (23 + 1 + 2 * o + 1) (10 * s + x - 1)).toNatClampNeg, fun s x => (M.1 (23 + 1 + 2 * t + 1) (10 * s + x - 1)).toNatClampNeg, rfl, rfl, ⟨ho, ht, g2.imp id (fun z => z.1), s1, s2, u1, u2, fun s hs x h1 h2 => ⟨?_, ?_⟩⟩, fun hb => g2.elim id (fun z => absurd hb z.2)⟩
    · exact wayNum hR ho hk1 s1 s hs x h1 h2
    · have := wayNum hR ht hk2 u1 s hs x h1 h2
      refine ⟨Nat.le_trans this.1 ?_, this.2⟩
      rcases g2 with z | z
      · rw [z]; decide
      · rw [z.1]; decide
  · rw [if_neg g] at fM fN
    exact Or.inl ⟨-3, tlM M 3, tlN N 3, by decide, by decide, fM, fN, hR.tell (by decide)⟩
