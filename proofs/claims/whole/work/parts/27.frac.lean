theorem remL_toInt (x y : Int64) : (x - x / y * y).toInt = x.toInt.tmod y.toInt := by
  have h1 : x.toInt - x.toInt.tdiv y.toInt * y.toInt = x.toInt.tmod y.toInt := by
    have := Int.tmod_add_tdiv_mul x.toInt y.toInt
    omega
  have h2 : (x - x / y * y).toInt = (x.toInt - x.toInt.tdiv y.toInt * y.toInt).bmod (2 ^ 64) := by
    rw [Int64.toInt_sub, Int64.toInt_mul, Int64.toInt_div, Int.bmod_mul_bmod, Int.sub_bmod_bmod]
  rw [h2, h1, ← Int64.toInt_mod]
  exact Int64.toInt_bmod _
theorem eu_half {A B : Nat} (hB : 0 < B) (hr : 0 < A % B) : 2 * (B % (A % B)) < B := by
  have h1 : A % B < B := Nat.mod_lt _ hB
  have h2 : B % (A % B) < A % B := Nat.mod_lt _ hr
  have h3 : B % (A % B) = (B - A % B) % (A % B) := Nat.mod_eq_sub_mod (Nat.le_of_lt h1)
  have h4 : (B - A % B) % (A % B) ≤ B - A % B := Nat.mod_le _ _
  omega
theorem L0 {b : Int64} : b.toInt.natAbs = 0 ↔ b = 0 := by
  rw [Int.natAbs_eq_zero, ← Int64.toInt_zero, Int64.toInt_inj]
theorem eu {N : sd_Mem} {l1 l3 : Int64} {x5 : Int32} : ∀ (k : Nat) (a b : Int64) (n m i : Nat), b.toInt.natAbs < 2 ^ k → 2 * k < n → 2 * k < m → i + 2 * k < 200 → (a ≠ 0 ∨ b ≠ 0) → ∃ g : Int64, g ≠ 0 ∧ fn_X3_commonDivisor_9 n a b (nI i) = some g ∧ fn_X11_share_17 m N l1 l3 x5 a b = fn_X11_share_42 N l1 l3 x5 g := by
  intro k
  induction k with
  | zero =>
    intro a b n m i h1 h2 h3 h4 h5
    have hb : b = 0 := L0.mp (by omega)
    obtain ⟨n, rfl⟩ : ∃ j, n = j + 1 := ⟨n - 1, by omega⟩
    obtain ⟨m, rfl⟩ : ∃ j, m = j + 1 := ⟨m - 1, by omega⟩
    have hz := (lg_cmp_eq b 0).mpr hb
    refine ⟨a, h5.resolve_right (fun q => q hb), ?_, ?_⟩
    · rw [fn_X3_commonDivisor_9, if_pos hz]; split <;> rfl
    · rw [fn_X11_share_17, if_pos hz]
  | succ k ih =>
    intro a b n m i h1 h2 h3 h4 h5
    obtain ⟨n, rfl⟩ : ∃ j, n = j + 1 := ⟨n - 1, by omega⟩
    obtain ⟨m, rfl⟩ : ∃ j, m = j + 1 := ⟨m - 1, by omega⟩
    have hi : ¬ (200 : Int32) ≤ nI i := nI_ge (b := 200) (by omega) (by decide)
    by_cases hb : b = 0
    · have hz := (lg_cmp_eq b 0).mpr hb
      refine ⟨a, h5.resolve_right (fun q => q hb), ?_, ?_⟩
      · rw [fn_X3_commonDivisor_9, if_neg hi, if_pos hz]
      · rw [fn_X11_share_17, if_pos hz]
    have hz : ¬ lg_cmp b 0 = 0 := fun q => hb ((lg_cmp_eq b 0).mp q)
    obtain ⟨n, rfl⟩ : ∃ j, n = j + 1 := ⟨n - 1, by omega⟩
    obtain ⟨m, rfl⟩ : ∃ j, m = j + 1 := ⟨m - 1, by omega⟩
    have hi2 : ¬ (200 : Int32) ≤ nI (i + 1) := nI_ge (b := 200) (by omega) (by decide)
    rw [fn_X3_commonDivisor_9, if_neg hi, if_neg hz, if_neg hb, fn_X11_share_17, if_neg hz, if_neg hb, nI_1]
    have er : (a - a / b * b).toInt.natAbs = a.toInt.natAbs % b.toInt.natAbs := by rw [remL_toInt, Int.natAbs_tmod]
    generalize hr : a - a / b * b = r at *
    by_cases hr0 : r = 0
    · have hz2 := (lg_cmp_eq r 0).mpr hr0
      refine ⟨b, hb, ?_, ?_⟩
      · rw [fn_X3_commonDivisor_9, if_neg hi2, if_pos hz2]
      · rw [fn_X11_share_17, if_pos hz2]
    have hz2 : ¬ lg_cmp r 0 = 0 := fun q => hr0 ((lg_cmp_eq r 0).mp q)
    rw [fn_X3_commonDivisor_9, if_neg hi2, if_neg hz2, if_neg hr0, fn_X11_share_17, if_neg hz2, if_neg hr0, nI_1]
    have er2 : (b - b / r * r).toInt.natAbs = b.toInt.natAbs % r.toInt.natAbs := by rw [remL_toInt, Int.natAbs_tmod]
    have hB : 0 < b.toInt.natAbs := Nat.pos_of_ne_zero fun z => hb (L0.mp z)
    have hR : 0 < r.toInt.natAbs := Nat.pos_of_ne_zero fun z => hr0 (L0.mp z)
    rw [er] at hR
    have hh := eu_half hB hR
    rw [← er, ← er2] at hh
    rw [Nat.pow_succ] at h1
    exact ih r _ n m (i + 2) (by omega) (by omega) (by omega) (by omega) (Or.inl hr0)
theorem frac {M N : sd_Mem} (up : Int64) {b : Nat} (h0 : 0 < b) (hb : b < 2 ^ 63) (x5 : Int32) : ∃ u v : Int64, fn_X3_tell M up (lN b) = some (sd_setL (sd_setL M 96 0 u) 96 1 v) ∧ fn_X11_share N up (lN b) x5 = some (x5, sd_setL (sd_setL N 100 3 u) 100 4 v) := by
  have tb : (lN b).toInt = (b : Int) := pk_lT hb
  have hb0 : ¬ lN b = 0 := fun z => by rw [← Int64.toInt_inj, tb, Int64.toInt_zero] at z; omega
  have e1 : (if (0 : Int64) < lN b then lN b else -lN b) = lN b := if_pos (by rw [Int64.lt_iff_toInt_lt, tb, Int64.toInt_zero]; omega)
  have e2 : ∀ (f : Int64 → Option (Int32 × sd_Mem)), (if 0 ≤ lg_cmp up 0 then f up else f (-up)) = f (if (0 : Int64) < up then up else -up) := by
    intro f
    by_cases hp : 0 < up
    · rw [if_pos hp, if_pos ((lg_cmp_ge up 0).mpr (Int64.le_of_lt hp))]
    · rw [if_neg hp]
      by_cases hz : 0 ≤ up
      · have : up = 0 := by rw [← Int64.toInt_inj]; rw [Int64.lt_iff_toInt_lt] at hp; rw [Int64.le_iff_toInt_le] at hz; omega
        subst this
        rw [if_pos (by decide)]; rfl
      · rw [if_neg (fun q => hz ((lg_cmp_ge up 0).mp q))]
  obtain ⟨g, g0, g1, g2⟩ := eu (N := N) (l1 := up) (l3 := lN b) (x5 := x5) 63 (if (0 : Int64) < up then up else -up) (lN b) sd_FU sd_FU 0 (by rw [tb]; exact hb) (by decide) (by decide) (by decide) (Or.inr hb0)
  refine ⟨up / g, lN b / g, ?_, ?_⟩
  · unfold fn_X3_tell fn_X3_tell_0 fn_X3_commonDivisor fn_X3_commonDivisor_0
    rw [e1]
    refine (congrArg (fun z => Option.bind z _) g1).trans ?_
    rw [Option.bind_some, if_neg (fun q => g0 ((lg_cmp_eq g 0).mp q)), if_neg g0, if_neg g0]
  · unfold fn_X11_share fn_X11_share_0
    rw [e2 (fun z => fn_X11_share_17 sd_FU N up (lN b) x5 z (lN b)), g2, fn_X11_share_42, if_neg g0, if_neg g0]
theorem Rel.frac {M N : sd_Mem} (hR : Rel M N) (u v : Int64) : Rel (sd_setL (sd_setL M 96 0 u) 96 1 v) (sd_setL (sd_setL N 100 3 u) 100 4 v) := by
  refine hR.one 7 (keepM.L (by decide) (keepM.L (by decide) keepM.rf)) (keepN.L (by decide) (keepN.L (by decide) keepN.rf)) ?_
  show _ ∧ _
  simp [gL]
