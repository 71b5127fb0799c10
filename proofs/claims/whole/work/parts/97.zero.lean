theorem zr1 : ∀ r, r < 6 → sd_Mi0.1 (1 + 1 + 2 * r) 1 = -1 ∧ sd_N0.1 102 r = -9 := by decide +kernel
theorem zr1b : ∀ r, r < 6 → ∀ k, k < 40 → sd_Mi0.1 (1 + 1 + 2 * r + 1) k = sd_N0.1 103 (40 * r + k) := by decide +kernel
theorem zr2 : ∀ r, r < 4 → sd_Mi0.1 (14 + 1 + 2 * r) 1 = -1 ∧ sd_N0.1 105 r = -9 := by decide +kernel
theorem zr2b : ∀ r, r < 4 → ∀ k, k < 60 → sd_Mi0.1 (14 + 1 + 2 * r + 1) k = sd_N0.1 106 (60 * r + k) := by decide +kernel
theorem zr3 : ∀ r, r < 8 → sd_Mi0.1 (23 + 1 + 2 * r) 1 = -1 ∧ sd_N0.1 115 r = -9 := by decide +kernel
theorem zr3b : ∀ r, r < 8 → ∀ k, k < 30 → sd_Mi0.1 (23 + 1 + 2 * r + 1) k = 0 ∧ sd_N0.1 116 (30 * r + k) = 0 := by decide +kernel
theorem zr4 : ∀ z, z < 2 → (sd_Mi0.1 41 z = nI 1 ∧ sd_N0.1 107 z = nI 1 ∧ sd_Mi0.1 42 z = nI 1) ∧ (sd_Mi0.1 (40 + 3 + 1 + z) 0 = nI 1 ∧ sd_N0.1 108 (3 * z + 0) = nI 1 ∧ sd_Mi0.1 (40 + 6 + 1 + z) 0 = nI 1 ∧ sd_N0.1 109 (3 * z + 0) = nI 1) := by decide +kernel
theorem zr4b : (sd_Mi0.1 40 4 = nI 10 ∧ sd_N0.1 110 0 = nI 10) ∧ (sd_Mi0.1 40 5 = nI 20 ∧ sd_N0.1 110 1 = nI 20) ∧ (sd_Mi0.1 40 6 = nI 5 ∧ sd_N0.1 110 2 = nI 5) ∧ (sd_Mi0.1 40 7 = nI 5 ∧ sd_N0.1 110 3 = nI 5) := by decide +kernel
theorem zr5 : (sd_Mi0.1 58 0 = nI 1 ∧ sd_N0.1 100 14 = nI 1) ∧ (sd_Mi0.1 58 1 = nI 0 ∧ sd_N0.1 100 15 = nI 0) ∧ (sd_Mi0.1 58 2 = nI 6 ∧ sd_N0.1 100 16 = nI 6) := by decide +kernel
theorem zr6 : ∀ k, k < 6 → (sd_Mi0.1 91 k = nI 0 ∧ sd_N0.1 119 k = nI 0) ∧ (sd_Mi0.1 92 k = nI 0 ∧ sd_N0.1 120 k = nI 0) ∧ (sd_Mi0.1 93 k = nI 0 ∧ sd_N0.1 121 k = nI 0) := by decide +kernel
theorem zr7 : sd_Mi0.2 96 0 = sd_N0.2 100 3 ∧ sd_Mi0.2 96 1 = sd_N0.2 100 4 := by decide +kernel
theorem zr8 : sd_Mi0.1 97 1 = sd_N0.1 100 0 ∧ ∀ f, f < 6 → sd_Mi0.1 98 f = sd_N0.1 101 f := by decide +kernel
theorem zr0 : sd_Mi0.1 0 13 = sd_N0.1 100 2 := by decide +kernel
/-- a new object on both sides -/
theorem st_zero : Rel sd_Mi0 sd_N0 := by
  intro i
  match i with
  | 0 => exact zr0
  | 1 => exact fun r hr => ⟨Or.inl (zr1 r hr), zr1b r hr⟩
  | 2 => exact fun r hr => ⟨Or.inl (zr2 r hr), zr2b r hr⟩
  | 3 => exact fun r hr => ⟨Or.inl (zr3 r hr), fun k hk => ⟨(zr3b r hr k hk).1.trans (zr3b r hr k hk).2.symm, by rw [(zr3b r hr k hk).1]; exact Bd0⟩⟩
  | 4 =>
    obtain ⟨⟨a1, a2⟩, ⟨b1, b2⟩, ⟨c1, c2⟩, ⟨d1, d2⟩⟩ := zr4b
    refine ⟨fun _ => 1, fun _ _ => 1, fun _ _ => 1, 10, 20, 5, 5, fun z hz => ?_, ⟨by decide, a1, a2⟩, ⟨by decide, b1, b2⟩, ⟨by decide, c1, c2⟩, ⟨by decide, d1, d2⟩⟩
    obtain ⟨⟨e1, e2, e3⟩, f1, f2, f3, f4⟩ := zr4 z hz
    refine ⟨(show 1 ≤ 1 ∧ 1 ≤ 3 by decide), e1, e2, e3, fun s hs => ?_⟩
    have hs1 : s < 1 := hs
    have hs0 : s = 0 := by omega
    subst hs0
    exact ⟨(show 1 ≤ 1 ∧ 1 ≤ 9 by decide), (show 1 ≤ 99 by decide), f1, f2, f3, f4⟩
  | 5 =>
    obtain ⟨⟨a1, a2⟩, ⟨b1, b2⟩, ⟨c1, c2⟩⟩ := zr5
    exact ⟨1, 0, 6, ⟨by decide, a1, a2⟩, ⟨by decide, b1, b2⟩, ⟨by decide, c1, c2⟩⟩
  | 6 => exact ⟨fun _ => 0, fun _ => 0, fun _ => 0, fun k hk => ⟨⟨Nat.zero_le _, (zr6 k hk).1⟩, ⟨Nat.zero_le _, (zr6 k hk).2.1⟩, ⟨Nat.zero_le _, (zr6 k hk).2.2⟩⟩⟩
  | 7 => exact zr7
  | 8 => exact zr8
  | _ + 9 => trivial
theorem st_all : sd_StAll Rel := ⟨st_0, st_1, st_2, st_3, st_4, st_5, st_6, st_7, st_8, st_9, st_10, st_11, st_12, st_13, st_14, st_15, st_16, st_17, st_18, st_19, st_20, st_21, st_22, st_23, st_24, st_25, st_26, st_27, st_28, st_29, st_30, st_31, st_32, st_33, st_34, st_35, st_36, st_37, st_38, st_39, st_40, st_41, st_42, st_43, st_44⟩
