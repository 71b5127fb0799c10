/-! MEN of kinds: sets as numbers below 64 -/
def cnt (m : Nat → Nat) (W : Nat) : Nat → Nat
  | 0 => 0
  | i + 1 => cnt m W i + if W.testBit i then m i else 0
def Sub (V W : Nat) : Prop := ∀ k, k < 6 → V.testBit k = true → W.testBit k = true
theorem Sub.rf {V : Nat} : Sub V V := fun _ _ h => h
theorem Sub.tr {U V W : Nat} (h : Sub U V) (h2 : Sub V W) : Sub U W := fun k hk q => h2 k hk (h k hk q)
theorem cnt_mono {m : Nat → Nat} {V W : Nat} (h : Sub V W) : ∀ {i : Nat}, i ≤ 6 → cnt m V i ≤ cnt m W i
  | 0, _ => Nat.le_refl _
  | i + 1, hi => by
    have := cnt_mono (m := m) h (i := i) (by omega)
    rw [cnt, cnt]
    by_cases q : V.testBit i = true
    · rw [if_pos q, if_pos (h i (by omega) q)]; omega
    · rw [if_neg q]; omega
theorem cnt_le {m : Nat → Nat} {W : Nat} : ∀ {i : Nat}, (∀ k, k < i → m k ≤ 99) → cnt m W i ≤ 99 * i
  | 0, _ => Nat.le_refl _
  | i + 1, h => by
    have := cnt_le (m := m) (W := W) (i := i) (fun k hk => h k (by omega))
    have := h i (by omega)
    rw [cnt]
    split <;> omega
theorem tb_or (W i k : Nat) : (W ||| 2 ^ i).testBit k = (W.testBit k || decide (i = k)) := by
  rw [Nat.testBit_or, Nat.testBit_two_pow]
theorem or64 {W i : Nat} (hW : W < 64) (hi : i < 6) : W ||| 2 ^ i < 64 := Nat.or_lt_two_pow (n := 6) hW (Nat.pow_lt_pow_right (by decide) hi)
theorem ext64 {V W : Nat} (hV : V < 64) (hW : W < 64) (h : ∀ k, k < 6 → V.testBit k = W.testBit k) : V = W := by
  apply Nat.eq_of_testBit_eq
  intro k
  by_cases hk : k < 6
  · exact h k hk
  · rw [Nat.testBit_lt_two_pow (Nat.lt_of_lt_of_le hV (Nat.pow_le_pow_right (n := 2) (i := 6) (by decide) (by omega))), Nat.testBit_lt_two_pow (Nat.lt_of_lt_of_le hW (Nat.pow_le_pow_right (n := 2) (i := 6) (by decide) (by omega)))]
theorem Sub.anti {V W : Nat} (hV : V < 64) (hW : W < 64) (h : Sub V W) (h2 : Sub W V) : V = W := ext64 hV hW fun k hk => by
  have a := h k hk
  have b := h2 k hk
  cases e1 : V.testBit k
  · cases e2 : W.testBit k
    · rfl
    · exact absurd (b e2) (by rw [e1]; decide)
  · rw [a e1]
theorem cnt_lt {V W : Nat} (hV : V < 64) (hW : W < 64) (h : Sub V W) (hne : V ≠ W) : cnt (fun _ => 1) V 6 < cnt (fun _ => 1) W 6 := by
  have key : ∀ i, i ≤ 6 → cnt (fun _ => 1) W i ≤ cnt (fun _ => 1) V i → ∀ k, k < i → W.testBit k = true → V.testBit k = true := by
    intro i
    induction i with
    | zero => intro _ _ k hk; omega
    | succ i ih =>
      intro hi hle k hk hb
      have mo := cnt_mono (m := fun _ => 1) h (i := i) (by omega)
      rw [cnt, cnt] at hle
      by_cases g : W.testBit i = true
      · by_cases g2 : V.testBit i = true
        · rw [if_pos g, if_pos g2] at hle
          by_cases e : k = i
          · subst e; exact g2
          · exact ih (by omega) (by omega) k (by omega) hb
        · rw [if_pos g, if_neg g2] at hle; omega
      · by_cases e : k = i
        · subst e; exact absurd hb g
        · have : ¬ V.testBit i = true := fun z => g (h i (by omega) z)
          rw [if_neg g, if_neg this] at hle
          exact ih (by omega) (by omega) k (by omega) hb
  apply Decidable.byContradiction
  intro hle
  exact hne (Sub.anti hV hW h (fun k hk hb => key 6 (by decide) (by omega) k hk hb))
theorem cnt1_le (V : Nat) : ∀ i, cnt (fun _ => 1) V i ≤ i
  | 0 => Nat.le_refl _
  | i + 1 => by have := cnt1_le V i; rw [cnt]; split <;> omega
theorem full {V : Nat} (h : 6 ≤ cnt (fun _ => 1) V 6) : ∀ k, k < 6 → V.testBit k = true := by
  have key : ∀ i, i ≤ cnt (fun _ => 1) V i → ∀ k, k < i → V.testBit k = true := by
    intro i
    induction i with
    | zero => intro _ k hk; omega
    | succ i ih =>
      intro hle k hk
      have := cnt1_le V i
      rw [cnt] at hle
      by_cases g : V.testBit i = true
      · by_cases e : k = i
        · subst e; exact g
        · rw [if_pos g] at hle; exact ih (by omega) k (by omega)
      · rw [if_neg g] at hle; omega
  exact key 6 h
/-- add all kinds that P names -/
def o1 (P : Nat → Bool) (W : Nat) : Nat → Nat
  | 0 => W
  | i + 1 => if P i = true then o1 P W i ||| 2 ^ i else o1 P W i
theorem o1_lt {P : Nat → Bool} {W : Nat} (hW : W < 64) : ∀ {i : Nat}, i ≤ 6 → o1 P W i < 64
  | 0, _ => hW
  | i + 1, hi => by
    have := o1_lt (P := P) hW (i := i) (by omega)
    rw [o1]
    split
    · exact or64 this (by omega)
    · exact this
theorem o1_bit {P : Nat → Bool} {W : Nat} : ∀ {i k : Nat}, (o1 P W i).testBit k = (W.testBit k || (decide (k < i) && P k))
  | 0, k => by simp [o1]
  | i + 1, k => by
    rw [o1]
    by_cases g : P i = true
    · rw [if_pos g, tb_or, o1_bit (i := i)]
      by_cases e : i = k
      · subst e; simp [g]
      · have : (k < i + 1) = (k < i) := propext ⟨fun z => by omega, fun z => by omega⟩
        simp [e, this]
    · rw [if_neg g, o1_bit (i := i)]
      by_cases e : i = k
      · subst e; simp [g]
      · have : (k < i + 1) = (k < i) := propext ⟨fun z => by omega, fun z => by omega⟩
        simp [this]
theorem o1_sub {P : Nat → Bool} {W i : Nat} : Sub W (o1 P W i) := fun k _ h => by rw [o1_bit, h]; rfl
theorem o1_has {P : Nat → Bool} {W k : Nat} (hk : k < 6) (h : P k = true) : (o1 P W 6).testBit k = true := by rw [o1_bit, h]; simp [hk]
theorem o1_le {P : Nat → Bool} {W X : Nat} (h : Sub W X) (hP : ∀ k, k < 6 → P k = true → X.testBit k = true) : Sub (o1 P W 6) X := fun k hk q => by
  rw [o1_bit] at q
  by_cases g : W.testBit k = true
  · exact h k hk g
  · have : P k = true := by
      cases e : P k
      · rw [e] at q; simp [g] at q
      · rfl
    exact hP k hk this
/-- kinds whom x MEN of A draw -/
def cond (t : Nat → Nat) (A x k : Nat) : Bool := decide (t k * A ≤ 100 * x)
def clo (m t : Nat → Nat) (A X : Nat) : Prop := ∀ k, k < 6 → cond t A (cnt m X 6) k = true → X.testBit k = true
theorem cond_mono {t : Nat → Nat} {A x y k : Nat} (h : x ≤ y) (q : cond t A x k = true) : cond t A y k = true := by
  unfold cond at *
  rw [decide_eq_true_iff] at *
  omega
/-- the least closed set above W -/
def Cl (m t : Nat → Nat) (A W R : Nat) : Prop := R < 64 ∧ Sub W R ∧ clo m t A R ∧ ∀ X, Sub W X → clo m t A X → Sub R X
theorem Cl.one {m t : Nat → Nat} {A W R R' : Nat} (h : Cl m t A W R) (h' : Cl m t A W R') : R = R' := Sub.anti h.1 h'.1 (h.2.2.2 R' h'.2.1 h'.2.2.1) (h'.2.2.2 R h.2.1 h.2.2.1)
/-! the class's side -/
def Fl (W : Nat) (M : sd_Mem) : Prop := ∀ k, k < 6 → M.1 95 k = if W.testBit k = true then 1 else 0
theorem fl1 : ∀ b : Bool, (((if b = true then (1 : Int32) else 0) ||| 1) &&& 1) = 1 ∧ (((if b = true then (1 : Int32) else 0) ||| 0) &&& 1) = if b = true then 1 else 0 := by decide
theorem Fl.set {W i : Nat} {M : sd_Mem} (hi : i < 6) (h : Fl W M) : Fl (W ||| 2 ^ i) (sd_setI M 95 i ((M.1 95 i ||| 1) &&& 1)) := fun k hk => by
  rw [gI, tb_or]
  by_cases e : k = i
  · subst e; rw [if_pos ⟨rfl, rfl⟩, h k hk, (fl1 _).1]; simp
  · rw [if_neg (fun z => e z.2), h k hk]
    have : decide (i = k) = false := decide_eq_false (fun z => e z.symm)
    rw [this, Bool.or_false]
theorem Fl.nop {W i : Nat} {M : sd_Mem} (hi : i < 6) (h : Fl W M) : Fl W (sd_setI M 95 i ((M.1 95 i ||| 0) &&& 1)) := fun k hk => by
  rw [gI]
  by_cases e : k = i
  · subst e; rw [if_pos ⟨rfl, rfl⟩, h k hk, (fl1 _).2]
  · rw [if_neg (fun z => e z.2), h k hk]
/-- only id a of the ints differs -/
def On (a : Nat) (M M' : sd_Mem) : Prop := (∀ b, b ≠ a → M'.1 b = M.1 b) ∧ M'.2 = M.2
theorem On.rf {a : Nat} {M : sd_Mem} : On a M M := ⟨fun _ _ => rfl, rfl⟩
theorem On.tr {a : Nat} {A B C : sd_Mem} (h : On a A B) (h2 : On a B C) : On a A C := ⟨fun b hb => (h2.1 b hb).trans (h.1 b hb), h2.2.trans h.2⟩
theorem On.I {a k : Nat} {v : Int32} {A M : sd_Mem} (h : On a A M) : On a A (sd_setI M a k v) := ⟨fun b hb => by rw [← h.1 b hb]; exact funext fun j => gIa hb, h.2⟩
theorem On.kM {a : Nat} {A B : sd_Mem} (h : On a A B) (ha : rgM a = 9) : keepM [9] A B := fun id k q => ⟨by rw [h.1 id (fun e => q (by rw [e, ha]; decide))], by rw [h.2]⟩
theorem On.kN {a : Nat} {A B : sd_Mem} (h : On a A B) (ha : ∀ k, rgN a k = 9) : keepN [9] A B := fun id k q => ⟨by rw [h.1 id (fun e => q (by rw [e, ha]; decide))], by rw [h.2]⟩
theorem menBackM {m : Nat → Nat} {W : Nat} {M : sd_Mem} (hm : ∀ k, k < 6 → M.1 91 k = nI (m k)) (h : Fl W M) : fn_X8_menBack M = some (nI (cnt m W 6)) := by
  have key : ∀ (f i : Nat), i ≤ 6 → 6 - i < f → fn_X8_menBack_4 M f (nI (cnt m W i)) (nI i) = some (nI (cnt m W 6)) := by
    intro f
    induction f with
    | zero => intro i h1 h2; omega
    | succ f ih =>
      intro i h1 h2
      unfold fn_X8_menBack_4
      by_cases hi : i = 6
      · subst hi; rw [if_pos (by decide)]
      · have step := ih (i + 1) (by omega) (by omega)
        rw [cnt] at step
        rw [if_neg (show ¬ (6 : Int32) ≤ nI i from nI_ge (b := 6) (by omega) (by decide)), clm (show i < 2 ^ 31 by omega), if_neg (bd2 (show i < 6 by omega) (by decide)), if_neg (bd2 (show i < 6 by omega) (by decide)), nI_1, h i (by omega), hm i (by omega)]
        by_cases g : W.testBit i = true
        · rw [if_pos g, if_neg I1ne, nI_add]; rw [if_pos g] at step; exact step
        · rw [if_neg g, if_pos rfl, Int32.add_zero]; rw [if_neg g, Nat.add_zero] at step; exact step
  exact key sd_FU 0 (by decide) (by decide)
theorem follow {t : Nat → Nat} {M : sd_Mem} {W x A : Nat} (ht : ∀ k, k < 6 → t k ≤ 100 ∧ M.1 93 k = nI (t k)) (hx : x ≤ 594) (hA : A ≤ 594) (h : Fl W M) : ∃ M' : sd_Mem, fn_X8_followThose M (nI x) (nI A) = some M' ∧ Fl (o1 (cond t A x) W 6) M' ∧ On 95 M M' := by
  have key : ∀ (f i : Nat) (M' : sd_Mem), i ≤ 6 → 6 - i < f → Fl (o1 (cond t A x) W i) M' → On 95 M M' → ∃ M'' : sd_Mem, fn_X8_followThose_2 f M' (nI x) (nI A) (nI i) = some M'' ∧ Fl (o1 (cond t A x) W 6) M'' ∧ On 95 M M'' := by
    intro f
    induction f with
    | zero => intro i M' h1 h2; omega
    | succ f ih =>
      intro i M' h1 h2 hF hO
      unfold fn_X8_followThose_2
      by_cases hi : i = 6
      · subst hi; exact ⟨M', by rw [if_pos (by decide)], hF, hO⟩
      · have hi6 : i < 6 := by omega
        obtain ⟨ht1, ht2⟩ := ht i hi6
        have hp := Nat.mul_le_mul ht1 hA
        rw [if_neg (show ¬ (6 : Int32) ≤ nI i from nI_ge (b := 6) hi6 (by decide)), clm (show i < 2 ^ 31 by omega), nI_1]
        simp only [if_neg (bd2 hi6 (show 6 < 2 ^ 31 by decide)), show M'.1 93 i = nI (t i) by rw [hO.1 93 (by decide)]; exact ht2, show (100 : Int32) * nI x = nI (100 * x) from pk_mul 100 x, pk_mul]
        by_cases g : 100 * x < t i * A
        · rw [if_pos (nI_lt g (by omega))]
          have e : o1 (cond t A x) W (i + 1) = o1 (cond t A x) W i := by rw [o1, if_neg]; unfold cond; rw [decide_eq_true_iff]; omega
          exact ih (i + 1) _ (by omega) (by omega) (by rw [e]; exact hF.nop hi6) hO.I
        · rw [if_neg (nI_nlt (by omega) (by omega))]
          have e : o1 (cond t A x) W (i + 1) = o1 (cond t A x) W i ||| 2 ^ i := by rw [o1, if_pos]; unfold cond; rw [decide_eq_true_iff]; omega
          exact ih (i + 1) _ (by omega) (by omega) (by rw [e]; exact hF.set hi6) hO.I
  exact key sd_FU 0 M (by decide) (by decide) h On.rf
