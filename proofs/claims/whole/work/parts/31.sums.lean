def sI (f : Nat → Int64) : Nat → Int64
  | 0 => 0
  | k + 1 => sI f k + f k
theorem sI_congr {f g : Nat → Int64} : ∀ {k : Nat}, (∀ i, i < k → f i = g i) → sI f k = sI g k
  | 0, _ => rfl
  | k + 1, h => by rw [sI, sI, sI_congr (k := k) (fun i hi => h i (by omega)), h k (by omega)]
theorem rg2 (A a B b k : Int64) : A + a + k * (B + b) = A + k * B + (a + k * b) := by grind
theorem sI_lin {f g : Nat → Int64} {x : Int64} : ∀ {k : Nat}, sI f k + x * sI g k = sI (fun i => f i + x * g i) k
  | 0 => by simp [sI]
  | k + 1 => by rw [sI, sI, sI, ← sI_lin (k := k), rg2]
def s2 (f : Nat → Nat → Int64) (a b : Nat) : Int64 := sI (fun i => sI (f i) b) a
theorem s2_congr {f g : Nat → Nat → Int64} {a b : Nat} (h : ∀ i, i < a → ∀ j, j < b → f i j = g i j) : s2 f a b = s2 g a b := sI_congr fun i hi => sI_congr fun j hj => h i hi j hj
theorem s2_lin {f g : Nat → Nat → Int64} {x : Int64} {a b : Nat} : s2 f a b + x * s2 g a b = s2 (fun i j => f i j + x * g i j) a b := by
  unfold s2
  rw [sI_lin]
  exact sI_congr fun i _ => sI_lin
/-- Σ over days, of the pairs that end on that day = Σ over pairs -/
def tX (g : Nat → Int64) (D : Nat → Nat → Nat) (W : Nat → Nat → Int64) (a b : Nat) : Nat → Int64
  | 0 => 0
  | e + 1 => tX g D W a b e + g (e + 1) * s2 (fun i j => if D i j = e + 1 then W i j else 0) a b
theorem s2_zero {a b : Nat} : s2 (fun _ _ => 0) a b = 0 := by
  have : ∀ k, sI (fun _ => 0) k = 0 := fun k => by
    induction k with
    | zero => rfl
    | succ k ih => rw [sI, ih]; rfl
  unfold s2
  rw [show (fun _ => sI (fun _ => (0 : Int64)) b) = (fun _ : Nat => (0 : Int64)) from funext fun _ => this b]
  exact this a
theorem tX_eq {g : Nat → Int64} {D : Nat → Nat → Nat} {W : Nat → Nat → Int64} {a b : Nat} (hD : ∀ i, i < a → ∀ j, j < b → 1 ≤ D i j) : ∀ e, tX g D W a b e = s2 (fun i j => if D i j ≤ e then g (D i j) * W i j else 0) a b
  | 0 => by
    rw [tX]
    refine (s2_zero (a := a) (b := b)).symm.trans ?_
    exact s2_congr fun i hi j hj => by
      have := hD i hi j hj
      rw [if_neg (show ¬ D i j ≤ 0 by omega)]
  | e + 1 => by
    rw [tX, tX_eq hD e, s2_lin]
    refine s2_congr fun i hi j hj => ?_
    by_cases h1 : D i j ≤ e
    · rw [if_pos h1, if_neg (by omega), if_pos (by omega)]; simp
    · by_cases h2 : D i j = e + 1
      · rw [if_neg h1, if_pos h2, if_pos (by omega), h2, Int64.zero_add]
      · rw [if_neg h1, if_neg h2, if_neg (by omega)]; simp
section QRS5
variable {n : Nat → Nat} {c d : Nat → Nat → Nat} {v h l w : Nat} {M N : sd_Mem} {o t kd : Nat} {O T : Nat → Nat → Nat} {a tw jw : Nat}
/-- the days of all pairs -/
def DyF (D : Nat → Nat → Nat) (hh o t l : Nat) (M N : sd_Mem) : Prop := ∀ ow m, ow < 3 → m < 3 → (1 ≤ D ow m ∧ D ow m ≤ l + 1) ∧ fn_X7_settlingDay M hh (23 + 1 + 2 * o) (23 + 1 + 2 * t) (nI ow) (nI m) = some (nI (D ow m)) ∧ fn_X11_dayOf N (nI o) (nI t) (nI ow) (nI m) = some (nI (D ow m))
theorem settleF (q : Qr n c d v h l w M N) (p : Pr o t kd O T M N) {hh a : Nat} (hla : M.1 (hh - 3) 0 = nI a) (hna : N.1 100 14 = nI a) (ha : 1 ≤ a ∧ a ≤ 10) : ∃ D : Nat → Nat → Nat, DyF D hh o t l M N := by
  have key : ∀ ow m, ∃ D : Nat, ow < 3 → m < 3 → (1 ≤ D ∧ D ≤ l + 1) ∧ fn_X7_settlingDay M hh (23 + 1 + 2 * o) (23 + 1 + 2 * t) (nI ow) (nI m) = some (nI D) ∧ fn_X11_dayOf N (nI o) (nI t) (nI ow) (nI m) = some (nI D) := by
    intro ow m
    by_cases h1 : ow < 3 ∧ m < 3
    · obtain ⟨D, hD, e1, e2⟩ := settle q p (hh := hh) hla hna ha h1.1 h1.2
      exact ⟨D, fun _ _ => ⟨⟨hD.2.1, hD.2.2.1⟩, e1, e2⟩⟩
    · exact ⟨0, fun h2 h3 => absurd ⟨h2, h3⟩ h1⟩
  exact ⟨fun ow m => Classical.choose (key ow m), fun ow m => Classical.choose_spec (key ow m)⟩
def wt (c : Nat → Nat → Nat) (i j : Nat) : Int64 := (nI (c 1 i)).toInt64 * (nI (c 0 j)).toInt64
theorem pwM (q : Qr n c d v h l w M N) {hh i j : Nat} (hi : i < n 1) (hj : j < n 0) : fn_X7_pairWeight M hh (nI i) (nI j) = some (wt c i j) := by
  have e1 := chaQ q (z := 1) (by decide) hi
  have e2 := chaQ q (z := 0) (by decide) hj
  rw [show nI 1 = 1 from rfl] at e1
  rw [show nI 0 = 0 from rfl] at e2
  simp only [fn_X7_pairWeight, fn_X7_pairWeight_0, e1, e2, Option.bind_some]
  rfl
/-- the end's weight on day x -/
def ew (c : Nat → Nat → Nat) (D : Nat → Nat → Nat) (x i j : Nat) : Int64 := if D i j = x then wt c i j else 0
theorem ending_in (q : Qr n c d v h l w M N) {D : Nat → Nat → Nat} {hh : Nat} (hD : DyF D hh o t l M N) {k6 : _} {x i : Nat} (hx : x ≤ 12) (hi : i < n 1) (A : Int64) : ∀ (f j : Nat), j ≤ n 0 → n 0 - j < f → fn_X7_endingWeight_22 M hh (23 + 1 + 2 * o) (23 + 1 + 2 * t) k6 f (nI x) (A + sI (ew c D x i) j) (nI i) (nI j) = k6 (nI x) (A + sI (ew c D x i) (n 0)) (nI (i + 1)) := by
  have hn0 := (q.1 0 (by decide)).1
  have hn1 := (q.1 1 (by decide)).1
  have hl := q.2.2.2.1.1
  intro f
  induction f with
  | zero => intro j h1 h2; omega
  | succ f ih =>
    intro j h1 h2
    unfold fn_X7_endingWeight_22
    rw [srt0Q q, Option.bind_some]
    by_cases hj : j = n 0
    · rw [← hj, if_pos (nI_le (Nat.le_refl _) (by omega)), nI_1]
    · have hj2 : j < n 0 := by omega
      obtain ⟨⟨d1, d2⟩, d3, -⟩ := hD i j (by omega) (by omega)
      rw [if_neg (nI_ge hj2 (by omega)), d3, Option.bind_some, pwM q hi hj2, nI_1]
      have := ih (j + 1) (by omega) (by omega)
      rw [sI, ew, ← Int64.add_assoc] at this
      by_cases g : D i j = x
      · rw [if_pos (show nI (D i j) = nI x by rw [g]), Option.bind_some]
        rw [if_pos g] at this
        exact this
      · rw [if_neg (fun z => g ((nI_eq (by omega) (by omega)).mp z))]
        rw [if_neg g] at this
        exact this
theorem ending (q : Qr n c d v h l w M N) {D : Nat → Nat → Nat} {hh : Nat} (hD : DyF D hh o t l M N) {x : Nat} (hx : x ≤ 12) : fn_X7_endingWeight M hh (23 + 1 + 2 * o) (23 + 1 + 2 * t) (nI x) = some (s2 (ew c D x) (n 1) (n 0)) := by
  have hn1 := (q.1 1 (by decide)).1
  have hn0 := (q.1 0 (by decide)).1
  have key : ∀ (f i : Nat), i ≤ n 1 → n 1 - i < f → fn_X7_endingWeight_6 M hh (23 + 1 + 2 * o) (23 + 1 + 2 * t) f (nI x) (sI (fun i => sI (ew c D x i) (n 0)) i) (nI i) = some (s2 (ew c D x) (n 1) (n 0)) := by
    intro f
    induction f with
    | zero => intro i h1 h2; omega
    | succ f ih =>
      intro i h1 h2
      unfold fn_X7_endingWeight_6
      rw [srt1Q q, Option.bind_some]
      by_cases hi : i = n 1
      · rw [hi, if_pos (nI_le (Nat.le_refl _) (by omega))]; rfl
      · rw [if_neg (nI_ge (by omega) (by omega))]
        have e := ending_in q hD (k6 := fn_X7_endingWeight_6 M hh (23 + 1 + 2 * o) (23 + 1 + 2 * t) f) (x := x) (i := i) hx (by omega) (sI (fun i => sI (ew c D x i) (n 0)) i) sd_FU 0 (by omega) (by rw [FU_eq]; omega)
        rw [sI, Int64.add_zero] at e
        refine e.trans ?_
        exact ih (i + 1) (by omega) (by omega)
  exact key sd_FU 0 (by omega) (by rw [FU_eq]; omega)
theorem chaN (q : Qr n c d v h l w M N) {i j : Nat} (hi : i < n 1) (hj : j < n 0) : ¬ (3 + nI i < 0 ∨ 6 ≤ (3 + nI i).toNatClampNeg) ∧ ¬ (nI j < 0 ∨ 6 ≤ (nI j).toNatClampNeg) ∧ (N.1 108 (3 + nI i).toNatClampNeg) = nI (c 1 i) ∧ N.1 108 (nI j).toNatClampNeg = nI (c 0 j) ∧ (N.1 109 (3 + nI i).toNatClampNeg) = nI (d 1 i) ∧ N.1 109 (nI j).toNatClampNeg = nI (d 0 j) := by
  have hn1 := (q.1 1 (by decide)).1
  have hn0 := (q.1 0 (by decide)).1
  have e1 := ((q.1 1 (by decide)).2.2.2.2 i hi)
  have e2 := ((q.1 0 (by decide)).2.2.2.2 j hj)
  rw [show 3 * 1 + i = 3 + i by omega] at e1
  rw [show 3 * 0 + j = j by omega] at e2
  rw [show (3 : Int32) + nI i = nI (3 + i) from nI_add 3 i, clm (show 3 + i < 2 ^ 31 by omega), clm (show j < 2 ^ 31 by omega)]
  exact ⟨bd2 (by omega) (by decide), bd2 (by omega) (by decide), e1.2.2.2.1, e2.2.2.2.1, e1.2.2.2.2.2, e2.2.2.2.2.2⟩
theorem pairs_eq (q : Qr n c d v h l w M N) : ∃ b : Nat, 0 < b ∧ b ≤ 729 ∧ fn_X5_pairs M 40 = some (lN b) ∧ fn_X11_pairs N = some (lN b) := by
  have hn1 := (q.1 1 (by decide)).1
  have hn0 := (q.1 0 (by decide)).1
  have hs1 := sum1_le (c := c 1) (k := n 1) (fun s hs => ((q.1 1 (by decide)).2.2.2.2 s hs).1.2)
  have hp1 := sum1_pos (c := c 1) (k := n 1) hn1.1 (fun s hs => ((q.1 1 (by decide)).2.2.2.2 s hs).1.1)
  have hs0 := sum1_le (c := c 0) (k := n 0) (fun s hs => ((q.1 0 (by decide)).2.2.2.2 s hs).1.2)
  have hp0 := sum1_pos (c := c 0) (k := n 0) hn0.1 (fun s hs => ((q.1 0 (by decide)).2.2.2.2 s hs).1.1)
  have a1 : fn_X5_total M 40 1 = _ := totM q (z := 1) (by decide)
  have a0 : fn_X5_total M 40 0 = _ := totM q (z := 0) (by decide)
  have b1 : fn_X11_chances N 1 _ = _ := totN q (z := 1) (by decide)
  have b0 : fn_X11_chances N 0 _ = _ := totN q (z := 0) (by decide)
  have w1 : fn_X11_whoAll N 1 = _ := whoAllN q (z := 1) (by decide)
  have w0 : fn_X11_whoAll N 0 = _ := whoAllN q (z := 0) (by decide)
  generalize sum1 (c 1) (n 1) = A at *
  generalize sum1 (c 0) (n 0) = B at *
  refine ⟨A * B, Nat.mul_pos (by omega) (by omega), ?_, ?_, ?_⟩
  · have := Nat.mul_le_mul (show A ≤ 27 by omega) (show B ≤ 27 by omega)
    omega
  · simp only [fn_X5_pairs, fn_X5_pairs_0, a0, a1, Option.bind_some, nI_l (show A < 2 ^ 31 by omega), nI_l (show B < 2 ^ 31 by omega), lN_mul, Nat.mul_comm]
  · simp only [fn_X11_pairs, fn_X11_pairs_0, w1, w0, b1, b0, Option.bind_some, nI_l (show A < 2 ^ 31 by omega), nI_l (show B < 2 ^ 31 by omega), lN_mul]
end QRS5
