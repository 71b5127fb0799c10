theorem rg1 (s g t H a P u X : Int64) : s + ((g * t) * H) * (a * P) + (g * u) * X * P = s + g * (t * (H * a) + u * X) * P := by grind
theorem powM : ∀ k, k ≤ 10 → fn_X5_power (nI k) = some (lN (12 ^ k)) := by decide +kernel
theorem powN : ∀ k, k ≤ 10 → fn_X11_twelve (nI k) = some (lN (12 ^ k)) := by decide +kernel
/-- judged backwards -/
def dn (t u : Int64) (H : Nat → Int64) (e : Nat) (V : Int64) : Nat → Int64
  | 0 => V
  | m + 1 => t * (H (e - m) * lN (12 ^ m)) + u * dn t u H e V m
theorem dn_step {t u : Int64} {H : Nat → Int64} {e l k : Nat} {V s g : Int64} (hk : k < e) (he : e ≤ l) : s + ((g * t) * H (k + 1)) * lN (12 ^ (l - (k + 1))) + (g * u) * dn t u H e V (e - (k + 1)) * lN (12 ^ (l - e)) = s + g * dn t u H e V (e - k) * lN (12 ^ (l - e)) := by
  obtain ⟨m, hm⟩ : ∃ m, e - k = m + 1 := ⟨e - k - 1, by omega⟩
  have e1 : e - (k + 1) = m := by omega
  have e2 : e - m = k + 1 := by omega
  have e3 : l - (k + 1) = m + (l - e) := by omega
  rw [e1, hm, dn, e2, e3, Nat.pow_add, ← lN_mul]
  exact rg1 _ _ _ _ _ _ _ _
/-- what a SORT s of side z has of a settling on day D at wage y -/
def pv (d : Nat → Nat → Nat) (v h z s : Nat) (D y : Int32) : Int64 := (if z = 0 then y.toInt64 else (nI v - y).toInt64) * (nI h - D + 1).toInt64 - (nI (d z s)).toInt64 * (D - 1).toInt64
section QRS2
variable {n : Nat → Nat} {c d : Nat → Nat → Nat} {v h l w : Nat} {M N : sd_Mem}
theorem payM (q : Qr n c d v h l w M N) {z s : Nat} (hz : z < 2) (hs : s < n z) (D y : Int32) : fn_X5_pay M 40 (nI z) (nI s) D y = some (pv d v h z s D y) := by
  have hn := (q.1 z hz).1
  have hh := hasIn (h := 40) hz hn.2 (q.1 z hz).2.1 hs
  obtain ⟨-, -, -, -, g5, -⟩ := (q.1 z hz).2.2.2.2 s hs
  have c1 := clm (show z < 2 ^ 31 by omega)
  have c2 := clm (show s < 2 ^ 31 by omega)
  simp only [fn_X5_pay, fn_X5_pay_0, fn_X5_pay_18, fn_X5_pay_42, hh, Option.bind_some, if_neg I1ne, c1, c2, if_neg (bd2 hz (show 2 < 2 ^ 31 by decide)), if_neg (bd2 (show s < 3 by omega) (show 3 < 2 ^ 31 by decide)), g5, q.2.1.2.1, q.2.2.1.2.1]
  unfold pv
  rcases (show z = 0 ∨ z = 1 by omega) with rfl | rfl
  · rw [if_pos (by decide), if_pos rfl]
  · rw [if_neg (by decide), if_neg (by decide)]
theorem payN (q : Qr n c d v h l w M N) {z s : Nat} (hz : z < 2) (hs : s < n z) (D y : Int32) : fn_X11_worthOf N (nI z) (nI s) D y = some (pv d v h z s D y) := by
  have hn := (q.1 z hz).1
  obtain ⟨-, -, -, -, -, g6⟩ := (q.1 z hz).2.2.2.2 s hs
  have c2 := clm (show 3 * z + s < 2 ^ 31 by omega)
  simp only [fn_X11_worthOf, fn_X11_worthOf_0, fn_X11_worthOf_30, ix (a := 3) (A := 3) rfl, c2, if_neg (bd2 (show 3 * z + s < 6 by omega) (show 6 < 2 ^ 31 by decide)), g6, show (1 : Int32).toNatClampNeg = 1 from rfl, show (0 : Int32).toNatClampNeg = 0 from rfl, q.2.1.2.2, q.2.2.1.2.2, if_neg (show ¬ ((1 : Int32) < 0 ∨ 4 ≤ 1) by decide), if_neg (show ¬ ((0 : Int32) < 0 ∨ 4 ≤ 0) by decide)]
  unfold pv
  rcases (show z = 0 ∨ z = 1 by omega) with rfl | rfl
  · rw [if_pos (by decide), if_pos rfl]
  · rw [if_neg (by decide), if_neg (by decide)]
theorem min1 {l D : Nat} (hl : l < 2 ^ 31) (hD : D < 2 ^ 31) : (if nI l < nI D then nI l else nI D) = nI (min l D) := by
  by_cases g : l < D
  · rw [if_pos (nI_lt g hD), Nat.min_eq_left (by omega)]
  · rw [if_neg (nI_nlt (by omega) hl), Nat.min_eq_right (by omega)]
theorem sub1 {a b : Nat} (h : b ≤ a) : nI a - nI b = nI (a - b) := pk_sub h
/-- the judge's terms t, jw on both sides -/
theorem judM (q : Qr n c d v h l w M N) {hh z s t : Nat} {jw : Int32} (hz : z < 2) (hs : s < n z) (ht : M.1 (hh - 3) 1 = nI t) (hw : M.1 (hh - 3) 2 = jw) {e : Nat} (he : e ≤ l) {V : Int64} : ∀ (f m : Nat), m ≤ e → e - m < f → fn_X7_payJudged_31 M hh f (nI z) (nI s) (nI e) (dn (nI t).toInt64 (12 - nI t).toInt64 (fun x => pv d v h z s (nI x) jw) e V m) (nI (e - m)) = some (dn (nI t).toInt64 (12 - nI t).toInt64 (fun x => pv d v h z s (nI x) jw) e V e * lN (12 ^ (l - e))) := by
  have hl := q.2.2.2.1.1
  intro f
  induction f with
  | zero => intro m h1 h2; omega
  | succ f ih =>
    intro m h1 h2
    unfold fn_X7_payJudged_31
    by_cases hm : m = e
    · subst hm
      rw [if_pos (by rw [Nat.sub_self]; decide), fn_X7_payJudged_100, q.2.2.2.1.2.1, sub1 he, powM _ (by omega)]
      rfl
    · have e1 : e - m = (e - (m + 1)) + 1 := by omega
      rw [if_neg (show ¬ nI (e - m) < 1 from nI_nlt (b := 1) (by omega) (by omega)), ht, hw, payM q hz hs, Option.bind_some, sub1 (show e - m ≤ e by omega), show e - (e - m) = m by omega, powM m (by omega), Option.bind_some]
      have := ih (m + 1) (by omega) (by omega)
      rw [dn] at this
      rw [show nI (e - m) + -1 = nI (e - (m + 1)) by rw [e1, pk_m1]]
      exact this
theorem judN (q : Qr n c d v h l w M N) {z s t : Nat} {jw D y : Int32} (hz : z < 2) (hs : s < n z) (ht : N.1 100 15 = nI t) (hw : N.1 100 16 = jw) {e : Nat} (he : e ≤ l) : ∀ (f k : Nat) (s' g : Int64), k ≤ e → e - k < f → fn_X11_judged_27 N f (nI z) (nI s) D y (nI e) s' g (nI (k + 1)) = some (s' + g * dn (nI t).toInt64 (12 - nI t).toInt64 (fun x => pv d v h z s (nI x) jw) e (pv d v h z s D y) (e - k) * lN (12 ^ (l - e))) := by
  have hl := q.2.2.2.1.1
  intro f
  induction f with
  | zero => intro k s' g h1 h2; omega
  | succ f ih =>
    intro k s' g h1 h2
    unfold fn_X11_judged_27
    by_cases hk : k = e
    · subst hk
      rw [if_pos (nI_lt (by omega) (by omega)), fn_X11_judged_90, payN q hz hs, Option.bind_some, lastN q, Option.bind_some, sub1 he, powN _ (by omega), Nat.sub_self, dn]
      rfl
    · rw [if_neg (nI_nlt (by omega) (by omega)), ht, hw, payN q hz hs, Option.bind_some, lastN q, Option.bind_some, sub1 (show k + 1 ≤ l by omega), powN _ (by omega), Option.bind_some, nI_1, ih (k + 1) _ _ (by omega) (by omega)]
      exact congrArg some (dn_step (H := fun x => pv d v h z s (nI x) jw) (by omega) he)
theorem jud (q : Qr n c d v h l w M N) {hh z s t : Nat} {jw : Int32} (hz : z < 2) (hs : s < n z) (ht : M.1 (hh - 3) 1 = nI t) (hw : M.1 (hh - 3) 2 = jw) (ht2 : N.1 100 15 = nI t) (hw2 : N.1 100 16 = jw) {D : Nat} (y : Int32) (hD1 : 1 ≤ D) (hD : D ≤ l + 1) : ∃ V : Int64, fn_X7_payJudged M hh (nI z) (nI s) (nI D) y = some V ∧ fn_X11_judged N (nI z) (nI s) (nI D) y = some V := by
  have hl := q.2.2.2.1.1
  refine ⟨dn (nI t).toInt64 (12 - nI t).toInt64 (fun x => pv d v h z s (nI x) jw) (min l D) (pv d v h z s (nI D) y) (min l D) * lN (12 ^ (l - min l D)), ?_, ?_⟩
  · have := judM q hz hs ht hw (e := min l D) (by omega) (V := pv d v h z s (nI D) y) sd_FU 0 (by omega) (by rw [FU_eq]; omega)
    unfold fn_X7_payJudged fn_X7_payJudged_0
    rw [payM q hz hs, Option.bind_some, q.2.2.2.1.2.1, min1 (by omega) (by omega)]
    exact this
  · have := judN q hz hs ht2 hw2 (D := nI D) (y := y) (e := min l D) (by omega) sd_FU 0 0 1 (by omega) (by rw [FU_eq]; omega)
    rw [Int64.zero_add, Int64.one_mul] at this
    unfold fn_X11_judged fn_X11_judged_0 fn_X11_judged_16
    rw [lastN q, Option.bind_some, Option.bind_some]
    by_cases g : l ≤ D
    · rw [if_pos (nI_le g (by omega))]
      rw [Nat.min_eq_left g] at this ⊢
      exact this
    · rw [if_neg (nI_ge (by omega) (by omega))]
      rw [Nat.min_eq_right (by omega)] at this ⊢
      exact this
end QRS2
