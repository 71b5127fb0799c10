theorem Pr.keep {S : List Nat} {M M' N N' : sd_Mem} (hM : keepM S M M') (hN : keepN S N N') (h3 : 3 ∉ S) {o t kd : Nat} {O T : Nat → Nat → Nat} (p : Pr o t kd O T M N) : Pr o t kd O T M' N' := by
  obtain ⟨ho, ht, hk, a1, a2, a3, a4, hh⟩ := p
  refine ⟨ho, ht, hk, by rw [hM.e _ 1 3 (rgM_way ho).1 h3]; exact a1, by rw [hN.e 115 o 3 (rgN_o (by decide)) h3]; exact a2, by rw [hM.e _ 1 3 (rgM_way ht).1 h3]; exact a3, by rw [hN.e 115 t 3 (rgN_o (by decide)) h3]; exact a4, fun s hs x h1 h2 => ?_⟩
  rw [hM.e _ _ 3 (rgM_way ho).2 h3, hM.e _ _ 3 (rgM_way ht).2 h3, hN.e 116 _ 3 (rgN_o (by decide)) h3, hN.e 116 _ 3 (rgN_o (by decide)) h3]
  exact hh s hs x h1 h2
/-- days lost under a judge who may come -/
def dj (k l x : Nat) : Int64 := dn (nI k).toInt64 (12 - nI k).toInt64 (fun x => (nI x - 1).toInt64) (min l x) (nI x - 1).toInt64 (min l x) * lN (12 ^ (l - min l x))
section QRS7
variable {n : Nat → Nat} {c d : Nat → Nat → Nat} {v h l w : Nat} {M N : sd_Mem} {o t kd : Nat} {O T : Nat → Nat → Nat}
theorem djM_loop (q : Qr n c d v h l w M N) {hh k : Nat} (ht : M.1 (hh - 3) 1 = nI k) {e : Nat} (he : e ≤ l) {V : Int64} : ∀ (f m : Nat), m ≤ e → e - m < f → fn_X7_daysJudged_20 M hh f (nI e) (dn (nI k).toInt64 (12 - nI k).toInt64 (fun x => (nI x - 1).toInt64) e V m) (nI (e - m)) = some (dn (nI k).toInt64 (12 - nI k).toInt64 (fun x => (nI x - 1).toInt64) e V e * lN (12 ^ (l - e))) := by
  have hl := q.2.2.2.1.1
  intro f
  induction f with
  | zero => intro m h1 h2; omega
  | succ f ih =>
    intro m h1 h2
    unfold fn_X7_daysJudged_20
    by_cases hm : m = e
    · subst hm
      rw [if_pos (by rw [Nat.sub_self]; decide), fn_X7_daysJudged_73, q.2.2.2.1.2.1, sub1 he, powM _ (by omega)]
      rfl
    · have e1 : e - m = (e - (m + 1)) + 1 := by omega
      rw [if_neg (show ¬ nI (e - m) < 1 from nI_nlt (b := 1) (by omega) (by omega)), ht, sub1 (show e - m ≤ e by omega), show e - (e - m) = m by omega, powM m (by omega), Option.bind_some]
      have := ih (m + 1) (by omega) (by omega)
      rw [dn] at this
      rw [show nI (e - m) + -1 = nI (e - (m + 1)) by rw [e1, pk_m1]]
      exact this
theorem djM (q : Qr n c d v h l w M N) {hh k x : Nat} (ht : M.1 (hh - 3) 1 = nI k) (hx : x ≤ 12) : fn_X7_daysJudged M hh (nI x) = some (dj k l x) := by
  have hl := q.2.2.2.1.1
  have := djM_loop q ht (e := min l x) (by omega) (V := (nI x - 1).toInt64) sd_FU 0 (by omega) (by rw [FU_eq]; omega)
  unfold fn_X7_daysJudged fn_X7_daysJudged_0
  rw [q.2.2.2.1.2.1, min1 (by omega) (by omega)]
  exact this
theorem ljM (q : Qr n c d v h l w M N) {D : Nat → Nat → Nat} {hh k : Nat} (hD : DyF D hh o t l M N) (ht : M.1 (hh - 3) 1 = nI k) : fn_X7_lostDaysJudged M hh (23 + 1 + 2 * o) (23 + 1 + 2 * t) = some (s2 (fun i j => (dj k l (D i j) * (nI (c 1 i)).toInt64) * (nI (c 0 j)).toInt64) (n 1) (n 0)) := by
  have hl := q.2.2.2.1.1
  have hn1 := (q.1 1 (by decide)).1
  have hn0 := (q.1 0 (by decide)).1
  have key : ∀ (f x : Nat), x ≤ l + 1 → l + 1 - x < f → fn_X7_lostDaysJudged_5 M hh (23 + 1 + 2 * o) (23 + 1 + 2 * t) f (tX (dj k l) D (wt c) (n 1) (n 0) x) (nI (x + 1)) = some (tX (dj k l) D (wt c) (n 1) (n 0) (l + 1)) := by
    intro f
    induction f with
    | zero => intro x h1 h2; omega
    | succ f ih =>
      intro x h1 h2
      unfold fn_X7_lostDaysJudged_5
      rw [q.2.2.2.1.2.1, nI_1]
      by_cases hx : x = l + 1
      · subst hx; rw [if_pos (nI_lt (by omega) (by omega))]
      · rw [if_neg (nI_nlt (by omega) (by omega)), djM q ht (by omega), ending q hD (by omega), Option.bind_some, Option.bind_some, nI_1]
        have := ih (x + 1) (by omega) (by omega)
        rw [tX] at this
        exact this
  refine Eq.trans (key sd_FU 0 (by omega) (by rw [FU_eq]; omega)) (congrArg some ?_)
  rw [tX_eq (fun i hi j hj => (hD i j (by omega) (by omega)).1.1)]
  refine s2_congr fun i hi j hj => ?_
  rw [if_pos (hD i j (by omega) (by omega)).1.2, wt, Int64.mul_assoc]
theorem ljN_day (q : Qr n c d v h l w M N) {kk k20 : _} {i j k e : Nat} {A : Int64} {D : Int32} (hi : i < n 1) (hj : j < n 0) (he : e ≤ l) : ∀ (f m : Nat) (s' g : Int64), m ≤ e → e - m < f → fn_X11_losesBy_72 N kk k20 f (nI o) (nI t) (nI k) A (nI i) (nI j) D (nI e) s' g (nI (m + 1)) = k20 (nI o) (nI t) (nI k) (A + ((s' + g * dn (nI k).toInt64 (12 - nI k).toInt64 (fun x => (nI x - 1).toInt64) e (D - 1).toInt64 (e - m) * lN (12 ^ (l - e))) * (nI (c 1 i)).toInt64) * (nI (c 0 j)).toInt64) (nI i) (nI (j + 1)) := by
  have hl := q.2.2.2.1.1
  obtain ⟨y1, y2, y3, y4, -, -⟩ := chaN q hi hj
  intro f
  induction f with
  | zero => intro m s' g h1 h2; omega
  | succ f ih =>
    intro m s' g h1 h2
    unfold fn_X11_losesBy_72
    by_cases hm : m = e
    · subst hm
      rw [if_pos (nI_lt (by omega) (by omega)), fn_X11_losesBy_122, lastN q, Option.bind_some, sub1 he, powN _ (by omega), Option.bind_some, if_neg y1, if_neg y2, y3, y4, Nat.sub_self, dn, nI_1]
    · rw [if_neg (nI_nlt (by omega) (by omega)), lastN q, Option.bind_some, sub1 (show m + 1 ≤ l by omega), powN _ (by omega), Option.bind_some, nI_1, ih (m + 1) _ _ (by omega) (by omega)]
      have := dn_step (t := (nI k).toInt64) (u := (12 - nI k).toInt64) (H := fun x => (nI x - 1).toInt64) (e := e) (l := l) (k := m) (V := (D - 1).toInt64) (s := s') (g := g) (by omega) he
      rw [← this]
theorem ljN_in (q : Qr n c d v h l w M N) {D : Nat → Nat → Nat} {hh k : Nat} (hD : DyF D hh o t l M N) {kk : _} {i : Nat} (hi : i < n 1) (A : Int64) : ∀ (f j : Nat), j ≤ n 0 → n 0 - j < f → fn_X11_losesBy_20 N kk f (nI o) (nI t) (nI k) (A + sI (fun j => (dj k l (D i j) * (nI (c 1 i)).toInt64) * (nI (c 0 j)).toInt64) j) (nI i) (nI j) = kk (nI o) (nI t) (nI k) (A + sI (fun j => (dj k l (D i j) * (nI (c 1 i)).toInt64) * (nI (c 0 j)).toInt64) (n 0)) (nI (i + 1)) := by
  have hn0 := (q.1 0 (by decide)).1
  have hn1 := (q.1 1 (by decide)).1
  have hl := q.2.2.2.1.1
  intro f
  induction f with
  | zero => intro j h1 h2; omega
  | succ f ih =>
    intro j h1 h2
    unfold fn_X11_losesBy_20
    rw [if_neg g02, k0, (q.1 0 (by decide)).2.2.1]
    by_cases hj : j = n 0
    · rw [← hj, if_pos (nI_le (Nat.le_refl _) (by omega)), nI_1]
    · have hj2 : j < n 0 := by omega
      obtain ⟨⟨d1, d2⟩, -, d3⟩ := hD i j (by omega) (by omega)
      rw [if_neg (nI_ge hj2 (by omega)), d3, Option.bind_some, lastN q, Option.bind_some, Option.bind_some]
      have := ih (j + 1) (by omega) (by omega)
      rw [sI, ← Int64.add_assoc] at this
      have e := ljN_day q (kk := kk) (k20 := fn_X11_losesBy_20 N kk f) (i := i) (j := j) (k := k) (e := min l (D i j)) (o := o) (t := t) (A := A + sI (fun j => (dj k l (D i j) * (nI (c 1 i)).toInt64) * (nI (c 0 j)).toInt64) j) (D := nI (D i j)) hi hj2 (by omega) sd_FU 0 0 1 (by omega) (by rw [FU_eq]; omega)
      rw [Int64.zero_add, Int64.one_mul] at e
      have e2 := e.trans this
      unfold fn_X11_losesBy_61
      by_cases g : l ≤ D i j
      · rw [if_pos (nI_le g (by omega))]
        rw [Nat.min_eq_left g] at e2
        exact e2
      · rw [if_neg (nI_ge (by omega) (by omega))]
        rw [Nat.min_eq_right (by omega)] at e2
        exact e2
theorem ljN (q : Qr n c d v h l w M N) {D : Nat → Nat → Nat} {hh k : Nat} (hD : DyF D hh o t l M N) : fn_X11_losesBy N (nI o) (nI t) (nI k) = some (s2 (fun i j => (dj k l (D i j) * (nI (c 1 i)).toInt64) * (nI (c 0 j)).toInt64) (n 1) (n 0)) := by
  have hn1 := (q.1 1 (by decide)).1
  have hn0 := (q.1 0 (by decide)).1
  have key : ∀ (f i : Nat), i ≤ n 1 → n 1 - i < f → fn_X11_losesBy_6 N f (nI o) (nI t) (nI k) (sI (fun i => sI ((fun i j => (dj k l (D i j) * (nI (c 1 i)).toInt64) * (nI (c 0 j)).toInt64) i) (n 0)) i) (nI i) = some (s2 (fun i j => (dj k l (D i j) * (nI (c 1 i)).toInt64) * (nI (c 0 j)).toInt64) (n 1) (n 0)) := by
    intro f
    induction f with
    | zero => intro i h1 h2; omega
    | succ f ih =>
      intro i h1 h2
      unfold fn_X11_losesBy_6
      rw [if_neg g12, k1, (q.1 1 (by decide)).2.2.1]
      by_cases hi : i = n 1
      · rw [hi, if_pos (nI_le (Nat.le_refl _) (by omega))]; rfl
      · rw [if_neg (nI_ge (by omega) (by omega))]
        have e := ljN_in q hD (kk := fn_X11_losesBy_6 N f) (k := k) (i := i) (by omega) (sI (fun i => sI ((fun i j => (dj k l (D i j) * (nI (c 1 i)).toInt64) * (nI (c 0 j)).toInt64) i) (n 0)) i) sd_FU 0 (by omega) (by rw [FU_eq]; omega)
        rw [sI, Int64.add_zero] at e
        refine e.trans ?_
        exact ih (i + 1) (by omega) (by omega)
  exact key sd_FU 0 (by omega) (by rw [FU_eq]; omega)
end QRS7
/-- both memories while laws are tried -/
def LI (M N Mk Nk : sd_Mem) : Prop := keepM [9] M Mk ∧ (∀ id k : Nat, ¬ (id = 100 ∧ k = 14) → Nk.1 id k = N.1 id k) ∧ Nk.2 = N.2
theorem LI.kM {M N Mk Nk : sd_Mem} (h : LI M N Mk Nk) : keepM [5, 9] M Mk := h.1.mono (fun i hi => List.mem_cons_of_mem _ hi)
theorem LI.kN {M N Mk Nk : sd_Mem} (h : LI M N Mk Nk) : keepN [5, 9] N Nk := fun id k q => ⟨h.2.1 id k (fun e => q (by rw [e.1, e.2]; decide)), by rw [h.2.2]⟩
theorem lawAt {M N Mk Nk : sd_Mem} {n : Nat → Nat} {c d : Nat → Nat → Nat} {v h l w : Nat} {o t kd : Nat} {O T : Nat → Nat → Nat} (q : Qr n c d v h l w M N) (p : Pr o t kd O T M N) (hi : LI M N Mk Nk) {a k : Nat} (ha : 1 ≤ a ∧ a ≤ 10) : ∃ V : Int64, LI M N (sd_setI (sd_setI Mk 59 0 (nI a)) 59 1 (nI k)) (sd_setI Nk 100 14 (nI a)) ∧ fn_X7_lostDaysJudged (sd_setI (sd_setI Mk 59 0 (nI a)) 59 1 (nI k)) 62 (23 + 1 + 2 * o) (23 + 1 + 2 * t) = some V ∧ fn_X11_losesBy (sd_setI Nk 100 14 (nI a)) (nI o) (nI t) (nI k) = some V := by
  have hi2 : LI M N (sd_setI (sd_setI Mk 59 0 (nI a)) 59 1 (nI k)) (sd_setI Nk 100 14 (nI a)) := ⟨keepM.I (by decide) (keepM.I (by decide) hi.1), fun id k hk => by rw [gIn hk]; exact hi.2.1 id k hk, hi.2.2⟩
  have q2 := q.keep hi2.kM hi2.kN (by decide)
  have p2 := p.keep hi2.kM hi2.kN (by decide)
  have a1 : (sd_setI (sd_setI Mk 59 0 (nI a)) 59 1 (nI k)).1 (62 - 3) 0 = nI a := by rw [gIk (by decide), gIs]
  have a2 : (sd_setI (sd_setI Mk 59 0 (nI a)) 59 1 (nI k)).1 (62 - 3) 1 = nI k := gIs _ _ _ _
  obtain ⟨D, hD⟩ := settleF q2 p2 (hh := 62) a1 (gIs _ _ _ _) ha
  exact ⟨_, hi2, ljM q2 hD a2, ljN q2 hD⟩
def gb (b : Int32) : Prop := b = -9 ∨ ∃ k : Nat, k < 100 ∧ b = nI k
theorem law_in {M N : sd_Mem} {n : Nat → Nat} {c d : Nat → Nat → Nat} {v h l w : Nat} {o t kd : Nat} {O T : Nat → Nat → Nat} (q : Qr n c d v h l w M N) (p : Pr o t kd O T M N) {k24 k30 : _} {x : Nat} {x0 : Int32} (hx : 1 ≤ x ∧ x ≤ 4) (hk : ∀ Mk Nk b L, LI M N Mk Nk → gb b → ∃ q1 q2 : Int32 × sd_Mem, k24 Mk (nI o) (nI t) b L (nI (x + 1)) = some q1 ∧ k30 Nk (nI o) (nI t) x0 b L (nI (x + 1)) = some q2 ∧ q1.1 = q2.1 ∧ Rel q1.2 q2.2) : ∀ (f j : Nat) (Mk Nk : sd_Mem) (b : Int32) (L : Int64), j ≤ 2 → 2 - j < f → LI M N Mk Nk → gb b → ∃ q1 q2 : Int32 × sd_Mem, fn_X10_law_33 k24 f Mk (nI o) (nI t) b L (nI x) (nI (3 * j)) = some q1 ∧ fn_X11_law_39 k30 f Nk (nI o) (nI t) x0 b L (nI x) (nI (3 * j)) = some q2 ∧ q1.1 = q2.1 ∧ Rel q1.2 q2.2 := by
  have c1 := clm (show o < 2 ^ 31 by have := p.1; omega)
  have c2 := clm (show t < 2 ^ 31 by have := p.2.1; omega)
  have b1 := bd2 p.1 (show 8 < 2 ^ 31 by decide)
  have b2 := bd2 p.2.1 (show 8 < 2 ^ 31 by decide)
  intro f
  induction f with
  | zero => intro j Mk Nk b L h1 h2; omega
  | succ f ih =>
    intro j Mk Nk b L h1 h2 hi hb
    unfold fn_X10_law_33 fn_X11_law_39
    by_cases hj : j = 2
    · subst hj
      rw [if_pos (by decide), if_pos (by decide), nI_1]
      exact hk Mk Nk b L hi hb
    · have h3 : ¬ (3 : Int32) < nI (3 * j) := nI_nlt (a := 3) (by omega) (by decide)
      obtain ⟨V, hi2, v1, v2⟩ := lawAt q p hi (a := x) (k := 3 * j) (by omega)
      have e3 : nI (3 * j) + 3 = nI (3 * (j + 1)) := by rw [show (3 : Int32) = nI 3 from rfl, nI_add]; congr 1
      have e4 : (10 : Int32) * nI x + nI (3 * j) = nI (10 * x + 3 * j) := ix rfl
      simp only [if_neg h3, c1, c2, if_neg b1, if_neg b2, v1, v2, Option.bind_some, fn_X10_law_93, fn_X11_law_74, e3, e4]
      have hb2 : gb (nI (10 * x + 3 * j)) := Or.inr ⟨10 * x + 3 * j, by omega, rfl⟩
      rcases hb with rfl | ⟨k, hk9, rfl⟩
      · rw [if_pos rfl, if_pos (by decide)]
        exact ih (j + 1) _ _ _ _ (by omega) (by omega) hi2 hb2
      · rw [if_neg (nIm9 (by omega)), if_neg (nI_pos (by omega))]
        by_cases g : 0 ≤ lg_cmp V L
        · rw [if_pos g, if_pos g]
          exact ih (j + 1) _ _ _ _ (by omega) (by omega) hi2 (Or.inr ⟨k, hk9, rfl⟩)
        · rw [if_neg g, if_neg g]
          exact ih (j + 1) _ _ _ _ (by omega) (by omega) hi2 hb2
theorem law_out {M N : sd_Mem} (hR : Rel M N) {n : Nat → Nat} {c d : Nat → Nat → Nat} {v h l w : Nat} {o t kd : Nat} {O T : Nat → Nat → Nat} (q : Qr n c d v h l w M N) (p : Pr o t kd O T M N) : ∀ (f x : Nat) (Mk Nk : sd_Mem) (b : Int32) (L : Int64), 1 ≤ x → x ≤ 5 → 5 - x < f → LI M N Mk Nk → gb b → ∃ q1 q2 : Int32 × sd_Mem, fn_X10_law_24 f Mk (nI o) (nI t) b L (nI x) = some q1 ∧ fn_X11_law_30 f Nk (nI o) (nI t) (N.1 100 14) b L (nI x) = some q2 ∧ q1.1 = q2.1 ∧ Rel q1.2 q2.2 := by
  have hl := q.2.2.2.1.1
  intro f
  induction f with
  | zero => intro x Mk Nk b L h1 h2 h3; omega
  | succ f ih =>
    intro x Mk Nk b L h1 h2 h3 hi hb
    unfold fn_X10_law_24 fn_X11_law_30
    by_cases hx : x = 5
    · subst hx
      rw [if_pos (by decide), if_pos (by decide)]
      have hN : ∀ id k, (sd_setI Nk 100 14 (N.1 100 14)).1 id k = N.1 id k := fun id k => by
        rw [gI]
        by_cases g : id = 100 ∧ k = 14
        · rw [if_pos g, g.1, g.2]
        · rw [if_neg g]; exact hi.2.1 id k g
      have kN : keepN [9] N (sd_setI Nk 100 14 (N.1 100 14)) := fun id k _ => ⟨hN id k, by rw [gI2, hi.2.2]⟩
      have hR2 := hR.sc hi.1 kN
      have q2 := q.keep hi.1 kN (by decide)
      obtain ⟨bb, hb0, hb9, s1, s2'⟩ := pairs_eq q2
      obtain ⟨r1, r2⟩ := p12 l hl.2.1
      have hbb : bb * 12 ^ l < 2 ^ 63 := by
        have := Nat.mul_le_mul hb9 r2
        omega
      obtain ⟨u, u2, f1, f2⟩ := frac (M := Mk) (N := sd_setI Nk 100 14 (N.1 100 14)) L (Nat.mul_pos hb0 r1) hbb b
      refine ⟨(b, sd_setL (sd_setL Mk 96 0 u) 96 1 u2), (b, sd_setL (sd_setL (sd_setI Nk 100 14 (N.1 100 14)) 100 3 u) 100 4 u2), ?_, ?_, rfl, hR2.frac u u2⟩
      · simp only [fn_X10_law_119, s1, fn_X5_judgings, fn_X5_judgings_0, q2.2.2.2.1.2.1, powM l hl.2.1, Option.bind_some, lN_mul, f1]
      · simp only [fn_X11_law_100, lastN q2, powN l hl.2.1, s2', Option.bind_some, lN_mul, Nat.mul_comm (12 ^ l), f2]
    · rw [if_neg (show ¬ (4 : Int32) < nI x from nI_nlt (a := 4) (by omega) (by decide)), if_neg (show ¬ (4 : Int32) < nI x from nI_nlt (a := 4) (by omega) (by decide))]
      exact law_in q p (k24 := fn_X10_law_24 f) (k30 := fn_X11_law_30 f) (x0 := N.1 100 14) (by omega) (fun Mk Nk b L hi hb => ih (x + 1) Mk Nk b L (by omega) (by omega) (by omega) hi hb) sd_FU 0 Mk Nk b L (by decide) (by decide) hi hb
theorem st_30 : sd_St30 Rel := by
  intro M N hR x1 x2
  obtain ⟨n, c, d, v, h, l, w, q⟩ := hR 4
  rcases ref hR x1 x2 1 with ⟨r, M', N', hr0, hr1, g1, g2, hR'⟩ | ⟨g1, g2, o, t, kd, O, T, rfl, rfl, p, -⟩
  · refine ⟨(r, M'), (r, N'), ?_, ?_, rfl, hR'⟩
    · simp only [fn_X10_law, fn_X10_law_0, g1, Option.bind_some, if_neg hr0]
    · simp only [fn_X11_law, fn_X11_law_0, g2, Option.bind_some, if_neg hr1]
  obtain ⟨q1, q2, e1, e2, e3, e4⟩ := law_out hR q p sd_FU 1 M N (-9) 0 (by decide) (by decide) (by decide) ⟨keepM.rf, fun _ _ _ => rfl, rfl⟩ (Or.inl rfl)
  refine ⟨q1, q2, ?_, ?_, e3, e4⟩
  · simp only [fn_X10_law, fn_X10_law_0, g1, Option.bind_some, if_true]
    exact e1
  · simp only [fn_X11_law, fn_X11_law_0, g2, Option.bind_some, if_pos z0]
    exact e2
