theorem b63 : ∀ i, i < 6 → (63 : Nat).testBit i = true := by decide
theorem allM {m : Nat → Nat} {M : sd_Mem} (hm : ∀ k, k < 6 → M.1 91 k = nI (m k)) : fn_X8_menInAll M = some (nI (cnt m 63 6)) := by
  have : ∀ i, i ≤ 6 → smf (M.1 91) i = nI (cnt m 63 i) := by
    intro i
    induction i with
    | zero => intro _; rfl
    | succ i ih => intro hi; rw [smf, cnt, ih (by omega), if_pos (b63 i (by omega)), hm i (by omega), nI_add]
  rw [menM, this 6 (by decide)]
theorem goBack_loop {m t : Nat → Nat} {M : sd_Mem} {W1 : Nat} (hm : ∀ k, k < 6 → m k ≤ 99 ∧ M.1 91 k = nI (m k)) (ht : ∀ k, k < 6 → t k ≤ 100 ∧ M.1 93 k = nI (t k)) : ∀ (f j : Nat) (M' : sd_Mem) (W : Nat) (p : Int32), j ≤ 7 → 7 - j < f → W < 64 → Fl W M' → On 95 M M' → Sub W1 W → (∀ X, Sub W1 X → clo m t (cnt m 63 6) X → Sub W X) → ((j = 0 ∧ p = -1) ∨ ∃ V, V < 64 ∧ j ≤ cnt (fun _ => 1) V 6 + 1 ∧ Sub V W ∧ p = nI (cnt m V 6) ∧ ∀ k, k < 6 → cond t (cnt m 63 6) (cnt m V 6) k = true → W.testBit k = true) → ∃ (M'' : sd_Mem) (R : Nat), fn_X8_goBack_41 f M' p (nI j) = some M'' ∧ Fl R M'' ∧ On 95 M M'' ∧ Cl m t (cnt m 63 6) W1 R := by
  intro f
  induction f with
  | zero => intro j M' W p h1 h2; omega
  | succ f ih =>
    intro j M' W p h1 h2 hW hF hO hS hX hV
    unfold fn_X8_goBack_41
    have hc : ∀ V, cnt m V 6 ≤ 594 := fun V => cnt_le (m := m) (W := V) (i := 6) (fun k hk => (hm k hk).1)
    by_cases hj : j = 7
    · subst hj
      rw [if_pos (by decide)]
      refine ⟨M', W, rfl, hF, hO, hW, hS, ?_, hX⟩
      rcases hV with ⟨z, -⟩ | ⟨V, -, v2, v3, -⟩
      · omega
      · intro k hk _
        exact v3 k hk (full (by omega) k hk)
    · have mb := menBackM (m := m) (W := W) (M := M') (fun k hk => by rw [hO.1 91 (by decide)]; exact (hm k hk).2) hF
      have al := allM (m := m) (M := M') (fun k hk => by rw [hO.1 91 (by decide)]; exact (hm k hk).2)
      rw [if_neg (show ¬ (6 : Int32) < nI j from nI_nlt (a := 6) (by omega) (by decide)), mb, al, Option.bind_some, Option.bind_some, Option.bind_some, nI_1]
      have hcW := hc W
      by_cases g : nI (cnt m W 6) = p
      · rw [if_pos g]
        refine ⟨M', W, rfl, hF, hO, hW, hS, ?_, hX⟩
        rcases hV with ⟨-, z⟩ | ⟨V, -, -, -, v4, v5⟩
        · rw [z] at g; exact absurd g (nIm1 (by omega))
        · rw [v4] at g
          have hcV := hc V
          have e := (nI_eq (by omega) (by omega)).mp g
          intro k hk q
          rw [e] at q
          exact v5 k hk q
      · rw [if_neg g]
        obtain ⟨M2, e1, e2, e3⟩ := follow (t := t) (M := M') (W := W) (x := cnt m W 6) (A := cnt m 63 6) (fun k hk => by rw [hO.1 93 (by decide)]; exact ht k hk) hcW (hc 63) hF
        rw [e1, Option.bind_some]
        refine ih (j + 1) M2 _ _ (by omega) (by omega) (o1_lt hW (by decide)) e2 (hO.tr e3) (hS.tr o1_sub) (fun X x1 x2 => ?_) (Or.inr ⟨W, hW, ?_, o1_sub, rfl, fun k hk q => o1_has hk q⟩)
        · exact o1_le (hX X x1 x2) (fun k hk q => x2 k hk (cond_mono (cnt_mono (hX X x1 x2) (by decide)) q))
        · rcases hV with ⟨z, -⟩ | ⟨V, v1, v2, v3, v4, -⟩
          · omega
          · have : V ≠ W := fun z => g (by rw [v4, z])
            have := cnt_lt v1 hW v3 this
            omega
theorem goBackM {m t : Nat → Nat} {M : sd_Mem} {W : Nat} (hm : ∀ k, k < 6 → m k ≤ 99 ∧ M.1 91 k = nI (m k)) (ht : ∀ k, k < 6 → t k ≤ 100 ∧ M.1 93 k = nI (t k)) (hW : W < 64) (hF : Fl W M) : ∃ (M' : sd_Mem) (R : Nat), fn_X8_goBack M = some M' ∧ Fl R M' ∧ On 95 M M' ∧ Cl m t (cnt m 63 6) (o1 (fun k => decide (M.1 94 k = 0)) W 6) R := by
  have key : ∀ (f i : Nat) (M' : sd_Mem), i ≤ 6 → 6 - i < f → Fl (o1 (fun k => decide (M.1 94 k = 0)) W i) M' → On 95 M M' → ∃ M'' : sd_Mem, fn_X8_goBack_2 f M' (nI i) = fn_X8_goBack_41 sd_FU M'' (-1) 0 ∧ Fl (o1 (fun k => decide (M.1 94 k = 0)) W 6) M'' ∧ On 95 M M'' := by
    intro f
    induction f with
    | zero => intro i M' h1 h2; omega
    | succ f ih =>
      intro i M' h1 h2 hF hO
      unfold fn_X8_goBack_2
      by_cases hi : i = 6
      · subst hi; exact ⟨M', by rw [if_pos (by decide)], hF, hO⟩
      · have hi6 : i < 6 := by omega
        rw [if_neg (show ¬ (6 : Int32) ≤ nI i from nI_ge (b := 6) hi6 (by decide)), clm (show i < 2 ^ 31 by omega), nI_1]
        simp only [if_neg (bd2 hi6 (show 6 < 2 ^ 31 by decide)), hO.1 94 (by decide)]
        by_cases g : M.1 94 i = 0
        · rw [if_pos g]
          have e : o1 (fun k => decide (M.1 94 k = 0)) W (i + 1) = o1 (fun k => decide (M.1 94 k = 0)) W i ||| 2 ^ i := by rw [o1, if_pos (decide_eq_true g)]
          exact ih (i + 1) _ (by omega) (by omega) (by rw [e]; exact hF.set hi6) hO.I
        · rw [if_neg g]
          have e : o1 (fun k => decide (M.1 94 k = 0)) W (i + 1) = o1 (fun k => decide (M.1 94 k = 0)) W i := by rw [o1, if_neg (fun z => g (of_decide_eq_true z))]
          exact ih (i + 1) _ (by omega) (by omega) (by rw [e]; exact hF.nop hi6) hO.I
  obtain ⟨M1, e1, e2, e3⟩ := key sd_FU 0 M (by decide) (by decide) hF On.rf
  obtain ⟨M2, R, f1, f2, f3, f4⟩ := goBack_loop hm ht (W1 := o1 (fun k => decide (M.1 94 k = 0)) W 6) sd_FU 0 M1 _ (-1) (by decide) (by decide) (o1_lt hW (by decide)) e2 e3 Sub.rf (fun X x1 _ => x1) (Or.inl ⟨rfl, rfl⟩)
  exact ⟨M2, R, Eq.trans e1 f1, f2, f3, f4⟩
/-! the reference's side -/
theorem orN : ∀ W, W < 64 → ∀ i, i < 6 → nI W ||| ((1 : Int32) <<< (nI i &&& 31)) = nI (W ||| 2 ^ i) := by decide +kernel
theorem inN : ∀ W, W < 64 → ∀ i, i < 6 → fn_X11_isIn (nI W) (nI i) = some (if W.testBit i = true then 1 else 0) := by decide +kernel
theorem menOfN {m : Nat → Nat} {W : Nat} {N : sd_Mem} (hm : ∀ k, k < 6 → N.1 119 k = nI (m k)) (hW : W < 64) : fn_X11_menOf N (nI W) = some (nI (cnt m W 6)) := by
  have key : ∀ (f i : Nat), i ≤ 6 → 6 - i < f → fn_X11_menOf_4 N f (nI W) (nI (cnt m W i)) (nI i) = some (nI (cnt m W 6)) := by
    intro f
    induction f with
    | zero => intro i h1 h2; omega
    | succ f ih =>
      intro i h1 h2
      unfold fn_X11_menOf_4
      by_cases hi : i = 6
      · subst hi; rw [if_pos (by decide)]
      · have step := ih (i + 1) (by omega) (by omega)
        rw [cnt] at step
        rw [if_neg (show ¬ (6 : Int32) ≤ nI i from nI_ge (b := 6) (by omega) (by decide)), inN W hW i (by omega), Option.bind_some, clm (show i < 2 ^ 31 by omega), if_neg (bd2 (show i < 6 by omega) (by decide)), nI_1, hm i (by omega)]
        by_cases g : W.testBit i = true
        · rw [if_pos g, if_neg I1ne, nI_add]; rw [if_pos g] at step; exact step
        · rw [if_neg g, if_pos rfl, Int32.add_zero]; rw [if_neg g, Nat.add_zero] at step; exact step
  exact key sd_FU 0 (by decide) (by decide)
def o2 (m t : Nat → Nat) (A W : Nat) : Nat → Nat
  | 0 => W
  | i + 1 => if cond t A (cnt m (o2 m t A W i) 6) i = true then o2 m t A W i ||| 2 ^ i else o2 m t A W i
section O2
variable {m t : Nat → Nat} {A W : Nat}
theorem o2_lt (hW : W < 64) : ∀ {i : Nat}, i ≤ 6 → o2 m t A W i < 64
  | 0, _ => hW
  | i + 1, hi => by
    have := o2_lt hW (i := i) (by omega)
    rw [o2]
    split
    · exact or64 this (by omega)
    · exact this
theorem o2_step {i : Nat} : Sub (o2 m t A W i) (o2 m t A W (i + 1)) := fun k _ h => by
  rw [o2]
  split
  · rw [tb_or, h]; rfl
  · exact h
theorem o2_mono {i : Nat} : ∀ {j : Nat}, Sub (o2 m t A W i) (o2 m t A W (i + j))
  | 0 => Sub.rf
  | j + 1 => (o2_mono (j := j)).tr o2_step
theorem o2_min {X : Nat} (h : Sub W X) (hX : clo m t A X) : ∀ {i : Nat}, i ≤ 6 → Sub (o2 m t A W i) X
  | 0, _ => h
  | i + 1, hi => by
    have ih := o2_min h hX (i := i) (by omega)
    rw [o2]
    split
    · rename_i g
      intro k hk q
      rw [tb_or] at q
      by_cases e : i = k
      · subst e
        exact hX i hk (cond_mono (cnt_mono ih (by decide)) g)
      · have : decide (i = k) = false := decide_eq_false e
        rw [this, Bool.or_false] at q
        exact ih k hk q
    · exact ih
theorem o2_clo (hW : W < 64) (h : o2 m t A W 6 = W) : clo m t A W := by
  intro k hk q
  have e : o2 m t A W k = W := by
    refine (Sub.anti hW (o2_lt hW (by omega)) ?_ ?_).symm
    · have := o2_mono (m := m) (t := t) (A := A) (W := W) (i := 0) (j := k)
      rw [Nat.zero_add] at this
      exact this
    · have := o2_mono (m := m) (t := t) (A := A) (W := W) (i := k) (j := 6 - k)
      rw [show k + (6 - k) = 6 by omega, h] at this
      exact this
  have e2 : (o2 m t A W (k + 1)).testBit k = true := by
    rw [o2, e, if_pos q, tb_or]; simp
  have := o2_mono (m := m) (t := t) (A := A) (W := W) (i := k + 1) (j := 5 - k)
  rw [show k + 1 + (5 - k) = 6 by omega, h] at this
  exact this k hk e2
end O2
/-- only place k0 of id 100 differs -/
def Oc (N N' : sd_Mem) : Prop := (∀ id k, ¬ (id = 100 ∧ k = 30) → N'.1 id k = N.1 id k) ∧ N'.2 = N.2
theorem Oc.rf {N : sd_Mem} : Oc N N := ⟨fun _ _ _ => rfl, rfl⟩
theorem Oc.I {N N' : sd_Mem} {v : Int32} (h : Oc N N') : Oc N (sd_setI N' 100 30 v) := ⟨fun id k q => by rw [gIn q]; exact h.1 id k q, h.2⟩
section GO
variable {m t : Nat → Nat} {N : sd_Mem} {x : Int32}
theorem go53 (hm : ∀ k, k < 6 → m k ≤ 99 ∧ N.1 119 k = nI (m k)) (ht : ∀ k, k < 6 → t k ≤ 100 ∧ N.1 121 k = nI (t k)) {k41 : _} {W : Nat} {x3 : Int32} (hW : W < 64) : ∀ (f i : Nat) (N' : sd_Mem), i ≤ 6 → 6 - i < f → N'.1 100 30 = nI (o2 m t (cnt m 63 6) W i) → Oc N N' → ∃ N'' : sd_Mem, fn_X11_goesOn_53 k41 f N' x x3 (nI i) = fn_X11_goesOn_111 k41 N'' x x3 ∧ N''.1 100 30 = nI (o2 m t (cnt m 63 6) W 6) ∧ Oc N N'' := by
  have hc : ∀ V, cnt m V 6 ≤ 594 := fun V => cnt_le (m := m) (W := V) (i := 6) (fun k hk => (hm k hk).1)
  intro f
  induction f with
  | zero => intro i N' h1 h2; omega
  | succ f ih =>
    intro i N' h1 h2 hN hO
    unfold fn_X11_goesOn_53
    by_cases hi : i = 6
    · subst hi; exact ⟨N', by rw [if_pos (by decide)], hN, hO⟩
    · have hi6 : i < 6 := by omega
      have hm' : ∀ k, k < 6 → N'.1 119 k = nI (m k) := fun k hk => by rw [hO.1 119 k (by omega)]; exact (hm k hk).2
      have hl := o2_lt (m := m) (t := t) (A := cnt m 63 6) hW (i := i) (by omega)
      obtain ⟨ht1, ht2⟩ := ht i hi6
      have m1 := menOfN hm' hl
      have m2 : fn_X11_menOf N' 63 = _ := menOfN (W := 63) hm' (by decide)
      have hA := hc 63
      have hB := hc (o2 m t (cnt m 63 6) W i)
      have hp := Nat.mul_le_mul ht1 hA
      rw [if_neg (show ¬ (6 : Int32) ≤ nI i from nI_ge (b := 6) hi6 (by decide)), hN, m1, Option.bind_some, clm (show i < 2 ^ 31 by omega), if_neg (bd2 hi6 (by decide)), m2, Option.bind_some, hO.1 121 i (by omega), ht2, show ∀ y, (100 : Int32) * nI y = nI (100 * y) from fun y => pk_mul 100 y, pk_mul, nI_1, or0, orN _ hl i hi6]
      by_cases g : 100 * cnt m (o2 m t (cnt m 63 6) W i) 6 < t i * cnt m 63 6
      · rw [if_pos (nI_lt g (by omega))]
        have e : o2 m t (cnt m 63 6) W (i + 1) = o2 m t (cnt m 63 6) W i := by rw [o2, if_neg]; unfold cond; rw [decide_eq_true_iff]; omega
        exact ih (i + 1) _ (by omega) (by omega) (by rw [gIs, e]) hO.I
      · rw [if_neg (nI_nlt (by omega) (by omega))]
        have e : o2 m t (cnt m 63 6) W (i + 1) = o2 m t (cnt m 63 6) W i ||| 2 ^ i := by rw [o2, if_pos]; unfold cond; rw [decide_eq_true_iff]; omega
        exact ih (i + 1) _ (by omega) (by omega) (by rw [gIs, e]) hO.I
theorem go41 (hm : ∀ k, k < 6 → m k ≤ 99 ∧ N.1 119 k = nI (m k)) (ht : ∀ k, k < 6 → t k ≤ 100 ∧ N.1 121 k = nI (t k)) {W1 : Nat} : ∀ (f W : Nat) (N' : sd_Mem), W < 64 → 7 - cnt (fun _ => 1) W 6 + 1 ≤ f → N'.1 100 30 = nI W → Oc N N' → Sub W1 W → (∀ X, Sub W1 X → clo m t (cnt m 63 6) X → Sub W X) → ∃ (N'' : sd_Mem) (R : Nat), fn_X11_goesOn_41 f N' x 1 = fn_X11_goesOn_128 N'' x ∧ N''.1 100 30 = nI R ∧ Oc N N'' ∧ Cl m t (cnt m 63 6) W1 R := by
  intro f
  induction f with
  | zero => intro W N' hW h2; omega
  | succ f ih =>
    intro W N' hW h2 hN hO hS hX
    have hW6 := cnt1_le W 6
    unfold fn_X11_goesOn_41
    rw [if_neg I1ne]
    obtain ⟨N2, e1, e2, e3⟩ := go53 hm ht (k41 := fn_X11_goesOn_41 f) (x := x) (x3 := N'.1 100 30) hW sd_FU 0 N' (by decide) (by decide) hN hO
    have e1 : fn_X11_goesOn_53 (fn_X11_goesOn_41 f) sd_FU N' x (N'.1 100 30) 0 = _ := e1
    rw [e1]
    unfold fn_X11_goesOn_111
    rw [e2, hN]
    have hl := o2_lt (m := m) (t := t) (A := cnt m 63 6) hW (i := 6) (by decide)
    have hs : Sub W (o2 m t (cnt m 63 6) W 6) := by
      have := o2_mono (m := m) (t := t) (A := cnt m 63 6) (W := W) (i := 0) (j := 6)
      exact this
    by_cases g : o2 m t (cnt m 63 6) W 6 = W
    · rw [if_pos (by rw [g])]
      obtain ⟨f', rfl⟩ : ∃ f', f = f' + 1 := ⟨f - 1, by omega⟩
      unfold fn_X11_goesOn_41
      rw [if_pos rfl]
      exact ⟨N2, W, rfl, by rw [e2, g], e3, hW, hS, o2_clo hW g, hX⟩
    · rw [if_neg (fun z => g ((nI_eq (by omega) (by omega)).mp z))]
      have hlt := cnt_lt hW hl hs (fun z => g z.symm)
      exact ih _ N2 hl (by omega) e2 e3 (hS.tr hs) (fun X x1 x2 => o2_min (hX X x1 x2) x2 (by decide))
theorem goOn (hm : ∀ k, k < 6 → m k ≤ 99 ∧ N.1 119 k = nI (m k)) (ht : ∀ k, k < 6 → t k ≤ 100 ∧ N.1 121 k = nI (t k)) {W : Nat} (hW : W < 64) (hN : N.1 100 30 = nI W) : ∃ (N' : sd_Mem) (R : Nat), fn_X11_goesOn N x = fn_X11_goesOn_128 N' x ∧ N'.1 100 30 = nI R ∧ Oc N N' ∧ Cl m t (cnt m 63 6) (o1 (fun k => decide (N.1 122 k = 0)) W 6) R := by
  have key : ∀ (f i : Nat) (N' : sd_Mem), i ≤ 6 → 6 - i < f → N'.1 100 30 = nI (o1 (fun k => decide (N.1 122 k = 0)) W i) → Oc N N' → ∃ N'' : sd_Mem, fn_X11_goesOn_2 f N' x (nI i) = fn_X11_goesOn_41 sd_FU N'' x 1 ∧ N''.1 100 30 = nI (o1 (fun k => decide (N.1 122 k = 0)) W 6) ∧ Oc N N'' := by
    intro f
    induction f with
    | zero => intro i N' h1 h2; omega
    | succ f ih =>
      intro i N' h1 h2 hN hO
      unfold fn_X11_goesOn_2
      by_cases hi : i = 6
      · subst hi; exact ⟨N', by rw [if_pos (by decide)], hN, hO⟩
      · have hi6 : i < 6 := by omega
        rw [if_neg (show ¬ (6 : Int32) ≤ nI i from nI_ge (b := 6) hi6 (by decide)), clm (show i < 2 ^ 31 by omega), if_neg (bd2 hi6 (by decide)), hO.1 122 i (by omega), hN, nI_1, or0, orN _ (o1_lt hW (by omega)) i hi6]
        by_cases g : N.1 122 i = 0
        · rw [if_pos g]
          have e : o1 (fun k => decide (N.1 122 k = 0)) W (i + 1) = o1 (fun k => decide (N.1 122 k = 0)) W i ||| 2 ^ i := by rw [o1, if_pos (decide_eq_true g)]
          exact ih (i + 1) _ (by omega) (by omega) (by rw [gIs, e]) hO.I
        · rw [if_neg g]
          have e : o1 (fun k => decide (N.1 122 k = 0)) W (i + 1) = o1 (fun k => decide (N.1 122 k = 0)) W i := by rw [o1, if_neg (fun z => g (of_decide_eq_true z))]
          exact ih (i + 1) _ (by omega) (by omega) (by rw [gIs, e]) hO.I
  obtain ⟨N1, e1, e2, e3⟩ := key sd_FU 0 N (by decide) (by decide) hN Oc.rf
  obtain ⟨N2, R, f1, f2, f3, f4⟩ := go41 hm ht (x := x) (W1 := o1 (fun k => decide (N.1 122 k = 0)) W 6) sd_FU _ N1 (o1_lt hW (by decide)) (by rw [FU_eq]; omega) e2 e3 Sub.rf (fun X x1 _ => x1)
  exact ⟨N2, R, Eq.trans e1 f1, f2, f3, f4⟩
end GO
