theorem smf_congr {f g : Nat → Int32} : ∀ {n : Nat}, (∀ i, i < n → f i = g i) → smf f n = smf g n
  | 0, _ => rfl
  | n + 1, h => by rw [smf, smf, smf_congr (n := n) (fun i hi => h i (by omega)), h n (by omega)]
theorem smf_zero : ∀ n, smf (fun _ => 0) n = 0
  | 0 => rfl
  | n + 1 => by rw [smf, smf_zero n]; rfl
theorem presM {M : sd_Mem} {h0 L : Nat} {g : Nat → Int32} (hL : sd_ln h0 = L) (hL2 : L ≤ 8) (hg : ∀ i, i < L → (fn_X1_isMissing M (h0 + 1 + 2 * i) = some 1 ∧ g i = 0) ∨ (fn_X1_isMissing M (h0 + 1 + 2 * i) = some 0 ∧ g i = 1)) : fn_X10_present M h0 = some (smf g L) := by
  have key : ∀ (f i : Nat), i ≤ L → L - i < f → fn_X10_present_10 M h0 f (smf g i) (nI L) (nI i) = some (smf g L) := by
    intro f
    induction f with
    | zero => intro i h1 h2; omega
    | succ f ih =>
      intro i h1 h2
      unfold fn_X10_present_10
      by_cases hi : i = L
      · subst hi; rw [if_pos (nI_le (Nat.le_refl _) (by omega))]
      · have step := ih (i + 1) (by omega) (by omega)
        rw [smf] at step
        rw [if_neg (nI_ge (by omega) (by omega)), hL, clm (show i < 2 ^ 31 by omega), if_neg (bd2 (show i < L by omega) (by omega)), nI_1]
        rcases hg i (by omega) with ⟨e1, e2⟩ | ⟨e1, e2⟩
        · rw [e1, Option.bind_some, if_neg I1ne]; rw [e2] at step; exact step
        · rw [e1, Option.bind_some, if_pos rfl]; rw [e2] at step; exact step
  unfold fn_X10_present fn_X10_present_0
  rw [hL]
  exact key sd_FU 0 (by omega) (by rw [FU_eq]; omega)
theorem in23 (x : Int32) : fn_X11_in x 2 3 = some 0 ∨ fn_X11_in x 2 3 = some 1 := by
  rcases cs (x := x) (a := 2) (b := 3) 2 3 (by decide) (by decide) rfl rfl with ⟨-, e⟩ | ⟨⟨-, e⟩, -⟩
  · exact Or.inl e
  · exact Or.inr e
section CT
variable {M N : sd_Mem}
def G1 (N : sd_Mem) (k i : Nat) : Int32 := if nI k = 0 then (if N.1 102 i < 0 then 0 else 1) else 0
def G2 (N : sd_Mem) (k i : Nat) : Int32 := if nI k = 1 then (if N.1 105 i < 0 then 0 else 1) else 0
def G3 (N : sd_Mem) (k i : Nat) : Int32 := if nI k = 2 then (if 0 ≤ N.1 115 i then 1 else 0) else if nI k = 3 then (fn_X11_in (N.1 115 i) 2 3).getD 0 else 0
theorem ctN1 {k : Nat} : ∀ (f i : Nat), i ≤ 6 → 6 - i < f → fn_X11_counts_4 N f (nI k) (smf (G1 N k) i) (nI i) = fn_X11_counts_39 N sd_FU (nI k) (smf (G1 N k) 6) 0 := by
  intro f
  induction f with
  | zero => intro i h1 h2; omega
  | succ f ih =>
    intro i h1 h2
    unfold fn_X11_counts_4
    by_cases hi : i = 6
    · subst hi; rw [if_pos (by decide)]
    · have step := ih (i + 1) (by omega) (by omega)
      rw [smf, G1] at step
      rw [if_neg (show ¬ (6 : Int32) ≤ nI i from nI_ge (b := 6) (by omega) (by decide)), clm (show i < 2 ^ 31 by omega), if_neg (bd2 (show i < 6 by omega) (by decide)), nI_1]
      by_cases g1 : nI k = 0
      · by_cases g2 : N.1 102 i < 0
        · rw [if_pos g1, if_pos g2] at step ⊢; exact step
        · rw [if_pos g1, if_neg g2] at step ⊢; exact step
      · rw [if_neg g1] at step ⊢; exact step
theorem ctN2 {k : Nat} {X : Int32} : ∀ (f i : Nat), i ≤ 4 → 4 - i < f → fn_X11_counts_39 N f (nI k) (X + smf (G2 N k) i) (nI i) = fn_X11_counts_74 N sd_FU (nI k) (X + smf (G2 N k) 4) 0 := by
  intro f
  induction f with
  | zero => intro i h1 h2; omega
  | succ f ih =>
    intro i h1 h2
    unfold fn_X11_counts_39
    by_cases hi : i = 4
    · subst hi; rw [if_pos (by decide)]
    · have step := ih (i + 1) (by omega) (by omega)
      rw [smf, G2, ← Int32.add_assoc] at step
      rw [if_neg (show ¬ (4 : Int32) ≤ nI i from nI_ge (b := 4) (by omega) (by decide)), clm (show i < 2 ^ 31 by omega), if_neg (bd2 (show i < 4 by omega) (by decide)), nI_1]
      by_cases g1 : nI k = 1
      · by_cases g2 : N.1 105 i < 0
        · rw [if_pos g1, if_pos g2] at step ⊢; exact step
        · rw [if_pos g1, if_neg g2] at step ⊢; exact step
      · rw [if_neg g1] at step ⊢; exact step
theorem ctN3 {k : Nat} {X : Int32} : ∀ (f i : Nat), i ≤ 8 → 8 - i < f → fn_X11_counts_74 N f (nI k) (X + smf (G3 N k) i) (nI i) = fn_X11_counts_127 N (nI k) (X + smf (G3 N k) 8) := by
  intro f
  induction f with
  | zero => intro i h1 h2; omega
  | succ f ih =>
    intro i h1 h2
    unfold fn_X11_counts_74
    by_cases hi : i = 8
    · subst hi; rw [if_pos (by decide)]
    · have step := ih (i + 1) (by omega) (by omega)
      rw [smf, G3, ← Int32.add_assoc] at step
      have b8 := bd2 (show i < 8 by omega) (show 8 < 2 ^ 31 by decide)
      have ci := clm (show i < 2 ^ 31 by omega)
      rw [if_neg (show ¬ (8 : Int32) ≤ nI i from nI_ge (b := 8) (by omega) (by decide))]
      simp only [ci, if_neg b8, nI_1, fn_X11_counts_95]
      by_cases g1 : nI k = 2
      · have g3 : ¬ nI k = 3 := fun z => by rw [g1] at z; exact absurd z (by decide)
        by_cases g2 : 0 ≤ N.1 115 i
        · rw [if_pos g1, if_pos g2] at step ⊢; exact step
        · rw [if_pos g1, if_neg g2] at step; rw [if_pos g1, if_neg g2, if_neg g3]; exact step
      · by_cases g3 : nI k = 3
        · rw [if_neg g1, if_pos g3] at step ⊢
          rcases in23 (N.1 115 i) with e | e
          · rw [e] at step ⊢; rw [Option.bind_some, if_pos rfl]; exact step
          · rw [e] at step ⊢; rw [Option.bind_some, if_neg I1ne]; exact step
        · rw [if_neg g1, if_neg g3] at step ⊢; exact step
theorem ctN (k : Nat) : fn_X11_counts N (nI k) = fn_X11_counts_127 N (nI k) (smf (G1 N k) 6 + smf (G2 N k) 4 + smf (G3 N k) 8) := by
  have e1 := ctN1 (N := N) (k := k) sd_FU 0 (by decide) (by decide)
  have e2 := ctN2 (N := N) (k := k) (X := smf (G1 N k) 6) sd_FU 0 (by decide) (by decide)
  have e3 := ctN3 (N := N) (k := k) (X := smf (G1 N k) 6 + smf (G2 N k) 4) sd_FU 0 (by decide) (by decide)
  rw [smf, Int32.add_zero] at e2 e3
  exact e1.trans (e2.trans e3)
theorem waysM {k : Nat} {g : Nat → Int32} (hg : ∀ i, i < 8 → (fn_X9_isMissing M (23 + 1 + 2 * i) = some 1 ∧ g i = 0) ∨ (fn_X9_isMissing M (23 + 1 + 2 * i) = some 0 ∧ ((fn_X9_is M (23 + 1 + 2 * i) (nI k) = some 0 ∧ g i = 0) ∨ (fn_X9_is M (23 + 1 + 2 * i) (nI k) = some 1 ∧ g i = 1)))) : fn_X10_waysOf M (nI k) = some (smf g 8) := by
  have key : ∀ (f i : Nat), i ≤ 8 → 8 - i < f → fn_X10_waysOf_14 M f (nI k) (smf g i) 8 (nI i) = some (smf g 8) := by
    intro f
    induction f with
    | zero => intro i h1 h2; omega
    | succ f ih =>
      intro i h1 h2
      unfold fn_X10_waysOf_14
      by_cases hi : i = 8
      · subst hi; rw [if_pos (by decide)]
      · have step := ih (i + 1) (by omega) (by omega)
        rw [smf] at step
        rw [if_neg (show ¬ (8 : Int32) ≤ nI i from nI_ge (b := 8) (by omega) (by decide)), clm (show i < 2 ^ 31 by omega), if_neg (bd2 (show i < 8 by omega) (by decide)), nI_1]
        rcases hg i (by omega) with ⟨e1, e2⟩ | ⟨e1, ⟨e2, e3⟩ | ⟨e2, e3⟩⟩
        · rw [e1, Option.bind_some, if_neg I1ne]; rw [e2] at step; exact step
        · rw [e1, Option.bind_some, if_pos rfl, e2, Option.bind_some, if_pos rfl]; rw [e3] at step; exact step
        · rw [e1, Option.bind_some, if_pos rfl, e2, Option.bind_some, if_neg I1ne]; rw [e3] at step; exact step
  exact key sd_FU 0 (by decide) (by decide)
theorem menM : fn_X8_menInAll M = some (smf (M.1 91) 6) := by
  have key : ∀ (f i : Nat), i ≤ 6 → 6 - i < f → fn_X8_menInAll_13 M f (smf (M.1 91) i) 6 (nI i) = some (smf (M.1 91) 6) := by
    intro f
    induction f with
    | zero => intro i h1 h2; omega
    | succ f ih =>
      intro i h1 h2
      unfold fn_X8_menInAll_13
      by_cases hi : i = 6
      · subst hi; rw [if_pos (by decide)]
      · rw [if_neg (show ¬ (6 : Int32) ≤ nI i from nI_ge (b := 6) (by omega) (by decide)), clm (show i < 2 ^ 31 by omega), if_neg (bd2 (show i < 6 by omega) (by decide)), nI_1]
        exact ih (i + 1) (by omega) (by omega)
  exact key sd_FU 0 (by decide) (by decide)
theorem isIn63 : ∀ i, i < 6 → fn_X11_isIn 63 (nI i) = some 1 := by decide +kernel
theorem menN : fn_X11_menOf N 63 = some (smf (N.1 119) 6) := by
  have key : ∀ (f i : Nat), i ≤ 6 → 6 - i < f → fn_X11_menOf_4 N f 63 (smf (N.1 119) i) (nI i) = some (smf (N.1 119) 6) := by
    intro f
    induction f with
    | zero => intro i h1 h2; omega
    | succ f ih =>
      intro i h1 h2
      unfold fn_X11_menOf_4
      by_cases hi : i = 6
      · subst hi; rw [if_pos (by decide)]
      · rw [if_neg (show ¬ (6 : Int32) ≤ nI i from nI_ge (b := 6) (by omega) (by decide)), isIn63 i (by omega), Option.bind_some, if_neg I1ne, clm (show i < 2 ^ 31 by omega), if_neg (bd2 (show i < 6 by omega) (by decide)), nI_1]
        exact ih (i + 1) (by omega) (by omega)
  exact key sd_FU 0 (by decide) (by decide)
end CT
theorem counts_eq {M N : sd_Mem} (hR : Rel M N) {k : Nat} (hk : k ≤ 4) : ∃ v : Int32, fn_X10_counted M (nI k) = some v ∧ fn_X11_counts N (nI k) = some v := by
  rw [ctN]
  rcases (show k = 0 ∨ k = 1 ∨ k = 2 ∨ k = 3 ∨ k = 4 by omega) with rfl | rfl | rfl | rfl | rfl
  · refine ⟨smf (G1 N 0) 6, ?_, ?_⟩
    · have e : fn_X10_counted M (nI 0) = (fn_X10_present M 1).bind fun q => some q := rfl
      rw [e, presM (g := G1 N 0) (L := 6) rfl (by decide) (fun i hi => ?_)]
      · rfl
      · rcases (hR 1 i hi).1 with ⟨s1, s2⟩ | ⟨n, hn, s1, s2⟩
        · refine Or.inl ⟨miss1 s1, ?_⟩
          rw [G1, s2]; rfl
        · refine Or.inr ⟨miss0 (by omega) s1, ?_⟩
          rw [G1, s2, if_pos (show nI 0 = 0 from rfl), if_neg (nI_pos (by omega))]
    · rw [show G2 N 0 = fun _ => 0 from rfl, show G3 N 0 = fun _ => 0 from rfl, smf_zero, smf_zero, Int32.add_zero, Int32.add_zero]; rfl
  · refine ⟨smf (G2 N 1) 4, ?_, ?_⟩
    · have e : fn_X10_counted M (nI 1) = (fn_X10_present M 14).bind fun q => some q := rfl
      rw [e, presM (g := G2 N 1) (L := 4) rfl (by decide) (fun i hi => ?_)]
      · rfl
      · rcases (hR 2 i hi).1 with ⟨s1, s2⟩ | ⟨n, hn, s1, s2⟩
        · refine Or.inl ⟨miss1 s1, ?_⟩
          rw [G2, s2]; rfl
        · refine Or.inr ⟨miss0 (by omega) s1, ?_⟩
          rw [G2, s2, if_pos (show nI 1 = 1 from rfl), if_neg (nI_pos (by omega))]
    · rw [show G1 N 1 = fun _ => 0 from rfl, show G3 N 1 = fun _ => 0 from rfl, smf_zero, smf_zero, Int32.add_zero, Int32.zero_add]; rfl
  · refine ⟨smf (G3 N 2) 8, ?_, ?_⟩
    · have e : fn_X10_counted M (nI 2) = (fn_X10_waysOf M (nI 0)).bind fun q => some q := rfl
      rw [e, waysM (g := G3 N 2) (fun i hi => ?_)]
      · rfl
      · rcases (hR 3 i hi).1 with ⟨s1, s2⟩ | ⟨n, hn, s1, s2⟩
        · refine Or.inl ⟨wmiss1 s1, ?_⟩
          rw [G3, s2]; rfl
        · refine Or.inr ⟨wmiss0 (by omega) s1, Or.inr ⟨?_, ?_⟩⟩
          · rw [wis 0 (by decide) hn s1, if_pos (Or.inl rfl)]
          · rw [G3, s2, if_pos (show nI 2 = 2 from rfl), if_pos (nI_pos' (by omega))]
    · rw [show G1 N 2 = fun _ => 0 from rfl, show G2 N 2 = fun _ => 0 from rfl, smf_zero, smf_zero, Int32.add_zero, Int32.zero_add]; rfl
  · refine ⟨smf (G3 N 3) 8, ?_, ?_⟩
    · have e : fn_X10_counted M (nI 3) = (fn_X10_waysOf M (nI 2)).bind fun q => some q := rfl
      rw [e, waysM (g := G3 N 3) (fun i hi => ?_)]
      · rfl
      · rcases (hR 3 i hi).1 with ⟨s1, s2⟩ | ⟨n, hn, s1, s2⟩
        · refine Or.inl ⟨wmiss1 s1, ?_⟩
          rw [G3, s2]; rfl
        · refine Or.inr ⟨wmiss0 (by omega) s1, ?_⟩
          have key : ∀ n, n ≤ 4 → (if nI 3 = 2 then (if 0 ≤ nI n then (1 : Int32) else 0) else if nI 3 = 3 then (fn_X11_in (nI n) 2 3).getD 0 else 0) = if n = 2 ∨ n = 3 then 1 else 0 := by decide +kernel
          rw [wis 2 (by decide) hn s1, G3, s2, key n hn]
          by_cases g : n = 2 ∨ n = 3
          · right; rw [if_pos g, if_pos (Or.inr (g.imp id (fun z => ⟨rfl, z⟩)))]; exact ⟨rfl, rfl⟩
          · left; rw [if_neg g, if_neg (by omega)]; exact ⟨rfl, rfl⟩
    · rw [show G1 N 3 = fun _ => 0 from rfl, show G2 N 3 = fun _ => 0 from rfl, smf_zero, smf_zero, Int32.add_zero, Int32.zero_add]; rfl
  · obtain ⟨m, lf, t, hm⟩ := hR 6
    refine ⟨smf (M.1 91) 6, ?_, ?_⟩
    · have e : fn_X10_counted M (nI 4) = (fn_X8_menInAll M).bind fun q => some q := rfl
      rw [e, menM]; rfl
    · have e : ∀ x, fn_X11_counts_127 N (nI 4) x = (fn_X11_menOf N 63).bind fun q => some q := fun _ => rfl
      rw [e, menN, smf_congr (f := N.1 119) (g := M.1 91) (fun i hi => by rw [(hm i hi).1.2.2, (hm i hi).1.2.1])]
      rfl
theorem st_41 : sd_St41 Rel := by
  intro M N hR x1
  rcases cs (x := x1) (a := 0) (b := 4) 0 4 (by decide) (by decide) rfl rfl with ⟨e1, e2⟩ | ⟨⟨e1, e2⟩, k, -, hk, rfl⟩
  · exact ⟨-1, -1, by simp [fn_X10_count, fn_X10_count_0, e1], by simp [fn_X11_count, fn_X11_count_0, e2], rfl, hR⟩
  · obtain ⟨v, f1, f2⟩ := counts_eq hR hk
    refine ⟨v, v, ?_, ?_, rfl, hR⟩
    · simp only [fn_X10_count, fn_X10_count_0, e1, Option.bind_some, if_neg I1ne, f1]
    · simp only [fn_X11_count, fn_X11_count_0, e2, Option.bind_some, if_neg I1ne, f2]
