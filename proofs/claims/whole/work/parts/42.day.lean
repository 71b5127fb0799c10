def Sk (W : Nat) (M N : sd_Mem) : Prop := W < 64 ∧ Fl W M ∧ N.1 100 30 = nI W ∧ (∀ k, k < 6 → M.1 94 k = N.1 122 k) ∧ M.1 90 5 = N.1 100 32
theorem pay42 {R : Nat} : ∀ (f i : Nat) (M' : sd_Mem), i ≤ 6 → 6 - i < f → Fl R M' → ∃ M'' : sd_Mem, fn_X8_payOut_42 f M' (nI i) = some (0, M'') ∧ (∀ k, k < 6 → M''.1 94 k = if i ≤ k then M'.1 94 k - (if R.testBit k = true then 0 else 1) else M'.1 94 k) ∧ On 94 M' M'' := by
  intro f
  induction f with
  | zero => intro i M' h1 h2; omega
  | succ f ih =>
    intro i M' h1 h2 hF
    unfold fn_X8_payOut_42
    by_cases hi : i = 6
    · subst hi
      exact ⟨M', by rw [if_pos (by decide)], fun k hk => by rw [if_neg (by omega)], On.rf⟩
    · have hi6 : i < 6 := by omega
      rw [if_neg (show ¬ (6 : Int32) ≤ nI i from nI_ge (b := 6) hi6 (by decide)), clm (show i < 2 ^ 31 by omega), nI_1]
      simp only [if_neg (bd2 hi6 (show 6 < 2 ^ 31 by decide)), hF i hi6]
      have go : ∀ z : Int32, z = (if R.testBit i = true then 0 else 1) → ∃ M'' : sd_Mem, fn_X8_payOut_42 f (sd_setI M' 94 i (M'.1 94 i - z)) (nI (i + 1)) = some (0, M'') ∧ (∀ k, k < 6 → M''.1 94 k = if i ≤ k then M'.1 94 k - (if R.testBit k = true then 0 else 1) else M'.1 94 k) ∧ On 94 M' M'' := by
        intro z hz
        obtain ⟨M2, e1, e2, e3⟩ := ih (i + 1) (sd_setI M' 94 i (M'.1 94 i - z)) (by omega) (by omega) (fun k hk => by rw [gIa (by decide)]; exact hF k hk)
        refine ⟨M2, e1, fun k hk => ?_, On.rf.I.tr e3⟩
        rw [e2 k hk, gI]
        by_cases e : k = i
        · subst e; rw [if_neg (by omega), if_pos ⟨rfl, rfl⟩, if_pos (Nat.le_refl _), hz]
        · by_cases g : i + 1 ≤ k
          · rw [if_pos g, if_neg (fun z => e z.2), if_pos (show i ≤ k by omega)]
          · rw [if_neg g, if_neg (fun z => e z.2), if_neg (show ¬ i ≤ k by omega)]
      by_cases g : R.testBit i = true
      · rw [if_pos g, if_neg I1ne]
        exact go 0 (by rw [if_pos g])
      · rw [if_neg g, if_pos rfl]
        exact go 1 (by rw [if_neg g])
theorem go233 {R : Nat} {p : Int32} (hR : R < 64) : ∀ (f i : Nat) (N' : sd_Mem), i ≤ 6 → 6 - i < f → N'.1 100 30 = nI R → ∃ N'' : sd_Mem, fn_X11_goesOn_233 f N' p (nI i) = some N'' ∧ (∀ k, k < 6 → N''.1 122 k = if i ≤ k then N'.1 122 k - (if p = 0 then (if R.testBit k = true then 0 else 1) else 0) else N'.1 122 k) ∧ On 122 N' N'' := by
  intro f
  induction f with
  | zero => intro i N' h1 h2; omega
  | succ f ih =>
    intro i N' h1 h2 hN
    unfold fn_X11_goesOn_233
    by_cases hi : i = 6
    · subst hi
      exact ⟨N', by rw [if_pos (by decide)], fun k hk => by rw [if_neg (by omega)], On.rf⟩
    · have hi6 : i < 6 := by omega
      rw [if_neg (show ¬ (6 : Int32) ≤ nI i from nI_ge (b := 6) hi6 (by decide)), clm (show i < 2 ^ 31 by omega), nI_1]
      simp only [if_neg (bd2 hi6 (show 6 < 2 ^ 31 by decide)), hN, inN R hR i hi6, Option.bind_some]
      have go : ∀ z : Int32, z = (if p = 0 then (if R.testBit i = true then 0 else 1) else 0) → ∃ N'' : sd_Mem, fn_X11_goesOn_233 f (sd_setI N' 122 i (N'.1 122 i - z)) p (nI (i + 1)) = some N'' ∧ (∀ k, k < 6 → N''.1 122 k = if i ≤ k then N'.1 122 k - (if p = 0 then (if R.testBit k = true then 0 else 1) else 0) else N'.1 122 k) ∧ On 122 N' N'' := by
        intro z hz
        obtain ⟨N2, e1, e2, e3⟩ := ih (i + 1) (sd_setI N' 122 i (N'.1 122 i - z)) (by omega) (by omega) (by rw [gIa (by decide)]; exact hN)
        refine ⟨N2, e1, fun k hk => ?_, On.rf.I.tr e3⟩
        rw [e2 k hk, gI]
        by_cases e : k = i
        · subst e; rw [if_neg (by omega), if_pos ⟨rfl, rfl⟩, if_pos (Nat.le_refl _), hz]
        · by_cases g : i + 1 ≤ k
          · rw [if_pos g, if_neg (fun z => e z.2), if_pos (show i ≤ k by omega)]
          · rw [if_neg g, if_neg (fun z => e z.2), if_neg (show ¬ i ≤ k by omega)]
      by_cases gp : p = 0
      · rw [if_pos gp]
        by_cases g : R.testBit i = true
        · rw [if_pos g, if_neg I1ne]
          exact go 0 (by rw [if_pos gp, if_pos g])
        · rw [if_neg g, if_pos rfl]
          exact go 1 (by rw [if_pos gp, if_neg g])
      · rw [if_neg gp]
        exact go 0 (by rw [if_neg gp])
theorem sub0 (x : Int32) : x - 0 = x := by simp
theorem On.kept {a : Nat} {A B : sd_Mem} (h : On a A B) {b k : Nat} (hb : b ≠ a) : B.1 b k = A.1 b k := by rw [h.1 b hb]
/-- the end of a day on the reference's side: p says whether all were paid -/
theorem goEnd {R : Nat} {N : sd_Mem} {need p x : Int32} (hR : R < 64) (hN : N.1 100 30 = nI R) (hp : p = 0 ∨ p = 1) : ∃ N' : sd_Mem, fn_X11_goesOn_167 (sd_setI N 100 32 (N.1 100 32 + x)) need p = some N' ∧ N'.1 100 30 = nI R ∧ N'.1 100 32 = (if p = 0 then N.1 100 32 + x else N.1 100 32 + x - need) ∧ N'.1 100 34 = (if N.1 100 34 = 0 then (if p = 0 then 1 else 0) else 1) ∧ N'.1 100 33 = N.1 100 33 + (if N'.1 100 34 = 0 then 1 else 0) ∧ (∀ k, k < 6 → N'.1 122 k = N.1 122 k - (if p = 0 then (if R.testBit k = true then 0 else 1) else 0)) ∧ keepN [9] N N' := by
  have fin : ∀ (fund fl : Int32), (fl = 0 ∨ fl = 1) → ∃ N' : sd_Mem, fn_X11_goesOn_206 (sd_setI (sd_setI N 100 32 (N.1 100 32 + x)) 100 32 fund) p fl = some N' ∧ N'.1 100 30 = nI R ∧ N'.1 100 32 = fund ∧ N'.1 100 34 = fl ∧ N'.1 100 33 = N.1 100 33 + (if N'.1 100 34 = 0 then 1 else 0) ∧ (∀ k, k < 6 → N'.1 122 k = N.1 122 k - (if p = 0 then (if R.testBit k = true then 0 else 1) else 0)) ∧ keepN [9] N N' := by
    intro fund fl hfl
    have go : ∀ z : Int32, z = (if fl = 0 then 1 else 0) → ∃ N' : sd_Mem, fn_X11_goesOn_233 sd_FU (sd_setI (sd_setI (sd_setI (sd_setI N 100 32 (N.1 100 32 + x)) 100 32 fund) 100 34 fl) 100 33 (N.1 100 33 + z)) p 0 = some N' ∧ N'.1 100 30 = nI R ∧ N'.1 100 32 = fund ∧ N'.1 100 34 = fl ∧ N'.1 100 33 = N.1 100 33 + (if N'.1 100 34 = 0 then 1 else 0) ∧ (∀ k, k < 6 → N'.1 122 k = N.1 122 k - (if p = 0 then (if R.testBit k = true then 0 else 1) else 0)) ∧ keepN [9] N N' := by
      intro z hz
      obtain ⟨N2, e1, e2, e3⟩ := go233 (p := p) hR sd_FU 0 (sd_setI (sd_setI (sd_setI (sd_setI N 100 32 (N.1 100 32 + x)) 100 32 fund) 100 34 fl) 100 33 (N.1 100 33 + z)) (by decide) (by decide) (by simp [gI, hN])
      have k34 : N2.1 100 34 = fl := by rw [e3.kept (by decide)]; simp [gI]
      refine ⟨N2, e1, by rw [e3.kept (by decide)]; simp [gI, hN], by rw [e3.kept (by decide)]; simp [gI], k34, ?_, fun k hk => ?_, ?_⟩
      · rw [k34, ← hz, e3.kept (by decide)]; simp [gI]
      · rw [e2 k hk, if_pos (Nat.zero_le _)]; simp [gI]
      · exact (keepN.I (by decide) (keepN.I (by decide) (keepN.I (by decide) (keepN.I (by decide) keepN.rf)))).tr (e3.kN (fun k => by rw [rgN_o (by decide)]; rfl))
    unfold fn_X11_goesOn_206
    rw [if_neg (by rcases hfl with e | e <;> rw [e] <;> decide)]
    have s34 : (sd_setI (sd_setI (sd_setI N 100 32 (N.1 100 32 + x)) 100 32 fund) 100 34 fl).1 100 34 = fl := gIs _ _ _ _
    have s33 : (sd_setI (sd_setI (sd_setI N 100 32 (N.1 100 32 + x)) 100 32 fund) 100 34 fl).1 100 33 = N.1 100 33 := by simp [gI]
    rw [s34, s33]
    by_cases g : fl = 0
    · rw [if_pos g]; exact go 1 (by rw [if_pos g])
    · rw [if_neg g]; exact go 0 (by rw [if_neg g])
  have s34 : ∀ z, (sd_setI (sd_setI N 100 32 (N.1 100 32 + x)) 100 32 z).1 100 34 = N.1 100 34 := fun z => by simp [gI]
  unfold fn_X11_goesOn_167 fn_X11_goesOn_184
  rw [gIs, s34, s34, sub0]
  by_cases g : p = 0
  · subst g
    rw [if_pos rfl, if_pos rfl, if_pos rfl]
    by_cases g2 : N.1 100 34 = 0
    · rw [if_pos g2, if_pos rfl, if_pos g2]; exact fin _ 1 (Or.inr rfl)
    · rw [if_neg g2, if_neg g2]; exact fin _ 1 (Or.inr rfl)
  · rw [if_neg g, if_neg g, if_neg g]
    by_cases g2 : N.1 100 34 = 0
    · rw [if_pos g2, if_neg g, if_pos g2]; exact fin _ 0 (Or.inl rfl)
    · rw [if_neg g2, if_neg g2]; exact fin _ 1 (Or.inr rfl)
theorem day {m lf t : Nat → Nat} {M N : sd_Mem} {W : Nat} (hm : Mn m lf t M N) (hS : Sk W M N) (x : Int32) : ∃ (M1 M2 N2 : sd_Mem) (R : Nat) (r : Int32), fn_X8_goBack M = some M1 ∧ fn_X8_menBack M1 = some (nI (cnt m R 6)) ∧ fn_X8_menInAll M1 = some (nI (cnt m 63 6)) ∧ fn_X8_payOut M1 x = some (r, M2) ∧ fn_X11_goesOn N x = some N2 ∧ Sub W R ∧ Sk R M2 N2 ∧ keepM [9] M M1 ∧ keepM [9] M M2 ∧ keepN [9] N N2 ∧ (r = 0 ∨ r = 1) ∧ N2.1 100 34 = (if N.1 100 34 = 0 then (if r = 0 then 1 else 0) else 1) ∧ N2.1 100 33 = N.1 100 33 + (if N2.1 100 34 = 0 then 1 else 0) := by
  obtain ⟨hW, hF, h30, hl, hf⟩ := hS
  obtain ⟨M1, R, a1, a2, a3, a4⟩ := goBackM (m := m) (t := t) (M := M) (W := W) (fun k hk => ⟨(hm k hk).1.1, (hm k hk).1.2.1⟩) (fun k hk => ⟨(hm k hk).2.2.1, (hm k hk).2.2.2.1⟩) hW hF
  obtain ⟨N1, R', b1, b2, b3, b4⟩ := goOn (m := m) (t := t) (N := N) (x := x) (fun k hk => ⟨(hm k hk).1.1, (hm k hk).1.2.2⟩) (fun k hk => ⟨(hm k hk).2.2.1, (hm k hk).2.2.2.2⟩) hW h30
  have eR : R' = R := by
    have : o1 (fun k => decide (N.1 122 k = 0)) W 6 = o1 (fun k => decide (M.1 94 k = 0)) W 6 := ext64 (o1_lt hW (by decide)) (o1_lt hW (by decide)) (fun k hk => by rw [o1_bit, o1_bit, hl k hk])
    rw [this] at b4
    exact b4.one a4
  subst eR
  have hR : R' < 64 := a4.1
  have hsub : Sub W R' := (o1_sub (P := fun k => decide (M.1 94 k = 0)) (i := 6)).tr a4.2.1
  have mM1 : ∀ k, k < 6 → M1.1 91 k = nI (m k) := fun k hk => by rw [a3.kept (by decide)]; exact (hm k hk).1.2.1
  have mb := menBackM mM1 a2
  have al := allM mM1
  have mN1 : ∀ k, k < 6 → N1.1 119 k = nI (m k) := fun k hk => by rw [b3.1 119 k (by omega)]; exact (hm k hk).1.2.2
  have nb := menOfN mN1 hR
  have nl : fn_X11_menOf N1 63 = _ := menOfN (W := 63) mN1 (by decide)
  have fM : M1.1 90 5 = M.1 90 5 := a3.kept (by decide)
  have fN : N1.1 100 32 = N.1 100 32 := b3.1 100 32 (by decide)
  have f34 : N1.1 100 34 = N.1 100 34 := b3.1 100 34 (by decide)
  have f33 : N1.1 100 33 = N.1 100 33 := b3.1 100 33 (by decide)
  have kN1 : keepN [9] N N1 := fun id k q => ⟨b3.1 id k (fun e => q (by rw [e.1, e.2]; decide)), by rw [b3.2]⟩
  have kM1 : keepM [9] M M1 := a3.kM rfl
  have mM2 : ∀ v, ∀ k, k < 6 → (sd_setI M1 90 5 v).1 91 k = nI (m k) := fun v k hk => by rw [gIa (by decide)]; exact mM1 k hk
  have F2 : ∀ v, Fl R' (sd_setI M1 90 5 v) := fun v k hk => by rw [gIa (by decide)]; exact a2 k hk
  have eN : fn_X11_goesOn N x = if M.1 90 5 + x < nI (cnt m 63 6) - nI (cnt m R' 6) then fn_X11_goesOn_167 (sd_setI N1 100 32 (N1.1 100 32 + x)) (nI (cnt m 63 6) - nI (cnt m R' 6)) 0 else fn_X11_goesOn_167 (sd_setI N1 100 32 (N1.1 100 32 + x)) (nI (cnt m 63 6) - nI (cnt m R' 6)) 1 := by
    rw [b1, fn_X11_goesOn_128, nl, Option.bind_some, b2, nb, Option.bind_some, gIs, fN, hf]
  have eM : fn_X8_payOut M1 x = if M.1 90 5 + x < nI (cnt m 63 6) - nI (cnt m R' 6) then fn_X8_payOut_42 sd_FU (sd_setI M1 90 5 (M.1 90 5 + x)) 0 else some (1, sd_setI (sd_setI M1 90 5 (M.1 90 5 + x)) 90 5 (M.1 90 5 + x - (nI (cnt m 63 6) - nI (cnt m R' 6)))) := by
    unfold fn_X8_payOut fn_X8_payOut_0
    rw [fM, allM (mM2 _), Option.bind_some, menBackM (mM2 _) (F2 _), Option.bind_some, gIs]
  by_cases g : M.1 90 5 + x < nI (cnt m 63 6) - nI (cnt m R' 6)
  · rw [if_pos g] at eM eN
    obtain ⟨M2, c1, c2, c3⟩ := pay42 (R := R') sd_FU 0 (sd_setI M1 90 5 (M.1 90 5 + x)) (by decide) (by decide) (F2 _)
    obtain ⟨N2, d1, d2, d3, d4, d5, d6, d7⟩ := goEnd (N := N1) (need := nI (cnt m 63 6) - nI (cnt m R' 6)) (p := 0) (x := x) hR b2 (Or.inl rfl)
    refine ⟨M1, M2, N2, R', 0, a1, mb, al, eM.trans c1, eN.trans d1, hsub, ⟨hR, fun k hk => ?_, d2, fun k hk => ?_, ?_⟩, kM1, ?_, kN1.tr d7, Or.inl rfl, ?_, ?_⟩
    · rw [c3.kept (by decide)]; exact F2 _ k hk
    · rw [c2 k hk, if_pos (Nat.zero_le _), d6 k hk, if_pos rfl, gIa (by decide), a3.kept (by decide), b3.1 122 k (by omega), hl k hk]
    · rw [c3.kept (by decide), gIs, d3, if_pos rfl, fN, hf]
    · exact (kM1.tr (keepM.I (by decide) keepM.rf)).tr (c3.kM rfl)
    · rw [d4, f34]
    · rw [d5, f33]
  · rw [if_neg g] at eM eN
    obtain ⟨N2, d1, d2, d3, d4, d5, d6, d7⟩ := goEnd (N := N1) (need := nI (cnt m 63 6) - nI (cnt m R' 6)) (p := 1) (x := x) hR b2 (Or.inr rfl)
    refine ⟨M1, _, N2, R', 1, a1, mb, al, eM, eN.trans d1, hsub, ⟨hR, fun k hk => ?_, d2, fun k hk => ?_, ?_⟩, kM1, ?_, kN1.tr d7, Or.inr rfl, ?_, ?_⟩
    · rw [gIa (by decide), gIa (by decide)]; exact a2 k hk
    · rw [gIa (by decide), gIa (by decide), d6 k hk, if_neg I1ne, sub0, a3.kept (by decide), b3.1 122 k (by omega), hl k hk]
    · rw [gIs, d3, if_neg I1ne, fN, hf]
    · exact kM1.tr (keepM.I (by decide) (keepM.I (by decide) keepM.rf))
    · rw [d4, f34]
    · rw [d5, f33]
