/-- the draft of a quarrel, on both sides -/
def Dr (n : Nat → Nat) (c d : Nat → Nat → Nat) (v h l w : Nat) (M N : sd_Mem) : Prop :=
  (∀ z, z < 2 → n z ≤ 3 ∧ M.1 50 z = nI (n z) ∧ N.1 111 z = nI (n z) ∧ M.1 51 z = nI (sum1 (c z) (n z)) ∧ ∀ s, s < n z → (1 ≤ c z s ∧ c z s ≤ 9) ∧ d z s ≤ 99 ∧ M.1 (49 + 3 + 1 + z) s = nI (c z s) ∧ N.1 112 (3 * z + s) = nI (c z s) ∧ M.1 (49 + 6 + 1 + z) s = nI (d z s) ∧ N.1 113 (3 * z + s) = nI (d z s)) ∧
  (v ≤ 99 ∧ M.1 49 4 = nI v ∧ N.1 114 0 = nI v) ∧ ((1 ≤ h ∧ h ≤ 40) ∧ M.1 49 5 = nI h ∧ N.1 114 1 = nI h) ∧ ((1 ≤ l ∧ l ≤ 10) ∧ M.1 49 6 = nI l ∧ N.1 114 2 = nI l) ∧ (w ≤ 12 ∧ M.1 49 7 = nI w ∧ N.1 114 3 = nI w)
def DM (M M' : sd_Mem) : Prop := ∀ id k : Nat, 49 ≤ id → id ≤ 57 → M'.1 id k = M.1 id k
def DN (N N' : sd_Mem) : Prop := ∀ id k : Nat, 111 ≤ id → id ≤ 114 → N'.1 id k = N.1 id k
theorem Dr.mv {n : Nat → Nat} {c d : Nat → Nat → Nat} {v h l w : Nat} {M M' N N' : sd_Mem} (hM : DM M M') (hN : DN N N') (q : Dr n c d v h l w M N) : Dr n c d v h l w M' N' := by
  obtain ⟨q1, ⟨a1, a2, a3⟩, ⟨b1, b2, b3⟩, ⟨c1, c2, c3⟩, ⟨d1, d2, d3⟩⟩ := q
  refine ⟨fun z hz => ?_, ⟨a1, (hM 49 4 (by decide) (by decide)).trans a2, (hN 114 0 (by decide) (by decide)).trans a3⟩, ⟨b1, (hM 49 5 (by decide) (by decide)).trans b2, (hN 114 1 (by decide) (by decide)).trans b3⟩, ⟨c1, (hM 49 6 (by decide) (by decide)).trans c2, (hN 114 2 (by decide) (by decide)).trans c3⟩, ⟨d1, (hM 49 7 (by decide) (by decide)).trans d2, (hN 114 3 (by decide) (by decide)).trans d3⟩⟩
  obtain ⟨e1, e2, e3, e4, e5⟩ := q1 z hz
  refine ⟨e1, (hM 50 z (by decide) (by decide)).trans e2, (hN 111 z (by decide) (by decide)).trans e3, (hM 51 z (by decide) (by decide)).trans e4, fun s hs => ?_⟩
  obtain ⟨f1, f2, f3, f4, f5, f6⟩ := e5 s hs
  exact ⟨f1, f2, (hM _ s (by omega) (by omega)).trans f3, (hN 112 _ (by decide) (by decide)).trans f4, (hM _ s (by omega) (by omega)).trans f5, (hN 113 _ (by decide) (by decide)).trans f6⟩
/-- only the place differs -/
def Ps (p : Nat) (M M' : sd_Mem) : Prop := M'.1 60 1 = nI p ∧ (∀ id k : Nat, id ≠ 60 → M'.1 id k = M.1 id k) ∧ keepM [9] M M'
def Pn (p : Nat) (N N' : sd_Mem) : Prop := N'.1 100 21 = nI p ∧ (∀ id k : Nat, id ≠ 100 → N'.1 id k = N.1 id k) ∧ keepN [9] N N'
theorem Ps.D {p : Nat} {M M' : sd_Mem} (h : Ps p M M') : DM M M' := fun id k a b => h.2.1 id k (by omega)
theorem Pn.D {p : Nat} {N N' : sd_Mem} (h : Pn p N N') : DN N N' := fun id k a b => h.2.1 id k (by omega)
theorem Ps.st {M : sd_Mem} {p : Nat} : Ps p M (sd_setI M 60 1 (nI p)) := ⟨gIs _ _ _ _, fun id k h => gIa h, keepM.I (by decide) keepM.rf⟩
theorem Ps.nx {p q : Nat} {M M' : sd_Mem} (h : Ps p M M') : Ps q M (sd_setI M' 60 1 (nI q)) := ⟨gIs _ _ _ _, fun id k e => (gIa e).trans (h.2.1 id k e), keepM.I (by decide) h.2.2⟩
theorem Pn.st {N : sd_Mem} {p : Nat} : Pn p N (sd_setI N 100 21 (nI p)) := ⟨gIs _ _ _ _, fun id k h => gIa h, keepN.I (by decide) keepN.rf⟩
theorem Pn.nx {p q : Nat} {N N' : sd_Mem} (h : Pn p N N') : Pn q N (sd_setI N' 100 21 (nI q)) := ⟨gIs _ _ _ _, fun id k e => (gIa e).trans (h.2.1 id k e), keepN.I (by decide) h.2.2⟩
theorem Pn.val {p : Nat} {v : Int32} {N N' : sd_Mem} (h : Pn p N N') : Pn p N (sd_setI N' 100 22 v) := ⟨(gIk (by decide)).trans h.1, fun id k e => (gIa e).trans (h.2.1 id k e), keepN.I (by decide) h.2.2⟩
/-- a TEXT on both sides -/
def Tx (r s : Nat) (T : Nat → Int32) (M N : sd_Mem) : Prop := r < 4 ∧ s ≤ 60 ∧ M.1 (14 + 1 + 2 * r) 1 = nI s ∧ N.1 105 r = nI s ∧ ∀ i, i < s → M.1 (14 + 1 + 2 * r + 1) i = T i ∧ N.1 106 (60 * r + i) = T i
theorem Tx.keep {r s : Nat} {T : Nat → Int32} {M M' N N' : sd_Mem} (h : Tx r s T M N) (hM : keepM [9] M M') (hN : keepN [9] N N') : Tx r s T M' N' := by
  obtain ⟨a, b, c, d, e⟩ := h
  refine ⟨a, b, by rw [hM.e _ 1 2 (rgM_txt a).1 (by decide)]; exact c, by rw [hN.e 105 r 2 (rgN_o (by decide)) (by decide)]; exact d, fun i hi => ?_⟩
  rw [hM.e _ i 2 (rgM_txt a).2 (by decide), hN.e 106 _ 2 (rgN_o (by decide)) (by decide)]
  exact e i hi
section RD
variable {r s : Nat} {T : Nat → Int32} {M N : sd_Mem}
theorem cellT (h : Tx r s T M N) {p : Nat} (hp : p ≤ 100) : fn_X1_cell M (14 + 1 + 2 * r) (nI p) = some (if p < s then T p else 0) := by
  obtain ⟨a, b, c, d, e⟩ := h
  by_cases g : p < s
  · rw [cellM c (by rw [ln_txt r a]; exact b) b g, if_pos g, (e p g).1]
  · unfold fn_X1_cell fn_X1_cell_0
    rw [c, if_neg (nI_pos (by omega)), if_pos (nI_le (by omega) (by omega)), if_neg g]
theorem hereT (h : Tx r s T M N) {p : Nat} (hp : p ≤ 100) (hN : N.1 100 21 = nI p) : fn_X11_here N (nI r) = some (if p < s then T p else -9) := by
  obtain ⟨a, b, c, d, e⟩ := h
  unfold fn_X11_here fn_X11_here_0
  rw [clm (show r < 2 ^ 31 by omega), if_neg (bd2 a (by decide)), hN, d]
  by_cases g : p < s
  · rw [if_neg (nI_ge g (by omega)), show (60 : Int32) * nI r + nI p = nI (60 * r + p) from ix rfl, clm (show 60 * r + p < 2 ^ 31 by omega), if_neg (bd2 (show 60 * r + p < 240 by omega) (by decide)), if_pos g, (e p g).2]
  · rw [if_pos (nI_le (by omega) (by omega)), if_neg g]
theorem figT (h : Tx r s T M N) {p : Nat} (hp : p ≤ 100) (hM : M.1 60 1 = nI p) : (fn_X6_isFigure M (14 + 1 + 2 * r) = some 0 ∧ fn_X11_in (if p < s then T p else -9) 48 57 = some 0) ∨ ((fn_X6_isFigure M (14 + 1 + 2 * r) = some 1 ∧ fn_X11_in (if p < s then T p else -9) 48 57 = some 1) ∧ p < s ∧ ∃ g : Nat, g ≤ 9 ∧ T p = nI (48 + g)) := by
  unfold fn_X6_isFigure fn_X6_isFigure_0
  rw [hM, cellT h hp, Option.bind_some]
  by_cases g : p < s
  · rw [if_pos g, if_pos g]
    rcases cs (x := T p) (a := 48) (b := 57) 48 57 (by decide) (by decide) rfl rfl with ⟨e1, e2⟩ | ⟨⟨e1, e2⟩, k, h1, h2, e3⟩
    · left; rw [e1, Option.bind_some, if_neg I00]; exact ⟨rfl, e2⟩
    · right
      rw [e1, Option.bind_some, if_neg I11]
      exact ⟨⟨rfl, e2⟩, g, k - 48, by omega, by rw [e3]; congr 1; omega⟩
  · left
    rw [if_neg g, if_neg g]
    exact ⟨by rw [wi_out (Or.inl (by decide)), Option.bind_some, if_neg I00], in_out (Or.inl (by decide))⟩
theorem dgt (a g : Nat) : (10 : Int32) * nI a + nI (48 + g) - 48 = nI (10 * a + g) := by
  rw [ix (a := 10) (A := 10) rfl, show (48 : Int32) = nI 48 from rfl, pk_sub (by omega)]
  congr 1
  omega
/-- a number read, on both sides: k figures, u their number -/
theorem rdNum (h : Tx r s T M N) {p : Nat} (hp : p < s) (hM : M.1 60 1 = nI p) (hN : N.1 100 21 = nI (p + 1)) : ∃ (k u : Nat) (M' N' : sd_Mem), k ≤ 2 ∧ p + 1 + k ≤ s ∧ u ≤ 99 ∧ fn_X6_readValue M (14 + 1 + 2 * r) = some (if k = 0 then -1 else nI u, M') ∧ Ps (p + 1 + k) M M' ∧ Pn (p + 1 + k) N N' ∧ N'.1 100 22 = nI u ∧ ∀ lo hi : Int32, fn_X11_readsNumber N (nI r) lo hi = if k = 0 then some (0, N') else (fn_X11_in (nI u) lo hi).bind fun q => if q = 0 then some (0, N') else some (1, N') := by
  have hs := h.2.1
  have kM1 : keepM [9] M (sd_setI M 60 1 (nI (p + 1))) := keepM.I (by decide) keepM.rf
  have kN0 : keepN [9] N (sd_setI N 100 22 0) := keepN.I (by decide) keepN.rf
  have h1 := h.keep kM1 kN0
  have n0 : (sd_setI N 100 22 0).1 100 21 = nI (p + 1) := by rw [gIk (by decide)]; exact hN
  have P0 : Pn (p + 1) N (sd_setI N 100 22 0) := ⟨n0, fun id k e => gIa e, kN0⟩
  have eM : fn_X6_readValue M (14 + 1 + 2 * r) = (fn_X6_isFigure (sd_setI M 60 1 (nI (p + 1))) (14 + 1 + 2 * r)).bind fun q12 => (if q12 = 0 then some (-1, sd_setI M 60 1 (nI (p + 1))) else fn_X6_readValue_24 (14 + 1 + 2 * r) sd_FU (sd_setI M 60 1 (nI (p + 1))) 0 0) := by
    unfold fn_X6_readValue fn_X6_readValue_0
    rw [hM, nI_1]
  have eN : ∀ lo hi, fn_X11_readsNumber N (nI r) lo hi = fn_X11_readsNumber_11 sd_FU (sd_setI N 100 22 0) (nI r) lo hi (nI (p + 1)) := by
    intro lo hi
    unfold fn_X11_readsNumber fn_X11_readsNumber_0
    rw [hN]
  have he1 := hereT h1 (p := p + 1) (by omega) n0
  rw [eM]
  rcases figT h1 (p := p + 1) (by omega) (gIs _ _ _ _) with ⟨f1, f2⟩ | ⟨⟨f1, f2⟩, hps, g, hg, eg⟩
  · refine ⟨0, 0, _, _, by decide, by omega, by decide, by rw [f1]; rfl, Ps.st, P0, gIs _ _ _ _, fun lo hi => ?_⟩
    rw [eN, show sd_FU = 999 + 1 from rfl, fn_X11_readsNumber_11, n0, sub1 (Nat.le_refl _), Nat.sub_self, if_neg (by decide), he1, Option.bind_some, f2, Option.bind_some, if_pos rfl, fn_X11_readsNumber_70, n0, if_pos (nI_le (Nat.le_refl _) (by omega)), if_pos rfl]
  · -- one figure
    have cM1 : fn_X1_cell (sd_setI M 60 1 (nI (p + 1))) (14 + 1 + 2 * r) (nI (p + 1)) = some (nI (48 + g)) := by rw [cellT h1 (by omega), if_pos hps, eg]
    have kM2 : keepM [9] M (sd_setI (sd_setI M 60 1 (nI (p + 1))) 60 1 (nI (p + 2))) := keepM.I (by decide) kM1
    have kN2 : keepN [9] N (sd_setI (sd_setI (sd_setI N 100 22 0) 100 22 (nI g)) 100 21 (nI (p + 2))) := keepN.I (by decide) (keepN.I (by decide) kN0)
    have h2 := h.keep kM2 kN2
    have m21 : (sd_setI (sd_setI (sd_setI N 100 22 0) 100 22 (nI g)) 100 21 (nI (p + 2))).1 100 21 = nI (p + 2) := gIs _ _ _ _
    have m22 : (sd_setI (sd_setI (sd_setI N 100 22 0) 100 22 (nI g)) 100 21 (nI (p + 2))).1 100 22 = nI g := by rw [gIk (by decide), gIs]
    have he2 := hereT h2 (p := p + 2) (by omega) m21
    have eM1 : ∀ f, fn_X6_readValue_24 (14 + 1 + 2 * r) (f + 1) (sd_setI M 60 1 (nI (p + 1))) 0 0 = fn_X6_readValue_24 (14 + 1 + 2 * r) f (sd_setI (sd_setI M 60 1 (nI (p + 1))) 60 1 (nI (p + 2))) (nI g) 1 := by
      intro f
      rw [fn_X6_readValue_24, if_neg (by decide), f1, Option.bind_some, if_neg I1ne, gIs, cM1, Option.bind_some, nI_1, show (10 : Int32) * 0 + nI (48 + g) - 48 = nI (10 * 0 + g) from dgt 0 g, show 10 * 0 + g = g by omega]
      rfl
    have eN1 : ∀ f lo hi, fn_X11_readsNumber_11 (f + 1) (sd_setI N 100 22 0) (nI r) lo hi (nI (p + 1)) = fn_X11_readsNumber_11 f (sd_setI (sd_setI (sd_setI N 100 22 0) 100 22 (nI g)) 100 21 (nI (p + 2))) (nI r) lo hi (nI (p + 1)) := by
      intro f lo hi
      have e22 : (sd_setI N 100 22 0).1 100 22 = 0 := gIs _ _ _ _
      have e21 : ∀ z, (sd_setI (sd_setI N 100 22 0) 100 22 z).1 100 21 = nI (p + 1) := fun z => by rw [gIk (by decide)]; exact n0
      rw [fn_X11_readsNumber_11, n0, sub1 (Nat.le_refl _), Nat.sub_self, if_neg (by decide), he1, Option.bind_some, f2, Option.bind_some, if_neg I1ne, Option.bind_some, if_pos hps, eg, e22, e21, nI_1, show (10 : Int32) * 0 + nI (48 + g) - 48 = nI (10 * 0 + g) from dgt 0 g, show 10 * 0 + g = g by omega]
    rcases figT h2 (p := p + 2) (by omega) (gIs _ _ _ _) with ⟨y1, y2⟩ | ⟨⟨y1, y2⟩, hps2, g', hg', eg'⟩
    · refine ⟨1, g, _, _, by decide, by omega, by omega, ?_, (Ps.st (p := p + 1)).nx, P0.val.nx, m22, fun lo hi => ?_⟩
      · rw [f1, Option.bind_some, if_neg I1ne, show sd_FU = 998 + 1 + 1 from rfl, eM1, fn_X6_readValue_24, if_neg (by decide), y1, Option.bind_some, if_pos rfl, if_neg (by decide)]
      · rw [eN, show sd_FU = 998 + 1 + 1 from rfl, eN1, fn_X11_readsNumber_11, m21, sub1 (show p + 1 ≤ p + 2 by omega), show p + 2 - (p + 1) = 1 by omega, if_neg (by decide), he2, Option.bind_some, y2, Option.bind_some, if_pos rfl, fn_X11_readsNumber_70, m21, if_neg (nI_ge (by omega) (by omega)), m22, if_neg (by decide)]
    · have cM2 : fn_X1_cell (sd_setI (sd_setI M 60 1 (nI (p + 1))) 60 1 (nI (p + 2))) (14 + 1 + 2 * r) (nI (p + 2)) = some (nI (48 + g')) := by rw [cellT h2 (by omega), if_pos hps2, eg']
      have m31 : (sd_setI (sd_setI (sd_setI (sd_setI (sd_setI N 100 22 0) 100 22 (nI g)) 100 21 (nI (p + 2))) 100 22 (nI (10 * g + g'))) 100 21 (nI (p + 3))).1 100 21 = nI (p + 3) := gIs _ _ _ _
      have m32 : (sd_setI (sd_setI (sd_setI (sd_setI (sd_setI N 100 22 0) 100 22 (nI g)) 100 21 (nI (p + 2))) 100 22 (nI (10 * g + g'))) 100 21 (nI (p + 3))).1 100 22 = nI (10 * g + g') := by rw [gIk (by decide), gIs]
      refine ⟨2, 10 * g + g', _, _, by decide, by omega, by omega, ?_, ((Ps.st (p := p + 1)).nx (q := p + 2)).nx, (P0.val.nx (q := p + 2)).val.nx, m32, fun lo hi => ?_⟩
      · rw [f1, Option.bind_some, if_neg I1ne, show sd_FU = 997 + 1 + 1 + 1 from rfl, eM1, fn_X6_readValue_24, if_neg (by decide), y1, Option.bind_some, if_neg I1ne, gIs, cM2, Option.bind_some, dgt, nI_1, fn_X6_readValue_24, if_pos (by decide), if_neg (by decide)]
      · have e21 : ∀ z, (sd_setI (sd_setI (sd_setI (sd_setI N 100 22 0) 100 22 (nI g)) 100 21 (nI (p + 2))) 100 22 z).1 100 21 = nI (p + 2) := fun z => by rw [gIk (by decide), gIs]
        rw [eN, show sd_FU = 997 + 1 + 1 + 1 from rfl, eN1, fn_X11_readsNumber_11, m21, sub1 (show p + 1 ≤ p + 2 by omega), show p + 2 - (p + 1) = 1 by omega, if_neg (by decide), he2, Option.bind_some, y2, Option.bind_some, if_neg I1ne, Option.bind_some, if_pos hps2, eg', m22, dgt, e21, nI_1, fn_X11_readsNumber_11, m31, sub1 (show p + 1 ≤ p + 3 by omega), show p + 3 - (p + 1) = 2 by omega, if_pos (by decide), fn_X11_readsNumber_70, m31, if_neg (nI_ge (by omega) (by omega)), m32, if_neg (by decide)]
end RD
