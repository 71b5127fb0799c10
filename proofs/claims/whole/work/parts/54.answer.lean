theorem Rel.num {M N : sd_Mem} (hR : Rel M N) {o s x : Nat} (ho : o < 8) (hs : s < 3) (h1 : 1 ≤ x) (h2 : x ≤ 10) : M.1 (23 + 1 + 2 * o + 1) (10 * s + x - 1) = N.1 116 (30 * o + (10 * s + x - 1)) := ((hR 3 o ho).2 (10 * s + x - 1) (by omega)).1
theorem chgN {N : sd_Mem} {o s x : Nat} {g : Int32} (ho : o < 8) (hs : s < 3) (h1 : 1 ≤ x) (h2 : x ≤ 10) : fn_X11_changes N (nI o) (nI s) (nI x) g = some (if N.1 116 (30 * o + (10 * s + x - 1)) = g then 0 else 1, sd_setI N 116 (30 * o + (10 * s + x - 1)) g) := by
  have ej : 30 * o + 10 * s + x - 1 = 30 * o + (10 * s + x - 1) := by omega
  have b := bd2 (show 30 * o + (10 * s + x - 1) < 240 by omega) (show 240 < 2 ^ 31 by decide)
  have cc := clm (show 30 * o + (10 * s + x - 1) < 2 ^ 31 by omega)
  rw [fn_X11_changes, fn_X11_changes_0, ixw h1, ej, cc, if_neg b]
  by_cases e : N.1 116 (30 * o + (10 * s + x - 1)) = g
  · rw [if_pos e, fn_X11_changes_32, cc, if_neg b, if_pos rfl, if_pos e]
  · rw [if_neg e, fn_X11_changes_32, cc, if_neg b, if_neg I1ne, if_neg e]
theorem Of.put3 {a K l x k o j j' : Nat} {u u' : Int32} {M N : sd_Mem} (h : Of a K l x k M N) (ho : o < 8) : Of a K l x k (sd_setI M (23 + 1 + 2 * o + 1) j u) (sd_setI N 116 j' u') := by
  intro y S h0 h1 h2 h3
  obtain ⟨g, a1, a2, a3⟩ := h y S h0 h1 h2 h3
  exact ⟨g, a1, (gIa (by omega)).trans a2, (gIa (by decide)).trans a3⟩
/-- what stands while an OFFER is laid anew -/
def AI (n : Nat → Nat) (c d : Nat → Nat → Nat) (v h l w a tw jw o t : Nat) (T : Nat → Nat → Nat) (M N : sd_Mem) : Prop := Rel M N ∧ Qr n c d v h l w M N ∧ Lw a tw jw M N ∧ Wn t T M N ∧ M.1 (23 + 1 + 2 * o) 1 = nI 1
section AN
variable {n : Nat → Nat} {c d : Nat → Nat → Nat} {v h l w a tw jw o t : Nat} {T : Nat → Nat → Nat}
theorem AI.sc {M M' N N' : sd_Mem} (i : AI n c d v h l w a tw jw o t T M N) (ho : o < 8) (kM : keepM [9] M M') (kN : keepN [9] N N') : AI n c d v h l w a tw jw o t T M' N' := by
  obtain ⟨i1, i2, i3, i4, i5⟩ := i
  exact ⟨i1.sc kM kN, i2.keep kM kN (by decide), i3.keep kM kN (by decide), i4.keep kM kN (by decide), (kM.e _ 1 3 (rgM_way ho).1 (by decide)).trans i5⟩
theorem AI.put {M N : sd_Mem} (i : AI n c d v h l w a tw jw o t T M N) (ho : o < 8) (hot : o ≠ t) {s x g : Nat} (hs : s < 3) (h1 : 1 ≤ x) (h2 : x ≤ 10) (hg : g ≤ 12) : AI n c d v h l w a tw jw o t T (sd_setI M (23 + 1 + 2 * o + 1) (10 * s + x - 1) (nI g)) (sd_setI N 116 (30 * o + (10 * s + x - 1)) (nI g)) := by
  obtain ⟨i1, i2, i3, i4, i5⟩ := i
  have kM : keepM [3] M (sd_setI M (23 + 1 + 2 * o + 1) (10 * s + x - 1) (nI g)) := keepM.I (by rw [(rgM_way ho).2]; decide) keepM.rf
  have kN : keepN [3] N (sd_setI N 116 (30 * o + (10 * s + x - 1)) (nI g)) := keepN.I (by rw [rgN_o (by decide)]; decide) keepN.rf
  refine ⟨i1.setw ho (by omega) (show 1 ≤ 4 by decide) i5 hg, i2.keep kM kN (by decide), i3.keep kM kN (by decide), ⟨i4.1, fun s' hs' x' h1' h2' => ?_⟩, (gIa (by omega)).trans i5⟩
  have ht := i4.1
  rw [gIa (by omega), gIn (by omega)]
  exact i4.2 s' hs' x' h1' h2'
theorem lay_days {s m : Nat} (ho : o < 8) (hot : o ≠ t) (hs : s < 3) {k20 : sd_Mem → Int32 → Int32 → Int32 → Int32 → Option (Int32 × sd_Mem)} : ∀ (f x S j : Nat) (M N : sd_Mem), 1 ≤ x → x ≤ 11 → 11 - x < f → S < 2 ^ n 0 → AI n c d v h l w a tw jw o t T M N → Of a (2 ^ n 0) l 0 0 M N → ∃ (j' : Nat) (M' N' : sd_Mem), fn_X0_layOffers_22 (23 + 1 + 2 * o) (23 + 1 + 2 * t) f M (nI s) (nI j) (nI S) (nI x) = some (nI j', M') ∧ fn_X11_answer_48 k20 f N (nI o) (nI t) (nI (m + j)) (nI s) (nI S) (nI x) = k20 N' (nI o) (nI t) (nI (m + j')) (nI (s + 1)) ∧ AI n c d v h l w a tw jw o t T M' N' := by
  intro f
  induction f with
  | zero => intro x S j M N h1 h2 h3; omega
  | succ f ih =>
    intro x S j M N h1 h2 h3 hS i ofr
    obtain ⟨i1, q, lw, p, i5⟩ := id i
    have hl := q.2.2.2.1.1
    have ha := lw.1.1
    have hn := (q.1 0 (by decide)).1
    have hK8 := two_le _ hn.2
    unfold fn_X0_layOffers_22 fn_X11_answer_48
    by_cases hx : x = 11
    · subst hx
      rw [if_pos (by decide), if_pos (by decide), nI_1]
      exact ⟨j, M, N, rfl, rfl, i⟩
    · have nx : ¬ (10 : Int32) < nI x := nI_nlt (a := 10) (by omega) (by decide)
      have put : ∀ (g S' : Nat), g ≤ 12 → S' < 2 ^ n 0 → ∃ (j' : Nat) (M' N' : sd_Mem), fn_X0_layOffers_94 (23 + 1 + 2 * o) (23 + 1 + 2 * t) (fn_X0_layOffers_22 (23 + 1 + 2 * o) (23 + 1 + 2 * t) f) M (nI s) (nI j) (nI S') (nI x) (nI g) = some (nI j', M') ∧ fn_X11_answer_135 k20 (fn_X11_answer_48 k20 f) N (nI o) (nI t) (nI (m + j)) (nI s) (nI x) (nI g) (nI S') = k20 N' (nI o) (nI t) (nI (m + j')) (nI (s + 1)) ∧ AI n c d v h l w a tw jw o t T M' N' := by
        intro g S' hg hS'
        have e := i1.num ho hs h1 (show x ≤ 10 by omega)
        rw [fn_X0_layOffers_94, wswap hs h1 (show x ≤ 10 by omega) (plc1 hs h1 (by omega)), Option.bind_some, fn_X11_answer_135, chgN ho hs h1 (show x ≤ 10 by omega), Option.bind_some]
        dsimp only
        rw [← e, nI_1 x]
        have i' := i.put ho hot hs h1 (show x ≤ 10 by omega) hg
        have o' : Of a (2 ^ n 0) l 0 0 (sd_setI M (23 + 1 + 2 * o + 1) (10 * s + x - 1) (nI g)) (sd_setI N 116 (30 * o + (10 * s + x - 1)) (nI g)) := ofr.put3 ho
        by_cases ee : M.1 (23 + 1 + 2 * o + 1) (10 * s + x - 1) = nI g
        · rw [if_pos ee, if_pos ee, Int32.add_zero, Int32.add_zero]
          exact ih (x + 1) S' j _ _ (by omega) (by omega) (by omega) hS' i' o'
        · rw [if_neg ee, if_neg ee, nI_1 j, nI_1 (m + j)]
          exact ih (x + 1) S' (j + 1) _ _ (by omega) (by omega) (by omega) hS' i' o'
      rw [if_neg nx, if_neg nx, lw.1.2.1, lw.1.2.2, q.2.2.2.1.2.1]
      by_cases hax : a ≤ x
      · rw [if_neg (nI_nlt hax (by omega)), lastN q, Option.bind_some]
        by_cases hxl : x ≤ l
        · rw [wiN rfl rfl hax hxl (by omega), Option.bind_some, if_neg I1ne, if_neg (nI_nlt hxl (by omega))]
          by_cases hS0 : S = 0
          · have hS0' : nI S = 0 := by rw [hS0]; rfl
            rw [if_pos hS0', if_pos hS0', fn_X11_answer_83, if_pos rfl, fn_X11_answer_107, if_pos rfl]
            exact put 0 S (by decide) hS
          · have hS0' : ¬ nI S = 0 := nI_ne0 (by omega) (by omega)
            obtain ⟨g, hg, o1, o2⟩ := ofr x S hax hxl hS (Or.inl (by omega))
            obtain ⟨R, G, hR, hR8, hG8, e1, e2, e3, e4⟩ := split_eq q p (S := S) (x := x) (y := g) hS h1 (by omega) hg
            rw [if_neg hS0', if_neg hS0', heldIn h1 (by omega) (show S < 8 by omega), Option.bind_some, if_neg I1ne, clm (show x < 2 ^ 31 by omega), clm (show S < 2 ^ 31 by omega), if_neg (bd2 (show x < 12 by omega) (show 12 < 2 ^ 31 by decide)), if_neg (bd2 (show S < 8 by omega) (show 8 < 2 ^ 31 by decide)), o1, e1, Option.bind_some, fn_X11_answer_83, if_neg I1ne, ix8, if_neg (bnd (show 8 * x + S < 96 by omega) (by decide)), clm (show 8 * x + S < 2 ^ 31 by omega), o2, fn_X11_answer_107, if_neg I1ne, e2, Option.bind_some, e4]
            exact put g R hg hR
        · rw [wi_out (Or.inr (nI_lt (by omega) (by omega))), Option.bind_some, if_pos rfl, if_pos (nI_lt (by omega) (by omega)), fn_X11_answer_83, if_pos rfl, fn_X11_answer_107, if_pos rfl]
          exact put 0 S (by decide) hS
      · rw [if_pos (nI_lt (by omega) (by omega)), wi_out (Or.inl (nI_lt (by omega) (by omega))), Option.bind_some, if_pos rfl, fn_X11_answer_83, if_pos rfl, fn_X11_answer_107, if_pos rfl]
        exact put 0 S (by decide) hS
theorem ans_loop (ho : o < 8) (ht : t < 8) (hot : o ≠ t) : ∀ (f s m : Nat) (M N : sd_Mem), s ≤ n 1 → n 1 - s < f → AI n c d v h l w a tw jw o t T M N → ∃ q1 q2 : Int32 × sd_Mem, fn_X10_answer_20 f M (nI o) (nI t) (nI m) (nI s) = some q1 ∧ fn_X11_answer_20 f N (nI o) (nI t) (nI m) (nI s) = some q2 ∧ q1.1 = q2.1 ∧ Rel q1.2 q2.2 := by
  intro f
  induction f with
  | zero => intro s m M N h1 h2; omega
  | succ f ih =>
    intro s m M N h1 h2 i
    obtain ⟨i1, q, lw, p, i5⟩ := id i
    have hn0 := (q.1 0 (by decide)).1
    have hn1 := (q.1 1 (by decide)).1
    have hK1 := pow_ge _ hn0.2
    unfold fn_X10_answer_20 fn_X11_answer_20
    rw [srt1Q q, Option.bind_some, if_neg g12, k1, (q.1 1 (by decide)).2.2.1]
    by_cases hs : s = n 1
    · rw [if_pos (nI_le (by omega) (by omega)), if_pos (nI_le (by omega) (by omega))]
      exact ⟨_, _, rfl, rfl, rfl, i1⟩
    · have hs2 : s < n 1 := by omega
      obtain ⟨M1, N1, e1, e2, kM, kN, -, ofr⟩ := own_eq q p lw hs2
      have i' := i.sc ho kM kN
      have q1 := i'.2.1
      have w1 : fn_X5_everySort M1 40 0 = _ := everyM q1 (z := 0) (by decide)
      have w2 : fn_X11_whoAll N1 0 = _ := whoAllN q1 (z := 0) (by decide)
      obtain ⟨j', M', N', l1, l2, i2⟩ := lay_days (s := s) (m := m) ho hot (by omega) (k20 := fn_X11_answer_20 f) sd_FU 1 (2 ^ n 0 - 1) 0 M1 N1 (by decide) (by decide) (by decide) (by omega) i' ofr
      have l1 : fn_X0_layOffers M (23 + 1 + 2 * o) (23 + 1 + 2 * t) (nI s) = some (nI j', M') := by
        unfold fn_X0_layOffers fn_X0_layOffers_0
        rw [e1, Option.bind_some, w1, Option.bind_some]; exact l1
      have l2 : fn_X11_answer_48 (fn_X11_answer_20 f) sd_FU N1 (nI o) (nI t) (nI m) (nI s) (nI (2 ^ n 0 - 1)) 1 = _ := l2
      rw [if_neg (nI_ge hs2 (by omega)), if_neg (nI_ge hs2 (by omega)), clm (show o < 2 ^ 31 by omega), clm (show t < 2 ^ 31 by omega), if_neg (bd2 ho (by decide)), if_neg (bd2 ht (by decide)), l1, Option.bind_some, e2, Option.bind_some, w2, Option.bind_some, l2]
      dsimp only
      rw [nI_add, nI_1]
      exact ih (s + 1) (m + j') M' N' (by omega) (by omega) i2
end AN
theorem st_25 : sd_St25 Rel := by
  intro M N hR x1 x2
  obtain ⟨n, c, d, v, h, l, w, q⟩ := hR 4
  obtain ⟨a, tw, jw, lw⟩ := hR 5
  rcases ref hR x1 x2 0 with ⟨r, M', N', hr0, hr1, g1, g2, hR'⟩ | ⟨g1, g2, o, t, kd, O, T, rfl, rfl, p, hkd⟩
  · refine ⟨(r, M'), (r, N'), ?_, ?_, rfl, hR'⟩
    · simp only [fn_X10_answer, fn_X10_answer_0, g1, Option.bind_some, if_neg hr0]
    · simp only [fn_X11_answer, fn_X11_answer_0, g2, Option.bind_some, if_neg hr1]
  have hk2 := hkd rfl
  subst hk2
  have hn1 := (q.1 1 (by decide)).1
  have hot : o ≠ t := fun e => by
    have e1 := p.2.2.2.1
    have e2 := p.2.2.2.2.2.1
    rw [e, e2] at e1
    exact absurd e1 (by decide)
  obtain ⟨q1, q2, e1, e2, e3, e4⟩ := ans_loop p.1 p.2.1 hot sd_FU 0 0 M N (Nat.zero_le _) (by rw [FU_eq]; omega) (⟨hR, q, lw, p.wn.2, p.2.2.2.1⟩ : AI n c d v h l w a tw jw o t T M N)
  refine ⟨q1, q2, ?_, ?_, e3, e4⟩
  · simp only [fn_X10_answer, fn_X10_answer_0, g1, Option.bind_some, if_true]; exact e1
  · simp only [fn_X11_answer, fn_X11_answer_0, g2, Option.bind_some, if_pos z0]; exact e2
