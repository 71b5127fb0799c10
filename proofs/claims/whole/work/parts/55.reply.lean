section RP
variable {n : Nat → Nat} {c d : Nat → Nat → Nat} {v h l w : Nat} {M N : sd_Mem} {o t kd : Nat} {O T : Nat → Nat → Nat} {a tw jw : Nat}
theorem want_loop (q : Qr n c d v h l w M N) (p : Pr o t kd O T M N) (lw : Lw a tw jw M N) (tb : Tb (2 ^ n 1) l 0 0 M N) {s x : Nat} (hs : s < n 0) (hax : a ≤ x) (hx1 : 1 ≤ x) (hx : x ≤ l) : ∀ (f i g : Nat), i ≤ n 1 → n 1 - i < f → g ≤ 13 → ∃ g' : Nat, g' ≤ 13 ∧ fn_X10_leastTaken_31 M (23 + 1 + 2 * o) f (nI s) (nI x) (nI g) (nI i) = some (nI g') ∧ fn_X11_wanted_7 N f (nI o) (nI s) (nI x) (nI g) (nI i) = some (nI g') := by
  have hl := q.2.2.2.1.1
  have hn := (q.1 1 (by decide)).1
  have hK8 := two_le _ hn.2
  intro f
  induction f with
  | zero => intro i g h1 h2; omega
  | succ f ih =>
    intro i g h1 h2 h3
    unfold fn_X10_leastTaken_31 fn_X11_wanted_7
    rw [srt1Q q, Option.bind_some, if_neg g12, k1, (q.1 1 (by decide)).2.2.1]
    by_cases hi : i = n 1
    · rw [if_pos (nI_le (by omega) (by omega)), if_pos (nI_le (by omega) (by omega))]
      exact ⟨g, h3, rfl, rfl⟩
    · have hi2 : i < n 1 := by omega
      obtain ⟨m1, -, m3, -⟩ := nmM p (show i < 3 by omega) hx1 (show x ≤ 10 by omega)
      have hO : O i x ≤ 12 := (p.2.2.2.2.2.2.2 i (by omega) x hx1 (by omega)).1.1
      obtain ⟨A, hA, -, a1, a2⟩ := alike_loop q p lw hi2 hx sd_FU 0 0 (by omega) (by rw [FU_eq]; omega) (by decide) (fun z => by omega)
      have hA8 : A < 8 := by omega
      have a1 : fn_X7_offeringAlike M 61 (23 + 1 + 2 * o) (nI i) (nI x) = some (nI A) := a1
      have a2 : fn_X11_alikeTo N (nI o) (nI i) (nI x) = some (nI A) := a2
      have e3 : fn_X0_settled M 0 (nI s) (nI x) (nI A) (nI (O i x)) = _ := setM q (z := 0) (by decide) hs hx hA8 (nI (O i x))
      have e4 : fn_X11_worthOf N 0 (nI s) (nI x) (nI (O i x)) = _ := payN q (z := 0) (by decide) hs (nI x) (nI (O i x))
      have e5 : fn_X11_chances N 1 (nI A) = some (nI (acc A (c (1 - 0)) (n (1 - 0)))) := chancesN q (z := 1) (by decide) hA8
      have e6 : pv d v h 0 s (nI x) (nI (O i x)) * (nI (acc A (c (1 - 0)) (n (1 - 0)))).toInt64 * lN (12 ^ (l - x)) = sv n c d v h l 0 s x A (nI (O i x)) := rfl
      have eT : fn_X0_isTaken M (nI s) (nI A) (nI x) (nI (O i x)) = if lg_cmp (sv n c d v h l 0 s x A (nI (O i x))) (M.2 (64 + 1 + (x + 1)) A) < 0 then some 0 else some 1 := by
        rw [fn_X0_isTaken, fn_X0_isTaken_0, e3, Option.bind_some, nI_1 x, sumIn (show 1 ≤ x + 1 by omega) (show x + 1 ≤ 11 by omega) hA8, Option.bind_some]
      rw [if_neg (nI_ge hi2 (by omega)), if_neg (nI_ge hi2 (by omega)), m1, Option.bind_some, lw.1.2.2, if_neg (nI_nlt hax (by omega)), lastN q, Option.bind_some, if_neg (nI_nlt hx (by omega)), a2, Option.bind_some, m3, Option.bind_some, e4, Option.bind_some, e5, Option.bind_some, Option.bind_some, sub1 hx, powN (l - x) (by omega), Option.bind_some, nI_1 x, ix8, if_neg (bnd (show 8 * (x + 1) + A < 96 by omega) (by decide)), clm (show 8 * (x + 1) + A < 2 ^ 31 by omega), ← tb (x + 1) A (by omega) hA (Or.inl (by omega)), e6, a1, Option.bind_some, eT, nI_1 i]
      by_cases g1 : g ≤ O i x
      · rw [if_pos (nI_le g1 (by omega)), if_pos (nI_le g1 (by omega))]
        obtain ⟨g', r1, r2, r3⟩ := ih (i + 1) g (by omega) (by omega) h3
        refine ⟨g', r1, r2, ?_⟩
        split <;> exact r3
      · rw [if_neg (nI_ge (by omega) (by omega)), if_neg (nI_ge (by omega) (by omega))]
        by_cases g2 : lg_cmp (sv n c d v h l 0 s x A (nI (O i x))) (M.2 (64 + 1 + (x + 1)) A) < 0
        · rw [if_pos g2, if_pos g2, Option.bind_some, if_pos rfl]
          exact ih (i + 1) g (by omega) (by omega) h3
        · rw [if_neg g2, if_neg g2, Option.bind_some, if_neg I1ne]
          exact ih (i + 1) (O i x) (by omega) (by omega) (by omega)
theorem want_eq (q : Qr n c d v h l w M N) (p : Pr o t kd O T M N) (lw : Lw a tw jw M N) (tb : Tb (2 ^ n 1) l 0 0 M N) {s x : Nat} (hs : s < n 0) (hx1 : 1 ≤ x) (hx : x ≤ 10) : ∃ g : Nat, g ≤ 13 ∧ fn_X10_leastTaken M (23 + 1 + 2 * o) (nI s) (nI x) = some (nI g) ∧ fn_X11_wanted N (nI o) (nI s) (nI x) = some (nI g) := by
  have hl := q.2.2.2.1.1
  have hn := (q.1 1 (by decide)).1
  have ha := lw.1.1
  have eN : fn_X11_wanted N (nI o) (nI s) (nI x) = fn_X11_wanted_7 N (999 + 1) (nI o) (nI s) (nI x) 13 0 := rfl
  have n0 : ¬ nI (n 1) ≤ 0 := nI_nle (by omega) (by omega)
  by_cases hax : a ≤ x
  · by_cases hxl : x ≤ l
    · obtain ⟨g, r1, r2, r3⟩ := want_loop q p lw tb hs hax hx1 hxl sd_FU 0 13 (Nat.zero_le _) (by rw [FU_eq]; omega) (by decide)
      refine ⟨g, r1, ?_, r3⟩
      rw [fn_X10_leastTaken, fn_X10_leastTaken_0, lastM q, Option.bind_some, lw.1.2.1, wiN rfl rfl hax hxl (by omega), Option.bind_some, if_neg I1ne]
      exact r2
    · refine ⟨13, by decide, ?_, ?_⟩
      · rw [fn_X10_leastTaken, fn_X10_leastTaken_0, lastM q, Option.bind_some, lw.1.2.1, wi_out (Or.inr (nI_lt (by omega) (by omega))), Option.bind_some, if_pos rfl]; rfl
      · rw [eN, fn_X11_wanted_7, if_neg g12, k1, (q.1 1 (by decide)).2.2.1, if_neg n0, lw.1.2.2, if_neg (nI_nlt hax (by omega)), lastN q, Option.bind_some, if_pos (nI_lt (by omega) (by omega))]; rfl
  · refine ⟨13, by decide, ?_, ?_⟩
    · rw [fn_X10_leastTaken, fn_X10_leastTaken_0, lastM q, Option.bind_some, lw.1.2.1, wi_out (Or.inl (nI_lt (by omega) (by omega))), Option.bind_some, if_pos rfl]; rfl
    · rw [eN, fn_X11_wanted_7, if_neg g12, k1, (q.1 1 (by decide)).2.2.1, if_neg n0, lw.1.2.2, if_pos (nI_lt (by omega) (by omega))]; rfl
end RP
theorem prOf {M N : sd_Mem} (hR : Rel M N) {o t : Nat} (ho : o < 8) (ht : t < 8) (e1 : M.1 (23 + 1 + 2 * o) 1 = nI 1) (e2 : M.1 (23 + 1 + 2 * t) 1 = nI 2) : ∃ O T : Nat → Nat → Nat, Pr o t 2 O T M N := by
  have n1 : N.1 115 o = nI 1 := by
    rcases (hR 3 o ho).1 with ⟨s1, -⟩ | ⟨k, -, s1, s2⟩
    · rw [e1] at s1; exact absurd s1 (by decide)
    · rw [s2, ← s1, e1]
  have n2 : N.1 115 t = nI 2 := by
    rcases (hR 3 t ht).1 with ⟨s1, -⟩ | ⟨k, -, s1, s2⟩
    · rw [e2] at s1; exact absurd s1 (by decide)
    · rw [s2, ← s1, e2]
  exact ⟨fun s x => (M.1 (23 + 1 + 2 * o + 1) (10 * s + x - 1)).toNatClampNeg, fun s x => (M.1 (23 + 1 + 2 * t + 1) (10 * s + x - 1)).toNatClampNeg, ho, ht, Or.inl rfl, e1, n1, e2, n2, fun s hs x h1 h2 => ⟨wayNum hR ho (by decide) e1 s hs x h1 h2, wayNum hR ht (by decide) e2 s hs x h1 h2⟩⟩
def RI (n : Nat → Nat) (c d : Nat → Nat → Nat) (v h l w a tw jw o t : Nat) (M N : sd_Mem) : Prop := Rel M N ∧ Qr n c d v h l w M N ∧ Lw a tw jw M N ∧ M.1 (23 + 1 + 2 * o) 1 = nI 1 ∧ M.1 (23 + 1 + 2 * t) 1 = nI 2
section RQ
variable {n : Nat → Nat} {c d : Nat → Nat → Nat} {v h l w a tw jw o t : Nat}
theorem RI.sc {M M' N N' : sd_Mem} (i : RI n c d v h l w a tw jw o t M N) (ho : o < 8) (ht : t < 8) (kM : keepM [9] M M') (kN : keepN [9] N N') : RI n c d v h l w a tw jw o t M' N' := by
  obtain ⟨i1, i2, i3, i4, i5⟩ := i
  exact ⟨i1.sc kM kN, i2.keep kM kN (by decide), i3.keep kM kN (by decide), (kM.e _ 1 3 (rgM_way ho).1 (by decide)).trans i4, (kM.e _ 1 3 (rgM_way ht).1 (by decide)).trans i5⟩
theorem RI.put {M N : sd_Mem} (i : RI n c d v h l w a tw jw o t M N) (ht : t < 8) {s x g : Nat} (hs : s < 3) (h1 : 1 ≤ x) (h2 : x ≤ 10) (hg : g ≤ 13) : RI n c d v h l w a tw jw o t (sd_setI M (23 + 1 + 2 * t + 1) (10 * s + x - 1) (nI g)) (sd_setI N 116 (30 * t + (10 * s + x - 1)) (nI g)) := by
  obtain ⟨i1, i2, i3, i4, i5⟩ := i
  have kM : keepM [3] M (sd_setI M (23 + 1 + 2 * t + 1) (10 * s + x - 1) (nI g)) := keepM.I (by rw [(rgM_way ht).2]; decide) keepM.rf
  have kN : keepN [3] N (sd_setI N 116 (30 * t + (10 * s + x - 1)) (nI g)) := keepN.I (by rw [rgN_o (by decide)]; decide) keepN.rf
  exact ⟨i1.setw ht (by omega) (show 2 ≤ 4 by decide) i5 hg, i2.keep kM kN (by decide), i3.keep kM kN (by decide), (gIa (by omega)).trans i4, (gIa (by omega)).trans i5⟩
theorem rep_days {s : Nat} (ho : o < 8) (ht : t < 8) (hs : s < n 0) (hs3 : s < 3) {k20 k20' : sd_Mem → Int32 → Int32 → Int32 → Int32 → Option (Int32 × sd_Mem)} : ∀ (f x m : Nat) (M N : sd_Mem), 1 ≤ x → x ≤ 11 → 11 - x < f → RI n c d v h l w a tw jw o t M N → Tb (2 ^ n 1) l 0 0 M N → ∃ (m' : Nat) (M' N' : sd_Mem), fn_X10_reply_51 k20 f M (nI t) (nI o) (nI m) (nI s) (nI x) = k20 M' (nI t) (nI o) (nI m') (nI (s + 1)) ∧ fn_X11_reply_41 k20' f N (nI t) (nI o) (nI m) (nI s) (nI x) = k20' N' (nI t) (nI o) (nI m') (nI (s + 1)) ∧ RI n c d v h l w a tw jw o t M' N' := by
  intro f
  induction f with
  | zero => intro x m M N h1 h2 h3; omega
  | succ f ih =>
    intro x m M N h1 h2 h3 i tb
    obtain ⟨i1, q, lw, i4, i5⟩ := id i
    unfold fn_X10_reply_51 fn_X11_reply_41
    by_cases hx : x = 11
    · subst hx
      rw [if_pos (by decide), if_pos (by decide), nI_1]
      exact ⟨m, M, N, rfl, rfl, i⟩
    · have nx : ¬ (10 : Int32) < nI x := nI_nlt (a := 10) (by omega) (by decide)
      obtain ⟨O, T, p⟩ := prOf i1 ho ht i4 i5
      obtain ⟨g, hg, w1, w2⟩ := want_eq q p lw tb hs h1 (show x ≤ 10 by omega)
      have e := i1.num ht hs3 h1 (show x ≤ 10 by omega)
      rw [if_neg nx, if_neg nx, clm (show o < 2 ^ 31 by omega), clm (show t < 2 ^ 31 by omega), if_neg (bd2 ho (by decide)), w1, Option.bind_some, if_neg (bd2 ht (by decide)), wswap hs3 h1 (show x ≤ 10 by omega) (plc1 hs3 h1 (by omega)), Option.bind_some, w2, Option.bind_some, chgN ht hs3 h1 (show x ≤ 10 by omega), Option.bind_some]
      dsimp only
      rw [← e, nI_1 x]
      have i' := i.put ht hs3 h1 (show x ≤ 10 by omega) hg
      by_cases ee : M.1 (23 + 1 + 2 * t + 1) (10 * s + x - 1) = nI g
      · rw [if_pos ee, if_pos ee, Int32.add_zero]
        exact ih (x + 1) m _ _ (by omega) (by omega) (by omega) i' tb
      · rw [if_neg ee, if_neg ee, nI_1 m]
        exact ih (x + 1) (m + 1) _ _ (by omega) (by omega) (by omega) i' tb
theorem rep_loop (ho : o < 8) (ht : t < 8) : ∀ (f s m : Nat) (M N : sd_Mem), s ≤ n 0 → n 0 - s < f → RI n c d v h l w a tw jw o t M N → ∃ q1 q2 : Int32 × sd_Mem, fn_X10_reply_20 f M (nI t) (nI o) (nI m) (nI s) = some q1 ∧ fn_X11_reply_20 f N (nI t) (nI o) (nI m) (nI s) = some q2 ∧ q1.1 = q2.1 ∧ Rel q1.2 q2.2 := by
  intro f
  induction f with
  | zero => intro s m M N h1 h2; omega
  | succ f ih =>
    intro s m M N h1 h2 i
    obtain ⟨i1, q, lw, i4, i5⟩ := id i
    have hn0 := (q.1 0 (by decide)).1
    unfold fn_X10_reply_20 fn_X11_reply_20
    rw [srt0Q q, Option.bind_some, if_neg g02, k0, (q.1 0 (by decide)).2.2.1]
    by_cases hs : s = n 0
    · rw [if_pos (nI_le (by omega) (by omega)), if_pos (nI_le (by omega) (by omega))]
      exact ⟨_, _, rfl, rfl, rfl, i1⟩
    · have hs2 : s < n 0 := by omega
      obtain ⟨O, T, p⟩ := prOf i1 ho ht i4 i5
      obtain ⟨M1, N1, e1, e2, kM, kN, tb⟩ := men_eq q p.wn.1 lw hs2
      obtain ⟨m', M', N', l1, l2, i2⟩ := rep_days (s := s) ho ht hs2 (by omega) (k20 := fn_X10_reply_20 f) (k20' := fn_X11_reply_20 f) sd_FU 1 m M1 N1 (by decide) (by decide) (by decide) (i.sc ho ht kM kN) tb
      have l1 : fn_X10_reply_51 (fn_X10_reply_20 f) sd_FU M1 (nI t) (nI o) (nI m) (nI s) 1 = _ := l1
      have l2 : fn_X11_reply_41 (fn_X11_reply_20 f) sd_FU N1 (nI t) (nI o) (nI m) (nI s) 1 = _ := l2
      rw [if_neg (nI_ge hs2 (by omega)), if_neg (nI_ge hs2 (by omega)), clm (show o < 2 ^ 31 by omega), if_neg (bd2 ho (by decide)), e1, e2, Option.bind_some, Option.bind_some, l1, l2]
      exact ih (s + 1) m' M' N' (by omega) (by omega) i2
end RQ
theorem st_26 : sd_St26 Rel := by
  intro M N hR x1 x2
  obtain ⟨n, c, d, v, h, l, w, q⟩ := hR 4
  obtain ⟨a, tw, jw, lw⟩ := hR 5
  rcases ref hR x2 x1 0 with ⟨r, M', N', hr0, hr1, g1, g2, hR'⟩ | ⟨g1, g2, o, t, kd, O, T, rfl, rfl, p, hkd⟩
  · refine ⟨(r, M'), (r, N'), ?_, ?_, rfl, hR'⟩
    · simp only [fn_X10_reply, fn_X10_reply_0, g1, Option.bind_some, if_neg hr0]
    · simp only [fn_X11_reply, fn_X11_reply_0, g2, Option.bind_some, if_neg hr1]
  have hk2 := hkd rfl
  subst hk2
  have hn0 := (q.1 0 (by decide)).1
  obtain ⟨q1, q2, e1, e2, e3, e4⟩ := rep_loop p.1 p.2.1 sd_FU 0 0 M N (Nat.zero_le _) (by rw [FU_eq]; omega) (⟨hR, q, lw, p.2.2.2.1, p.2.2.2.2.2.1⟩ : RI n c d v h l w a tw jw o t M N)
  refine ⟨q1, q2, ?_, ?_, e3, e4⟩
  · simp only [fn_X10_reply, fn_X10_reply_0, g1, Option.bind_some, if_true]; exact e1
  · simp only [fn_X11_reply, fn_X11_reply_0, g2, Option.bind_some, if_pos z0]; exact e2
