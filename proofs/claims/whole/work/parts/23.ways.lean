theorem plc (x y : Int32) : (fn_X10_isPlace x y = some 0 ∧ fn_X11_isPlace x y = some 0) ∨ ((fn_X10_isPlace x y = some 1 ∧ fn_X11_isPlace x y = some 1) ∧ ∃ s d : Nat, s < 3 ∧ 1 ≤ d ∧ d ≤ 10 ∧ x = nI s ∧ y = nI d) := by
  have h3 : (3 : Int32) ≤ x ↔ 2 < x := by
    rw [Int32.le_iff_toInt_le, Int32.lt_iff_toInt_lt, show (3 : Int32).toInt = 3 from rfl, show (2 : Int32).toInt = 2 from rfl]
    omega
  rcases cs (x := x) (a := 0) (b := 2) 0 2 (by decide) (by decide) rfl rfl with ⟨e1, e2⟩ | ⟨⟨e1, e2⟩, s, -, hs, rfl⟩
  · left
    constructor
    · unfold fn_X10_within fn_X10_within_0 at e1
      unfold fn_X10_isPlace fn_X10_isPlace_0
      by_cases h0 : x < 0
      · rw [if_pos h0]
      · rw [if_neg h0] at e1 ⊢
        by_cases h2 : 2 < x
        · rw [if_pos (h3.mpr h2)]
        · rw [if_neg h2] at e1; cases e1
    · simp only [fn_X11_isPlace, fn_X11_isPlace_0, e2, Option.bind_some, if_true]
  · have q0 : ¬ nI s < 0 := nI_pos (by omega)
    have q3 : ¬ (3 : Int32) ≤ nI s := nI_ge (b := 3) (by omega) (by decide)
    rcases cs (x := y) (a := 1) (b := 10) 1 10 (by decide) (by decide) rfl rfl with ⟨f1, f2⟩ | ⟨⟨f1, f2⟩, d, hd1, hd2, rfl⟩
    · left
      constructor
      · unfold fn_X10_within fn_X10_within_0 at f1
        unfold fn_X10_isPlace fn_X10_isPlace_0
        rw [if_neg q0, if_neg q3]
        by_cases h0 : y < 1
        · rw [if_pos h0]
        · rw [if_neg h0] at f1 ⊢
          by_cases h2 : 10 < y
          · rw [if_pos h2]
          · rw [if_neg h2] at f1; cases f1
      · simp only [fn_X11_isPlace, fn_X11_isPlace_0, fn_X11_isDay, fn_X11_isDay_0, e2, f2, Option.bind_some, if_neg I1ne, if_neg I00, if_true]
    · right
      refine ⟨⟨?_, ?_⟩, s, d, by omega, hd1, hd2, rfl, rfl⟩
      · unfold fn_X10_isPlace fn_X10_isPlace_0
        rw [if_neg q0, if_neg q3, if_neg (show ¬ nI d < 1 from nI_nlt (b := 1) hd1 (by omega)), if_neg (show ¬ (10 : Int32) < nI d from nI_nlt (a := 10) hd2 (by decide))]
      · simp only [fn_X11_isPlace, fn_X11_isPlace_0, fn_X11_isDay, fn_X11_isDay_0, e2, f2, Option.bind_some, if_neg I1ne, if_neg I11]
theorem ixs {s d : Nat} (hd : 1 ≤ d) : (10 : Int32) * nI s + nI d - 1 = nI (10 * s + d - 1) := by
  rw [ix (a := 10) (A := 10) rfl, show (1 : Int32) = nI 1 from rfl, pk_sub (by omega)]
theorem ixw {w s d : Nat} (hd : 1 ≤ d) : (30 : Int32) * nI w + 10 * nI s + nI d - 1 = nI (30 * w + 10 * s + d - 1) := by
  rw [show (30 : Int32) = nI 30 from rfl, show (10 : Int32) = nI 10 from rfl, pk_mul, pk_mul, nI_add, nI_add, show (1 : Int32) = nI 1 from rfl, pk_sub (by omega)]
theorem numM {M : sd_Mem} {h s d : Nat} (hs : s < 3) (h1 : 1 ≤ d) (h2 : d ≤ 10) (hp : fn_X10_isPlace (nI s) (nI d) = some 1) : fn_X9_number M h (nI s) (nI d) = some (M.1 (h + 1) (10 * s + d - 1)) := by
  simp only [fn_X9_number, fn_X9_number_0, hp, Option.bind_some, if_neg I1ne, ixs h1, clm (show 10 * s + d - 1 < 2 ^ 31 by omega), if_neg (bd2 (show 10 * s + d - 1 < 30 by omega) (by decide))]
theorem numN {N : sd_Mem} {w s d : Nat} (hw : w < 8) (hs : s < 3) (h1 : 1 ≤ d) (h2 : d ≤ 10) : fn_X11_number N (nI w) (nI s) (nI d) = some (N.1 116 (30 * w + 10 * s + d - 1)) := by
  simp only [fn_X11_number, fn_X11_number_0, ixw h1, clm (show 30 * w + 10 * s + d - 1 < 2 ^ 31 by omega), if_neg (bd2 (show 30 * w + 10 * s + d - 1 < 240 by omega) (by decide))]
theorem wswap {M : sd_Mem} {h s d : Nat} {v : Int32} (hs : s < 3) (h1 : 1 ≤ d) (h2 : d ≤ 10) (hp : fn_X10_isPlace (nI s) (nI d) = some 1) : fn_X9_swap M h (nI s) (nI d) v = some (M.1 (h + 1) (10 * s + d - 1), sd_setI M (h + 1) (10 * s + d - 1) v) := by
  simp only [fn_X9_swap, fn_X9_swap_0, numM hs h1 h2 hp, hp, Option.bind_some, if_neg I1ne, ixs h1, clm (show 10 * s + d - 1 < 2 ^ 31 by omega), if_neg (bd2 (show 10 * s + d - 1 < 30 by omega) (by decide))]
theorem plc1 {s d : Nat} (hs : s < 3) (h1 : 1 ≤ d) (h2 : d ≤ 10) : fn_X10_isPlace (nI s) (nI d) = some 1 := by
  unfold fn_X10_isPlace fn_X10_isPlace_0
  rw [if_neg (nI_pos (by omega)), if_neg (show ¬ (3 : Int32) ≤ nI s from nI_ge (b := 3) (by omega) (by decide)), if_neg (show ¬ nI d < 1 from nI_nlt (b := 1) h1 (by omega)), if_neg (show ¬ (10 : Int32) < nI d from nI_nlt (a := 10) h2 (by decide))]
def kbd (k : Nat) : Nat := if k = 1 then 12 else if k = 2 ∨ k = 3 then 13 else 99
theorem fit {M N : sd_Mem} {h w k : Nat} {v : Int32} (hw : w < 8) (hk : k ≤ 4) (e1 : M.1 h 1 = nI k) (e2 : N.1 115 w = nI k) : (fn_X9_fits M h v = some 0 ∧ fn_X11_isOfKind N (nI w) v = some 0) ∨ ((fn_X9_fits M h v = some 1 ∧ fn_X11_isOfKind N (nI w) v = some 1) ∧ ∃ n : Nat, v = nI n ∧ n ≤ kbd k) := by
  have b := bd2 hw (by decide)
  have c1 := clm (show w < 2 ^ 31 by omega)
  have go : ∀ (q : Nat) (B : Int32), nI q = B → q < 2 ^ 31 → kbd k = q → (∀ r : Int32, fn_X10_within v 0 B = some r → (¬ (r &&& 1 ≠ r)) → fn_X9_fits M h v = some r) → (∀ r : Int32, fn_X11_in v 0 B = some r → (¬ (r &&& 1 ≠ r)) → fn_X11_isOfKind N (nI w) v = some r) → (fn_X9_fits M h v = some 0 ∧ fn_X11_isOfKind N (nI w) v = some 0) ∨ ((fn_X9_fits M h v = some 1 ∧ fn_X11_isOfKind N (nI w) v = some 1) ∧ ∃ n : Nat, v = nI n ∧ n ≤ kbd k) := by
    intro q B hB hq hk f g
    rcases cs (x := v) (a := 0) (b := B) 0 q hq (Nat.zero_le _) rfl hB with ⟨u1, u2⟩ | ⟨⟨u1, u2⟩, n, -, hn, rfl⟩
    · exact Or.inl ⟨f _ u1 I00, g _ u2 I00⟩
    · exact Or.inr ⟨⟨f _ u1 I11, g _ u2 I11⟩, n, rfl, by rw [hk]; exact hn⟩
  rcases (show k = 0 ∨ k = 1 ∨ k = 2 ∨ k = 3 ∨ k = 4 by omega) with rfl | rfl | rfl | rfl | rfl
  · refine go 99 99 rfl (by decide) rfl (fun r e z => ?_) (fun r e z => ?_)
    · simp only [fn_X9_fits, fn_X9_fits_0, fn_X9_is, fn_X9_is_0, e1, e, Option.bind_some, if_neg z, show ¬ nI 0 = 1 by decide, show ¬ (2 : Int32) = 0 by decide, show ¬ nI 0 = 2 by decide, show ¬ nI 0 = 3 by decide, if_false, if_true]
    · simp only [fn_X11_isOfKind, fn_X11_isOfKind_0, c1, if_neg b, e2, e, Option.bind_some, if_neg z, show ¬ nI 0 = 1 by decide, show ¬ nI 0 = 2 by decide, show ¬ nI 0 = 3 by decide, if_false]
  · refine go 12 12 rfl (by decide) rfl (fun r e z => ?_) (fun r e z => ?_)
    · simp only [fn_X9_fits, fn_X9_fits_0, e1, e, Option.bind_some, if_neg z, show nI 1 = 1 by decide, if_true]
    · simp only [fn_X11_isOfKind, fn_X11_isOfKind_0, c1, if_neg b, e2, e, Option.bind_some, if_neg z, show nI 1 = 1 by decide, if_true]
  · refine go 13 13 rfl (by decide) rfl (fun r e z => ?_) (fun r e z => ?_)
    · simp only [fn_X9_fits, fn_X9_fits_0, fn_X9_is, fn_X9_is_0, e1, e, Option.bind_some, if_neg z, show ¬ nI 2 = 1 by decide, show ¬ (2 : Int32) = 0 by decide, show nI 2 = 2 by decide, if_false, if_true, if_neg I1ne]
      simp only [show ¬ (2 : Int32) = 1 by decide, if_false]
    · simp only [fn_X11_isOfKind, fn_X11_isOfKind_0, c1, if_neg b, e2, e, Option.bind_some, if_neg z, show ¬ nI 2 = 1 by decide, show nI 2 = 2 by decide, if_false, if_true]
      simp only [show ¬ (2 : Int32) = 1 by decide, if_false]
  · refine go 13 13 rfl (by decide) rfl (fun r e z => ?_) (fun r e z => ?_)
    · simp only [fn_X9_fits, fn_X9_fits_0, fn_X9_is, fn_X9_is_0, e1, e, Option.bind_some, if_neg z, show ¬ nI 3 = 1 by decide, show ¬ (2 : Int32) = 0 by decide, show ¬ nI 3 = 2 by decide, show nI 3 = 3 by decide, if_false, if_true, if_neg I1ne]
      simp only [show ¬ (3 : Int32) = 1 by decide, show ¬ (3 : Int32) = 2 by decide, if_false, Option.bind_some, if_neg I1ne, if_neg z]
    · simp only [fn_X11_isOfKind, fn_X11_isOfKind_0, c1, if_neg b, e2, e, Option.bind_some, if_neg z, show ¬ nI 3 = 1 by decide, show ¬ nI 3 = 2 by decide, show nI 3 = 3 by decide, if_false, if_true]
      simp only [show ¬ (3 : Int32) = 1 by decide, show ¬ (3 : Int32) = 2 by decide, if_false]
  · refine go 99 99 rfl (by decide) rfl (fun r e z => ?_) (fun r e z => ?_)
    · simp only [fn_X9_fits, fn_X9_fits_0, fn_X9_is, fn_X9_is_0, e1, e, Option.bind_some, if_neg z, show ¬ nI 4 = 1 by decide, show ¬ (2 : Int32) = 0 by decide, show ¬ nI 4 = 2 by decide, show ¬ nI 4 = 3 by decide, if_false, if_true]
    · simp only [fn_X11_isOfKind, fn_X11_isOfKind_0, c1, if_neg b, e2, e, Option.bind_some, if_neg z, show ¬ nI 4 = 1 by decide, show ¬ nI 4 = 2 by decide, show ¬ nI 4 = 3 by decide, if_false]
theorem Bd_of {k n : Nat} (hk : k ≤ 4) (h : n ≤ kbd k) : Bd (nI k) (nI n) := by
  refine ⟨n, rfl, ?_, fun e => ?_, fun e => ?_⟩
  · have : kbd k ≤ 99 := by unfold kbd; split <;> (try split) <;> omega
    omega
  · have : k = 1 := (nI_eq (a := k) (b := 1) (by omega) (by decide)).mp e
    subst this; exact h
  · have : k = 2 ∨ k = 3 := e.imp (fun e => (nI_eq (a := k) (b := 2) (by omega) (by decide)).mp e) (fun e => (nI_eq (a := k) (b := 3) (by omega) (by decide)).mp e)
    rcases this with rfl | rfl <;> exact h
theorem Bd0 {kd : Int32} : Bd kd 0 := ⟨0, rfl, by decide, fun _ => by decide, fun _ => by decide⟩
/-- a number of a WAY set on both sides -/
theorem Rel.setw {M N : sd_Mem} (hR : Rel M N) {w j k n : Nat} (hw : w < 8) (hj : j < 30) (hk : k ≤ 4) (e : M.1 (23 + 1 + 2 * w) 1 = nI k) (hn : n ≤ kbd k) : Rel (sd_setI M (23 + 1 + 2 * w + 1) j (nI n)) (sd_setI N 116 (30 * w + j) (nI n)) := by
  refine hR.one 3 (keepM.I (by rw [(rgM_way hw).2]; decide) keepM.rf) (keepN.I (by rw [rgN_o (by decide)]; decide) keepN.rf) fun r hr => ?_
  obtain ⟨p1, p2⟩ := hR 3 r hr
  rw [gIa (by omega), gIa (by decide)]
  refine ⟨p1, fun i hi => ?_⟩
  rw [gI, gI]
  by_cases q : r = w ∧ i = j
  · obtain ⟨rfl, rfl⟩ := q
    rw [if_pos ⟨rfl, rfl⟩, if_pos ⟨rfl, rfl⟩, e]
    exact ⟨rfl, Bd_of hk hn⟩
  · rw [if_neg (by omega), if_neg (by omega)]
    exact p2 i hi
theorem st_13 : sd_St13 Rel := by
  intro M N hR x1 x2
  rcases six x1 8 (by decide) with hx | ⟨r, hr, rfl⟩
  · exact ⟨(-1, M), (-1, N), by simp [fn_X10_way, fn_X10_way_0, isWay_out hx], by simp [fn_X11_way, fn_X11_way_0, isWayN_out hx], rfl, hR⟩
  have i1 := isWay_in (vp_in_nI hr (by decide))
  have i2 := isWayN_in (vp_in_nI hr (by decide))
  rcases cs (x := x2) (a := 0) (b := 4) 0 4 (by decide) (by decide) rfl rfl with ⟨e1, e2⟩ | ⟨⟨e1, e2⟩, k, -, hk, rfl⟩
  · exact ⟨(-1, M), (-1, N), by simp [fn_X10_way, fn_X10_way_0, i1, e1], by simp [fn_X11_way, fn_X11_way_0, i2, e2], rfl, hR⟩
  have b := bd2 hr (by decide)
  have c1 := clm (show r < 2 ^ 31 by omega)
  have hln : sd_ln (23 + 1 + 2 * r + 1) = 30 := (show ∀ r, r < 8 → sd_ln (23 + 1 + 2 * r + 1) = 30 by decide) r hr
  obtain ⟨M', m1, m2, m3, m4⟩ := fill_eq (sd_setI M (23 + 1 + 2 * r) 1 (nI k)) 0 hln (by decide)
  obtain ⟨N', n1, n2, n3, n4⟩ := Nway_loop hr sd_FU 0 (sd_setI N 115 r (nI k)) (by decide) (by decide)
  refine ⟨(1, M'), (1, N'), ?_, ?_, rfl, ?_⟩
  · simp only [fn_X10_way, fn_X10_way_0, i1, e1, Option.bind_some, if_neg I1ne, c1, if_neg b, fn_X9_make, fn_X9_make_0, m1]
  · simp only [fn_X11_way, fn_X11_way_0, i2, e2, Option.bind_some, if_neg I1ne, c1, if_neg b]
    exact n1
  · have kM : keepM [3, 9] M M' := fun id j q => by
      have e1 : id ≠ 23 + 1 + 2 * r := fun e => q (by rw [e, (rgM_way hr).1]; decide)
      have e2 : id ≠ 23 + 1 + 2 * r + 1 := fun e => q (by rw [e, (rgM_way hr).2]; decide)
      rw [m3 id e2, m4, gIa e1]
      exact ⟨rfl, rfl⟩
    have kN : keepN [3, 9] N N' := fun id j q => by
      have e1 : id ≠ 115 := fun e => q (by rw [e, rgN_o (by decide)]; decide)
      have e2 : id ≠ 116 := fun e => q (by rw [e, rgN_o (by decide)]; decide)
      rw [n3 id e2, n4, gIa e1]
      exact ⟨rfl, rfl⟩
    refine hR.one 3 kM kN fun r' hr' => ?_
    obtain ⟨p1, p2⟩ := hR 3 r' hr'
    rw [n3 115 (by decide), m3 (23 + 1 + 2 * r') (by omega)]
    by_cases hq : r' = r
    · subst hq
      rw [gIs, gIs]
      refine ⟨Or.inr ⟨k, hk, rfl, rfl⟩, fun i hi => ?_⟩
      rw [m2 i, if_pos hi, n2, if_pos (by omega)]
      exact ⟨rfl, Bd0⟩
    · rw [gIa (by omega), gIk hq, m3 _ (by omega)]
      refine ⟨p1, fun i hi => ?_⟩
      rw [n2, if_neg (by omega), gIa (a := 115) (by decide), gIa (by omega)]
      exact p2 i hi
theorem st_17 : sd_St17 Rel := by
  intro M N hR x1
  rcases six x1 8 (by decide) with hx | ⟨r, hr, rfl⟩
  · exact ⟨(-1, M), (-1, N), by simp [fn_X10_kind, fn_X10_kind_0, isWay_out hx], by simp [fn_X11_kind, fn_X11_kind_0, aWay_out hx], rfl, hR⟩
  have i1 := isWay_in (vp_in_nI hr (by decide))
  have b := bd2 hr (by decide)
  have c1 := clm (show r < 2 ^ 31 by omega)
  obtain ⟨hs, hc⟩ := hR 3 r hr
  rcases hs with ⟨s1, s2⟩ | ⟨k, hk, s1, s2⟩
  · refine ⟨(-3, tlM M 1), (-3, tlN N 1), ?_, ?_, rfl, hR.tell (by decide)⟩
    · simp only [fn_X10_kind, fn_X10_kind_0, i1, Option.bind_some, if_neg I1ne, c1, if_neg b, wmiss1 s1, tl1]
    · simp only [fn_X11_kind, fn_X11_kind_0, aWay_miss hr s2, Option.bind_some, if_neg n3]
  refine ⟨(nI k, M), (nI k, N), ?_, ?_, rfl, hR⟩
  · simp only [fn_X10_kind, fn_X10_kind_0, i1, Option.bind_some, if_neg I1ne, c1, if_neg b, wmiss0 (show k < 2 ^ 31 by omega) s1, if_true, fn_X9_ownKind, fn_X9_ownKind_0, s1]
  · simp only [fn_X11_kind, fn_X11_kind_0, aWay_ok hr (show k < 2 ^ 31 by omega) s2, Option.bind_some, if_pos z0, c1, if_neg b, s2]
theorem st_16 : sd_St16 Rel := by
  intro M N hR x1 x2 x3
  rcases six x1 8 (by decide) with hx | ⟨r, hr, rfl⟩
  · refine ⟨(-1, M), (-1, N), by simp [fn_X10_at, fn_X10_at_0, isWay_out hx], ?_, rfl, hR⟩
    rcases plc x2 x3 with ⟨-, e2⟩ | ⟨⟨-, e2⟩, -⟩ <;> simp [fn_X11_at, fn_X11_at_0, e2, aWay_out hx]
  have i1 := isWay_in (vp_in_nI hr (by decide))
  have b := bd2 hr (by decide)
  have c1 := clm (show r < 2 ^ 31 by omega)
  rcases plc x2 x3 with ⟨e1, e2⟩ | ⟨⟨e1, e2⟩, s, d, hs3, hd1, hd2, rfl, rfl⟩
  · exact ⟨(-1, M), (-1, N), by simp [fn_X10_at, fn_X10_at_0, i1, e1], by simp [fn_X11_at, fn_X11_at_0, e2], rfl, hR⟩
  obtain ⟨hs, hc⟩ := hR 3 r hr
  rcases hs with ⟨s1, s2⟩ | ⟨k, hk, s1, s2⟩
  · refine ⟨(-3, tlM M 1), (-3, tlN N 1), ?_, ?_, rfl, hR.tell (by decide)⟩
    · simp only [fn_X10_at, fn_X10_at_0, i1, e1, Option.bind_some, if_neg I1ne, c1, if_neg b, wmiss1 s1, tl1]
    · simp only [fn_X11_at, fn_X11_at_0, e2, aWay_miss hr s2, Option.bind_some, if_neg n3, if_neg I1ne]
  refine ⟨(M.1 (23 + 1 + 2 * r + 1) (10 * s + d - 1), M), (N.1 116 (30 * r + 10 * s + d - 1), N), ?_, ?_, ?_, hR⟩
  · simp only [fn_X10_at, fn_X10_at_0, i1, e1, Option.bind_some, if_neg I1ne, c1, if_neg b, wmiss0 (show k < 2 ^ 31 by omega) s1, if_true, numM hs3 hd1 hd2 e1]
  · simp only [fn_X11_at, fn_X11_at_0, e2, aWay_ok hr (show k < 2 ^ 31 by omega) s2, Option.bind_some, if_pos z0, if_neg I1ne, numN hr hs3 hd1 hd2]
  · show M.1 (23 + 1 + 2 * r + 1) (10 * s + d - 1) = N.1 116 (30 * r + 10 * s + d - 1)
    rw [(hc (10 * s + d - 1) (by omega)).1, show 30 * r + (10 * s + d - 1) = 30 * r + 10 * s + d - 1 by omega]
theorem st_14 : sd_St14 Rel := by
  intro M N hR x1 x2 x3 x4
  rcases six x1 8 (by decide) with hx | ⟨r, hr, rfl⟩
  · refine ⟨(-1, M), (-1, N), by simp [fn_X10_set, fn_X10_set_0, isWay_out hx], ?_, rfl, hR⟩
    rcases plc x2 x3 with ⟨-, e2⟩ | ⟨⟨-, e2⟩, -⟩ <;> simp [fn_X11_set, fn_X11_set_0, e2, aWay_out hx]
  have i1 := isWay_in (vp_in_nI hr (by decide))
  have b := bd2 hr (by decide)
  have c1 := clm (show r < 2 ^ 31 by omega)
  rcases plc x2 x3 with ⟨e1, e2⟩ | ⟨⟨e1, e2⟩, s, d, hs3, hd1, hd2, rfl, rfl⟩
  · exact ⟨(-1, M), (-1, N), by simp [fn_X10_set, fn_X10_set_0, i1, e1], by simp [fn_X11_set, fn_X11_set_0, e2], rfl, hR⟩
  obtain ⟨hs, hc⟩ := hR 3 r hr
  rcases hs with ⟨s1, s2⟩ | ⟨k, hk, s1, s2⟩
  · refine ⟨(-3, tlM M 1), (-3, tlN N 1), ?_, ?_, rfl, hR.tell (by decide)⟩
    · simp only [fn_X10_set, fn_X10_set_0, i1, e1, Option.bind_some, if_neg I1ne, c1, if_neg b, wmiss1 s1, tl1]
    · simp only [fn_X11_set, fn_X11_set_0, e2, aWay_miss hr s2, Option.bind_some, if_neg n3, if_neg I1ne]
  have j1 := wmiss0 (show k < 2 ^ 31 by omega) s1
  have j2 := aWay_ok hr (show k < 2 ^ 31 by omega) s2
  rcases fit (v := x4) hr hk s1 s2 with ⟨f1, f2⟩ | ⟨⟨f1, f2⟩, n, rfl, hn⟩
  · refine ⟨(-3, tlM M 3), (-3, tlN N 3), ?_, ?_, rfl, hR.tell (by decide)⟩
    · simp only [fn_X10_set, fn_X10_set_0, i1, e1, Option.bind_some, if_neg I1ne, c1, if_neg b, j1, if_true, f1, tl3]
    · simp only [fn_X11_set, fn_X11_set_0, e2, j2, Option.bind_some, if_pos z0, if_neg I1ne, f2, if_true, me3]
  have ej : 30 * r + 10 * s + d - 1 = 30 * r + (10 * s + d - 1) := by omega
  refine ⟨(M.1 (23 + 1 + 2 * r + 1) (10 * s + d - 1), sd_setI M (23 + 1 + 2 * r + 1) (10 * s + d - 1) (nI n)), (N.1 116 (30 * r + 10 * s + d - 1), sd_setI N 116 (30 * r + (10 * s + d - 1)) (nI n)), ?_, ?_, ?_, hR.setw hr (by omega) hk s1 hn⟩
  · simp only [fn_X10_set, fn_X10_set_0, i1, e1, Option.bind_some, if_neg I1ne, c1, if_neg b, j1, if_true, f1, wswap hs3 hd1 hd2 e1]
  · simp only [fn_X11_set, fn_X11_set_0, e2, j2, Option.bind_some, if_pos z0, if_neg I1ne, f2, numN hr hs3 hd1 hd2, ixw hd1, clm (show 30 * r + 10 * s + d - 1 < 2 ^ 31 by omega), if_neg (bd2 (show 30 * r + 10 * s + d - 1 < 240 by omega) (by decide)), ← ej]
  · show M.1 (23 + 1 + 2 * r + 1) (10 * s + d - 1) = N.1 116 (30 * r + 10 * s + d - 1)
    rw [(hc (10 * s + d - 1) (by omega)).1, ej]
