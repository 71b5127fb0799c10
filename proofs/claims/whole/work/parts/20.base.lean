/-! THE PURE LAYER: the relation between the class's memory M and the reference's N -/
def rgM (id : Nat) : Nat := if id = 0 then 0 else if id < 14 then 1 else if id < 23 then 2 else if id < 40 then 3 else if id < 49 then 4 else if id = 58 then 5 else if 91 ≤ id ∧ id ≤ 93 then 6 else if id = 96 then 7 else if id = 97 ∨ id = 98 then 8 else 9
def rgN (id k : Nat) : Nat := if id = 100 then (if k = 2 then 0 else if k = 3 ∨ k = 4 then 7 else if k = 0 then 8 else if 14 ≤ k ∧ k ≤ 16 then 5 else 9) else if id = 101 then 8 else if id = 102 ∨ id = 103 then 1 else if id = 105 ∨ id = 106 then 2 else if 107 ≤ id ∧ id ≤ 110 then 4 else if id = 115 ∨ id = 116 then 3 else if 119 ≤ id ∧ id ≤ 121 then 6 else 9
def keepM (S : List Nat) (M M' : sd_Mem) : Prop := ∀ id k : Nat, rgM id ∉ S → M'.1 id k = M.1 id k ∧ M'.2 id k = M.2 id k
def keepN (S : List Nat) (N N' : sd_Mem) : Prop := ∀ id k : Nat, rgN id k ∉ S → N'.1 id k = N.1 id k ∧ N'.2 id k = N.2 id k
theorem keepM.rf {S : List Nat} {M : sd_Mem} : keepM S M M := fun _ _ _ => ⟨rfl, rfl⟩
theorem keepN.rf {S : List Nat} {N : sd_Mem} : keepN S N N := fun _ _ _ => ⟨rfl, rfl⟩
theorem keepM.tr {S : List Nat} {A B C : sd_Mem} (h : keepM S A B) (h2 : keepM S B C) : keepM S A C := fun id k q => ⟨(h2 id k q).1.trans (h id k q).1, (h2 id k q).2.trans (h id k q).2⟩
theorem keepN.tr {S : List Nat} {A B C : sd_Mem} (h : keepN S A B) (h2 : keepN S B C) : keepN S A C := fun id k q => ⟨(h2 id k q).1.trans (h id k q).1, (h2 id k q).2.trans (h id k q).2⟩
theorem keepM.mono {S T : List Nat} {A B : sd_Mem} (h : keepM S A B) (hs : ∀ i, i ∈ S → i ∈ T) : keepM T A B := fun id k q => h id k (fun z => q (hs _ z))
theorem keepN.mono {S T : List Nat} {A B : sd_Mem} (h : keepN S A B) (hs : ∀ i, i ∈ S → i ∈ T) : keepN T A B := fun id k q => h id k (fun z => q (hs _ z))
theorem gI (M : sd_Mem) (a k : Nat) (v : Int32) (b j : Nat) : (sd_setI M a k v).1 b j = if b = a ∧ j = k then v else M.1 b j := by
  unfold sd_setI
  by_cases h : b = a
  · simp only [h, if_true, true_and]; rfl
  · simp only [h, if_false, false_and]
theorem gI2 (M : sd_Mem) (a k : Nat) (v : Int32) : (sd_setI M a k v).2 = M.2 := rfl
theorem gL (M : sd_Mem) (a k : Nat) (v : Int64) (b j : Nat) : (sd_setL M a k v).2 b j = if b = a ∧ j = k then v else M.2 b j := by
  unfold sd_setL
  by_cases h : b = a
  · simp only [h, if_true, true_and]; rfl
  · simp only [h, if_false, false_and]
theorem gL1 (M : sd_Mem) (a k : Nat) (v : Int64) : (sd_setL M a k v).1 = M.1 := rfl
theorem gA (M : sd_Mem) (a : Nat) (f : Nat → Int32) (b j : Nat) : (sd_setA M a f).1 b j = if b = a then f j else M.1 b j := by
  unfold sd_setA
  by_cases h : b = a
  · simp only [h, if_true]
  · simp only [h, if_false]
theorem gIs (M : sd_Mem) (a k : Nat) (v : Int32) : (sd_setI M a k v).1 a k = v := by rw [gI, if_pos ⟨rfl, rfl⟩]
theorem gIn {M : sd_Mem} {a k : Nat} {v : Int32} {b j : Nat} (h : ¬ (b = a ∧ j = k)) : (sd_setI M a k v).1 b j = M.1 b j := by rw [gI, if_neg h]
theorem gIa {M : sd_Mem} {a k : Nat} {v : Int32} {b j : Nat} (h : b ≠ a) : (sd_setI M a k v).1 b j = M.1 b j := gIn fun q => h q.1
theorem gIk {M : sd_Mem} {a k : Nat} {v : Int32} {b j : Nat} (h : j ≠ k) : (sd_setI M a k v).1 b j = M.1 b j := gIn fun q => h q.2
theorem keepM.I {S : List Nat} {A M : sd_Mem} {a k : Nat} {v : Int32} (hS : rgM a ∈ S) (h : keepM S A M) : keepM S A (sd_setI M a k v) := fun id j q => ⟨by rw [gIa (fun e => q (by rw [e]; exact hS))]; exact (h id j q).1, (h id j q).2⟩
theorem keepM.L {S : List Nat} {A M : sd_Mem} {a k : Nat} {v : Int64} (hS : rgM a ∈ S) (h : keepM S A M) : keepM S A (sd_setL M a k v) := fun id j q => ⟨(h id j q).1, by rw [gL, if_neg (fun e => q (by rw [e.1]; exact hS))]; exact (h id j q).2⟩
theorem keepM.A {S : List Nat} {A M : sd_Mem} {a : Nat} {f : Nat → Int32} (hS : rgM a ∈ S) (h : keepM S A M) : keepM S A (sd_setA M a f) := fun id j q => ⟨by rw [gA, if_neg (fun e => q (by rw [e]; exact hS))]; exact (h id j q).1, (h id j q).2⟩
theorem keepN.I {S : List Nat} {A M : sd_Mem} {a k : Nat} {v : Int32} (hS : rgN a k ∈ S) (h : keepN S A M) : keepN S A (sd_setI M a k v) := fun id j q => ⟨by rw [gIn (fun e => q (by rw [e.1, e.2]; exact hS))]; exact (h id j q).1, (h id j q).2⟩
theorem keepN.L {S : List Nat} {A M : sd_Mem} {a k : Nat} {v : Int64} (hS : rgN a k ∈ S) (h : keepN S A M) : keepN S A (sd_setL M a k v) := fun id j q => ⟨(h id j q).1, by rw [gL, if_neg (fun e => q (by rw [e.1, e.2]; exact hS))]; exact (h id j q).2⟩
def Sz (n : Nat) (a b : Int32) : Prop := (a = -1 ∧ b = -9) ∨ ∃ k : Nat, k ≤ n ∧ a = nI k ∧ b = nI k
def Bd (kd v : Int32) : Prop := ∃ n : Nat, v = nI n ∧ n ≤ 99 ∧ (kd = 1 → n ≤ 12) ∧ (kd = 2 ∨ kd = 3 → n ≤ 13)
def sum1 (f : Nat → Nat) : Nat → Nat
  | 0 => 0
  | n + 1 => sum1 f n + f n
/-- the quarrel: n SORTS of a side, CHANCES c, costs d, v, HORIZON h, LAST l, w -/
def Qr (n : Nat → Nat) (c d : Nat → Nat → Nat) (v h l w : Nat) (M N : sd_Mem) : Prop :=
  (∀ z, z < 2 → (1 ≤ n z ∧ n z ≤ 3) ∧ M.1 41 z = nI (n z) ∧ N.1 107 z = nI (n z) ∧ M.1 42 z = nI (sum1 (c z) (n z)) ∧ ∀ s, s < n z → (1 ≤ c z s ∧ c z s ≤ 9) ∧ d z s ≤ 99 ∧ M.1 (40 + 3 + 1 + z) s = nI (c z s) ∧ N.1 108 (3 * z + s) = nI (c z s) ∧ M.1 (40 + 6 + 1 + z) s = nI (d z s) ∧ N.1 109 (3 * z + s) = nI (d z s)) ∧
  (v ≤ 99 ∧ M.1 40 4 = nI v ∧ N.1 110 0 = nI v) ∧ ((1 ≤ h ∧ h ≤ 40) ∧ M.1 40 5 = nI h ∧ N.1 110 1 = nI h) ∧ ((1 ≤ l ∧ l ≤ 10 ∧ l ≤ h) ∧ M.1 40 6 = nI l ∧ N.1 110 2 = nI l) ∧ (w ≤ 12 ∧ M.1 40 7 = nI w ∧ N.1 110 3 = nI w)
def Lw (a t w : Nat) (M N : sd_Mem) : Prop := ((1 ≤ a ∧ a ≤ 10) ∧ M.1 58 0 = nI a ∧ N.1 100 14 = nI a) ∧ (t ≤ 12 ∧ M.1 58 1 = nI t ∧ N.1 100 15 = nI t) ∧ (w ≤ 12 ∧ M.1 58 2 = nI w ∧ N.1 100 16 = nI w)
def Mn (m l t : Nat → Nat) (M N : sd_Mem) : Prop := ∀ k, k < 6 → (m k ≤ 99 ∧ M.1 91 k = nI (m k) ∧ N.1 119 k = nI (m k)) ∧ (l k ≤ 99 ∧ M.1 92 k = nI (l k) ∧ N.1 120 k = nI (l k)) ∧ (t k ≤ 100 ∧ M.1 93 k = nI (t k) ∧ N.1 121 k = nI (t k))
def Pt (i : Nat) (M N : sd_Mem) : Prop := match i with
  | 0 => M.1 0 13 = N.1 100 2
  | 1 => ∀ r, r < 6 → Sz 40 (M.1 (1 + 1 + 2 * r) 1) (N.1 102 r) ∧ ∀ k, k < 40 → M.1 (1 + 1 + 2 * r + 1) k = N.1 103 (40 * r + k)
  | 2 => ∀ r, r < 4 → Sz 60 (M.1 (14 + 1 + 2 * r) 1) (N.1 105 r) ∧ ∀ k, k < 60 → M.1 (14 + 1 + 2 * r + 1) k = N.1 106 (60 * r + k)
  | 3 => ∀ r, r < 8 → Sz 4 (M.1 (23 + 1 + 2 * r) 1) (N.1 115 r) ∧ ∀ k, k < 30 → M.1 (23 + 1 + 2 * r + 1) k = N.1 116 (30 * r + k) ∧ Bd (M.1 (23 + 1 + 2 * r) 1) (M.1 (23 + 1 + 2 * r + 1) k)
  | 4 => ∃ (n : Nat → Nat) (c d : Nat → Nat → Nat) (v h l w : Nat), Qr n c d v h l w M N
  | 5 => ∃ a t w : Nat, Lw a t w M N
  | 6 => ∃ m l t : Nat → Nat, Mn m l t M N
  | 7 => M.2 96 0 = N.2 100 3 ∧ M.2 96 1 = N.2 100 4
  | 8 => M.1 97 1 = N.1 100 0 ∧ ∀ f, f < 6 → M.1 98 f = N.1 101 f
  | _ => True
def Rel (M N : sd_Mem) : Prop := ∀ i, Pt i M N
theorem rgM_row {r : Nat} (h : r < 6) : rgM (1 + 1 + 2 * r) = 1 ∧ rgM (1 + 1 + 2 * r + 1) = 1 := (show ∀ r, r < 6 → rgM (1 + 1 + 2 * r) = 1 ∧ rgM (1 + 1 + 2 * r + 1) = 1 by decide) r h
theorem rgM_txt {r : Nat} (h : r < 4) : rgM (14 + 1 + 2 * r) = 2 ∧ rgM (14 + 1 + 2 * r + 1) = 2 := (show ∀ r, r < 4 → rgM (14 + 1 + 2 * r) = 2 ∧ rgM (14 + 1 + 2 * r + 1) = 2 by decide) r h
theorem rgM_way {r : Nat} (h : r < 8) : rgM (23 + 1 + 2 * r) = 3 ∧ rgM (23 + 1 + 2 * r + 1) = 3 := (show ∀ r, r < 8 → rgM (23 + 1 + 2 * r) = 3 ∧ rgM (23 + 1 + 2 * r + 1) = 3 by decide) r h
theorem rgN_o {id k : Nat} (h : id ≠ 100) : rgN id k = rgN id 0 := by unfold rgN; rw [if_neg h, if_neg h]
theorem keepM.e {S : List Nat} {A B : sd_Mem} (h : keepM S A B) (id k i : Nat) (hi : rgM id = i) (hS : i ∉ S) : B.1 id k = A.1 id k := (h id k (by rw [hi]; exact hS)).1
theorem keepN.e {S : List Nat} {A B : sd_Mem} (h : keepN S A B) (id k i : Nat) (hi : rgN id k = i) (hS : i ∉ S) : B.1 id k = A.1 id k := (h id k (by rw [hi]; exact hS)).1
theorem keepM.f {S : List Nat} {A B : sd_Mem} (h : keepM S A B) (id k i : Nat) (hi : rgM id = i) (hS : i ∉ S) : B.2 id k = A.2 id k := (h id k (by rw [hi]; exact hS)).2
theorem keepN.f {S : List Nat} {A B : sd_Mem} (h : keepN S A B) (id k i : Nat) (hi : rgN id k = i) (hS : i ∉ S) : B.2 id k = A.2 id k := (h id k (by rw [hi]; exact hS)).2
theorem Qr.keep {S : List Nat} {M M' N N' : sd_Mem} (hM : keepM S M M') (hN : keepN S N N') (h4 : 4 ∉ S) {n : Nat → Nat} {c d : Nat → Nat → Nat} {v h l w : Nat} (q : Qr n c d v h l w M N) : Qr n c d v h l w M' N' := by
  obtain ⟨q1, ⟨a1, a2, a3⟩, ⟨b1, b2, b3⟩, ⟨c1, c2, c3⟩, ⟨d1, d2, d3⟩⟩ := q
  have kM : ∀ id k, rgM id = 4 → M'.1 id k = M.1 id k := fun id k e => hM.e id k 4 e h4
  have kN : ∀ id k, rgN id k = 4 → N'.1 id k = N.1 id k := fun id k e => hN.e id k 4 e h4
  refine ⟨fun z hz => ?_, ⟨a1, by rw [kM 40 4 rfl]; exact a2, by rw [kN 110 0 rfl]; exact a3⟩, ⟨b1, by rw [kM 40 5 rfl]; exact b2, by rw [kN 110 1 rfl]; exact b3⟩, ⟨c1, by rw [kM 40 6 rfl]; exact c2, by rw [kN 110 2 rfl]; exact c3⟩, ⟨d1, by rw [kM 40 7 rfl]; exact d2, by rw [kN 110 3 rfl]; exact d3⟩⟩
  obtain ⟨e1, e2, e3, e4, e5⟩ := q1 z hz
  refine ⟨e1, by rw [kM 41 z rfl]; exact e2, by rw [kN 107 z (rgN_o (by decide))]; exact e3, by rw [kM 42 z rfl]; exact e4, fun s hs => ?_⟩
  obtain ⟨f1, f2, f3, f4, f5, f6⟩ := e5 s hs
  have r1 : rgM (40 + 3 + 1 + z) = 4 := (show ∀ z, z < 2 → rgM (40 + 3 + 1 + z) = 4 by decide) z hz
  have r2 : rgM (40 + 6 + 1 + z) = 4 := (show ∀ z, z < 2 → rgM (40 + 6 + 1 + z) = 4 by decide) z hz
  exact ⟨f1, f2, by rw [kM _ s r1]; exact f3, by rw [kN 108 _ (rgN_o (by decide))]; exact f4, by rw [kM _ s r2]; exact f5, by rw [kN 109 _ (rgN_o (by decide))]; exact f6⟩
theorem Pt.keep {S : List Nat} {M M' N N' : sd_Mem} (hM : keepM S M M') (hN : keepN S N N') {i : Nat} (hi : i ∉ S) (h : Pt i M N) : Pt i M' N' := by
  match i, hi, h with
  | 0, hi, h => show _ = _; rw [hM.e 0 13 0 rfl hi, hN.e 100 2 0 rfl hi]; exact h
  | 1, hi, h =>
    intro r hr
    obtain ⟨h1, h2⟩ := h r hr
    rw [hM.e _ 1 1 (rgM_row hr).1 hi, hN.e 102 r 1 (rgN_o (by decide)) hi]
    refine ⟨h1, fun k hk => ?_⟩
    rw [hM.e _ k 1 (rgM_row hr).2 hi, hN.e 103 _ 1 (rgN_o (by decide)) hi]
    exact h2 k hk
  | 2, hi, h =>
    intro r hr
    obtain ⟨h1, h2⟩ := h r hr
    rw [hM.e _ 1 2 (rgM_txt hr).1 hi, hN.e 105 r 2 (rgN_o (by decide)) hi]
    refine ⟨h1, fun k hk => ?_⟩
    rw [hM.e _ k 2 (rgM_txt hr).2 hi, hN.e 106 _ 2 (rgN_o (by decide)) hi]
    exact h2 k hk
  | 3, hi, h =>
    intro r hr
    obtain ⟨h1, h2⟩ := h r hr
    rw [hM.e _ 1 3 (rgM_way hr).1 hi, hN.e 115 r 3 (rgN_o (by decide)) hi]
    refine ⟨h1, fun k hk => ?_⟩
    rw [hM.e _ k 3 (rgM_way hr).2 hi, hN.e 116 _ 3 (rgN_o (by decide)) hi]
    exact h2 k hk
  | 4, hi, h => obtain ⟨n, c, d, v, hh, l, w, q⟩ := h; exact ⟨n, c, d, v, hh, l, w, q.keep hM hN hi⟩
  | 5, hi, h =>
    obtain ⟨a, t, w, h1, h2, h3⟩ := h
    refine ⟨a, t, w, ?_⟩
    unfold Lw
    rw [hM.e 58 0 5 rfl hi, hM.e 58 1 5 rfl hi, hM.e 58 2 5 rfl hi, hN.e 100 14 5 rfl hi, hN.e 100 15 5 rfl hi, hN.e 100 16 5 rfl hi]
    exact ⟨h1, h2, h3⟩
  | 6, hi, h =>
    obtain ⟨m, l, t, h⟩ := h
    refine ⟨m, l, t, fun k hk => ?_⟩
    rw [hM.e 91 k 6 rfl hi, hM.e 92 k 6 rfl hi, hM.e 93 k 6 rfl hi, hN.e 119 k 6 (rgN_o (by decide)) hi, hN.e 120 k 6 (rgN_o (by decide)) hi, hN.e 121 k 6 (rgN_o (by decide)) hi]
    exact h k hk
  | 7, hi, h =>
    show _ ∧ _
    rw [hM.f 96 0 7 rfl hi, hM.f 96 1 7 rfl hi, hN.f 100 3 7 rfl hi, hN.f 100 4 7 rfl hi]
    exact h
  | 8, hi, h =>
    show _ ∧ _
    rw [hM.e 97 1 8 rfl hi, hN.e 100 0 8 rfl hi]
    refine ⟨h.1, fun f hf => ?_⟩
    rw [hM.e 98 f 8 rfl hi, hN.e 101 f 8 (rgN_o (by decide)) hi]
    exact h.2 f hf
  | _ + 9, _, _ => trivial
theorem Rel.upd {S : List Nat} {M M' N N' : sd_Mem} (hR : Rel M N) (hM : keepM S M M') (hN : keepN S N N') (h : ∀ i, i ∈ S → Pt i M' N') : Rel M' N' := fun i => by
  by_cases hi : i ∈ S
  · exact h i hi
  · exact Pt.keep hM hN hi (hR i)
theorem Rel.sc {M M' N N' : sd_Mem} (hR : Rel M N) (hM : keepM [9] M M') (hN : keepN [9] N N') : Rel M' N' := hR.upd hM hN (fun i hi => by
  rw [List.mem_singleton] at hi
  subst hi
  trivial)
theorem Rel.one {M M' N N' : sd_Mem} (j : Nat) (hR : Rel M N) (hM : keepM [j, 9] M M') (hN : keepN [j, 9] N N') (h : Pt j M' N') : Rel M' N' := hR.upd hM hN (fun i hi => by
  rcases List.mem_cons.mp hi with rfl | hi
  · exact h
  · rw [List.mem_singleton] at hi
    subst hi
    trivial)
/-! words of the two sides -/
theorem wi_in {x lo hi : Int32} (h1 : ¬ x < lo) (h2 : ¬ hi < x) : fn_X10_within x lo hi = some 1 := by
  unfold fn_X10_within fn_X10_within_0
  rw [if_neg h1, if_neg h2]
theorem wi_out {x lo hi : Int32} (h : x < lo ∨ hi < x) : fn_X10_within x lo hi = some 0 := by
  unfold fn_X10_within fn_X10_within_0
  by_cases h1 : x < lo
  · rw [if_pos h1]
  · rw [if_neg h1, if_pos (h.resolve_left h1)]
theorem in_in {x lo hi : Int32} (h1 : ¬ x < lo) (h2 : ¬ hi < x) : fn_X11_in x lo hi = some 1 := by
  unfold fn_X11_in fn_X11_in_0
  rw [if_neg h1, if_neg h2]
theorem in_out {x lo hi : Int32} (h : x < lo ∨ hi < x) : fn_X11_in x lo hi = some 0 := by
  unfold fn_X11_in fn_X11_in_0
  by_cases h1 : x < lo
  · rw [if_pos h1]
  · rw [if_neg h1, if_pos (h.resolve_left h1)]
theorem I1ne : ¬ (1 : Int32) = 0 := by decide
theorem I11 : ¬ ((1 : Int32) &&& 1 ≠ 1) := by decide
theorem I00 : ¬ ((0 : Int32) &&& 1 ≠ 0) := by decide
/-- an index, in or out, by its bounds -/
theorem vi {x : Int32} {n : Nat} (hn : n < 2 ^ 31) : vp_in x (n + 1) ↔ ¬ x < 0 ∧ ¬ nI n < x := by
  rw [vp_in_iff, Int32.not_lt, Int32.not_lt, Int32.le_iff_toInt_le, Int32.le_iff_toInt_le, nI_toInt hn, Int32.toInt_zero]
  omega
theorem vo {x : Int32} {n : Nat} (hn : n < 2 ^ 31) (h : ¬ vp_in x (n + 1)) : x < 0 ∨ nI n < x := by
  rw [vi hn] at h
  by_cases h1 : x < 0
  · exact Or.inl h1
  · exact Or.inr (Decidable.of_not_not fun q => h ⟨h1, q⟩)
theorem isRow_in {x : Int32} (h : vp_in x 6) : fn_X10_isRow x = some 1 := by
  obtain ⟨h1, h2⟩ := (vi (n := 5) (by decide)).mp h
  unfold fn_X10_isRow fn_X10_isRow_0
  rw [wi_in h1 (show ¬ (5 : Int32) < x from h2), Option.bind_some, if_neg I11]
theorem isRow_out {x : Int32} (h : ¬ vp_in x 6) : fn_X10_isRow x = some 0 := by
  unfold fn_X10_isRow fn_X10_isRow_0
  rw [wi_out (show x < 0 ∨ (5 : Int32) < x from vo (n := 5) (by decide) h), Option.bind_some, if_neg I00]
theorem isText_in {x : Int32} (h : vp_in x 4) : fn_X10_isText x = some 1 := by
  obtain ⟨h1, h2⟩ := (vi (n := 3) (by decide)).mp h
  unfold fn_X10_isText fn_X10_isText_0
  rw [wi_in h1 (show ¬ (3 : Int32) < x from h2), Option.bind_some, if_neg I11]
theorem isText_out {x : Int32} (h : ¬ vp_in x 4) : fn_X10_isText x = some 0 := by
  unfold fn_X10_isText fn_X10_isText_0
  rw [wi_out (show x < 0 ∨ (3 : Int32) < x from vo (n := 3) (by decide) h), Option.bind_some, if_neg I00]
theorem isWay_in {x : Int32} (h : vp_in x 8) : fn_X10_isWay x = some 1 := by
  obtain ⟨h1, h2⟩ := (vi (n := 7) (by decide)).mp h
  unfold fn_X10_isWay fn_X10_isWay_0
  rw [wi_in h1 (show ¬ (7 : Int32) < x from h2), Option.bind_some, if_neg I11]
theorem isWay_out {x : Int32} (h : ¬ vp_in x 8) : fn_X10_isWay x = some 0 := by
  unfold fn_X10_isWay fn_X10_isWay_0
  rw [wi_out (show x < 0 ∨ (7 : Int32) < x from vo (n := 7) (by decide) h), Option.bind_some, if_neg I00]
theorem isRowN_in {x : Int32} (h : vp_in x 6) : fn_X11_isRow x = some 1 := by
  obtain ⟨h1, h2⟩ := (vi (n := 5) (by decide)).mp h
  unfold fn_X11_isRow fn_X11_isRow_0
  rw [in_in h1 (show ¬ (5 : Int32) < x from h2), Option.bind_some, if_neg I11]
theorem isRowN_out {x : Int32} (h : ¬ vp_in x 6) : fn_X11_isRow x = some 0 := by
  unfold fn_X11_isRow fn_X11_isRow_0
  rw [in_out (show x < 0 ∨ (5 : Int32) < x from vo (n := 5) (by decide) h), Option.bind_some, if_neg I00]
theorem isTextN_in {x : Int32} (h : vp_in x 4) : fn_X11_isText x = some 1 := by
  obtain ⟨h1, h2⟩ := (vi (n := 3) (by decide)).mp h
  unfold fn_X11_isText fn_X11_isText_0
  rw [in_in h1 (show ¬ (3 : Int32) < x from h2), Option.bind_some, if_neg I11]
theorem isTextN_out {x : Int32} (h : ¬ vp_in x 4) : fn_X11_isText x = some 0 := by
  unfold fn_X11_isText fn_X11_isText_0
  rw [in_out (show x < 0 ∨ (3 : Int32) < x from vo (n := 3) (by decide) h), Option.bind_some, if_neg I00]
theorem isWayN_in {x : Int32} (h : vp_in x 8) : fn_X11_isWay x = some 1 := by
  obtain ⟨h1, h2⟩ := (vi (n := 7) (by decide)).mp h
  unfold fn_X11_isWay fn_X11_isWay_0
  rw [in_in h1 (show ¬ (7 : Int32) < x from h2), Option.bind_some, if_neg I11]
theorem isWayN_out {x : Int32} (h : ¬ vp_in x 8) : fn_X11_isWay x = some 0 := by
  unfold fn_X11_isWay fn_X11_isWay_0
  rw [in_out (show x < 0 ∨ (7 : Int32) < x from vo (n := 7) (by decide) h), Option.bind_some, if_neg I00]
/-! a FINDING -/
def tlM (M : sd_Mem) (f : Nat) : sd_Mem := sd_setI (sd_setI M 97 1 (nI f)) 98 f (M.1 98 f + 1)
def tlN (M : sd_Mem) (f : Nat) : sd_Mem := sd_setI (sd_setI M 100 0 (nI f)) 101 f (M.1 101 f + 1)
theorem tell_eq (M : sd_Mem) : ∀ f, f < 6 → 1 ≤ f → fn_X2_tell M (nI f) = some (-3, tlM M f) := by
  intro f hf h1
  have hb : vp_in (nI f) 6 := vp_in_nI hf (by decide)
  have hc : (nI f).toNatClampNeg = f := nI_clamp (by omega)
  unfold fn_X2_tell fn_X2_tell_0
  rw [wi_in (show ¬ nI f < 1 from nI_nlt (b := 1) h1 (by omega)) (show ¬ (5 : Int32) < nI f from nI_nlt (a := 5) (by omega) (by decide)), Option.bind_some, if_neg I1ne, if_neg hb, if_neg hb, hc, gIa (by decide)]
  rfl
theorem meets_eq (M : sd_Mem) : ∀ f, f < 6 → 1 ≤ f → fn_X11_meets M (nI f) = some (-3, tlN M f) := by
  intro f hf h1
  have hb : vp_in (nI f) 6 := vp_in_nI hf (by decide)
  have hc : (nI f).toNatClampNeg = f := nI_clamp (by omega)
  unfold fn_X11_meets fn_X11_meets_0
  rw [if_neg hb, if_neg hb, hc, gIa (by decide)]
  rfl
theorem tl1 (M : sd_Mem) : fn_X2_tell M (1 : Int32) = some (-3, tlM M 1) := tell_eq M 1 (by decide) (by decide)
theorem tl2 (M : sd_Mem) : fn_X2_tell M (2 : Int32) = some (-3, tlM M 2) := tell_eq M 2 (by decide) (by decide)
theorem tl3 (M : sd_Mem) : fn_X2_tell M (3 : Int32) = some (-3, tlM M 3) := tell_eq M 3 (by decide) (by decide)
theorem tl4 (M : sd_Mem) : fn_X2_tell M (4 : Int32) = some (-3, tlM M 4) := tell_eq M 4 (by decide) (by decide)
theorem tl5 (M : sd_Mem) : fn_X2_tell M (5 : Int32) = some (-3, tlM M 5) := tell_eq M 5 (by decide) (by decide)
theorem me1 (M : sd_Mem) : fn_X11_meets M (1 : Int32) = some (-3, tlN M 1) := meets_eq M 1 (by decide) (by decide)
theorem me2 (M : sd_Mem) : fn_X11_meets M (2 : Int32) = some (-3, tlN M 2) := meets_eq M 2 (by decide) (by decide)
theorem me3 (M : sd_Mem) : fn_X11_meets M (3 : Int32) = some (-3, tlN M 3) := meets_eq M 3 (by decide) (by decide)
theorem me4 (M : sd_Mem) : fn_X11_meets M (4 : Int32) = some (-3, tlN M 4) := meets_eq M 4 (by decide) (by decide)
theorem me5 (M : sd_Mem) : fn_X11_meets M (5 : Int32) = some (-3, tlN M 5) := meets_eq M 5 (by decide) (by decide)
theorem Rel.tell {M N : sd_Mem} (hR : Rel M N) {f : Nat} (hf : f < 6) : Rel (tlM M f) (tlN N f) := by
  refine hR.one 8 (keepM.I (by decide) (keepM.I (by decide) keepM.rf)) (keepN.I (by rw [rgN_o (by decide)]; decide) (keepN.I (by decide) keepN.rf)) ?_
  obtain ⟨h1, h2⟩ := hR 8
  refine ⟨?_, fun g hg => ?_⟩
  · simp [tlM, tlN, gI]
  · show (tlM M f).1 98 g = (tlN N f).1 101 g
    have e := h2 g hg
    by_cases q : g = f
    · subst q; simp [tlM, tlN, gI, e]
    · simp [tlM, tlN, gI, q, e]
