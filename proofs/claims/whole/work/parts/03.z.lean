/-! the flat memory: ints and longs by object id and place; the shape (kinds, lengths, references) is fixed -/
abbrev sd_Mem : Type := (Nat → Nat → Int32) × (Nat → Nat → Int64)
abbrev sd_Env : Type := va_G × (Nat → ClassId) × (Nat → Nat)
abbrev sd_K : Type := Program × Launch × Env × State × MethodId × Array Value × List Frame × Method × Code
def sd_TW : List Cond := lw_tbl.filter goodWord
def sd_nest : Cond → Bool
  | .fieldLinkNest _ _ _ _ _ _ => true
  | .methodLinkNest _ _ _ _ => true
  | _ => false
def sd_NW : List Cond := lw_tbl.filter sd_nest
theorem sd_tw {w : Cond} (i : Nat) (h : lw_tbl[i]? = some w) (hg : goodWord w = true) : w ∈ sd_TW := List.mem_filter.mpr ⟨List.mem_of_getElem? h, hg⟩
theorem sd_nw {w : Cond} (i : Nat) (h : lw_tbl[i]? = some w) (hg : sd_nest w = true) : w ∈ sd_NW := List.mem_filter.mpr ⟨List.mem_of_getElem? h, hg⟩
theorem sd_tw_good {w : Cond} (h : w ∈ sd_TW) : goodWord w = true := (List.mem_filter.mp h).2
def sd_setI (M : sd_Mem) (a k : Nat) (v : Int32) : sd_Mem := (fun b => if b = a then upd (M.1 b) k v else M.1 b, M.2)
def sd_setL (M : sd_Mem) (a k : Nat) (v : Int64) : sd_Mem := (M.1, fun b => if b = a then vp_updL (M.2 b) k v else M.2 b)
/-- a whole int array anew -/
def sd_setA (M : sd_Mem) (a : Nat) (f : Nat → Int32) : sd_Mem := (fun b => if b = a then f else M.1 b, M.2)
def sd_kdl : List Nat := [11, 23, 2, 20, 2, 20, 2, 20, 2, 20, 2, 20, 2, 20, 23, 2, 20, 2, 20, 2, 20, 2, 20, 24, 10, 20, 10, 20, 10, 20, 10, 20, 10, 20, 10, 20, 10, 20, 10, 20, 6, 20, 20, 25, 20, 20, 25, 20, 20, 6, 20, 20, 25, 20, 20, 25, 20, 20, 5, 5, 7, 8, 8, 1, 26, 22, 22, 22, 22, 22, 22, 22, 22, 22, 22, 22, 22, 25, 20, 20, 20, 20, 20, 20, 20, 20, 20, 20, 20, 20, 9, 20, 20, 20, 20, 21, 4, 3, 20, 0, 12, 20, 20, 20, 20, 20, 20, 20, 20, 20, 20, 20, 20, 20, 20, 20, 20, 22, 20, 20, 20, 20, 20]
def sd_lnl : List Nat := [0, 6, 0, 40, 0, 40, 0, 40, 0, 40, 0, 40, 0, 40, 4, 0, 60, 0, 60, 0, 60, 0, 60, 8, 0, 30, 0, 30, 0, 30, 0, 30, 0, 30, 0, 30, 0, 30, 0, 30, 0, 2, 2, 2, 3, 3, 2, 3, 3, 0, 2, 2, 2, 3, 3, 2, 3, 3, 0, 0, 0, 0, 0, 0, 12, 8, 8, 8, 8, 8, 8, 8, 8, 8, 8, 8, 8, 12, 8, 8, 8, 8, 8, 8, 8, 8, 8, 8, 8, 8, 0, 6, 6, 6, 6, 6, 0, 0, 6, 0, 0, 6, 6, 240, 40, 4, 240, 2, 6, 6, 4, 2, 6, 6, 4, 8, 240, 96, 96, 6, 6, 6, 6]
def sd_kd (i : Nat) : Nat := sd_kdl.getD i 0
def sd_ln (i : Nat) : Nat := sd_lnl.getD i 0
def sd_cl : List vw_C := [(RX0, TX0, 4), (RX1, TX1, 2), (RX2, TX2, 2), (RX3, TX3, 2), (RX4, TX4, 3), (RX5, TX5, 8), (RX6, TX6, 2), (RX7, TX7, 2), (RX8, TX8, 6), (RX9, TX9, 2), (RX10, TX10, 14), (RX11, TX11, 36)]
def sd_tys (E : sd_Env) : List (ClassId × FieldType) := [(E.2.1 0, .int), (E.2.1 1, .boolean), (E.2.1 2, .long), (E.2.1 3, .object RX1), (E.2.1 4, .object RX9), (E.2.1 5, .array .int), (E.2.1 6, .array .long)]
def sd_LC : List Nat := List.range 99
def sd_LM : List Nat := List.range' 100 23
def sd_ent (E : sd_Env) (id : Nat) (f : Nat → Int32) (g : Nat → Int64) : va_E := match sd_kd id with
  | 1 => .inr (0, [.ref (E.2.2 40), .ref (E.2.2 58), .ref (E.2.2 64), .ref (E.2.2 77)])
  | 2 => .inr (1, [.ref (E.2.2 (id + 1)), .int (f 1)])
  | 3 => .inr (2, [.ref (E.2.2 98), .int (f 1)])
  | 4 => .inr (3, [.long (g 0), .long (g 1)])
  | 5 => .inr (4, [.int (f 0), .int (f 1), .int (f 2)])
  | 6 => .inr (5, [.ref (E.2.2 (id + 1)), .ref (E.2.2 (id + 2)), .ref (E.2.2 (id + 3)), .ref (E.2.2 (id + 6)), .int (f 4), .int (f 5), .int (f 6), .int (f 7)])
  | 7 => .inr (6, [.ref (E.2.2 49), .int (f 1)])
  | 8 => .inr (7, [.ref (E.2.2 40), .ref (E.2.2 (id - 3))])
  | 9 => .inr (8, [.ref (E.2.2 91), .ref (E.2.2 92), .ref (E.2.2 93), .ref (E.2.2 94), .ref (E.2.2 95), .int (f 5)])
  | 10 => .inr (9, [.ref (E.2.2 (id + 1)), .int (f 1)])
  | 11 => .inr (10, [.ref (E.2.2 1), .ref (E.2.2 14), .ref (E.2.2 23), .ref (E.2.2 40), .ref (E.2.2 58), .ref (E.2.2 59), .ref (E.2.2 60), .ref (E.2.2 61), .ref (E.2.2 62), .ref (E.2.2 63), .ref (E.2.2 90), .ref (E.2.2 96), .ref (E.2.2 97), .int (f 13)])
  | 12 => .inr (11, [.int (f 0), .ref (E.2.2 101), .int (f 2), .long (g 3), .long (g 4), .ref (E.2.2 102), .ref (E.2.2 103), .ref (E.2.2 104), .ref (E.2.2 105), .ref (E.2.2 106), .ref (E.2.2 107), .ref (E.2.2 108), .ref (E.2.2 109), .ref (E.2.2 110), .int (f 14), .int (f 15), .int (f 16), .ref (E.2.2 111), .ref (E.2.2 112), .ref (E.2.2 113), .ref (E.2.2 114), .int (f 21), .int (f 22), .ref (E.2.2 115), .ref (E.2.2 116), .ref (E.2.2 117), .ref (E.2.2 118), .ref (E.2.2 119), .ref (E.2.2 120), .ref (E.2.2 121), .int (f 30), .ref (E.2.2 122), .int (f 32), .int (f 33), .int (f 34), .long (g 35)])
  | 20 => .inl (E.2.1 0, sd_ln id, .inl f)
  | 21 => .inl (E.2.1 1, sd_ln id, .inl f)
  | 22 => .inl (E.2.1 2, sd_ln id, .inr (.inl g))
  | 23 => .inl (E.2.1 3, sd_ln id, .inr (.inr (.inr (.inr (fun j => some (E.2.2 (id + 1 + 2 * j)))))))
  | 24 => .inl (E.2.1 4, sd_ln id, .inr (.inr (.inr (.inr (fun j => some (E.2.2 (id + 1 + 2 * j)))))))
  | 25 => .inl (E.2.1 5, sd_ln id, .inr (.inr (.inr (.inr (fun j => some (E.2.2 (id + 1 + j)))))))
  | 26 => .inl (E.2.1 6, sd_ln id, .inr (.inr (.inr (.inr (fun j => some (E.2.2 (id + 1 + j)))))))
  | _ => .inr (0, [])
theorem sd_e1 {E : sd_Env} {id : Nat} {f : Nat → Int32} {g : Nat → Int64} (h : sd_kd id = 1) : sd_ent E id f g = .inr (0, [.ref (E.2.2 40), .ref (E.2.2 58), .ref (E.2.2 64), .ref (E.2.2 77)]) := by unfold sd_ent; simp only [h]
theorem sd_e2 {E : sd_Env} {id : Nat} {f : Nat → Int32} {g : Nat → Int64} (h : sd_kd id = 2) : sd_ent E id f g = .inr (1, [.ref (E.2.2 (id + 1)), .int (f 1)]) := by unfold sd_ent; simp only [h]
theorem sd_e3 {E : sd_Env} {id : Nat} {f : Nat → Int32} {g : Nat → Int64} (h : sd_kd id = 3) : sd_ent E id f g = .inr (2, [.ref (E.2.2 98), .int (f 1)]) := by unfold sd_ent; simp only [h]
theorem sd_e4 {E : sd_Env} {id : Nat} {f : Nat → Int32} {g : Nat → Int64} (h : sd_kd id = 4) : sd_ent E id f g = .inr (3, [.long (g 0), .long (g 1)]) := by unfold sd_ent; simp only [h]
theorem sd_e5 {E : sd_Env} {id : Nat} {f : Nat → Int32} {g : Nat → Int64} (h : sd_kd id = 5) : sd_ent E id f g = .inr (4, [.int (f 0), .int (f 1), .int (f 2)]) := by unfold sd_ent; simp only [h]
theorem sd_e6 {E : sd_Env} {id : Nat} {f : Nat → Int32} {g : Nat → Int64} (h : sd_kd id = 6) : sd_ent E id f g = .inr (5, [.ref (E.2.2 (id + 1)), .ref (E.2.2 (id + 2)), .ref (E.2.2 (id + 3)), .ref (E.2.2 (id + 6)), .int (f 4), .int (f 5), .int (f 6), .int (f 7)]) := by unfold sd_ent; simp only [h]
theorem sd_e7 {E : sd_Env} {id : Nat} {f : Nat → Int32} {g : Nat → Int64} (h : sd_kd id = 7) : sd_ent E id f g = .inr (6, [.ref (E.2.2 49), .int (f 1)]) := by unfold sd_ent; simp only [h]
theorem sd_e8 {E : sd_Env} {id : Nat} {f : Nat → Int32} {g : Nat → Int64} (h : sd_kd id = 8) : sd_ent E id f g = .inr (7, [.ref (E.2.2 40), .ref (E.2.2 (id - 3))]) := by unfold sd_ent; simp only [h]
theorem sd_e9 {E : sd_Env} {id : Nat} {f : Nat → Int32} {g : Nat → Int64} (h : sd_kd id = 9) : sd_ent E id f g = .inr (8, [.ref (E.2.2 91), .ref (E.2.2 92), .ref (E.2.2 93), .ref (E.2.2 94), .ref (E.2.2 95), .int (f 5)]) := by unfold sd_ent; simp only [h]
theorem sd_e10 {E : sd_Env} {id : Nat} {f : Nat → Int32} {g : Nat → Int64} (h : sd_kd id = 10) : sd_ent E id f g = .inr (9, [.ref (E.2.2 (id + 1)), .int (f 1)]) := by unfold sd_ent; simp only [h]
theorem sd_e11 {E : sd_Env} {id : Nat} {f : Nat → Int32} {g : Nat → Int64} (h : sd_kd id = 11) : sd_ent E id f g = .inr (10, [.ref (E.2.2 1), .ref (E.2.2 14), .ref (E.2.2 23), .ref (E.2.2 40), .ref (E.2.2 58), .ref (E.2.2 59), .ref (E.2.2 60), .ref (E.2.2 61), .ref (E.2.2 62), .ref (E.2.2 63), .ref (E.2.2 90), .ref (E.2.2 96), .ref (E.2.2 97), .int (f 13)]) := by unfold sd_ent; simp only [h]
theorem sd_e12 {E : sd_Env} {id : Nat} {f : Nat → Int32} {g : Nat → Int64} (h : sd_kd id = 12) : sd_ent E id f g = .inr (11, [.int (f 0), .ref (E.2.2 101), .int (f 2), .long (g 3), .long (g 4), .ref (E.2.2 102), .ref (E.2.2 103), .ref (E.2.2 104), .ref (E.2.2 105), .ref (E.2.2 106), .ref (E.2.2 107), .ref (E.2.2 108), .ref (E.2.2 109), .ref (E.2.2 110), .int (f 14), .int (f 15), .int (f 16), .ref (E.2.2 111), .ref (E.2.2 112), .ref (E.2.2 113), .ref (E.2.2 114), .int (f 21), .int (f 22), .ref (E.2.2 115), .ref (E.2.2 116), .ref (E.2.2 117), .ref (E.2.2 118), .ref (E.2.2 119), .ref (E.2.2 120), .ref (E.2.2 121), .int (f 30), .ref (E.2.2 122), .int (f 32), .int (f 33), .int (f 34), .long (g 35)]) := by unfold sd_ent; simp only [h]
theorem sd_e20 {E : sd_Env} {id : Nat} {f : Nat → Int32} {g : Nat → Int64} (h : sd_kd id = 20) : sd_ent E id f g = .inl (E.2.1 0, sd_ln id, .inl f) := by unfold sd_ent; simp only [h]
theorem sd_e21 {E : sd_Env} {id : Nat} {f : Nat → Int32} {g : Nat → Int64} (h : sd_kd id = 21) : sd_ent E id f g = .inl (E.2.1 1, sd_ln id, .inl f) := by unfold sd_ent; simp only [h]
theorem sd_e22 {E : sd_Env} {id : Nat} {f : Nat → Int32} {g : Nat → Int64} (h : sd_kd id = 22) : sd_ent E id f g = .inl (E.2.1 2, sd_ln id, .inr (.inl g)) := by unfold sd_ent; simp only [h]
theorem sd_e23 {E : sd_Env} {id : Nat} {f : Nat → Int32} {g : Nat → Int64} (h : sd_kd id = 23) : sd_ent E id f g = .inl (E.2.1 3, sd_ln id, .inr (.inr (.inr (.inr (fun j => some (E.2.2 (id + 1 + 2 * j))))))) := by unfold sd_ent; simp only [h]
theorem sd_e24 {E : sd_Env} {id : Nat} {f : Nat → Int32} {g : Nat → Int64} (h : sd_kd id = 24) : sd_ent E id f g = .inl (E.2.1 4, sd_ln id, .inr (.inr (.inr (.inr (fun j => some (E.2.2 (id + 1 + 2 * j))))))) := by unfold sd_ent; simp only [h]
theorem sd_e25 {E : sd_Env} {id : Nat} {f : Nat → Int32} {g : Nat → Int64} (h : sd_kd id = 25) : sd_ent E id f g = .inl (E.2.1 5, sd_ln id, .inr (.inr (.inr (.inr (fun j => some (E.2.2 (id + 1 + j))))))) := by unfold sd_ent; simp only [h]
theorem sd_e26 {E : sd_Env} {id : Nat} {f : Nat → Int32} {g : Nat → Int64} (h : sd_kd id = 26) : sd_ent E id f g = .inl (E.2.1 6, sd_ln id, .inr (.inr (.inr (.inr (fun j => some (E.2.2 (id + 1 + j))))))) := by unfold sd_ent; simp only [h]
theorem sd_kd_out {i : Nat} (h : 123 ≤ i) : sd_kd i = 0 := by
  have e : sd_kdl[i]? = none := List.getElem?_eq_none (show sd_kdl.length ≤ i from h)
  unfold sd_kd
  rw [List.getD_eq_getElem?_getD, e]
  rfl
theorem sd_m1_b : ∀ i, i < 123 → sd_kd i = 1 → i < 99 := by decide +kernel
theorem sd_m1 {i : Nat} (h : sd_kd i = 1) : i < 99 := by
  rcases Nat.lt_or_ge i 123 with q | q
  · exact sd_m1_b i q h
  · rw [sd_kd_out q] at h; exact absurd h (by decide)
theorem sd_m2_b : ∀ i, i < 123 → sd_kd i = 2 → i < 99 := by decide +kernel
theorem sd_m2 {i : Nat} (h : sd_kd i = 2) : i < 99 := by
  rcases Nat.lt_or_ge i 123 with q | q
  · exact sd_m2_b i q h
  · rw [sd_kd_out q] at h; exact absurd h (by decide)
theorem sd_m3_b : ∀ i, i < 123 → sd_kd i = 3 → i < 99 := by decide +kernel
theorem sd_m3 {i : Nat} (h : sd_kd i = 3) : i < 99 := by
  rcases Nat.lt_or_ge i 123 with q | q
  · exact sd_m3_b i q h
  · rw [sd_kd_out q] at h; exact absurd h (by decide)
theorem sd_m4_b : ∀ i, i < 123 → sd_kd i = 4 → i < 99 := by decide +kernel
theorem sd_m4 {i : Nat} (h : sd_kd i = 4) : i < 99 := by
  rcases Nat.lt_or_ge i 123 with q | q
  · exact sd_m4_b i q h
  · rw [sd_kd_out q] at h; exact absurd h (by decide)
theorem sd_m5_b : ∀ i, i < 123 → sd_kd i = 5 → i < 99 := by decide +kernel
theorem sd_m5 {i : Nat} (h : sd_kd i = 5) : i < 99 := by
  rcases Nat.lt_or_ge i 123 with q | q
  · exact sd_m5_b i q h
  · rw [sd_kd_out q] at h; exact absurd h (by decide)
theorem sd_m6_b : ∀ i, i < 123 → sd_kd i = 6 → i < 99 := by decide +kernel
theorem sd_m6 {i : Nat} (h : sd_kd i = 6) : i < 99 := by
  rcases Nat.lt_or_ge i 123 with q | q
  · exact sd_m6_b i q h
  · rw [sd_kd_out q] at h; exact absurd h (by decide)
theorem sd_m7_b : ∀ i, i < 123 → sd_kd i = 7 → i < 99 := by decide +kernel
theorem sd_m7 {i : Nat} (h : sd_kd i = 7) : i < 99 := by
  rcases Nat.lt_or_ge i 123 with q | q
  · exact sd_m7_b i q h
  · rw [sd_kd_out q] at h; exact absurd h (by decide)
theorem sd_m8_b : ∀ i, i < 123 → sd_kd i = 8 → i < 99 := by decide +kernel
theorem sd_m8 {i : Nat} (h : sd_kd i = 8) : i < 99 := by
  rcases Nat.lt_or_ge i 123 with q | q
  · exact sd_m8_b i q h
  · rw [sd_kd_out q] at h; exact absurd h (by decide)
theorem sd_m9_b : ∀ i, i < 123 → sd_kd i = 9 → i < 99 := by decide +kernel
theorem sd_m9 {i : Nat} (h : sd_kd i = 9) : i < 99 := by
  rcases Nat.lt_or_ge i 123 with q | q
  · exact sd_m9_b i q h
  · rw [sd_kd_out q] at h; exact absurd h (by decide)
theorem sd_m10_b : ∀ i, i < 123 → sd_kd i = 10 → i < 99 := by decide +kernel
theorem sd_m10 {i : Nat} (h : sd_kd i = 10) : i < 99 := by
  rcases Nat.lt_or_ge i 123 with q | q
  · exact sd_m10_b i q h
  · rw [sd_kd_out q] at h; exact absurd h (by decide)
theorem sd_m11_b : ∀ i, i < 123 → sd_kd i = 11 → i < 99 := by decide +kernel
theorem sd_m11 {i : Nat} (h : sd_kd i = 11) : i < 99 := by
  rcases Nat.lt_or_ge i 123 with q | q
  · exact sd_m11_b i q h
  · rw [sd_kd_out q] at h; exact absurd h (by decide)
theorem sd_c2_b : ∀ i, i < 123 → sd_kd i = 2 → sd_kd (i + 1) = 20 ∧ (sd_ln (i + 1) = 40 ∨ sd_ln (i + 1) = 60) ∧ i + 1 < 99 := by decide +kernel
theorem sd_c2 {i : Nat} (h : sd_kd i = 2) : sd_kd (i + 1) = 20 ∧ (sd_ln (i + 1) = 40 ∨ sd_ln (i + 1) = 60) ∧ i + 1 < 99 := by
  rcases Nat.lt_or_ge i 123 with q | q
  · exact sd_c2_b i q h
  · rw [sd_kd_out q] at h; exact absurd h (by decide)
theorem sd_c10_b : ∀ i, i < 123 → sd_kd i = 10 → sd_kd (i + 1) = 20 ∧ sd_ln (i + 1) = 30 ∧ i + 1 < 99 := by decide +kernel
theorem sd_c10 {i : Nat} (h : sd_kd i = 10) : sd_kd (i + 1) = 20 ∧ sd_ln (i + 1) = 30 ∧ i + 1 < 99 := by
  rcases Nat.lt_or_ge i 123 with q | q
  · exact sd_c10_b i q h
  · rw [sd_kd_out q] at h; exact absurd h (by decide)
theorem sd_c6_b : ∀ i, i < 123 → sd_kd i = 6 → (sd_kd (i + 1) = 20 ∧ sd_ln (i + 1) = 2) ∧ (sd_kd (i + 2) = 20 ∧ sd_ln (i + 2) = 2) ∧ (sd_kd (i + 3) = 25 ∧ sd_ln (i + 3) = 2) ∧ (sd_kd (i + 6) = 25 ∧ sd_ln (i + 6) = 2) ∧ i + 8 < 99 := by decide +kernel
theorem sd_c6 {i : Nat} (h : sd_kd i = 6) : (sd_kd (i + 1) = 20 ∧ sd_ln (i + 1) = 2) ∧ (sd_kd (i + 2) = 20 ∧ sd_ln (i + 2) = 2) ∧ (sd_kd (i + 3) = 25 ∧ sd_ln (i + 3) = 2) ∧ (sd_kd (i + 6) = 25 ∧ sd_ln (i + 6) = 2) ∧ i + 8 < 99 := by
  rcases Nat.lt_or_ge i 123 with q | q
  · exact sd_c6_b i q h
  · rw [sd_kd_out q] at h; exact absurd h (by decide)
theorem sd_c6j_b : ∀ i, i < 123 → ∀ j, j < 2 → sd_kd i = 6 → (sd_kd (i + 3 + 1 + j) = 20 ∧ sd_ln (i + 3 + 1 + j) = 3) ∧ (sd_kd (i + 6 + 1 + j) = 20 ∧ sd_ln (i + 6 + 1 + j) = 3) := by decide +kernel
theorem sd_c6j {i j : Nat} (h : sd_kd i = 6) (hj : j < 2) : (sd_kd (i + 3 + 1 + j) = 20 ∧ sd_ln (i + 3 + 1 + j) = 3) ∧ (sd_kd (i + 6 + 1 + j) = 20 ∧ sd_ln (i + 6 + 1 + j) = 3) := by
  rcases Nat.lt_or_ge i 123 with q | q
  · exact sd_c6j_b i q j hj h
  · rw [sd_kd_out q] at h; exact absurd h (by decide)
theorem sd_c8_b : ∀ i, i < 123 → sd_kd i = 8 → sd_kd (i - 3) = 5 ∧ i - 3 < 99 := by decide +kernel
theorem sd_c8 {i : Nat} (h : sd_kd i = 8) : sd_kd (i - 3) = 5 ∧ i - 3 < 99 := by
  rcases Nat.lt_or_ge i 123 with q | q
  · exact sd_c8_b i q h
  · rw [sd_kd_out q] at h; exact absurd h (by decide)
theorem sd_m23_b : ∀ i, i < 123 → sd_kd i = 23 → i < 99 := by decide +kernel
theorem sd_m23 {i : Nat} (h : sd_kd i = 23) : i < 99 := by
  rcases Nat.lt_or_ge i 123 with q | q
  · exact sd_m23_b i q h
  · rw [sd_kd_out q] at h; exact absurd h (by decide)
theorem sd_c23_b : ∀ i, i < 123 → ∀ j, j < 6 → sd_kd i = 23 → j < sd_ln i → sd_kd (i + 1 + 2 * j) = 2 ∧ i + 1 + 2 * j < 99 := by decide +kernel
theorem sd_c23_l : ∀ i, i < 123 → sd_kd i = 23 → sd_ln i ≤ 6 := by decide +kernel
theorem sd_c23 {i j : Nat} (h : sd_kd i = 23) (hj : j < sd_ln i) : sd_kd (i + 1 + 2 * j) = 2 ∧ i + 1 + 2 * j < 99 := by
  rcases Nat.lt_or_ge i 123 with q | q
  · exact sd_c23_b i q j (Nat.lt_of_lt_of_le hj (sd_c23_l i q h)) h hj
  · rw [sd_kd_out q] at h; exact absurd h (by decide)
theorem sd_r23 : ∀ j, j < 8 → sd_kd (23 + 1 + 2 * j) = 10 ∧ 23 + 1 + 2 * j < 99 := by decide +kernel
theorem sd_r1 : ∀ j, j < 6 → sd_kd (1 + 1 + 2 * j) = 2 ∧ 1 + 1 + 2 * j < 99 := by decide +kernel
theorem sd_r14 : ∀ j, j < 4 → sd_kd (14 + 1 + 2 * j) = 2 ∧ 14 + 1 + 2 * j < 99 := by decide +kernel
theorem sd_r64 : ∀ j, j < 12 → (sd_kd (64 + 1 + j) = 22 ∧ sd_ln (64 + 1 + j) = 8) ∧ 64 + 1 + j < 99 := by decide +kernel
theorem sd_r77 : ∀ j, j < 12 → (sd_kd (77 + 1 + j) = 20 ∧ sd_ln (77 + 1 + j) = 8) ∧ 77 + 1 + j < 99 := by decide +kernel
theorem sd_mC {i : Nat} (h : i < 99) : i ∈ sd_LC := List.mem_range.mpr h
def sd_pic (E : sd_Env) (L : List Nat) (M : sd_Mem) : va_W := L.map (fun id => (E.2.2 id, sd_ent E id (M.1 id) (M.2 id)))
def sd_adr (E : sd_Env) (L : List Nat) : Nat → Prop := fun q => ∃ id, id ∈ L ∧ E.2.2 id = q
def sd_pow : Nat → Int64 := fun j => [1, 12, 144, 1728, 20736, 248832, 2985984, 35831808, 429981696, 5159780352, 61917364224].getD j 0
def sd_PW (A : Nat → Prop) (U : State) (H : Heap) : Prop := ∃ t : Nat, va_Z "StrikeDays$Quarrel" "POWERS" "[J" (.ref t) A U H ∧ va_T .long t 11 (fun j => .long (sd_pow j)) A U H
def sd_NWs (U : State) : Prop := ∀ w, w ∈ sd_NW → va_Nw w U
/-- the world at a call's start and end -/
def sd_Wd (E : sd_Env) (L : List Nat) (M : sd_Mem) (U : State) : Prop := va_P E.1 sd_cl (sd_pic E L M) U.heap ∧ va_K E.1 sd_cl (sd_tys E) U ∧ va_D (fun _ => True) (sd_pic E L M) ∧ sd_NWs U ∧ sd_PW (sd_adr E L) U U.heap
theorem sd_NWs.same {u U : State} (h : u.vm = U.vm) (q : sd_NWs u) : sd_NWs U := fun w hw => va_Nw.same (by
  have h2 := (List.mem_filter.mp hw).2
  cases w <;> first | rfl | cases h2) h (q w hw)
theorem sd_NWs.warm {s U : State} (hW : s.WarmedH U.vm) (q : sd_NWs s) : sd_NWs U := fun w hw => by
  have h2 := (List.mem_filter.mp hw).2
  have h3 := q w hw
  cases w <;> first | exact va_Nw.warmF hW h3 | exact va_Nw.warmM hW h3 | cases h2
theorem sd_PW.moved {A : Nat → Prop} {u U : State} {H : Heap} (hvm : u.vm.Alike U.vm) (h : sd_PW A u H) : sd_PW A U H := by
  obtain ⟨t, h1, h2⟩ := h
  exact ⟨t, h1.moved hvm, h2.moved hvm⟩
theorem sd_PW.kept {A : Nat → Prop} {U : State} {H H1 : Heap} (h : sd_PW A U H) (hq : ∀ a : Nat, a < H.size → ¬ A a → H1[a]? = H[a]?) : sd_PW A U H1 := by
  obtain ⟨t, h1, h2⟩ := h
  exact ⟨t, h1.kept hq, h2.kept hq⟩
theorem sd_pic_at {E : sd_Env} {L : List Nat} {M : sd_Mem} {id : Nat} (h : id ∈ L) : ∃ k : Nat, L[k]? = some id ∧ (sd_pic E L M)[k]? = some (E.2.2 id, sd_ent E id (M.1 id) (M.2 id)) := by
  obtain ⟨k, hk⟩ := List.getElem?_of_mem h
  refine ⟨k, hk, ?_⟩
  unfold sd_pic
  rw [List.getElem?_map, hk]
  rfl
theorem sd_pic_D {E : sd_Env} {L : List Nat} {M : sd_Mem} {B : Nat → Prop} (h : va_D B (sd_pic E L M)) : va_D (sd_adr E L) (sd_pic E L M) := ⟨h.1, fun k q hk => by
  unfold sd_pic at hk
  rw [List.getElem?_map] at hk
  cases hL : L[k]? with
  | none => rw [hL] at hk; cases hk
  | some id => rw [hL] at hk; cases hk; exact ⟨id, List.mem_of_getElem? hL, rfl⟩⟩
/-- one cell anew -/
theorem sd_pic_set {E : sd_Env} {L : List Nat} {M M' : sd_Mem} {A : Nat → Prop} {id k : Nat} (hD : va_D A (sd_pic E L M)) (hk : L[k]? = some id) {e : va_E} (he : sd_ent E id (M'.1 id) (M'.2 id) = e) (ho : ∀ j, j ≠ id → M'.1 j = M.1 j ∧ M'.2 j = M.2 j) : (sd_pic E L M).set k (E.2.2 id, e) = sd_pic E L M' := by
  subst he
  apply List.ext_getElem?
  intro n
  have hl : k < (sd_pic E L M).length := by
    unfold sd_pic
    rw [List.length_map]
    exact (List.getElem?_eq_some_iff.mp hk).1
  by_cases hn : n = k
  · subst hn
    rw [List.getElem?_set_self hl]
    unfold sd_pic
    rw [List.getElem?_map, hk]
    rfl
  · rw [List.getElem?_set_ne (Ne.symm hn)]
    cases hL : L[n]? with
    | none =>
      unfold sd_pic
      rw [List.getElem?_map, List.getElem?_map, hL]
      rfl
    | some j =>
      have hj : j ≠ id := by
        intro hj
        subst hj
        apply hn
        refine hD.1 n k (E.2.2 j, sd_ent E j (M.1 j) (M.2 j)) (E.2.2 j, sd_ent E j (M.1 j) (M.2 j)) ?_ ?_ rfl
        · unfold sd_pic; rw [List.getElem?_map, hL]; rfl
        · unfold sd_pic; rw [List.getElem?_map, hk]; rfl
      unfold sd_pic
      rw [List.getElem?_map, List.getElem?_map, hL]
      show some (E.2.2 j, sd_ent E j (M.1 j) (M.2 j)) = some (E.2.2 j, sd_ent E j (M'.1 j) (M'.2 j))
      rw [(ho j hj).1, (ho j hj).2]
theorem sd_setI_at (M : sd_Mem) (a k : Nat) (v : Int32) : (sd_setI M a k v).1 a = upd (M.1 a) k v := if_pos rfl
theorem sd_setI_ne {M : sd_Mem} {a k : Nat} {v : Int32} : ∀ j, j ≠ a → (sd_setI M a k v).1 j = M.1 j ∧ (sd_setI M a k v).2 j = M.2 j := fun _ h => ⟨if_neg h, rfl⟩
theorem sd_setL_at (M : sd_Mem) (a k : Nat) (v : Int64) : (sd_setL M a k v).2 a = vp_updL (M.2 a) k v := if_pos rfl
theorem sd_setL_ne {M : sd_Mem} {a k : Nat} {v : Int64} : ∀ j, j ≠ a → (sd_setL M a k v).1 j = M.1 j ∧ (sd_setL M a k v).2 j = M.2 j := fun _ h => ⟨rfl, if_neg h⟩
theorem sd_setA_at (M : sd_Mem) (a : Nat) (f : Nat → Int32) : (sd_setA M a f).1 a = f := if_pos rfl
theorem sd_setA_ne {M : sd_Mem} {a : Nat} {f : Nat → Int32} : ∀ j, j ≠ a → (sd_setA M a f).1 j = M.1 j ∧ (sd_setA M a f).2 j = M.2 j := fun _ h => ⟨if_neg h, rfl⟩
/-! the judgement: from every heap that holds the picture of M, with the locals lv, at pc, stack st -/
def sd_Z (K : sd_K) (R : Room) (E : sd_Env) (L : List Nat) (nL : Nat) (Q : State → Prop) (M : sd_Mem) (pc : Nat) (lv : List (Nat × Value)) (st : List Value) : Prop :=
  ∀ (H : Heap) (locs : List Loc) (ls : Array Slot), va_P E.1 sd_cl (sd_pic E L M) H → va_D (sd_adr E L) (sd_pic E L M) → va_S (sd_adr E L) K.2.2.2.1.heap H locs → lv_has ls nL lv →
    W K.1 K.2.1 K.2.2.1 R K.2.2.2.1 K.2.2.2.2.1 K.2.2.2.2.2.1 K.2.2.2.2.2.2.1 K.2.2.2.2.2.2.2.1 K.2.2.2.2.2.2.2.2 H locs 0 0 Q (F0 K.2.2.2.2.1 pc ls st)
def sd_C (K : sd_K) (E : sd_Env) (L : List Nat) (own : String) (cc : ByteArray) (nL : Nat) (ret : Option FieldType) : Prop :=
  K.1.tables.exec = Jvm.exec ∧ K.2.2.2.2.2.2.2.2.code = cc ∧ K.2.2.2.2.2.2.2.2.maxLocals = nL ∧ K.2.2.2.1.vm.findClass own = some K.2.2.2.2.1.cls ∧ (∀ w, w ∈ sd_TW → w.before K.2.2.2.2.2.1 K.2.2.2.1 = true) ∧
  K.2.2.2.2.2.2.2.1.sig.returnType = ret ∧ K.2.2.2.2.2.2.2.1.locks = false ∧ va_K E.1 sd_cl (sd_tys E) K.2.2.2.1 ∧ sd_NWs K.2.2.2.1 ∧ sd_PW (sd_adr E L) K.2.2.2.1 K.2.2.2.1.heap
section SDZ
variable {K : sd_K} {R : Room} {E : sd_Env} {L : List Nat} {nL : Nat} {Q : State → Prop} {M : sd_Mem} {pc : Nat} {lv : List (Nat × Value)} {st : List Value} {own : String} {cc : ByteArray} {ret : Option FieldType}
theorem sd_Wd_at (C : sd_C K E L own cc nL ret) {H : Heap} {locs : List Loc} (hP : va_P E.1 sd_cl (sd_pic E L M) H) (hD : va_D (sd_adr E L) (sd_pic E L M)) (hS : va_S (sd_adr E L) K.2.2.2.1.heap H locs) {U : State} (hU : U.heap = H) (hW : K.2.2.2.1.WarmedH U.vm) : sd_Wd E L M U := by
  obtain ⟨-, -, -, -, -, -, -, hK, hN, hPW⟩ := C
  refine ⟨by rw [hU]; exact hP, va_K.moved hW.alike hK, hD.weaken (fun _ _ _ _ => trivial), hN.warm hW, ?_⟩
  rw [hU]
  exact (hPW.kept (fun a h1 h2 => hS.2.1 a h1 h2)).moved hW.alike
theorem sd_blind (av : List Value) (E : sd_Env) (L : List Nat) (M : sd_Mem) : FrameBlind (va_Pc av (sd_Wd E L M)) := fun a U g mk q => by
  obtain ⟨q0, qP, qK, qD, qN, qW⟩ := q
  exact ⟨q0, qP, va_K.moved (u := U) (U := U.calling g mk a) (Vm.Alike.refl U.vm) qK, qD, qN.same (u := U) (U := U.calling g mk a) rfl, sd_PW.moved (u := U) (U := U.calling g mk a) (Vm.Alike.refl U.vm) qW⟩
/-! contracts: the answer and the memory behind it are given -/
def sd_MI (l : Launch) (E : sd_Env) (L : List Nat) (y : MethodName) (b : ByteArray) (mL : Nat) (ret : Option FieldType) (rm : Room) (av : List Value) (M : sd_Mem) (r : Int32) (M1 : sd_Mem) : Prop :=
  Met l y (Cond.code y b mL ret :: sd_TW) rm (va_Pc av (sd_Wd E L M)) (va_Qi (fun r' M' => r' = r ∧ M' = M1) (sd_Wd E L) (sd_adr E L)) 0 0 (sd_adr E L)
def sd_ML (l : Launch) (E : sd_Env) (L : List Nat) (y : MethodName) (b : ByteArray) (mL : Nat) (ret : Option FieldType) (rm : Room) (av : List Value) (M : sd_Mem) (r : Int64) (M1 : sd_Mem) : Prop :=
  Met l y (Cond.code y b mL ret :: sd_TW) rm (va_Pc av (sd_Wd E L M)) (va_Ql (fun r' M' => r' = r ∧ M' = M1) (sd_Wd E L) (sd_adr E L)) 0 0 (sd_adr E L)
def sd_MV (l : Launch) (E : sd_Env) (L : List Nat) (y : MethodName) (b : ByteArray) (mL : Nat) (ret : Option FieldType) (rm : Room) (av : List Value) (M : sd_Mem) (M1 : sd_Mem) : Prop :=
  Met l y (Cond.code y b mL ret :: sd_TW) rm (va_Pc av (sd_Wd E L M)) (va_Qv (fun M' => M' = M1) (sd_Wd E L) (sd_adr E L)) 0 0 (sd_adr E L)
def sd_MR (l : Launch) (E : sd_Env) (L : List Nat) (y : MethodName) (b : ByteArray) (mL : Nat) (ret : Option FieldType) (rm : Room) (av : List Value) (M : sd_Mem) (id : Nat) (M1 : sd_Mem) : Prop :=
  Met l y (Cond.code y b mL ret :: sd_TW) rm (va_Pc av (sd_Wd E L M)) (va_Qr (fun M' => M' = M1) (fun M' a t => a = E.2.2 id ∧ sd_Wd E L M' t) (sd_adr E L)) 0 0 (sd_adr E L)
def sd_QI (K : sd_K) (E : sd_Env) (L : List Nat) (r : Int32) (M1 : sd_Mem) : State → Prop := MQ K.2.2.2.2.2.2.1 (va_Qi (fun r' M' => r' = r ∧ M' = M1) (sd_Wd E L) (sd_adr E L)) K.2.2.2.2.2.1 K.2.2.2.1 0 0 (sd_adr E L)
def sd_QL (K : sd_K) (E : sd_Env) (L : List Nat) (r : Int64) (M1 : sd_Mem) : State → Prop := MQ K.2.2.2.2.2.2.1 (va_Ql (fun r' M' => r' = r ∧ M' = M1) (sd_Wd E L) (sd_adr E L)) K.2.2.2.2.2.1 K.2.2.2.1 0 0 (sd_adr E L)
def sd_QV (K : sd_K) (E : sd_Env) (L : List Nat) (M1 : sd_Mem) : State → Prop := MQ K.2.2.2.2.2.2.1 (va_Qv (fun M' => M' = M1) (sd_Wd E L) (sd_adr E L)) K.2.2.2.2.2.1 K.2.2.2.1 0 0 (sd_adr E L)
def sd_QR (K : sd_K) (E : sd_Env) (L : List Nat) (id : Nat) (M1 : sd_Mem) : State → Prop := MQ K.2.2.2.2.2.2.1 (va_Qr (fun M' => M' = M1) (fun M' a t => a = E.2.2 id ∧ sd_Wd E L M' t) (sd_adr E L)) K.2.2.2.2.2.1 K.2.2.2.1 0 0 (sd_adr E L)
/-! from the walk to the contract -/
theorem sd_ent0 {l : Launch} {y : MethodName} {mL : Nat} {rm : Room} {av : List Value} {Qc : Array Value → State → Outcome → State → Prop} (hy : plainName y.cls = true) (hlen : (lg_sl av).length ≤ mL)
    (body : ∀ (p : Program) (e : Env) (s : State) (m : MethodId) (below : List Frame) (meth : Method) (c : Code), sd_C (p, l, e, s, m, av.toArray, below, meth, c) E L y.cls cc mL ret → sd_Z (p, l, e, s, m, av.toArray, below, meth, c) rm E L mL (MQ below Qc av.toArray s 0 0 (sd_adr E L)) M 0 (lv_args 0 av) []) :
    Met l y (Cond.code y cc mL ret :: sd_TW) rm (va_Pc av (sd_Wd E L M)) Qc 0 0 (sd_adr E L) := by
  refine Met.ofW (cc := cc) (maxL := mL) (ret := ret) hy rfl ?_
  intro p e s m args below meth c s₁ B hml hv
  obtain ⟨rfl, hP, hK, hD, hN, hW⟩ := hv
  have hts := atoms_spec (ws := Cond.code y cc mL ret :: sd_TW) B.pre
  have C : sd_C (p, l, e, s, m, av.toArray, below, meth, c) E L y.cls cc mL ret := ⟨B.exec, B.bytes, hml, findClass_of_methodNamed B.named, fun w hw => hts w (List.mem_cons_of_mem _ hw), B.returns, B.notSynchronized, hK, hN, hW⟩
  have hl := lv_entry av (n := mL) hlen
  rw [lg_entry_eq]
  exact body p e s m below meth c C s.heap [] _ hP (sd_pic_D hD) va_S.rf hl
/-! ends -/
theorem sd_iret {r v : Int32} {M1 : sd_Mem} (C : sd_C K E L own cc nL (some .int)) (hd : decode cc pc = .ok (.ireturn, 1)) (h1 : v = r) (h2 : M = M1) : sd_Z K R E L nL (sd_QI K E L r M1) M pc lv [.int v] := by
  subst h1; subst h2
  intro H locs ls hP hD hS hl
  exact W.iret C.1 C.2.1 C.2.2.2.2.2.1 (fun t ht hW => ⟨⟨v, M, rfl, ⟨rfl, rfl⟩, sd_Wd_at C hP hD hS ht hW⟩, hS.F ht⟩) hS.2.2 hd C.2.2.2.2.2.2.1
theorem sd_zret {r v : Int32} {M1 : sd_Mem} (C : sd_C K E L own cc nL (some .boolean)) (hd : decode cc pc = .ok (.ireturn, 1)) (hb : v &&& 1 = v) (h1 : v = r) (h2 : M = M1) : sd_Z K R E L nL (sd_QI K E L r M1) M pc lv [.int v] := by
  subst h1; subst h2
  intro H locs ls hP hD hS hl
  exact W.zret C.1 C.2.1 C.2.2.2.2.2.1 (by show Value.int (v &&& 1) = _; rw [hb]) (fun t ht hW => ⟨⟨v, M, rfl, ⟨rfl, rfl⟩, sd_Wd_at C hP hD hS ht hW⟩, hS.F ht⟩) hS.2.2 hd C.2.2.2.2.2.2.1
theorem sd_lret {r v : Int64} {M1 : sd_Mem} (C : sd_C K E L own cc nL (some .long)) (hd : decode cc pc = .ok (.lreturn, 1)) (h1 : v = r) (h2 : M = M1) : sd_Z K R E L nL (sd_QL K E L r M1) M pc lv [.long v] := by
  subst h1; subst h2
  intro H locs ls hP hD hS hl
  exact W.lret C.1 C.2.1 C.2.2.2.2.2.1 (fun t ht hW => ⟨⟨v, M, rfl, ⟨rfl, rfl⟩, sd_Wd_at C hP hD hS ht hW⟩, hS.F ht⟩) hS.2.2 hd C.2.2.2.2.2.2.1
theorem sd_vret {M1 : sd_Mem} (C : sd_C K E L own cc nL none) (hd : decode cc pc = .ok (.return_, 1)) (h2 : M = M1) : sd_Z K R E L nL (sd_QV K E L M1) M pc lv [] := by
  subst h2
  intro H locs ls hP hD hS hl
  exact W.vret C.1 C.2.1 C.2.2.2.2.2.1 (fun t ht hW => ⟨⟨M, rfl, rfl, sd_Wd_at C hP hD hS ht hW⟩, hS.F ht⟩) hS.2.2 hd C.2.2.2.2.2.2.1
theorem sd_aret {n : String} {id id' : Nat} {M1 : sd_Mem} (C : sd_C K E L own cc nL (some (.object n))) (hd : decode cc pc = .ok (.areturn, 1)) (h1 : id = id') (h2 : M = M1) : sd_Z K R E L nL (sd_QR K E L id' M1) M pc lv [.ref (E.2.2 id)] := by
  subst h1; subst h2
  intro H locs ls hP hD hS hl
  exact W.aret C.1 C.2.1 C.2.2.2.2.2.1 (Or.inl ⟨n, rfl⟩) (Or.inr ⟨_, rfl⟩) (fun t ht hW => ⟨⟨M, _, rfl, rfl, rfl, sd_Wd_at C hP hD hS ht hW⟩, hS.F ht⟩) hS.2.2 hd C.2.2.2.2.2.2.1
end SDZ
