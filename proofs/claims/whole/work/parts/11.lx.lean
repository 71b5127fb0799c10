/-! the law's own judgement: the class's cells hold M, the reference's N -/
def sd_A0 (K : sd_K) : Nat → Prop := fun q => K.2.2.2.1.heap.size ≤ q
def sd_GL (K : sd_K) (E : sd_Env) (b : Nat) (xs : Nat → Int32) (Lx : Nat) : Prop := sd_G K E (sd_A0 K) RL cL_law 4 (some .boolean) ∧ va_X b Lx xs K.2.2.2.1 K.2.2.2.1.heap ∧ b < K.2.2.2.1.heap.size
def sd_X (K : sd_K) (E : sd_Env) (b : Nat) (xs : Nat → Int32) (Lx : Nat) (Q : State → Prop) (M N : sd_Mem) (pc : Nat) (lv : List (Nat × Value)) (st : List Value) : Prop :=
  ∀ (H : Heap) (locs : List Loc) (ls : Array Slot), va_P E.1 sd_cl (sd_pic E sd_LC M) H → va_P E.1 sd_cl (sd_pic E sd_LM N) H → va_D (sd_A0 K) (sd_pic E sd_LC M ++ sd_pic E sd_LM N) → va_S (sd_A0 K) K.2.2.2.1.heap H locs → lv_has ls 4 lv →
    W K.1 K.2.1 K.2.2.1 room_1 K.2.2.2.1 K.2.2.2.2.1 K.2.2.2.2.2.1 K.2.2.2.2.2.2.1 K.2.2.2.2.2.2.2.1 K.2.2.2.2.2.2.2.2 H locs 600000 7302250 Q (F0 K.2.2.2.2.1 pc ls st)
/-- addresses alone decide whether cells are apart -/
theorem sd_D_fst {A : Nat → Prop} {w w' : va_W} (h : w.map Prod.fst = w'.map Prod.fst) (hD : va_D A w) : va_D A w' := by
  have key : ∀ (k : Nat) (q : Nat × va_E), w'[k]? = some q → ∃ q0, w[k]? = some q0 ∧ q0.1 = q.1 := by
    intro k q hk
    have h1 : (w.map Prod.fst)[k]? = some q.1 := by rw [h, List.getElem?_map, hk]; rfl
    rw [List.getElem?_map] at h1
    cases hw : w[k]? with
    | none => rw [hw] at h1; cases h1
    | some q0 => rw [hw] at h1; exact ⟨q0, rfl, Option.some.inj h1⟩
  refine ⟨fun i j x y hi hj hxy => ?_, fun k q hk => ?_⟩
  · obtain ⟨x0, h1, h2⟩ := key i x hi
    obtain ⟨y0, h3, h4⟩ := key j y hj
    exact hD.1 i j x0 y0 h1 h3 (h2.trans (hxy.trans h4.symm))
  · obtain ⟨q0, h1, h2⟩ := key k q hk
    rw [← h2]
    exact hD.2 k q0 h1
theorem sd_pic_fst (E : sd_Env) (L : List Nat) (M : sd_Mem) : (sd_pic E L M).map Prod.fst = L.map E.2.2 := by
  unfold sd_pic
  rw [List.map_map]
  rfl
theorem sd_D_parts {A : Nat → Prop} {w1 w2 : va_W} (h : va_D A (w1 ++ w2)) : va_D A w1 ∧ va_D A w2 ∧ ∀ (i j : Nat) (p q : Nat × va_E), w1[i]? = some p → w2[j]? = some q → p.1 ≠ q.1 := by
  have l1 : ∀ (k : Nat) (q : Nat × va_E), w1[k]? = some q → (w1 ++ w2)[k]? = some q := fun k q hk => by rw [List.getElem?_append_left (List.getElem?_eq_some_iff.mp hk).1]; exact hk
  have l2 : ∀ (k : Nat) (q : Nat × va_E), w2[k]? = some q → (w1 ++ w2)[w1.length + k]? = some q := fun k q hk => by rw [List.getElem?_append_right (by omega), Nat.add_sub_cancel_left]; exact hk
  refine ⟨⟨fun i j p q hi hj e => h.1 i j p q (l1 _ _ hi) (l1 _ _ hj) e, fun k q hk => h.2 k q (l1 _ _ hk)⟩, ⟨fun i j p q hi hj e => ?_, fun k q hk => h.2 _ q (l2 _ _ hk)⟩, fun i j p q hi hj e => ?_⟩
  · have := h.1 _ _ p q (l2 _ _ hi) (l2 _ _ hj) e
    omega
  · have := h.1 _ _ p q (l1 _ _ hi) (l2 _ _ hj) e
    have := (List.getElem?_eq_some_iff.mp hi).1
    omega
section SDX
variable {K : sd_K} {E : sd_Env} {b : Nat} {xs : Nat → Int32} {Lx : Nat} {Q : State → Prop} {M N : sd_Mem} {pc n' : Nat} {lv : List (Nat × Value)} {st : List Value}
theorem sd_xiadd (G : sd_GL K E b xs Lx) {x y : Int32} (hd : decode cL_law pc = .ok (.iadd, 1)) (hn : pc + 1 = n') (k : sd_X K E b xs Lx Q M N  n' lv (.int (x + y) :: st)) : sd_X K E b xs Lx Q M N  pc lv (.int y :: .int x :: st) := by subst hn; exact fun H locs ls hP hPN hD hS hl => lv_iadd G.1.1 G.1.2.1 hd  (k H locs ls hP hPN hD hS hl)
theorem sd_xisub (G : sd_GL K E b xs Lx) {x y : Int32} (hd : decode cL_law pc = .ok (.isub, 1)) (hn : pc + 1 = n') (k : sd_X K E b xs Lx Q M N  n' lv (.int (x - y) :: st)) : sd_X K E b xs Lx Q M N  pc lv (.int y :: .int x :: st) := by subst hn; exact fun H locs ls hP hPN hD hS hl => lv_isub G.1.1 G.1.2.1 hd  (k H locs ls hP hPN hD hS hl)
theorem sd_xiand (G : sd_GL K E b xs Lx) {x y : Int32} (hd : decode cL_law pc = .ok (.iand, 1)) (hn : pc + 1 = n') (k : sd_X K E b xs Lx Q M N  n' lv (.int (x &&& y) :: st)) : sd_X K E b xs Lx Q M N  pc lv (.int y :: .int x :: st) := by subst hn; exact fun H locs ls hP hPN hD hS hl => lv_iand G.1.1 G.1.2.1 hd  (k H locs ls hP hPN hD hS hl)
theorem sd_xiconst (G : sd_GL K E b xs Lx) {n : Int} {v : Int32} (hd : decode cL_law pc = .ok (.iconst n, 1)) (hv : Int32.ofInt n = v) (hn : pc + 1 = n') (k : sd_X K E b xs Lx Q M N  n' lv (.int v :: st)) : sd_X K E b xs Lx Q M N  pc lv (st) := by subst hn; exact fun H locs ls hP hPN hD hS hl => lv_iconst G.1.1 G.1.2.1 hd hv (k H locs ls hP hPN hD hS hl)
theorem sd_xbipush (G : sd_GL K E b xs Lx) {n : Int} {v : Int32} (hd : decode cL_law pc = .ok (.bipush n, 2)) (hv : (Int8.ofInt n).toInt32 = v) (hn : pc + 2 = n') (k : sd_X K E b xs Lx Q M N  n' lv (.int v :: st)) : sd_X K E b xs Lx Q M N  pc lv (st) := by subst hn; exact fun H locs ls hP hPN hD hS hl => lv_bipush G.1.1 G.1.2.1 hd hv (k H locs ls hP hPN hD hS hl)
theorem sd_xiload_n (G : sd_GL K E b xs Lx) (j : Nat) {k' : Fin 4} {i : Nat} {x : Int32} (hd : decode cL_law pc = .ok (.iload_n k', 1)) (hi : (k' : Nat) = i) (hj : lv[j]? = some (i, .int x)) (hn : pc + 1 = n') (k : sd_X K E b xs Lx Q M N  n' lv (.int x :: st)) : sd_X K E b xs Lx Q M N  pc lv (st) := by subst hn; exact fun H locs ls hP hPN hD hS hl => lv_iload_n G.1.1 G.1.2.1 hd hi (lv_at hl j hj) (k H locs ls hP hPN hD hS hl)
theorem sd_xaload_n (G : sd_GL K E b xs Lx) (j : Nat) {k' : Fin 4} {i : Nat} {x : Nat} (hd : decode cL_law pc = .ok (.aload_n k', 1)) (hi : (k' : Nat) = i) (hj : lv[j]? = some (i, .ref x)) (hn : pc + 1 = n') (k : sd_X K E b xs Lx Q M N  n' lv (.ref x :: st)) : sd_X K E b xs Lx Q M N  pc lv (st) := by subst hn; exact fun H locs ls hP hPN hD hS hl => lv_aload_n G.1.1 G.1.2.1 hd hi (lv_at hl j hj) (k H locs ls hP hPN hD hS hl)
theorem sd_xiinc (lv' : List (Nat × Value)) (j : Nat) (G : sd_GL K E b xs Lx) {i : Nat} {n : Int} {x v : Int32} (hd : decode cL_law pc = .ok (.iinc i n, 3)) (hj : lv[j]? = some (i, .int x)) (hv : x + Int32.ofInt n = v) (hb : i < 4) (hf : (i, Value.int v) :: lv.filter (fun q => !(q.1 == i) && !(q.1 + 1 == i && q.2.category == 2)) = lv') (hn : pc + 3 = n') (k : sd_X K E b xs Lx Q M N  n' lv' st) : sd_X K E b xs Lx Q M N  pc lv st := by subst hn; exact fun H locs ls hP hPN hD hS hl => lv_iinc G.1.1 G.1.2.1 hd hl hj hv hb hf (fun ls' hl' => k H locs ls' hP hPN hD hS hl')
theorem sd_xsld (G : sd_GL K E b xs Lx) {i : Int32} (hin : vp_in i Lx) (hd : decode cL_law pc = .ok (.iaload, 1)) (hn : pc + 1 = n') (k : sd_X K E b xs Lx Q M N n' lv (.int (xs i.toNatClampNeg) :: st)) : sd_X K E b xs Lx Q M N pc lv (.int i :: .ref b :: st) := by
  subst hn
  exact fun H locs ls hP hPN hD hS hl => va_sld G.1.1 G.1.2.1 G.2.1 G.2.2 (Nat.not_le.mpr G.2.2) hS hin hd (k H locs ls hP hPN hD hS hl)
theorem sd_xslen (G : sd_GL K E b xs Lx) (hd : decode cL_law pc = .ok (.arraylength, 1)) (hn : pc + 1 = n') (k : sd_X K E b xs Lx Q M N n' lv (.int (Int32.ofNat Lx) :: st)) : sd_X K E b xs Lx Q M N pc lv (.ref b :: st) := by
  subst hn
  exact fun H locs ls hP hPN hD hS hl => va_slen G.1.1 G.1.2.1 G.2.1 G.2.2 (Nat.not_le.mpr G.2.2) hS hd (k H locs ls hP hPN hD hS hl)
theorem sd_xgoto (G : sd_GL K E b xs Lx) {off : Int} {tgt : Nat} (hd : decode cL_law pc = .ok (.goto off, 3)) (ht : (pc : Int) + off = (tgt : Int)) (k : sd_X K E b xs Lx Q M N tgt lv st) : sd_X K E b xs Lx Q M N pc lv st := fun H locs ls hP hPN hD hS hl => lv_goto G.1.1 G.1.2.1 hd ht (k H locs ls hP hPN hD hS hl)
theorem sd_xgt (G : sd_GL K E b xs Lx) {x y : Int32} {off : Int} {tgt : Nat} (hd : decode cL_law pc = .ok (.if_icmp .gt off, 3)) (ht : (pc : Int) + off = (tgt : Int)) (hn : pc + 3 = n') (kt : y < x → sd_X K E b xs Lx Q M N tgt lv st) (kf : ¬ y < x → sd_X K E b xs Lx Q M N n' lv st) : sd_X K E b xs Lx Q M N pc lv (.int y :: .int x :: st) := by
  subst hn
  exact fun H locs ls hP hPN hD hS hl => lv_icmp_gt G.1.1 G.1.2.1 hd ht (fun q => kt q H locs ls hP hPN hD hS hl) (fun q => kf q H locs ls hP hPN hD hS hl)
theorem sd_xeq (G : sd_GL K E b xs Lx) {x y : Int32} {off : Int} {tgt : Nat} (hd : decode cL_law pc = .ok (.if_icmp .eq off, 3)) (ht : (pc : Int) + off = (tgt : Int)) (h : x = y) (kt : sd_X K E b xs Lx Q M N tgt lv st) : sd_X K E b xs Lx Q M N pc lv (.int y :: .int x :: st) := fun H locs ls hP hPN hD hS hl => lv_icmp_eq G.1.1 G.1.2.1 hd ht (fun _ => kt H locs ls hP hPN hD hS hl) (fun q => absurd h q)
theorem sd_xeqL (G : sd_GL K E b xs Lx) {x y : Int64} {off : Int} {tgt : Nat} (hd : decode cL_law pc = .ok (.lcmp, 1)) (hd2 : decode cL_law (pc + 1) = .ok (.ifCond .eq off, 3)) (ht : ((pc + 1 : Nat) : Int) + off = (tgt : Int)) (h : x = y) (kt : sd_X K E b xs Lx Q M N tgt lv st) : sd_X K E b xs Lx Q M N pc lv (.long y :: .long x :: st) := fun H locs ls hP hPN hD hS hl => W.lcmp G.1.1 G.1.2.1 hd (lv_if_eq G.1.1 G.1.2.1 hd2 ht (fun _ => kt H locs ls hP hPN hD hS hl) (fun q => absurd (by subst h; unfold lg_cmp; rw [if_neg (by exact fun z => absurd z (Int64.lt_irrefl)), if_pos rfl]) q))
theorem sd_xtabOut (G : sd_GL K E b xs Lx) {dflt lo hi : Int} {offs : Array Int} {len : Nat} {x : Int32} {tgt : Nat} (hd : decode cL_law pc = .ok (.tableswitch dflt lo hi offs, len)) (h : x.toInt < lo ∨ hi < x.toInt) (ht : (pc : Int) + dflt = (tgt : Int)) (k : sd_X K E b xs Lx Q M N tgt lv st) : sd_X K E b xs Lx Q M N pc lv (.int x :: st) := fun H locs ls hP hPN hD hS hl => lv_tableOut G.1.1 G.1.2.1 hd h ht (k H locs ls hP hPN hD hS hl)
theorem sd_xtabIn (G : sd_GL K E b xs Lx) {dflt lo hi : Int} {offs : Array Int} {len : Nat} {x v : Int32} {off : Int} {tgt : Nat} (hx : x = v) (hd : decode cL_law pc = .ok (.tableswitch dflt lo hi offs, len)) (h1 : ¬ v.toInt < lo) (h2 : ¬ hi < v.toInt) (ho : offs[(v.toInt - lo).toNat]? = some off) (ht : (pc : Int) + off = (tgt : Int)) (k : sd_X K E b xs Lx Q M N tgt lv st) : sd_X K E b xs Lx Q M N pc lv (.int x :: st) := by
  subst hx
  exact fun H locs ls hP hPN hD hS hl => lv_tableIn G.1.1 G.1.2.1 hd h1 h2 ho ht (k H locs ls hP hPN hD hS hl)
theorem sd_adr_A0 {L : List Nat} {w : sd_Mem} (hD : va_D (sd_A0 K) (sd_pic E L w)) : ∀ q, sd_adr E L q → sd_A0 K q := fun q h => by
  obtain ⟨j, hj, rfl⟩ := h
  obtain ⟨k, -, hk⟩ := sd_pic_at (E := E) (M := w) hj
  exact hD.2 k _ hk
theorem sd_xcallCI (As rest : List Value) (G : sd_GL K E b xs Lx) {y : MethodName} {bb : ByteArray} {mL n index : Nat} {rt : Option FieldType} {rm : Room} {r0 : Int32} {M1 : sd_Mem} {fs : List Value} (hM : sd_MI K.2.1 E sd_LC y bb mL rt rm (.ref (E.2.2 0) :: As) M r0 M1) (hw : sd_VW RL index y bb mL rt n) (hrm : sd_rmok room_1 rm mL) (he : sd_ent E 0 (M.1 0) (M.2 0) = .inr (10, fs)) (hcn : RX10 = y.cls) (hlen : As.length = n) (hrest : (rest.map fun v => v.category).sum ≤ 8) (hd : decode cL_law pc = .ok (.invokevirtual index, 3)) (hn : pc + 3 = n') (kk : sd_X K E b xs Lx Q M1 N n' lv (.int r0 :: rest)) : sd_X K E b xs Lx Q M N pc lv (As.reverse ++ .ref (E.2.2 0) :: rest) := by
  subst hn
  intro H locs ls hP hPN hD hS hl
  obtain ⟨hDC, hDN, hap⟩ := sd_D_parts hD
  have hsub := sd_adr_A0 hDC
  obtain ⟨q0, -, hq⟩ := sd_pic_at (E := E) (M := M) (L := sd_LC) (id := 0) (by decide)
  rw [he] at hq
  have hrv := va_recv G.1.2.2.2.2.2.2.2.1 hP (show sd_cl[10]? = some (RX10, TX10, 14) from rfl) hq
  rw [show (RX10, TX10, 14).1 = y.cls from hcn] at hrv
  refine va_calli (va_runV (As := As) (rest := rest) ⟨G.1.1, G.1.2.1, G.1.2.2.1, G.1.2.2.2.1, G.1.2.2.2.2.1⟩ hM ⟨callB_of n G.1.2.2.2.2.1 (sd_goodW hw.2.2.2.2.1) rfl hrm.1 hrm.2.1 (G.1.2.2.2.2.1 _ hw.2.2.2.1) (G.1.2.2.2.2.1 _ hw.1) hw.2.2.2.2.2 hrm.2.2, G.1.2.2.2.2.1 _ hw.2.1, G.1.2.2.2.2.1 _ hw.2.2.1⟩ ⟨sd_blind _ E sd_LC M, hrv, fun U hU hW => ⟨rfl, by rw [hU]; exact hP, va_K.moved hW.alike G.1.2.2.2.2.2.2.2.1, hDC.weaken (fun _ _ _ _ => trivial), G.1.2.2.2.2.2.2.2.2.1.warm hW, by
    rw [hU]
    exact (((G.1.2.2.2.2.2.2.2.2.2.1).kept (fun a h1 h2 => hS.2.1 a h1 h2)).narrow hsub).moved hW.alike⟩⟩ rfl hlen hl.1 rfl (lv_room hrest) hd ⟨Nat.le_refl _, Nat.le_refl _⟩) hS (fun q _ h => hsub q h) hsub (fun r u t H1 locs1 ht hvm hw1 hB _ hk1 hS1 => ?_)
  obtain ⟨rfl, rfl⟩ := hw1
  obtain ⟨hP1, hK1, hD1, -, -⟩ := hB
  rw [ht] at hP1
  have hother : va_P E.1 sd_cl (sd_pic E sd_LM N) H1 := hPN.kept (fun k q hk => hk1 q.1 ((hPN k q hk).lt) (fun h => by
    obtain ⟨j, hj, e⟩ := h
    obtain ⟨k2, -, hk2⟩ := sd_pic_at (E := E) (M := M) hj
    exact hap k2 k _ q hk2 hk e))
  exact kk H1 locs1 ls hP1 hother (sd_D_fst (by simp only [List.map_append, sd_pic_fst]) hD) hS1 hl
theorem sd_xcallMI (As rest : List Value) (G : sd_GL K E b xs Lx) {y : MethodName} {bb : ByteArray} {mL n index : Nat} {rt : Option FieldType} {rm : Room} {r0 : Int32} {M1 : sd_Mem} {fs : List Value} (hM : sd_MI K.2.1 E sd_LM y bb mL rt rm (.ref (E.2.2 100) :: As) N r0 M1) (hw : sd_VW RL index y bb mL rt n) (hrm : sd_rmok room_1 rm mL) (he : sd_ent E 100 (N.1 100) (N.2 100) = .inr (11, fs)) (hcn : RX11 = y.cls) (hlen : As.length = n) (hrest : (rest.map fun v => v.category).sum ≤ 8) (hd : decode cL_law pc = .ok (.invokevirtual index, 3)) (hn : pc + 3 = n') (kk : sd_X K E b xs Lx Q M M1 n' lv (.int r0 :: rest)) : sd_X K E b xs Lx Q M N pc lv (As.reverse ++ .ref (E.2.2 100) :: rest) := by
  subst hn
  intro H locs ls hP hPN hD hS hl
  obtain ⟨hDC, hDN, hap⟩ := sd_D_parts hD
  have hsub := sd_adr_A0 hDN
  obtain ⟨q0, -, hq⟩ := sd_pic_at (E := E) (M := N) (L := sd_LM) (id := 100) (by decide)
  rw [he] at hq
  have hrv := va_recv G.1.2.2.2.2.2.2.2.1 hPN (show sd_cl[11]? = some (RX11, TX11, 36) from rfl) hq
  rw [show (RX11, TX11, 36).1 = y.cls from hcn] at hrv
  refine va_calli (va_runV (As := As) (rest := rest) ⟨G.1.1, G.1.2.1, G.1.2.2.1, G.1.2.2.2.1, G.1.2.2.2.2.1⟩ hM ⟨callB_of n G.1.2.2.2.2.1 (sd_goodW hw.2.2.2.2.1) rfl hrm.1 hrm.2.1 (G.1.2.2.2.2.1 _ hw.2.2.2.1) (G.1.2.2.2.2.1 _ hw.1) hw.2.2.2.2.2 hrm.2.2, G.1.2.2.2.2.1 _ hw.2.1, G.1.2.2.2.2.1 _ hw.2.2.1⟩ ⟨sd_blind _ E sd_LM N, hrv, fun U hU hW => ⟨rfl, by rw [hU]; exact hPN, va_K.moved hW.alike G.1.2.2.2.2.2.2.2.1, hDN.weaken (fun _ _ _ _ => trivial), G.1.2.2.2.2.2.2.2.2.1.warm hW, by
    rw [hU]
    exact (((G.1.2.2.2.2.2.2.2.2.2.1).kept (fun a h1 h2 => hS.2.1 a h1 h2)).narrow hsub).moved hW.alike⟩⟩ rfl hlen hl.1 rfl (lv_room hrest) hd ⟨Nat.le_refl _, Nat.le_refl _⟩) hS (fun q _ h => hsub q h) hsub (fun r u t H1 locs1 ht hvm hw1 hB _ hk1 hS1 => ?_)
  obtain ⟨rfl, rfl⟩ := hw1
  obtain ⟨hP1, hK1, hD1, -, -⟩ := hB
  rw [ht] at hP1
  have hother : va_P E.1 sd_cl (sd_pic E sd_LC M) H1 := hP.kept (fun k q hk => hk1 q.1 ((hP k q hk).lt) (fun h => by
    obtain ⟨j, hj, e⟩ := h
    obtain ⟨k2, -, hk2⟩ := sd_pic_at (E := E) (M := N) hj
    exact hap k k2 q _ hk hk2 e.symm))
  exact kk H1 locs1 ls hother hP1 (sd_D_fst (by simp only [List.map_append, sd_pic_fst]) hD) hS1 hl
theorem sd_xcallCL (As rest : List Value) (G : sd_GL K E b xs Lx) {y : MethodName} {bb : ByteArray} {mL n index : Nat} {rt : Option FieldType} {rm : Room} {r0 : Int64} {M1 : sd_Mem} {fs : List Value} (hM : sd_ML K.2.1 E sd_LC y bb mL rt rm (.ref (E.2.2 0) :: As) M r0 M1) (hw : sd_VW RL index y bb mL rt n) (hrm : sd_rmok room_1 rm mL) (he : sd_ent E 0 (M.1 0) (M.2 0) = .inr (10, fs)) (hcn : RX10 = y.cls) (hlen : As.length = n) (hrest : (rest.map fun v => v.category).sum ≤ 8) (hd : decode cL_law pc = .ok (.invokevirtual index, 3)) (hn : pc + 3 = n') (kk : sd_X K E b xs Lx Q M1 N n' lv (.long r0 :: rest)) : sd_X K E b xs Lx Q M N pc lv (As.reverse ++ .ref (E.2.2 0) :: rest) := by
  subst hn
  intro H locs ls hP hPN hD hS hl
  obtain ⟨hDC, hDN, hap⟩ := sd_D_parts hD
  have hsub := sd_adr_A0 hDC
  obtain ⟨q0, -, hq⟩ := sd_pic_at (E := E) (M := M) (L := sd_LC) (id := 0) (by decide)
  rw [he] at hq
  have hrv := va_recv G.1.2.2.2.2.2.2.2.1 hP (show sd_cl[10]? = some (RX10, TX10, 14) from rfl) hq
  rw [show (RX10, TX10, 14).1 = y.cls from hcn] at hrv
  refine va_calll (va_runV (As := As) (rest := rest) ⟨G.1.1, G.1.2.1, G.1.2.2.1, G.1.2.2.2.1, G.1.2.2.2.2.1⟩ hM ⟨callB_of n G.1.2.2.2.2.1 (sd_goodW hw.2.2.2.2.1) rfl hrm.1 hrm.2.1 (G.1.2.2.2.2.1 _ hw.2.2.2.1) (G.1.2.2.2.2.1 _ hw.1) hw.2.2.2.2.2 hrm.2.2, G.1.2.2.2.2.1 _ hw.2.1, G.1.2.2.2.2.1 _ hw.2.2.1⟩ ⟨sd_blind _ E sd_LC M, hrv, fun U hU hW => ⟨rfl, by rw [hU]; exact hP, va_K.moved hW.alike G.1.2.2.2.2.2.2.2.1, hDC.weaken (fun _ _ _ _ => trivial), G.1.2.2.2.2.2.2.2.2.1.warm hW, by
    rw [hU]
    exact (((G.1.2.2.2.2.2.2.2.2.2.1).kept (fun a h1 h2 => hS.2.1 a h1 h2)).narrow hsub).moved hW.alike⟩⟩ rfl hlen hl.1 rfl (lv_room hrest) hd ⟨Nat.le_refl _, Nat.le_refl _⟩) hS (fun q _ h => hsub q h) hsub (fun r u t H1 locs1 ht hvm hw1 hB _ hk1 hS1 => ?_)
  obtain ⟨rfl, rfl⟩ := hw1
  obtain ⟨hP1, hK1, hD1, -, -⟩ := hB
  rw [ht] at hP1
  have hother : va_P E.1 sd_cl (sd_pic E sd_LM N) H1 := hPN.kept (fun k q hk => hk1 q.1 ((hPN k q hk).lt) (fun h => by
    obtain ⟨j, hj, e⟩ := h
    obtain ⟨k2, -, hk2⟩ := sd_pic_at (E := E) (M := M) hj
    exact hap k2 k _ q hk2 hk e))
  exact kk H1 locs1 ls hP1 hother (sd_D_fst (by simp only [List.map_append, sd_pic_fst]) hD) hS1 hl
theorem sd_xcallML (As rest : List Value) (G : sd_GL K E b xs Lx) {y : MethodName} {bb : ByteArray} {mL n index : Nat} {rt : Option FieldType} {rm : Room} {r0 : Int64} {M1 : sd_Mem} {fs : List Value} (hM : sd_ML K.2.1 E sd_LM y bb mL rt rm (.ref (E.2.2 100) :: As) N r0 M1) (hw : sd_VW RL index y bb mL rt n) (hrm : sd_rmok room_1 rm mL) (he : sd_ent E 100 (N.1 100) (N.2 100) = .inr (11, fs)) (hcn : RX11 = y.cls) (hlen : As.length = n) (hrest : (rest.map fun v => v.category).sum ≤ 8) (hd : decode cL_law pc = .ok (.invokevirtual index, 3)) (hn : pc + 3 = n') (kk : sd_X K E b xs Lx Q M M1 n' lv (.long r0 :: rest)) : sd_X K E b xs Lx Q M N pc lv (As.reverse ++ .ref (E.2.2 100) :: rest) := by
  subst hn
  intro H locs ls hP hPN hD hS hl
  obtain ⟨hDC, hDN, hap⟩ := sd_D_parts hD
  have hsub := sd_adr_A0 hDN
  obtain ⟨q0, -, hq⟩ := sd_pic_at (E := E) (M := N) (L := sd_LM) (id := 100) (by decide)
  rw [he] at hq
  have hrv := va_recv G.1.2.2.2.2.2.2.2.1 hPN (show sd_cl[11]? = some (RX11, TX11, 36) from rfl) hq
  rw [show (RX11, TX11, 36).1 = y.cls from hcn] at hrv
  refine va_calll (va_runV (As := As) (rest := rest) ⟨G.1.1, G.1.2.1, G.1.2.2.1, G.1.2.2.2.1, G.1.2.2.2.2.1⟩ hM ⟨callB_of n G.1.2.2.2.2.1 (sd_goodW hw.2.2.2.2.1) rfl hrm.1 hrm.2.1 (G.1.2.2.2.2.1 _ hw.2.2.2.1) (G.1.2.2.2.2.1 _ hw.1) hw.2.2.2.2.2 hrm.2.2, G.1.2.2.2.2.1 _ hw.2.1, G.1.2.2.2.2.1 _ hw.2.2.1⟩ ⟨sd_blind _ E sd_LM N, hrv, fun U hU hW => ⟨rfl, by rw [hU]; exact hPN, va_K.moved hW.alike G.1.2.2.2.2.2.2.2.1, hDN.weaken (fun _ _ _ _ => trivial), G.1.2.2.2.2.2.2.2.2.1.warm hW, by
    rw [hU]
    exact (((G.1.2.2.2.2.2.2.2.2.2.1).kept (fun a h1 h2 => hS.2.1 a h1 h2)).narrow hsub).moved hW.alike⟩⟩ rfl hlen hl.1 rfl (lv_room hrest) hd ⟨Nat.le_refl _, Nat.le_refl _⟩) hS (fun q _ h => hsub q h) hsub (fun r u t H1 locs1 ht hvm hw1 hB _ hk1 hS1 => ?_)
  obtain ⟨rfl, rfl⟩ := hw1
  obtain ⟨hP1, hK1, hD1, -, -⟩ := hB
  rw [ht] at hP1
  have hother : va_P E.1 sd_cl (sd_pic E sd_LC M) H1 := hP.kept (fun k q hk => hk1 q.1 ((hP k q hk).lt) (fun h => by
    obtain ⟨j, hj, e⟩ := h
    obtain ⟨k2, -, hk2⟩ := sd_pic_at (E := E) (M := N) hj
    exact hap k k2 q _ hk hk2 e.symm))
  exact kk H1 locs1 ls hother hP1 (sd_D_fst (by simp only [List.map_append, sd_pic_fst]) hD) hS1 hl
end SDX
