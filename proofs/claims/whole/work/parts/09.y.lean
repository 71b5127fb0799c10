/-! ===== BEGIN new T[n][m]: the outer array a place, the inner ones among the pooled ===== -/
/-- f, but v at every address of l -/
def sd_vr_up {α : Type} (f : Nat → α) (l : List Nat) (v : α) : Nat → α := fun a => if a ∈ l then v else f a
theorem sd_vr_up_in {α : Type} {f : Nat → α} {l : List Nat} {v : α} {a : Nat} (h : a ∈ l) : sd_vr_up f l v a = v := if_pos h
theorem sd_vr_up_ne {α : Type} {f : Nat → α} {l : List Nat} {v : α} {a : Nat} (h : a ∉ l) : sd_vr_up f l v a = f a := if_neg h
theorem sd_vr_rows {L l : List Nat} {f : Nat → va_E} {e : va_E} (h : ∀ a, a ∈ l → a ∉ L) : va_pl L f ++ l.map (fun a => (a, e)) = va_pl (L ++ l) (sd_vr_up f l e) := by
  unfold va_pl
  rw [List.map_append]
  congr 1
  · apply List.map_congr_left
    intro a ha
    rw [sd_vr_up_ne (fun q => h a q ha)]
  · apply List.map_congr_left
    intro a ha
    rw [sd_vr_up_in ha]
theorem sd_vr_lay {X rows : va_W} {x : Nat × va_E} {pl : va_W} {D : va_G} {cl : List vw_C} {H : Heap} (hP : va_P D cl (((X ++ pl) ++ [x]) ++ rows) H) : va_P D cl ((X ++ [x]) ++ (pl ++ rows)) H := by
  rw [List.append_assoc (X ++ pl)] at hP
  have h := va_P.swap hP
  rw [← List.append_assoc X] at h
  have h2 := va_P.swap h
  rw [List.append_assoc (X ++ [x])] at h2
  exact h2
theorem sd_vr_layD {X rows : va_W} {x : Nat × va_E} {pl : va_W} {A : Nat → Prop} (hD : va_D A (((X ++ pl) ++ [x]) ++ rows)) : va_D A ((X ++ [x]) ++ (pl ++ rows)) := by
  rw [List.append_assoc (X ++ pl)] at hD
  have h := va_D.swap hD
  rw [← List.append_assoc X] at h
  have h2 := va_D.swap h
  rw [List.append_assoc (X ++ [x])] at h2
  exact h2
theorem sd_vr_outer (c : ClassId) (N h0 : Nat) : ∀ i : Nat, Jvm.Free.Multi.outerC c N h0 i = arrV c N (fun j => va_rf (if j < i then some (h0 + 1 + j) else none))
  | 0 => by
    show ({ cls := c, slots := Array.replicate N .null, vm := .none } : Cell) = _
    rw [arrV_new]
    refine congrArg (arrV c N) (funext fun j => ?_)
    simp [va_rf]
  | i + 1 => by
    show (Jvm.Free.Multi.outerC c N h0 i).setSlot i (.ref (h0 + 1 + i)) = _
    rw [sd_vr_outer c N h0 i, arrV_store]
    refine congrArg (arrV c N) (funext fun j => ?_)
    by_cases e : j = i
    · subst e
      simp [updV, va_rf]
    · by_cases h : j < i
      · simp [updV, e, h, Nat.lt_succ_of_lt h]
      · simp [updV, e, h, show ¬ j < i + 1 by omega]
section VGM
variable {p : Program} {l : Launch} {e : Env} {R : Room} {s : State} {m : MethodId} {args : Array Value} {below : List Frame} {meth : Method} {c : Code} {H : Heap} {locs : List Loc} {cells slots : Nat} {Q : State → Prop}
variable {cc : ByteArray} {pc : Nat} {ls : Array Slot} {rest : List Value} {D : va_G} {cl : List vw_C} {A : Nat → Prop} {a : Nat} {tys : List (ClassId × FieldType)} {ws : va_W} {H0 : Heap}
theorem sd_mna {X : va_W} {L : List Nat} {f : Nat → va_E} {cc : ByteArray} (hexec : p.tables.exec = Jvm.exec) (hb : c.code = cc) {own : String} {index : Nat} {ty : FieldType} {cy : ClassId} (hown : s.vm.findClass own = some m.cls) (hclink : (Cond.classLink own index ("[" ++ (FieldType.array ty).toString)).before args s = true) (hover : (Cond.arrayOver (.array ty)).before args s = true) (harr : (Cond.arrayClass ty).before args s = true) (hcy : s.vm.findClass (FieldType.array ty).toString = some cy)
    (hK : va_K D cl tys s) (hP : va_P D cl (X ++ va_pl L f) H) (hD : va_D A (X ++ va_pl L f)) (hS : va_S A H0 H locs) (hA : ∀ q, H0.size ≤ q → A q) {n k : Int32} {N' K' : Nat} {z : vp_A} (hn : ¬ n < 0) (hk : ¬ k < 0) (hN : n.toNatClampNeg = N') (hM : k.toNatClampNeg = K')
    (hb1 : N' * 4 ≤ 536870912) (hb2 : K' * componentBytes ty ≤ 536870912) (hb3 : K' ≤ 536870912) (hdf : fits ty (defaultValue ty) = true) (hdd : (defaultValue ty).isDefault = true) (hcells : cells + (1 + N') ≤ R.cells) (hslots : slots + (N' + N' * K') ≤ R.slots) (hz : ∀ c : ClassId, Jvm.Free.Multi.innerC c K' (defaultValue ty) = vp_cell c z) (hdg : decode cc pc = .ok (.multianewarray index 2, 4))
    (kk : ∀ (q : Nat) (r : Nat → Nat) (cA : ClassId) (H1 : Heap), (∀ i j : Nat, i < N' → j < N' → r i = r j → i = j) → (∀ i : Nat, i < N' → r i ∉ L) → va_K D cl (tys ++ [(cA, .array ty)]) s →
      va_P D cl ((X ++ [(q, .inl (cA, N', .inr (.inr (.inr (.inr (fun i => if i < N' then some (r i) else none))))))]) ++ va_pl (L ++ (List.range N').map r) (sd_vr_up f ((List.range N').map r) (.inl (cy, z)))) H1 → va_D A ((X ++ [(q, .inl (cA, N', .inr (.inr (.inr (.inr (fun i => if i < N' then some (r i) else none))))))]) ++ va_pl (L ++ (List.range N').map r) (sd_vr_up f ((List.range N').map r) (.inl (cy, z)))) → va_S A H0 H1 locs →
      W p l e R s m args below meth c H1 locs (cells + 1 + N') (slots + N' + N' * K') Q (F0 m (pc + 4) ls (.ref q :: rest))) : W p l e R s m args below meth c H locs cells slots Q (F0 m pc ls (.int k :: .int n :: rest)) := by
  subst hN
  subst hM
  intro T hT Xs
  obtain ⟨vm₁, cA, comp, -, fA, fC, hO, -, X', step⟩ := Xs.multianewarray2F hexec hown hclink (hover) harr (g := F0 m pc ls (.int k :: .int n :: rest)) rfl (by rw [hb]; exact hdg) rfl hn hk hb1 hb2 hb3 hdf hdd hcells hslots
  have ec : some cy = some comp := hcy.symm.trans fC
  cases ec
  generalize hF : Jvm.Free.Multi.fill (T.setVm vm₁) cA cy n.toNatClampNeg k.toNatClampNeg (defaultValue ty) n.toNatClampNeg = F at X' step
  have hTh : (T.setVm vm₁).heap = H := hT
  obtain ⟨f1, f2, -, -⟩ := Jvm.Free.Multi.fill_facts (T.setVm vm₁) cA cy n.toNatClampNeg k.toNatClampNeg (defaultValue ty) n.toNatClampNeg
  rw [hF, hTh] at f1 f2
  have hold : ∀ x : Nat, x < H.size → F.heap[x]? = H[x]? := fun x hx => by
    have := Jvm.Free.Multi.fill_old (T.setVm vm₁) cA cy n.toNatClampNeg k.toNatClampNeg (defaultValue ty) (a := x) (by rw [hTh]; exact hx) n.toNatClampNeg
    rw [hF, hTh] at this
    exact this
  have hrow : ∀ j : Nat, j < n.toNatClampNeg → F.heap[H.size + 1 + j]? = some (vp_cell cy z) := fun j hj => by
    have := Jvm.Free.Multi.fill_inner (T.setVm vm₁) cA cy n.toNatClampNeg k.toNatClampNeg (defaultValue ty) n.toNatClampNeg j hj
    rw [hF, hTh, hz] at this
    exact this
  have hout : Jvm.Free.Multi.outerC cA n.toNatClampNeg H.size n.toNatClampNeg = vp_cell cA (n.toNatClampNeg, .inr (.inr (.inr (.inr (fun i => if i < n.toNatClampNeg then some (H.size + 1 + i) else none))))) := by
    rw [vp_cell_q]
    exact sd_vr_outer cA n.toNatClampNeg H.size n.toNatClampNeg
  rw [hout] at f2
  have hlt : ∀ a, a ∈ L → a < H.size := fun a ha => by
    obtain ⟨k9, hk9⟩ := va_pl_get (X := X) (f := f) ha
    exact (hP k9 _ hk9).lt
  have hnl : ∀ i : Nat, i < n.toNatClampNeg → H.size + 1 + i ∉ L := fun i _ h => by
    have := hlt _ h
    omega
  have hnm : ∀ a, a ∈ (List.range n.toNatClampNeg).map (fun i => H.size + 1 + i) → a ∉ L := fun a ha h => by
    obtain ⟨i, -, rfl⟩ := List.mem_map.mp ha
    have := hlt _ h
    omega
  have hP0 : va_P D cl (X ++ va_pl L f) F.heap := hP.kept (fun k9 x hx => hold x.1 ((hP k9 x hx).lt))
  have hP1 : va_P D cl ((X ++ va_pl L f) ++ [(H.size, .inl (cA, n.toNatClampNeg, .inr (.inr (.inr (.inr (fun i => if i < n.toNatClampNeg then some (H.size + 1 + i) else none))))))]) F.heap := hP0.app (fun k9 x hx => by
    have h0 : k9 < 1 := (List.getElem?_eq_some_iff.mp hx).1
    rw [show k9 = 0 by omega] at hx
    cases hx
    exact f2)
  have hP2 : va_P D cl (((X ++ va_pl L f) ++ [(H.size, .inl (cA, n.toNatClampNeg, .inr (.inr (.inr (.inr (fun i => if i < n.toNatClampNeg then some (H.size + 1 + i) else none))))))]) ++ ((List.range n.toNatClampNeg).map (fun i => H.size + 1 + i)).map (fun a => (a, .inl (cy, z)))) F.heap := hP1.app (fun k9 x hx => by
    obtain ⟨a, ha, rfl⟩ := List.mem_map.mp (List.mem_of_getElem? hx)
    obtain ⟨i, hi, rfl⟩ := List.mem_map.mp ha
    exact hrow i (List.mem_range.mp hi))
  have hD2 : va_D A (((X ++ va_pl L f) ++ [(H.size, .inl (cA, n.toNatClampNeg, .inr (.inr (.inr (.inr (fun i => if i < n.toNatClampNeg then some (H.size + 1 + i) else none))))))]) ++ ((List.range n.toNatClampNeg).map (fun i => H.size + 1 + i)).map (fun a => (a, .inl (cy, z)))) := by
    have hD1 := hD.push (e := .inl (cA, n.toNatClampNeg, .inr (.inr (.inr (.inr (fun i => if i < n.toNatClampNeg then some (H.size + 1 + i) else none)))))) hP rfl (hA _ hS.1)
    generalize hW1 : (X ++ va_pl L f) ++ [(H.size, .inl (cA, n.toNatClampNeg, .inr (.inr (.inr (.inr (fun i => if i < n.toNatClampNeg then some (H.size + 1 + i) else none))))))] = W1 at hD1 hP1 ⊢
    have hle : ∀ (k9 : Nat) (x : Nat × va_E), W1[k9]? = some x → x.1 ≤ H.size := fun k9 x hx => by
      rw [← hW1] at hx
      by_cases hl : k9 < (X ++ va_pl L f).length
      · rw [List.getElem?_append_left hl] at hx
        exact Nat.le_of_lt ((hP k9 x hx).lt)
      · rw [List.getElem?_append_right (by omega)] at hx
        have h0 : k9 - (X ++ va_pl L f).length < 1 := (List.getElem?_eq_some_iff.mp hx).1
        rw [show k9 - (X ++ va_pl L f).length = 0 by omega] at hx
        cases hx
        exact Nat.le_refl _
    have hr : ∀ (k9 : Nat) (x : Nat × va_E), (((List.range n.toNatClampNeg).map (fun i => H.size + 1 + i)).map (fun a => ((a, .inl (cy, z)) : Nat × va_E)))[k9]? = some x → x.1 = H.size + 1 + k9 := fun k9 x hx => by
      rw [List.getElem?_map, List.getElem?_map] at hx
      by_cases h9 : k9 < n.toNatClampNeg
      · rw [List.getElem?_range h9] at hx
        cases hx
        rfl
      · have hn0 : (List.range n.toNatClampNeg)[k9]? = none := List.getElem?_eq_none (by rw [List.length_range]; omega)
        rw [hn0] at hx
        cases hx
    refine ⟨fun i j x y hi hj hxy => ?_, fun k9 x hx => ?_⟩
    · by_cases h1 : i < W1.length <;> by_cases h2 : j < W1.length
      · rw [List.getElem?_append_left h1] at hi
        rw [List.getElem?_append_left h2] at hj
        exact hD1.1 i j x y hi hj hxy
      · rw [List.getElem?_append_left h1] at hi
        rw [List.getElem?_append_right (by omega)] at hj
        have := hle _ _ hi
        have := hr _ _ hj
        omega
      · rw [List.getElem?_append_right (by omega)] at hi
        rw [List.getElem?_append_left h2] at hj
        have := hle _ _ hj
        have := hr _ _ hi
        omega
      · rw [List.getElem?_append_right (by omega)] at hi hj
        have := hr _ _ hi
        have := hr _ _ hj
        omega
    · by_cases h1 : k9 < W1.length
      · rw [List.getElem?_append_left h1] at hx
        exact hD1.2 k9 x hx
      · rw [List.getElem?_append_right (by omega)] at hx
        have := hr _ _ hx
        exact hA _ (by have := hS.1; omega)
  have hAr : ArrOfT s cA (.array ty) := fun N9 z9 => by
    obtain ⟨-, k9, hk9, cm9, hkk9⟩ := (hO 0 0 0).1
    exact ⟨(fun q hq => by cases hq), k9, hk9, cm9, hkk9⟩
  have hK2 : va_K D cl (tys ++ [(cA, .array ty)]) s := ⟨hK.1, fun k9 x hx => by
    by_cases hl : k9 < tys.length
    · rw [List.getElem?_append_left hl] at hx
      exact hK.2 k9 x hx
    · rw [List.getElem?_append_right (by omega)] at hx
      have h0 : k9 - tys.length < 1 := (List.getElem?_eq_some_iff.mp hx).1
      rw [show k9 - tys.length = 0 by omega] at hx
      cases hx
      exact ⟨hAr, fA⟩⟩
  obtain ⟨t, a1, b1⟩ := kk H.size (fun i => H.size + 1 + i) cA F.heap (fun i j _ _ h => by have h9 : H.size + 1 + i = H.size + 1 + j := h; omega) hnl hK2 (by rw [← sd_vr_rows hnm]; exact sd_vr_lay hP2) (by rw [← sd_vr_rows hnm]; exact sd_vr_layD hD2) ⟨by rw [f1]; have := hS.1; omega, fun x h1 h2 => (hold x (Nat.lt_of_lt_of_le h1 hS.1)).trans (hS.2.1 x h1 h2), hS.2.2⟩ F rfl X'
  refine ⟨t, step t ?_, b1⟩
  have e : T.heap.size = H.size := by rw [hT]
  rw [e]
  exact a1
end VGM
/-! ===== END ===== -/


/-! the judgement while objects are made: the world is a list of cells -/
def sd_Y (K : sd_K) (R : Room) (E : sd_Env) (A0 : Nat → Prop) (nL : Nat) (Q : State → Prop) (ws : va_W) (cells slots pc : Nat) (lv : List (Nat × Value)) (st : List Value) : Prop :=
  ∀ (H : Heap) (locs : List Loc) (ls : Array Slot), va_P E.1 sd_cl ws H → va_D A0 ws → va_S A0 K.2.2.2.1.heap H locs → lv_has ls nL lv →
    W K.1 K.2.1 K.2.2.1 R K.2.2.2.1 K.2.2.2.2.1 K.2.2.2.2.2.1 K.2.2.2.2.2.2.1 K.2.2.2.2.2.2.2.1 K.2.2.2.2.2.2.2.2 H locs cells slots Q (F0 K.2.2.2.2.1 pc ls st)
def sd_AO (U : State) : Prop := va_AO RX1 U ∧ va_AO RX9 U ∧ (Cond.arrayOver (.array .int)).before #[] U = true ∧ (Cond.arrayOver (.array .long)).before #[] U = true
theorem sd_AO.moved {u U : State} (hvm : u.vm.Alike U.vm) (h : sd_AO u) : sd_AO U := ⟨h.1.moved hvm, h.2.1.moved hvm, Jvm.Stand.arrayOver_alikeB hvm h.2.2.1, Jvm.Stand.arrayOver_alikeB hvm h.2.2.2⟩
def sd_G (K : sd_K) (E : sd_Env) (A0 : Nat → Prop) (own : String) (cc : ByteArray) (nL : Nat) (ret : Option FieldType) : Prop :=
  K.1.tables.exec = Jvm.exec ∧ K.2.2.2.2.2.2.2.2.code = cc ∧ K.2.2.2.2.2.2.2.2.maxLocals = nL ∧ K.2.2.2.1.vm.findClass own = some K.2.2.2.2.1.cls ∧ (∀ w, w ∈ sd_TW → w.before K.2.2.2.2.2.1 K.2.2.2.1 = true) ∧
  K.2.2.2.2.2.2.2.1.sig.returnType = ret ∧ K.2.2.2.2.2.2.2.1.locks = false ∧ va_K E.1 sd_cl (sd_tys E) K.2.2.2.1 ∧ sd_NWs K.2.2.2.1 ∧ sd_PW A0 K.2.2.2.1 K.2.2.2.1.heap ∧ sd_AO K.2.2.2.1 ∧ ∀ q, K.2.2.2.1.heap.size ≤ q → A0 q
theorem sd_PW.narrow {A B : Nat → Prop} {U : State} {H : Heap} (h : sd_PW A U H) (hAB : ∀ q, B q → A q) : sd_PW B U H := by
  obtain ⟨t, h1, h2⟩ := h
  exact ⟨t, h1.narrow hAB, h2.narrow hAB⟩
/-- what a constructor promises: out of the cells w0, the cells w1 u for some addresses u -/
def sd_PC (E : sd_Env) (w0 : va_W) (sz : Nat) (U : State) : Prop := U.heap.size = sz ∧ va_P E.1 sd_cl w0 U.heap ∧ va_K E.1 sd_cl (sd_tys E) U ∧ va_D (fun _ => True) w0 ∧ sd_NWs U ∧ sd_AO U ∧ sd_PW (va_A w0 sz) U U.heap
def sd_MC (l : Launch) (E : sd_Env) (y : MethodName) (b : ByteArray) (mL : Nat) (rm : Room) (av : List Value) (w0 : va_W) (mc ms : Nat) (w1 : (Nat → Nat) → va_W) : Prop :=
  ∀ sz : Nat, Met l y (Cond.code y b mL none :: sd_TW) rm (va_Pc av (sd_PC E w0 sz)) (va_Qv (fun _ : Nat → Nat => True) (fun u t => va_P E.1 sd_cl (w1 u) t.heap ∧ va_D (va_A w0 sz) (w1 u)) (va_A w0 sz)) mc ms (va_A w0 sz)
theorem sd_nd_range : ∀ n, va_nd (List.range n) = true := by
  intro n
  have key : ∀ l : List Nat, l.Nodup → va_nd l = true := by
    intro l
    induction l with
    | nil => intro _; rfl
    | cons a l ih =>
      intro h
      obtain ⟨h1, h2⟩ := List.nodup_cons.mp h
      simp [va_nd, h1, ih h2]
  exact key _ List.nodup_range
section SDY
variable {K : sd_K} {R : Room} {E : sd_Env} {A0 : Nat → Prop} {nL : Nat} {Q : State → Prop} {ws ws' : va_W} {cells slots : Nat} {pc n' : Nat} {lv lv' : List (Nat × Value)} {st : List Value} {own : String} {cc : ByteArray} {ret : Option FieldType}
theorem sd_entC {l : Launch} {y : MethodName} {mL mc ms : Nat} {rm : Room} {av : List Value} {w0 : va_W} {w1 : (Nat → Nat) → va_W} (hy : plainName y.cls = true) (hlen : (lg_sl av).length ≤ mL)
    (body : ∀ (p : Program) (e : Env) (s : State) (m : MethodId) (below : List Frame) (meth : Method) (c : Code), sd_G (p, l, e, s, m, av.toArray, below, meth, c) E (va_A w0 s.heap.size) y.cls cc mL none → meth.name = y.name → sd_Y (p, l, e, s, m, av.toArray, below, meth, c) rm E (va_A w0 s.heap.size) mL (MQ below (va_Qv (fun _ : Nat → Nat => True) (fun u t => va_P E.1 sd_cl (w1 u) t.heap ∧ va_D (va_A w0 s.heap.size) (w1 u)) (va_A w0 s.heap.size)) av.toArray s mc ms (va_A w0 s.heap.size)) w0 0 0 0 (lv_args 0 av) []) :
    sd_MC l E y cc mL rm av w0 mc ms w1 := by
  intro sz
  refine Met.ofW (cc := cc) (maxL := mL) (ret := none) hy rfl ?_
  intro p e s m args below meth c s₁ B hml hv
  obtain ⟨rfl, rfl, hP, hK, hD, hN, hO, hW⟩ := hv
  have hts := atoms_spec (ws := Cond.code y cc mL none :: sd_TW) B.pre
  have G : sd_G (p, l, e, s, m, av.toArray, below, meth, c) E (va_A w0 s.heap.size) y.cls cc mL none := ⟨B.exec, B.bytes, hml, findClass_of_methodNamed B.named, fun w hw => hts w (List.mem_cons_of_mem _ hw), B.returns, B.notSynchronized, hK, hN, hW, hO, fun q h => Or.inr h⟩
  have hl := lv_entry av (n := mL) hlen
  rw [lg_entry_eq]
  exact body p e s m below meth c G (name_of_methodNamed B.named B.method).1 s.heap [] _ hP hD.self va_S.rf hl
theorem sd_yret {below : List Frame} {w0 : va_W} {w1 : (Nat → Nat) → va_W} (u : Nat → Nat) (G : sd_G K E (va_A w0 K.2.2.2.1.heap.size) own cc nL none) (hd : decode cc pc = .ok (.return_, 1)) (hw : ws = w1 u) : sd_Y K R E (va_A w0 K.2.2.2.1.heap.size) nL (MQ K.2.2.2.2.2.2.1 (va_Qv (fun _ : Nat → Nat => True) (fun u t => va_P E.1 sd_cl (w1 u) t.heap ∧ va_D (va_A w0 K.2.2.2.1.heap.size) (w1 u)) (va_A w0 K.2.2.2.1.heap.size)) K.2.2.2.2.2.1 K.2.2.2.1 cells slots (va_A w0 K.2.2.2.1.heap.size)) ws cells slots pc lv [] := by
  subst hw
  intro H locs ls hP hD hS hl
  exact W.vret G.1 G.2.1 G.2.2.2.2.2.1 (fun t ht hW => ⟨⟨u, rfl, trivial, by rw [ht]; exact hP, hD⟩, hS.F ht⟩) hS.2.2 hd G.2.2.2.2.2.2.1
theorem sd_yiadd (G : sd_G K E A0 own cc nL ret) {x y : Int32} (hd : decode cc pc = .ok (.iadd, 1)) (hn : pc + 1 = n') (k : sd_Y K R E A0 nL Q ws cells slots  n' lv (.int (x + y) :: st)) : sd_Y K R E A0 nL Q ws cells slots  pc lv (.int y :: .int x :: st) := by subst hn; exact fun H locs ls hP hD hS hl => lv_iadd G.1 G.2.1 hd  (k H locs ls hP hD hS hl)
theorem sd_yisub (G : sd_G K E A0 own cc nL ret) {x y : Int32} (hd : decode cc pc = .ok (.isub, 1)) (hn : pc + 1 = n') (k : sd_Y K R E A0 nL Q ws cells slots  n' lv (.int (x - y) :: st)) : sd_Y K R E A0 nL Q ws cells slots  pc lv (.int y :: .int x :: st) := by subst hn; exact fun H locs ls hP hD hS hl => lv_isub G.1 G.2.1 hd  (k H locs ls hP hD hS hl)
theorem sd_yimul (G : sd_G K E A0 own cc nL ret) {x y : Int32} (hd : decode cc pc = .ok (.imul, 1)) (hn : pc + 1 = n') (k : sd_Y K R E A0 nL Q ws cells slots  n' lv (.int (x * y) :: st)) : sd_Y K R E A0 nL Q ws cells slots  pc lv (.int y :: .int x :: st) := by subst hn; exact fun H locs ls hP hD hS hl => lv_imul G.1 G.2.1 hd  (k H locs ls hP hD hS hl)
theorem sd_yiconst (G : sd_G K E A0 own cc nL ret) {n : Int} {v : Int32} (hd : decode cc pc = .ok (.iconst n, 1)) (hv : Int32.ofInt n = v) (hn : pc + 1 = n') (k : sd_Y K R E A0 nL Q ws cells slots  n' lv (.int v :: st)) : sd_Y K R E A0 nL Q ws cells slots  pc lv (st) := by subst hn; exact fun H locs ls hP hD hS hl => lv_iconst G.1 G.2.1 hd hv (k H locs ls hP hD hS hl)
theorem sd_ybipush (G : sd_G K E A0 own cc nL ret) {n : Int} {v : Int32} (hd : decode cc pc = .ok (.bipush n, 2)) (hv : (Int8.ofInt n).toInt32 = v) (hn : pc + 2 = n') (k : sd_Y K R E A0 nL Q ws cells slots  n' lv (.int v :: st)) : sd_Y K R E A0 nL Q ws cells slots  pc lv (st) := by subst hn; exact fun H locs ls hP hD hS hl => lv_bipush G.1 G.2.1 hd hv (k H locs ls hP hD hS hl)
theorem sd_ysipush (G : sd_G K E A0 own cc nL ret) {n : Int} {v : Int32} (hd : decode cc pc = .ok (.sipush n, 3)) (hv : (Int16.ofInt n).toInt32 = v) (hn : pc + 3 = n') (k : sd_Y K R E A0 nL Q ws cells slots  n' lv (.int v :: st)) : sd_Y K R E A0 nL Q ws cells slots  pc lv (st) := by subst hn; exact fun H locs ls hP hD hS hl => lv_sipush G.1 G.2.1 hd hv (k H locs ls hP hD hS hl)
theorem sd_ylconst (G : sd_G K E A0 own cc nL ret) {n : Fin 2} {v : Int64} (hd : decode cc pc = .ok (.lconst n, 1)) (hv : Int64.ofNat (n : Nat) = v) (hn : pc + 1 = n') (k : sd_Y K R E A0 nL Q ws cells slots  n' lv (.long v :: st)) : sd_Y K R E A0 nL Q ws cells slots  pc lv (st) := by subst hn; exact fun H locs ls hP hD hS hl => lv_lconst G.1 G.2.1 hd hv (k H locs ls hP hD hS hl)
theorem sd_ydup (G : sd_G K E A0 own cc nL ret) {va : Value} (hd : decode cc pc = .ok (.dup, 1)) (hc : va.category = 1) (hn : pc + 1 = n') (k : sd_Y K R E A0 nL Q ws cells slots  n' lv (va :: va :: st)) : sd_Y K R E A0 nL Q ws cells slots  pc lv (va :: st) := by subst hn; exact fun H locs ls hP hD hS hl => lv_dup G.1 G.2.1 hd hc (k H locs ls hP hD hS hl)
theorem sd_yiload_n (G : sd_G K E A0 own cc nL ret) (j : Nat) {k' : Fin 4} {i : Nat} {x : Int32} (hd : decode cc pc = .ok (.iload_n k', 1)) (hi : (k' : Nat) = i) (hj : lv[j]? = some (i, .int x)) (hn : pc + 1 = n') (k : sd_Y K R E A0 nL Q ws cells slots  n' lv (.int x :: st)) : sd_Y K R E A0 nL Q ws cells slots  pc lv (st) := by subst hn; exact fun H locs ls hP hD hS hl => lv_iload_n G.1 G.2.1 hd hi (lv_at hl j hj) (k H locs ls hP hD hS hl)
theorem sd_yistore_n (lv' : List (Nat × Value)) (G : sd_G K E A0 own cc nL ret) {k' : Fin 4} {i : Nat} {x : Int32} (hd : decode cc pc = .ok (.istore_n k', 1)) (hi : (k' : Nat) = i) (hb : i < nL) (hf : (i, Value.int x) :: lv.filter (fun q => !(q.1 == i) && !(q.1 + 1 == i && q.2.category == 2)) = lv') (hn : pc + 1 = n') (k : sd_Y K R E A0 nL Q ws cells slots  n' lv' st) : sd_Y K R E A0 nL Q ws cells slots  pc lv (.int x :: st) := by subst hn; exact fun H locs ls hP hD hS hl => lv_istore_n G.1 G.2.1 hd hi hl hb hf (fun ls' hl' => k H locs ls' hP hD hS hl')
theorem sd_yaload_n (G : sd_G K E A0 own cc nL ret) (j : Nat) {k' : Fin 4} {i : Nat} {x : Nat} (hd : decode cc pc = .ok (.aload_n k', 1)) (hi : (k' : Nat) = i) (hj : lv[j]? = some (i, .ref x)) (hn : pc + 1 = n') (k : sd_Y K R E A0 nL Q ws cells slots  n' lv (.ref x :: st)) : sd_Y K R E A0 nL Q ws cells slots  pc lv (st) := by subst hn; exact fun H locs ls hP hD hS hl => lv_aload_n G.1 G.2.1 hd hi (lv_at hl j hj) (k H locs ls hP hD hS hl)
theorem sd_yastore_n (lv' : List (Nat × Value)) (G : sd_G K E A0 own cc nL ret) {k' : Fin 4} {i : Nat} {x : Nat} (hd : decode cc pc = .ok (.astore_n k', 1)) (hi : (k' : Nat) = i) (hb : i < nL) (hf : (i, Value.ref x) :: lv.filter (fun q => !(q.1 == i) && !(q.1 + 1 == i && q.2.category == 2)) = lv') (hn : pc + 1 = n') (k : sd_Y K R E A0 nL Q ws cells slots  n' lv' st) : sd_Y K R E A0 nL Q ws cells slots  pc lv (.ref x :: st) := by subst hn; exact fun H locs ls hP hD hS hl => lv_astore_n G.1 G.2.1 hd hi hl hb hf (fun ls' hl' => k H locs ls' hP hD hS hl')
theorem sd_yiinc (lv' : List (Nat × Value)) (j : Nat) (G : sd_G K E A0 own cc nL ret) {i : Nat} {n : Int} {x v : Int32} (hd : decode cc pc = .ok (.iinc i n, 3)) (hj : lv[j]? = some (i, .int x)) (hv : x + Int32.ofInt n = v) (hb : i < nL) (hf : (i, Value.int v) :: lv.filter (fun q => !(q.1 == i) && !(q.1 + 1 == i && q.2.category == 2)) = lv') (hn : pc + 3 = n') (k : sd_Y K R E A0 nL Q ws cells slots  n' lv' st) : sd_Y K R E A0 nL Q ws cells slots  pc lv st := by subst hn; exact fun H locs ls hP hD hS hl => lv_iinc G.1 G.2.1 hd hl hj hv hb hf (fun ls' hl' => k H locs ls' hP hD hS hl')
theorem sd_yge_t (G : sd_G K E A0 own cc nL ret) {x y : Int32} {off : Int} {tgt : Nat} (hd : decode cc pc = .ok (.if_icmp .ge off, 3)) (ht : (pc : Int) + off = (tgt : Int)) (h : y ≤ x) (kt : sd_Y K R E A0 nL Q ws cells slots  tgt lv st) : sd_Y K R E A0 nL Q ws cells slots  pc lv (.int y :: .int x :: st) := fun H locs ls hP hD hS hl => lv_icmp_ge G.1 G.2.1 hd ht (fun q => kt H locs ls hP hD hS hl) (fun q => absurd h q)
theorem sd_yge_f (G : sd_G K E A0 own cc nL ret) {x y : Int32} {off : Int} {tgt : Nat} (hd : decode cc pc = .ok (.if_icmp .ge off, 3)) (ht : (pc : Int) + off = (tgt : Int)) (h : ¬ y ≤ x) (hn : pc + 3 = n') (kf : sd_Y K R E A0 nL Q ws cells slots  n' lv st) : sd_Y K R E A0 nL Q ws cells slots  pc lv (.int y :: .int x :: st) := by subst hn; exact fun H locs ls hP hD hS hl => lv_icmp_ge G.1 G.2.1 hd ht (fun q => absurd q h) (fun q => kf H locs ls hP hD hS hl)
theorem sd_ygoto (G : sd_G K E A0 own cc nL ret) {off : Int} {tgt : Nat} (hd : decode cc pc = .ok (.goto off, 3)) (ht : (pc : Int) + off = (tgt : Int)) (k : sd_Y K R E A0 nL Q ws cells slots  tgt lv st) : sd_Y K R E A0 nL Q ws cells slots  pc lv st := fun H locs ls hP hD hS hl => lv_goto G.1 G.2.1 hd ht (k H locs ls hP hD hS hl)
theorem sd_ca {ty : FieldType} {cA : ClassId} {i : Nat} {c : ClassId} {U : State} {tys : List (ClassId × FieldType)} (hK : va_K E.1 sd_cl tys U) (hi : tys[i]? = some (c, ty)) {k : Nat} (hk : va_K E.1 sd_cl (tys ++ [(cA, ty)]) U) (hlen : tys.length = k) : cA = c := by
  have h1 := (hK.2 i _ hi).2
  have h2 := (hk.2 k (cA, ty) (by rw [← hlen, List.getElem?_append_right (Nat.le_refl _), Nat.sub_self]; rfl)).2
  cases ty with
  | object C =>
    obtain ⟨-, -, -, -, -, e1⟩ := h1
    obtain ⟨-, -, -, -, -, e2⟩ := h2
    exact Option.some.inj (e2.symm.trans e1)
  | _ => exact Option.some.inj (Eq.trans (Eq.symm h2) h1)
theorem sd_ynewa (ws' : va_W) (G : sd_G K E A0 own cc nL ret) {atype : ArrayType} {ty : FieldType} {n : Int32} {N' : Nat} {a0 : vp_A} (i : Nat) {c0 : ClassId} (w : Cond.arrayClass ty ∈ sd_TW) (hty : newarray.typeOf atype = ty) (hi : (sd_tys E)[i]? = some (c0, ty)) (ha : ∀ cA : ClassId, vp_cell cA a0 = arrV cA N' (fun _ => defaultValue ty)) (hn0 : ¬ n < 0) (hN : n.toNatClampNeg = N') (hby : N' * componentBytes ty ≤ 536870912) (hcells : cells + 1 ≤ R.cells) (hslots : slots + N' ≤ R.slots) (hd : decode cc pc = .ok (.newarray atype, 2)) (hn : pc + 2 = n')
    (k : ∀ q : Nat, sd_Y K R E A0 nL Q (ws ++ [(q, .inl (c0, a0))]) (cells + 1) (slots + N') n' lv (.ref q :: st)) : sd_Y K R E A0 nL Q ws cells slots pc lv (.int n :: st) := by
  subst hn
  intro H locs ls hP hD hS hl
  refine va_newa G.1 G.2.1 (by rw [hty]; exact G.2.2.2.2.1 _ w) hty G.2.2.2.2.2.2.2.1 hP hD hS G.2.2.2.2.2.2.2.2.2.2.2 ha hn0 hN hby hcells hslots hd (fun q cA H1 hK1 hP1 hD1 hS1 => ?_)
  have e := sd_ca G.2.2.2.2.2.2.2.1 hi hK1 rfl
  subst e
  exact k q H1 locs ls hP1 hD1 hS1 hl
theorem sd_ynewq (G : sd_G K E A0 own cc nL ret) {Cn : String} {index : Nat} {n : Int32} {N' : Nat} (i : Nat) {c0 : ClassId} (w : Cond.classLink own index Cn ∈ sd_TW) (hover : va_AO Cn K.2.2.2.1) (hi : (sd_tys E)[i]? = some (c0, .object Cn)) (hn0 : ¬ n < 0) (hN : n.toNatClampNeg = N') (hby : N' * 4 ≤ 536870912) (hcells : cells + 1 ≤ R.cells) (hslots : slots + N' ≤ R.slots) (hd : decode cc pc = .ok (.anewarray index, 3)) (hn : pc + 3 = n')
    (k : ∀ q : Nat, sd_Y K R E A0 nL Q (ws ++ [(q, .inl (c0, N', .inr (.inr (.inr (.inr (fun _ => none))))))]) (cells + 1) (slots + N') n' lv (.ref q :: st)) : sd_Y K R E A0 nL Q ws cells slots pc lv (.int n :: st) := by
  subst hn
  intro H locs ls hP hD hS hl
  refine va_newq G.1 G.2.1 G.2.2.2.1 (G.2.2.2.2.1 _ w) hover G.2.2.2.2.2.2.2.1 hP hD hS G.2.2.2.2.2.2.2.2.2.2.2 hn0 hN hby hcells hslots hd (fun q cA H1 hK1 hP1 hD1 hS1 => ?_)
  have e := sd_ca G.2.2.2.2.2.2.2.1 hi hK1 rfl
  subst e
  exact k q H1 locs ls hP1 hD1 hS1 hl
theorem sd_ymna (G : sd_G K E A0 own cc nL ret) {index : Nat} {ty : FieldType} {n k0 : Int32} {N' K' : Nat} {z : vp_A} (i j : Nat) {c0 cy : ClassId} (w : Cond.classLink own index ("[" ++ (FieldType.array ty).toString) ∈ sd_TW) (hover : (Cond.arrayOver (.array ty)).before #[] K.2.2.2.1 = true) (w2 : Cond.arrayClass ty ∈ sd_TW) (hi : (sd_tys E)[i]? = some (c0, .array ty)) (hj : (sd_tys E)[j]? = some (cy, ty)) (hp : ∀ C : String, ty ≠ .object C) (hn0 : ¬ n < 0) (hk0 : ¬ k0 < 0) (hN : n.toNatClampNeg = N') (hM : k0.toNatClampNeg = K')
    (hb1 : N' * 4 ≤ 536870912) (hb2 : K' * componentBytes ty ≤ 536870912) (hb3 : K' ≤ 536870912) (hdf : fits ty (defaultValue ty) = true) (hdd : (defaultValue ty).isDefault = true) (hcells : cells + (1 + N') ≤ R.cells) (hslots : slots + (N' + N' * K') ≤ R.slots) (hz : ∀ c : ClassId, Jvm.Free.Multi.innerC c K' (defaultValue ty) = vp_cell c z) (hd : decode cc pc = .ok (.multianewarray index 2, 4)) (hn : pc + 4 = n')
    (k : ∀ (q : Nat) (r : Nat → Nat), sd_Y K R E A0 nL Q ((ws ++ [(q, .inl (c0, N', .inr (.inr (.inr (.inr (fun i => if i < N' then some (r i) else none))))))]) ++ (List.range N').map (fun i => (r i, .inl (cy, z)))) (cells + 1 + N') (slots + N' + N' * K') n' lv (.ref q :: st)) : sd_Y K R E A0 nL Q ws cells slots pc lv (.int k0 :: .int n :: st) := by
  subst hn
  intro H locs ls hP hD hS hl
  have hcy : K.2.2.2.1.vm.findClass (FieldType.array ty).toString = some cy := by
    have h := (G.2.2.2.2.2.2.2.1.2 j _ hj).2
    cases ty with
    | object C => exact absurd rfl (hp C)
    | _ => exact h
  have e0 : ∀ X : va_W, X ++ va_pl [] (fun _ => (.inr (0, []) : va_E)) = X := fun X => List.append_nil X
  refine sd_mna (L := []) (f := fun _ => .inr (0, [])) (X := ws) G.1 G.2.1 G.2.2.2.1 (G.2.2.2.2.1 _ w) hover (G.2.2.2.2.1 _ w2) hcy G.2.2.2.2.2.2.2.1 (by rw [e0]; exact hP) (by rw [e0]; exact hD) hS G.2.2.2.2.2.2.2.2.2.2.2 hn0 hk0 hN hM hb1 hb2 hb3 hdf hdd hcells hslots hz hd (fun q r cA H1 hr hrL hK1 hP1 hD1 hS1 => ?_)
  have e := sd_ca G.2.2.2.2.2.2.2.1 hi hK1 rfl
  subst e
  rw [← sd_vr_rows (L := []) (fun a _ h => by cases h), show va_pl [] (fun _ => (.inr (0, []) : va_E)) = [] from rfl, List.nil_append, List.map_map] at hP1 hD1
  exact k q r H1 locs ls hP1 hD1 hS1 hl
theorem sd_ynew (G : sd_G K E A0 own cc nL ret) {index ci N : Nat} {Cn : String} {T : u_T} {ty : Nat → FieldType} {fs : List Value} (hc : sd_cl[ci]? = some (Cn, T, N)) (hin : ∀ w ∈ u_ws Cn T N, w ∈ sd_TW) (hty : ∀ k, k < N → parseFieldDescriptor (T k).2.2.1 = some (ty k)) (w1 : Cond.classLink own index Cn ∈ sd_TW) (w2 : Cond.instantiable Cn N ∈ sd_TW) (w3 : Cond.initialized Cn ∈ sd_TW) (hfs : ∀ j, j < N → defaultValue (ty j) = vp_V fs j) (hcells : cells + 1 ≤ R.cells) (hslots : slots + N ≤ R.slots) (hd : decode cc pc = .ok (.new index, 3)) (hn : pc + 3 = n')
    (k : ∀ q : Nat, sd_Y K R E A0 nL Q (ws ++ [(q, .inr (ci, fs))]) (cells + 1) (slots + N) n' lv (.ref q :: st)) : sd_Y K R E A0 nL Q ws cells slots pc lv st := by
  subst hn
  intro H locs ls hP hD hS hl
  exact va_new G.1 G.2.1 G.2.2.2.2.1 hin ty hty G.2.2.2.1 (G.2.2.2.2.1 _ w1) (G.2.2.2.2.1 _ w2) (G.2.2.2.2.1 _ w3) G.2.2.2.2.2.2.2.1 hP hD hS G.2.2.2.2.2.2.2.2.2.2.2 hc hfs hcells hslots hd (fun q H1 hP1 hD1 hS1 => k q H1 locs ls hP1 hD1 hS1 hl)
theorem sd_yobj (G : sd_G K E A0 own cc nL ret) {index a : Nat} (w1 : Cond.methodLink own index Lib.objectInit ∈ sd_TW) (w2 : Cond.instanceMethod Lib.objectInit ∈ sd_TW) (w3 : Cond.code Lib.objectInit ⟨#[0xb1]⟩ 1 none ∈ sd_TW) (hfr : 1 ≤ R.frames) (hlo : (st.map fun v => v.category).sum + 12 ≤ R.locals) (hd : decode cc pc = .ok (.invokespecial index, 3)) (hn : pc + 3 = n') (k : sd_Y K R E A0 nL Q ws cells slots n' lv st) : sd_Y K R E A0 nL Q ws cells slots pc lv (.ref a :: st) := by
  subst hn
  intro H locs ls hP hD hS hl
  refine W.objInit G.1 G.2.1 G.2.2.2.1 (G.2.2.2.2.1 _ w1) (G.2.2.2.2.1 _ w2) (G.2.2.2.2.1 _ w3) rfl (by rw [G.2.2.1]; exact hl.1) rfl hd hfr (by show 2 * 0 + _ + 12 ≤ _; omega) ?_
  exact k H locs ls hP hD hS hl
theorem sd_yputF (ws' : va_W) (G : sd_G K E A0 own cc nL ret) {a ci N index : Nat} {fs : List Value} {Cn : String} {T : u_T} {ty0 : Nat → FieldType} (q0 k0 : Nat) {ty : FieldType} {v : Value} (he : ws[q0]? = some (a, .inr (ci, fs))) (hc : sd_cl[ci]? = some (Cn, T, N)) (hin : ∀ w ∈ u_ws Cn T N, w ∈ sd_TW) (hty : ∀ k, k < N → parseFieldDescriptor (T k).2.2.1 = some (ty0 k)) (hnm : ∀ a, a < N → ∀ b, b < N → a ≠ b → (T a).2.1 ≠ (T b).2.1) (hk : k0 < N) (hlink : Cond.fieldLink own index (T k0).1 (T k0).2.1 (T k0).2.2.1 ∈ sd_TW) (hfin : (T k0).2.2.2 = true) (hin2 : K.2.2.2.2.2.2.2.1.name = "<init>") (hdecl : (T k0).1 = own) (htd : parseFieldDescriptor (T k0).2.2.1 = some ty) (hna : narrow ty v = v) (hfit : fits ty v = true) (hlen : k0 < fs.length) (hw : ws.set q0 (a, .inr (ci, fs.set k0 v)) = ws') (hd : decode cc pc = .ok (.putfield index, 3)) (hn : pc + 3 = n') (kk : sd_Y K R E A0 nL Q ws' cells slots n' lv st) : sd_Y K R E A0 nL Q ws cells slots pc lv (v :: .ref a :: st) := by
  subst hn; subst hw
  intro H locs ls hP hD hS hl
  exact va_putF (ref := (T k0).1) G.1 G.2.1 G.2.2.2.2.1 hin ty0 hty hnm G.2.2.2.1 G.2.2.2.2.2.2.2.1 hP hD hS q0 he hc k0 hk (G.2.2.2.2.1 _ hlink) (fun _ h => h) hfin hin2 hdecl htd hna hfit hlen hd (fun H1 locs1 hP1 hD1 hS1 => kk H1 locs1 ls hP1 hD1 hS1 hl)
theorem sd_yput (ws' : va_W) (G : sd_G K E A0 own cc nL ret) {a ci N index : Nat} {fs : List Value} {Cn : String} {T : u_T} {ty0 : Nat → FieldType} (q0 k0 : Nat) {ty : FieldType} {v : Value} (he : ws[q0]? = some (a, .inr (ci, fs))) (hc : sd_cl[ci]? = some (Cn, T, N)) (hin : ∀ w ∈ u_ws Cn T N, w ∈ sd_TW) (hty : ∀ k, k < N → parseFieldDescriptor (T k).2.2.1 = some (ty0 k)) (hnm : ∀ a, a < N → ∀ b, b < N → a ≠ b → (T a).2.1 ≠ (T b).2.1) (hk : k0 < N) (hlink : Cond.fieldLink own index (T k0).1 (T k0).2.1 (T k0).2.2.1 ∈ sd_TW) (hfin : (T k0).2.2.2 = false) (htd : parseFieldDescriptor (T k0).2.2.1 = some ty) (hna : narrow ty v = v) (hfit : fits ty v = true) (hlen : k0 < fs.length) (hw : ws.set q0 (a, .inr (ci, fs.set k0 v)) = ws') (hd : decode cc pc = .ok (.putfield index, 3)) (hn : pc + 3 = n') (kk : sd_Y K R E A0 nL Q ws' cells slots n' lv st) : sd_Y K R E A0 nL Q ws cells slots pc lv (v :: .ref a :: st) := by
  subst hn; subst hw
  intro H locs ls hP hD hS hl
  exact va_put (ref := (T k0).1) G.1 G.2.1 G.2.2.2.2.1 hin ty0 hty hnm G.2.2.2.1 G.2.2.2.2.2.2.2.1 hP hD hS q0 he hc k0 hk (G.2.2.2.2.1 _ hlink) (fun _ h => h) hfin htd hna hfit hlen hd (fun H1 locs1 hP1 hD1 hS1 => kk H1 locs1 ls hP1 hD1 hS1 hl)
theorem sd_yget (G : sd_G K E A0 own cc nL ret) {a ci N index : Nat} {fs : List Value} {Cn : String} {T : u_T} (q0 k0 : Nat) {v : Value} (he : ws[q0]? = some (a, .inr (ci, fs))) (hc : sd_cl[ci]? = some (Cn, T, N)) (hin : ∀ w ∈ u_ws Cn T N, w ∈ sd_TW) (hk : k0 < N) (hlink : Cond.fieldLink own index (T k0).1 (T k0).2.1 (T k0).2.2.1 ∈ sd_TW) (hv : fs[k0]? = some v) (hd : decode cc pc = .ok (.getfield index, 3)) (hn : pc + 3 = n') (kk : sd_Y K R E A0 nL Q ws cells slots n' lv (v :: st)) : sd_Y K R E A0 nL Q ws cells slots pc lv (.ref a :: st) := by
  subst hn
  intro H locs ls hP hD hS hl
  exact va_get (ref := (T k0).1) G.1 G.2.1 G.2.2.2.2.1 hin G.2.2.2.1 G.2.2.2.2.2.2.2.1 hP q0 he hc k0 hk (G.2.2.2.2.1 _ hlink) (fun _ h => h) hv hd (kk H locs ls hP hD hS hl)
theorem sd_yiast (ws' : va_W) (G : sd_G K E A0 own cc nL ret) {a n : Nat} {c0 : ClassId} {f : Nat → Int32} {i x : Int32} (q0 : Nat) (he : ws[q0]? = some (a, .inl (c0, n, .inl f))) (hc0 : E.2.1 0 = c0) (hin : vp_in i n) (hw : ws.set q0 (a, .inl (c0, n, .inl (upd f i.toNatClampNeg x))) = ws') (hd : decode cc pc = .ok (.iastore, 1)) (hn : pc + 1 = n') (kk : sd_Y K R E A0 nL Q ws' cells slots n' lv st) : sd_Y K R E A0 nL Q ws cells slots pc lv (.int x :: .int i :: .ref a :: st) := by
  subst hn; subst hw; subst hc0
  intro H locs ls hP hD hS hl
  exact va_iast G.1 G.2.1 G.2.2.2.2.2.2.2.1 hP hD hS q0 0 he rfl hin hd (fun H1 locs1 hP1 hD1 hS1 => kk H1 locs1 ls hP1 hD1 hS1 hl)
theorem sd_yaast (ws' : va_W) (G : sd_G K E A0 own cc nL ret) {a n v ci : Nat} {c0 : ClassId} {f : Nat → Option Nat} {i : Int32} {r : vw_C} {vs : List Value} (q0 qk t0 : Nat) (he : ws[q0]? = some (a, .inl (c0, n, .inr (.inr (.inr (.inr f)))))) (ht : (sd_tys E)[t0]? = some (c0, .object r.1)) (hv : ws[qk]? = some (v, .inr (ci, vs))) (hc : sd_cl[ci]? = some r) (hin : vp_in i n) (hw : ws.set q0 (a, .inl (c0, n, .inr (.inr (.inr (.inr (va_up f i.toNatClampNeg (some v))))))) = ws') (hd : decode cc pc = .ok (.aastore, 1)) (hn : pc + 1 = n') (kk : sd_Y K R E A0 nL Q ws' cells slots n' lv st) : sd_Y K R E A0 nL Q ws cells slots pc lv (.ref v :: .int i :: .ref a :: st) := by
  subst hn; subst hw
  intro H locs ls hP hD hS hl
  exact va_astq G.1 G.2.1 G.2.2.2.2.2.2.2.1 hP hD hS q0 t0 qk ci he ht hv hc hin hd (fun H1 locs1 hP1 hD1 hS1 => kk H1 locs1 ls hP1 hD1 hS1 hl)
theorem sd_ymax (G : sd_G K E A0 own cc nL ret) {index : Nat} {x y : Int32} (w1 : Cond.methodLink own index Lib.Math.max.name ∈ sd_TW) (w3 : Cond.initialized "java/lang/Math" ∈ sd_TW) (hframes : 1 ≤ R.frames) (hlocals : (st.map fun v => v.category).sum + 13 ≤ R.locals) (hc : cells ≤ R.cells) (hs : slots ≤ R.slots) (hd : decode cc pc = .ok (.invokestatic index, 3)) (hn : pc + 3 = n') (k : sd_Y K R E A0 nL Q ws cells slots n' lv (.int (if x < y then y else x) :: st)) : sd_Y K R E A0 nL Q ws cells slots pc lv (.int y :: .int x :: st) := by
  subst hn
  intro H locs ls hP hD hS hl
  exact va_mmax G.1 G.2.1 (by rw [hl.1]; exact G.2.2.1) G.2.2.2.1 (G.2.2.2.2.1 _ w1) (G.2.2.2.2.1 _ sd_wm_mmax_s) (G.2.2.2.2.1 _ w3) (G.2.2.2.2.1 _ sd_wm_mmax_c) hframes hlocals hc hs hd (k H locs ls hP hD hS hl)
theorem sd_PC_blind (av : List Value) (E : sd_Env) (w0 : va_W) (sz : Nat) : FrameBlind (va_Pc av (sd_PC E w0 sz)) := fun a U g mk q => by
  obtain ⟨q0, q1, qP, qK, qD, qN, qO, qW⟩ := q
  exact ⟨q0, q1, qP, va_K.moved (u := U) (U := U.calling g mk a) (Vm.Alike.refl U.vm) qK, qD, qN.same (u := U) (U := U.calling g mk a) rfl, qO.moved (u := U) (U := U.calling g mk a) (Vm.Alike.refl U.vm), sd_PW.moved (u := U) (U := U.calling g mk a) (Vm.Alike.refl U.vm) qW⟩
theorem sd_yinit (As rest : List Value) (wr : va_W) (G : sd_G K E A0 own cc nL ret) {y : MethodName} {b : ByteArray} {mL n index q mc ms : Nat} {rm : Room} {e0 : va_E} {w1' : (Nat → Nat) → va_W} (hM : sd_MC K.2.1 E y b mL rm (.ref q :: As) [(q, e0)] mc ms w1') (w1 : Cond.methodLink own index y ∈ sd_TW) (w2 : Cond.instanceMethod y ∈ sd_TW) (w3 : Cond.initialized y.cls ∈ sd_TW) (w4 : Cond.code y b mL none ∈ sd_TW) (hnm : sd_nm y n) (hy1 : y.name = "<init>") (hrm : rm.cells = mc ∧ rm.slots = ms ∧ rm.frames + 1 ≤ R.frames ∧ 8 + (mL + 11) + rm.locals ≤ R.locals) (hw : ws = wr ++ [(q, e0)]) (hlen : As.length = n) (hrest : (rest.map fun v => v.category).sum ≤ 8) (hf : cells + mc ≤ R.cells ∧ slots + ms ≤ R.slots) (hd : decode cc pc = .ok (.invokespecial index, 3)) (hn : pc + 3 = n')
    (kk : ∀ u : Nat → Nat, sd_Y K R E A0 nL Q (wr ++ w1' u) (cells + mc) (slots + ms) n' lv rest) : sd_Y K R E A0 nL Q ws cells slots pc lv (As.reverse ++ .ref q :: rest) := by
  subst hn; subst hw
  intro H locs ls hP hD hS hl
  have hq : (wr ++ [(q, e0)])[wr.length]? = some (q, e0) := by rw [List.getElem?_append_right (Nat.le_refl _), Nat.sub_self]; rfl
  have hC : [wr.length].map (fun i => (wr ++ [(q, e0)])[i]?) = [(q, e0)].map some := by simp
  have hPc := hP.sub (ws' := [(q, e0)]) [wr.length] (by simp)
  have hDc := hD.sub (ws' := [(q, e0)]) [wr.length] rfl hC
  have hFc := va_free (wc := [(q, e0)]) hD hS G.2.2.2.2.2.2.2.2.2.2.2 [wr.length] hC
  refine va_callv (va_runI (As := As) (rest := rest) ⟨G.1, G.2.1, G.2.2.1, G.2.2.2.1, G.2.2.2.2.1⟩ (hM H.size) ⟨callB_of n G.2.2.2.2.1 (sd_goodW w4) rfl hrm.1 hrm.2.1 (G.2.2.2.2.1 _ w3) (G.2.2.2.2.1 _ w1) hnm hrm.2.2, hy1, G.2.2.2.2.1 _ w2⟩ ⟨sd_PC_blind _ E _ _, fun U hU hW => ⟨rfl, by rw [hU], by rw [hU]; exact hPc, va_K.moved hW.alike G.2.2.2.2.2.2.2.1, hDc.weaken (fun _ _ _ _ => trivial), G.2.2.2.2.2.2.2.2.1.warm hW, G.2.2.2.2.2.2.2.2.2.2.1.moved hW.alike, by
    rw [hU]
    exact (((G.2.2.2.2.2.2.2.2.2.1).kept (fun a h1 h2 => hS.2.1 a h1 h2)).narrow hFc).moved hW.alike⟩⟩ rfl hlen hl.1 rfl (lv_room hrest) hd hf) hS (fun q _ h => hFc q h) hFc (fun u t H1 locs1 ht hvm hw1 hB hz1 hk1 hS1 => ?_)
  obtain ⟨hP1, hD1⟩ := hB
  rw [ht] at hP1
  have hR : (List.range wr.length).map (fun i => (wr ++ [(q, e0)])[i]?) = wr.map some := by
    apply List.ext_getElem?
    intro i
    rw [List.getElem?_map, List.getElem?_map]
    by_cases h : i < wr.length
    · rw [List.getElem?_range h]
      show some ((wr ++ [(q, e0)])[i]?) = _
      rw [List.getElem?_append_left h, List.getElem?_eq_getElem h]
      rfl
    · rw [List.getElem?_eq_none (by rw [List.length_range]; omega), List.getElem?_eq_none (by omega)]
      rfl
  obtain ⟨hP2, hD2⟩ := va_join (wr := wr) (w1 := w1' u) hP hD [wr.length] (List.range wr.length) hC hR (sd_nd_range _) (fun i hi hh => by
    rw [List.mem_range] at hi
    rw [List.mem_singleton] at hh
    omega) hk1 hFc hP1 hD1
  exact kk u H1 locs1 ls hP2 hD2 hS1 hl
theorem sd_yinitN (As rest : List Value) (wr : va_W) (G : sd_G K E A0 own cc nL ret) {y : MethodName} {b : ByteArray} {mL n index q mc ms : Nat} {rm : Room} {e0 : va_E} {w1' : (Nat → Nat) → va_W} (hM : sd_MC K.2.1 E y b mL rm (.ref q :: As) [(q, e0)] mc ms w1') (w1 : Cond.methodLinkNest own index y "StrikeDays" ∈ sd_NW) (w2 : Cond.instanceMethod y ∈ sd_TW) (w3 : Cond.initialized y.cls ∈ sd_TW) (w4 : Cond.code y b mL none ∈ sd_TW) (hnm : sd_nm y n) (hy1 : y.name = "<init>") (hrm : rm.cells = mc ∧ rm.slots = ms ∧ rm.frames + 1 ≤ R.frames ∧ 8 + (mL + 11) + rm.locals ≤ R.locals) (hw : ws = wr ++ [(q, e0)]) (hlen : As.length = n) (hrest : (rest.map fun v => v.category).sum ≤ 8) (hf : cells + mc ≤ R.cells ∧ slots + ms ≤ R.slots) (hd : decode cc pc = .ok (.invokespecial index, 3)) (hn : pc + 3 = n')
    (kk : ∀ u : Nat → Nat, sd_Y K R E A0 nL Q (wr ++ w1' u) (cells + mc) (slots + ms) n' lv rest) : sd_Y K R E A0 nL Q ws cells slots pc lv (As.reverse ++ .ref q :: rest) := by
  subst hn; subst hw
  intro H locs ls hP hD hS hl
  have hq : (wr ++ [(q, e0)])[wr.length]? = some (q, e0) := by rw [List.getElem?_append_right (Nat.le_refl _), Nat.sub_self]; rfl
  have hC : [wr.length].map (fun i => (wr ++ [(q, e0)])[i]?) = [(q, e0)].map some := by simp
  have hPc := hP.sub (ws' := [(q, e0)]) [wr.length] (by simp)
  have hDc := hD.sub (ws' := [(q, e0)]) [wr.length] rfl hC
  have hFc := va_free (wc := [(q, e0)]) hD hS G.2.2.2.2.2.2.2.2.2.2.2 [wr.length] hC
  refine va_callv (va_runIN (As := As) (rest := rest) ⟨G.1, G.2.1, G.2.2.1, G.2.2.2.1, G.2.2.2.2.1⟩ (hM H.size) ⟨va_cnB n G.2.2.2.2.1 (sd_goodW w4) rfl hrm.1 hrm.2.1 (G.2.2.2.2.2.2.2.2.1 _ w1) (G.2.2.2.2.1 _ w3) hnm hrm.2.2, hy1, G.2.2.2.2.1 _ w2⟩ ⟨sd_PC_blind _ E _ _, fun U hU hW => ⟨rfl, by rw [hU], by rw [hU]; exact hPc, va_K.moved hW.alike G.2.2.2.2.2.2.2.1, hDc.weaken (fun _ _ _ _ => trivial), G.2.2.2.2.2.2.2.2.1.warm hW, G.2.2.2.2.2.2.2.2.2.2.1.moved hW.alike, by
    rw [hU]
    exact (((G.2.2.2.2.2.2.2.2.2.1).kept (fun a h1 h2 => hS.2.1 a h1 h2)).narrow hFc).moved hW.alike⟩⟩ rfl hlen hl.1 rfl (lv_room hrest) hd hf) hS (fun q _ h => hFc q h) hFc (fun u t H1 locs1 ht hvm hw1 hB hz1 hk1 hS1 => ?_)
  obtain ⟨hP1, hD1⟩ := hB
  rw [ht] at hP1
  have hR : (List.range wr.length).map (fun i => (wr ++ [(q, e0)])[i]?) = wr.map some := by
    apply List.ext_getElem?
    intro i
    rw [List.getElem?_map, List.getElem?_map]
    by_cases h : i < wr.length
    · rw [List.getElem?_range h]
      show some ((wr ++ [(q, e0)])[i]?) = _
      rw [List.getElem?_append_left h, List.getElem?_eq_getElem h]
      rfl
    · rw [List.getElem?_eq_none (by rw [List.length_range]; omega), List.getElem?_eq_none (by omega)]
      rfl
  obtain ⟨hP2, hD2⟩ := va_join (wr := wr) (w1 := w1' u) hP hD [wr.length] (List.range wr.length) hC hR (sd_nd_range _) (fun i hi hh => by
    rw [List.mem_range] at hi
    rw [List.mem_singleton] at hh
    omega) hk1 hFc hP1 hD1
  exact kk u H1 locs1 ls hP2 hD2 hS1 hl
/-- a method of the finished picture, called while nothing else is in the world -/
theorem sd_ycall (As rest : List Value) (α : Nat → Nat) {L : List Nat} {M M1 : sd_Mem} (G : sd_G K E A0 own cc nL ret) {y : MethodName} {b : ByteArray} {mL n index id ci : Nat} {rt : Option FieldType} {rm : Room} {fs : List Value} {cn : vw_C} (hM : sd_MV K.2.1 (E.1, E.2.1, α) L y b mL rt rm (.ref (α id) :: As) M M1) (hw : sd_VW own index y b mL rt n) (hrm : sd_rmok R rm mL) (hid : id ∈ L) (he : sd_ent (E.1, E.2.1, α) id (M.1 id) (M.2 id) = .inr (ci, fs)) (hc : sd_cl[ci]? = some cn) (hcn : cn.1 = y.cls) (hws : ws = sd_pic (E.1, E.2.1, α) L M) (hlen : As.length = n) (hrest : (rest.map fun v => v.category).sum ≤ 8) (hf : cells + 0 ≤ R.cells ∧ slots + 0 ≤ R.slots) (hd : decode cc pc = .ok (.invokevirtual index, 3)) (hn : pc + 3 = n')
    (kk : sd_Y K R E A0 nL Q (sd_pic (E.1, E.2.1, α) L M1) cells slots n' lv rest) : sd_Y K R E A0 nL Q ws cells slots pc lv (As.reverse ++ .ref (α id) :: rest) := by
  subst hn; subst hws
  intro H locs ls hP hD hS hl
  have hsub : ∀ q, sd_adr (E.1, E.2.1, α) L q → A0 q := fun q h => by
    obtain ⟨j, hj, rfl⟩ := h
    obtain ⟨k, -, hk⟩ := sd_pic_at (E := (E.1, E.2.1, α)) (M := M) hj
    exact hD.2 k _ hk
  obtain ⟨q0, -, hq⟩ := sd_pic_at (E := (E.1, E.2.1, α)) (M := M) hid
  rw [he] at hq
  have hrv := va_recv G.2.2.2.2.2.2.2.1 hP hc hq
  rw [hcn] at hrv
  refine va_callv (va_runV (As := As) (rest := rest) ⟨G.1, G.2.1, G.2.2.1, G.2.2.2.1, G.2.2.2.2.1⟩ hM ⟨callB_of n G.2.2.2.2.1 (sd_goodW hw.2.2.2.2.1) rfl hrm.1 hrm.2.1 (G.2.2.2.2.1 _ hw.2.2.2.1) (G.2.2.2.2.1 _ hw.1) hw.2.2.2.2.2 hrm.2.2, G.2.2.2.2.1 _ hw.2.1, G.2.2.2.2.1 _ hw.2.2.1⟩ ⟨sd_blind _ (E.1, E.2.1, α) L M, hrv, fun U hU hW => ⟨rfl, by rw [hU]; exact hP, va_K.moved hW.alike G.2.2.2.2.2.2.2.1, hD.weaken (fun _ _ _ _ => trivial), G.2.2.2.2.2.2.2.2.1.warm hW, by
    rw [hU]
    exact (((G.2.2.2.2.2.2.2.2.2.1).kept (fun a h1 h2 => hS.2.1 a h1 h2)).narrow hsub).moved hW.alike⟩⟩ rfl hlen hl.1 rfl (lv_room hrest) hd hf) hS (fun q _ h => hsub q h) hsub (fun u t H1 locs1 ht hvm hw1 hB _ _ hS1 => ?_)
  subst hw1
  obtain ⟨hP1, hK1, hD1, -, -⟩ := hB
  rw [ht] at hP1
  refine kk H1 locs1 ls hP1 ⟨hD1.1, fun k q hk => ?_⟩ hS1 hl
  exact hsub _ ((sd_pic_D hD1).2 k q hk)
end SDY
