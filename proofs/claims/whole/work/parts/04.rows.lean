section SDA
variable {p : Program} {l : Launch} {e : Env} {R : Room} {s : State} {m : MethodId} {args : Array Value} {below : List Frame} {meth : Method} {c : Code} {H : Heap} {locs : List Loc} {cells slots : Nat} {Q : State → Prop}
variable {cc : ByteArray} {pc : Nat} {ls : Array Slot} {rest : List Value} {D : va_G} {cl : List vw_C} {a : Nat} {tys : List (ClassId × FieldType)} {ws : va_W}
theorem sd_ald2 (hexec : p.tables.exec = Jvm.exec) (hb : c.code = cc) (hK : va_K D cl tys s) (hP : va_P D cl ws H) (q0 t0 : Nat) {cA : ClassId} {ty : FieldType} {n : Nat} {f : Nat → Option Nat} (ha : ws[q0]? = some (a, .inl (cA, n, .inr (.inr (.inr (.inr f)))))) (ht : tys[t0]? = some (cA, .array ty)) {i : Int32} (hin : vp_in i n) (hdg : decode cc pc = .ok (.aaload, 1))
    (kk : W p l e R s m args below meth c H locs cells slots Q (F0 m (pc + 1) ls (va_rf (f i.toNatClampNeg) :: rest))) : W p l e R s m args below meth c H locs cells slots Q (F0 m pc ls (.int i :: .ref a :: rest)) := by
  have hlt : i.toNatClampNeg < n := Nat.not_le.mp fun q => hin (Or.inr q)
  exact W.aald (v := va_rf (f i.toNatClampNeg)) (ty := .array ty) hexec hb (hP q0 _ ha) ((hK.2 t0 _ ht).1 n (fun j => va_rf (f j))) rfl (fun q => by cases q) (by show ¬ (i < 0 ∨ (arrV _ _ _).slots.size ≤ _); rw [arrV_size]; exact hin) (by show (arrV _ _ _).slots[_]? = _; rw [arrV_read _ _ hlt]) rfl rfl hdg kk
end SDA
/-! out of a decompiled text that answers: the branch taken, the bound kept, the callee's answer -/
theorem sd_pos {α : Type} {c : Prop} [Decidable c] {a b : Option α} {r : α} (h : (if c then a else b) = some r) (hc : c) : a = some r := by rwa [if_pos hc] at h
theorem sd_neg {α : Type} {c : Prop} [Decidable c] {a b : Option α} {r : α} (h : (if c then a else b) = some r) (hc : ¬ c) : b = some r := by rwa [if_neg hc] at h
theorem sd_ok {α : Type} {c : Prop} [Decidable c] {b : Option α} {r : α} (h : (if c then none else b) = some r) : ¬ c ∧ b = some r := by
  by_cases hc : c
  · rw [if_pos hc] at h; cases h
  · rw [if_neg hc] at h; exact ⟨hc, h⟩
theorem sd_bind {α β : Type} {a : Option β} {f : β → Option α} {r : α} (h : a.bind f = some r) : ∃ b, a = some b ∧ f b = some r := Option.bind_eq_some_iff.mp h
section SDR
variable {K : sd_K} {R : Room} {E : sd_Env} {L : List Nat} {nL : Nat} {Q : State → Prop} {M : sd_Mem} {pc n' : Nat} {lv lv' : List (Nat × Value)} {st : List Value} {own : String} {cc : ByteArray} {ret : Option FieldType}
theorem sd_iadd (C : sd_C K E L own cc nL ret) {x y : Int32} (hd : decode cc pc = .ok (.iadd, 1)) (hn : pc + 1 = n') (k : sd_Z K R E L nL Q M  n' lv (.int (x + y) :: st)) : sd_Z K R E L nL Q M  pc lv (.int y :: .int x :: st) := by subst hn; exact fun H locs ls hP hD hS hl => lv_iadd C.1 C.2.1 hd  (k H locs ls hP hD hS hl)
theorem sd_isub (C : sd_C K E L own cc nL ret) {x y : Int32} (hd : decode cc pc = .ok (.isub, 1)) (hn : pc + 1 = n') (k : sd_Z K R E L nL Q M  n' lv (.int (x - y) :: st)) : sd_Z K R E L nL Q M  pc lv (.int y :: .int x :: st) := by subst hn; exact fun H locs ls hP hD hS hl => lv_isub C.1 C.2.1 hd  (k H locs ls hP hD hS hl)
theorem sd_imul (C : sd_C K E L own cc nL ret) {x y : Int32} (hd : decode cc pc = .ok (.imul, 1)) (hn : pc + 1 = n') (k : sd_Z K R E L nL Q M  n' lv (.int (x * y) :: st)) : sd_Z K R E L nL Q M  pc lv (.int y :: .int x :: st) := by subst hn; exact fun H locs ls hP hD hS hl => lv_imul C.1 C.2.1 hd  (k H locs ls hP hD hS hl)
theorem sd_iand (C : sd_C K E L own cc nL ret) {x y : Int32} (hd : decode cc pc = .ok (.iand, 1)) (hn : pc + 1 = n') (k : sd_Z K R E L nL Q M  n' lv (.int (x &&& y) :: st)) : sd_Z K R E L nL Q M  pc lv (.int y :: .int x :: st) := by subst hn; exact fun H locs ls hP hD hS hl => lv_iand C.1 C.2.1 hd  (k H locs ls hP hD hS hl)
theorem sd_ior (C : sd_C K E L own cc nL ret) {x y : Int32} (hd : decode cc pc = .ok (.ior, 1)) (hn : pc + 1 = n') (k : sd_Z K R E L nL Q M  n' lv (.int (x ||| y) :: st)) : sd_Z K R E L nL Q M  pc lv (.int y :: .int x :: st) := by subst hn; exact fun H locs ls hP hD hS hl => lv_ior C.1 C.2.1 hd  (k H locs ls hP hD hS hl)
theorem sd_ixor (C : sd_C K E L own cc nL ret) {x y : Int32} (hd : decode cc pc = .ok (.ixor, 1)) (hn : pc + 1 = n') (k : sd_Z K R E L nL Q M  n' lv (.int (x ^^^ y) :: st)) : sd_Z K R E L nL Q M  pc lv (.int y :: .int x :: st) := by subst hn; exact fun H locs ls hP hD hS hl => lv_ixor C.1 C.2.1 hd  (k H locs ls hP hD hS hl)
theorem sd_ishl (C : sd_C K E L own cc nL ret) {x y : Int32} (hd : decode cc pc = .ok (.ishl, 1)) (hn : pc + 1 = n') (k : sd_Z K R E L nL Q M  n' lv (.int (x <<< (y &&& 31)) :: st)) : sd_Z K R E L nL Q M  pc lv (.int y :: .int x :: st) := by subst hn; exact fun H locs ls hP hD hS hl => lv_ishl C.1 C.2.1 hd  (k H locs ls hP hD hS hl)
theorem sd_ishr (C : sd_C K E L own cc nL ret) {x y : Int32} (hd : decode cc pc = .ok (.ishr, 1)) (hn : pc + 1 = n') (k : sd_Z K R E L nL Q M  n' lv (.int (x >>> (y &&& 31)) :: st)) : sd_Z K R E L nL Q M  pc lv (.int y :: .int x :: st) := by subst hn; exact fun H locs ls hP hD hS hl => lv_ishr C.1 C.2.1 hd  (k H locs ls hP hD hS hl)
theorem sd_iushr (C : sd_C K E L own cc nL ret) {x y : Int32} (hd : decode cc pc = .ok (.iushr, 1)) (hn : pc + 1 = n') (k : sd_Z K R E L nL Q M  n' lv (.int ((x.toUInt32 >>> (y.toUInt32 &&& Int32.toUInt32 31)).toInt32) :: st)) : sd_Z K R E L nL Q M  pc lv (.int y :: .int x :: st) := by subst hn; exact fun H locs ls hP hD hS hl => lv_iushr C.1 C.2.1 hd rfl (k H locs ls hP hD hS hl)
theorem sd_ladd (C : sd_C K E L own cc nL ret) {x y : Int64} (hd : decode cc pc = .ok (.ladd, 1)) (hn : pc + 1 = n') (k : sd_Z K R E L nL Q M  n' lv (.long (x + y) :: st)) : sd_Z K R E L nL Q M  pc lv (.long y :: .long x :: st) := by subst hn; exact fun H locs ls hP hD hS hl => lv_ladd C.1 C.2.1 hd  (k H locs ls hP hD hS hl)
theorem sd_lsub (C : sd_C K E L own cc nL ret) {x y : Int64} (hd : decode cc pc = .ok (.lsub, 1)) (hn : pc + 1 = n') (k : sd_Z K R E L nL Q M  n' lv (.long (x - y) :: st)) : sd_Z K R E L nL Q M  pc lv (.long y :: .long x :: st) := by subst hn; exact fun H locs ls hP hD hS hl => lv_lsub C.1 C.2.1 hd  (k H locs ls hP hD hS hl)
theorem sd_lmul (C : sd_C K E L own cc nL ret) {x y : Int64} (hd : decode cc pc = .ok (.lmul, 1)) (hn : pc + 1 = n') (k : sd_Z K R E L nL Q M  n' lv (.long (x * y) :: st)) : sd_Z K R E L nL Q M  pc lv (.long y :: .long x :: st) := by subst hn; exact fun H locs ls hP hD hS hl => lv_lmul C.1 C.2.1 hd  (k H locs ls hP hD hS hl)
theorem sd_ldiv (C : sd_C K E L own cc nL ret) {x y : Int64} (hd : decode cc pc = .ok (.ldiv, 1)) (h0 : ¬ y = 0) (hn : pc + 1 = n') (k : sd_Z K R E L nL Q M  n' lv (.long (x / y) :: st)) : sd_Z K R E L nL Q M  pc lv (.long y :: .long x :: st) := by subst hn; exact fun H locs ls hP hD hS hl => lv_ldiv C.1 C.2.1 hd h0 (k H locs ls hP hD hS hl)
theorem sd_lrem (C : sd_C K E L own cc nL ret) {x y : Int64} (hd : decode cc pc = .ok (.lrem, 1)) (h0 : ¬ y = 0) (hn : pc + 1 = n') (k : sd_Z K R E L nL Q M  n' lv (.long (x - x / y * y) :: st)) : sd_Z K R E L nL Q M  pc lv (.long y :: .long x :: st) := by subst hn; exact fun H locs ls hP hD hS hl => lv_lrem C.1 C.2.1 hd h0 (k H locs ls hP hD hS hl)
theorem sd_lneg (C : sd_C K E L own cc nL ret) {x : Int64} (hd : decode cc pc = .ok (.lneg, 1)) (hn : pc + 1 = n') (k : sd_Z K R E L nL Q M  n' lv (.long (-x) :: st)) : sd_Z K R E L nL Q M  pc lv (.long x :: st) := by subst hn; exact fun H locs ls hP hD hS hl => lv_lneg C.1 C.2.1 hd  (k H locs ls hP hD hS hl)
theorem sd_lcmp (C : sd_C K E L own cc nL ret) {x y : Int64} (hd : decode cc pc = .ok (.lcmp, 1)) (hn : pc + 1 = n') (k : sd_Z K R E L nL Q M  n' lv (.int (lg_cmp x y) :: st)) : sd_Z K R E L nL Q M  pc lv (.long y :: .long x :: st) := by subst hn; exact fun H locs ls hP hD hS hl => W.lcmp C.1 C.2.1 hd  (k H locs ls hP hD hS hl)
theorem sd_i2l (C : sd_C K E L own cc nL ret) {x : Int32} (hd : decode cc pc = .ok (.i2l, 1)) (hn : pc + 1 = n') (k : sd_Z K R E L nL Q M  n' lv (.long x.toInt64 :: st)) : sd_Z K R E L nL Q M  pc lv (.int x :: st) := by subst hn; exact fun H locs ls hP hD hS hl => lv_i2l C.1 C.2.1 hd rfl (k H locs ls hP hD hS hl)
theorem sd_l2i (C : sd_C K E L own cc nL ret) {x : Int64} (hd : decode cc pc = .ok (.l2i, 1)) (hn : pc + 1 = n') (k : sd_Z K R E L nL Q M  n' lv (.int x.toInt32 :: st)) : sd_Z K R E L nL Q M  pc lv (.long x :: st) := by subst hn; exact fun H locs ls hP hD hS hl => lv_l2i C.1 C.2.1 hd rfl (k H locs ls hP hD hS hl)
theorem sd_i2b (C : sd_C K E L own cc nL ret) {x : Int32} (hd : decode cc pc = .ok (.i2b, 1)) (hn : pc + 1 = n') (k : sd_Z K R E L nL Q M  n' lv (.int x.toInt8.toInt32 :: st)) : sd_Z K R E L nL Q M  pc lv (.int x :: st) := by subst hn; exact fun H locs ls hP hD hS hl => lv_i2b C.1 C.2.1 hd rfl (k H locs ls hP hD hS hl)
theorem sd_iconst (C : sd_C K E L own cc nL ret) {n : Int} {v : Int32} (hd : decode cc pc = .ok (.iconst n, 1)) (hv : Int32.ofInt n = v) (hn : pc + 1 = n') (k : sd_Z K R E L nL Q M  n' lv (.int v :: st)) : sd_Z K R E L nL Q M  pc lv (st) := by subst hn; exact fun H locs ls hP hD hS hl => lv_iconst C.1 C.2.1 hd hv (k H locs ls hP hD hS hl)
theorem sd_bipush (C : sd_C K E L own cc nL ret) {n : Int} {v : Int32} (hd : decode cc pc = .ok (.bipush n, 2)) (hv : (Int8.ofInt n).toInt32 = v) (hn : pc + 2 = n') (k : sd_Z K R E L nL Q M  n' lv (.int v :: st)) : sd_Z K R E L nL Q M  pc lv (st) := by subst hn; exact fun H locs ls hP hD hS hl => lv_bipush C.1 C.2.1 hd hv (k H locs ls hP hD hS hl)
theorem sd_sipush (C : sd_C K E L own cc nL ret) {n : Int} {v : Int32} (hd : decode cc pc = .ok (.sipush n, 3)) (hv : (Int16.ofInt n).toInt32 = v) (hn : pc + 3 = n') (k : sd_Z K R E L nL Q M  n' lv (.int v :: st)) : sd_Z K R E L nL Q M  pc lv (st) := by subst hn; exact fun H locs ls hP hD hS hl => lv_sipush C.1 C.2.1 hd hv (k H locs ls hP hD hS hl)
theorem sd_lconst (C : sd_C K E L own cc nL ret) {n : Fin 2} {v : Int64} (hd : decode cc pc = .ok (.lconst n, 1)) (hv : Int64.ofNat (n : Nat) = v) (hn : pc + 1 = n') (k : sd_Z K R E L nL Q M  n' lv (.long v :: st)) : sd_Z K R E L nL Q M  pc lv (st) := by subst hn; exact fun H locs ls hP hD hS hl => lv_lconst C.1 C.2.1 hd hv (k H locs ls hP hD hS hl)
theorem sd_dup (C : sd_C K E L own cc nL ret) {va : Value} (hd : decode cc pc = .ok (.dup, 1)) (hc : va.category = 1) (hn : pc + 1 = n') (k : sd_Z K R E L nL Q M  n' lv (va :: va :: st)) : sd_Z K R E L nL Q M  pc lv (va :: st) := by subst hn; exact fun H locs ls hP hD hS hl => lv_dup C.1 C.2.1 hd hc (k H locs ls hP hD hS hl)
theorem sd_pop (C : sd_C K E L own cc nL ret) {va : Value} (hd : decode cc pc = .ok (.pop, 1)) (hc : va.category = 1) (hn : pc + 1 = n') (k : sd_Z K R E L nL Q M  n' lv (st)) : sd_Z K R E L nL Q M  pc lv (va :: st) := by subst hn; exact fun H locs ls hP hD hS hl => lv_pop C.1 C.2.1 hd hc (k H locs ls hP hD hS hl)
theorem sd_dup2 (C : sd_C K E L own cc nL ret) {va vb : Value} (hd : decode cc pc = .ok (.dup2, 1)) (hc : va.category = 1) (hc2 : vb.category = 1) (hn : pc + 1 = n') (k : sd_Z K R E L nL Q M  n' lv (va :: vb :: va :: vb :: st)) : sd_Z K R E L nL Q M  pc lv (va :: vb :: st) := by subst hn; exact fun H locs ls hP hD hS hl => lv_dup2_11 C.1 C.2.1 hd hc hc2 (k H locs ls hP hD hS hl)
theorem sd_iload_n (C : sd_C K E L own cc nL ret) (j : Nat) {k' : Fin 4} {i : Nat} {x : Int32} (hd : decode cc pc = .ok (.iload_n k', 1)) (hi : (k' : Nat) = i) (hj : lv[j]? = some (i, .int x)) (hn : pc + 1 = n') (k : sd_Z K R E L nL Q M  n' lv (.int x :: st)) : sd_Z K R E L nL Q M  pc lv (st) := by subst hn; exact fun H locs ls hP hD hS hl => lv_iload_n C.1 C.2.1 hd hi (lv_at hl j hj) (k H locs ls hP hD hS hl)
theorem sd_iload (C : sd_C K E L own cc nL ret) (j : Nat) {i : Nat} {x : Int32} (hd : decode cc pc = .ok (.iload i, 2)) (hj : lv[j]? = some (i, .int x)) (hn : pc + 2 = n') (k : sd_Z K R E L nL Q M  n' lv (.int x :: st)) : sd_Z K R E L nL Q M  pc lv (st) := by subst hn; exact fun H locs ls hP hD hS hl => lv_iload C.1 C.2.1 hd (lv_at hl j hj) (k H locs ls hP hD hS hl)
theorem sd_istore_n (lv' : List (Nat × Value)) (C : sd_C K E L own cc nL ret) {k' : Fin 4} {i : Nat} {x : Int32} (hd : decode cc pc = .ok (.istore_n k', 1)) (hi : (k' : Nat) = i) (hb : i < nL) (hf : (i, Value.int x) :: lv.filter (fun q => !(q.1 == i) && !(q.1 + 1 == i && q.2.category == 2)) = lv') (hn : pc + 1 = n') (k : sd_Z K R E L nL Q M  n' lv' st) : sd_Z K R E L nL Q M  pc lv (.int x :: st) := by subst hn; exact fun H locs ls hP hD hS hl => lv_istore_n C.1 C.2.1 hd hi hl hb hf (fun ls' hl' => k H locs ls' hP hD hS hl')
theorem sd_istore (lv' : List (Nat × Value)) (C : sd_C K E L own cc nL ret) {i : Nat} {x : Int32} (hd : decode cc pc = .ok (.istore i, 2)) (hb : i < nL) (hf : (i, Value.int x) :: lv.filter (fun q => !(q.1 == i) && !(q.1 + 1 == i && q.2.category == 2)) = lv') (hn : pc + 2 = n') (k : sd_Z K R E L nL Q M  n' lv' st) : sd_Z K R E L nL Q M  pc lv (.int x :: st) := by subst hn; exact fun H locs ls hP hD hS hl => lv_istore C.1 C.2.1 hd hl hb hf (fun ls' hl' => k H locs ls' hP hD hS hl')
theorem sd_lload_n (C : sd_C K E L own cc nL ret) (j : Nat) {k' : Fin 4} {i : Nat} {x : Int64} (hd : decode cc pc = .ok (.lload_n k', 1)) (hi : (k' : Nat) = i) (hj : lv[j]? = some (i, .long x)) (hn : pc + 1 = n') (k : sd_Z K R E L nL Q M  n' lv (.long x :: st)) : sd_Z K R E L nL Q M  pc lv (st) := by subst hn; exact fun H locs ls hP hD hS hl => lv_lload_n C.1 C.2.1 hd hi (lv_at hl j hj) (k H locs ls hP hD hS hl)
theorem sd_lload (C : sd_C K E L own cc nL ret) (j : Nat) {i : Nat} {x : Int64} (hd : decode cc pc = .ok (.lload i, 2)) (hj : lv[j]? = some (i, .long x)) (hn : pc + 2 = n') (k : sd_Z K R E L nL Q M  n' lv (.long x :: st)) : sd_Z K R E L nL Q M  pc lv (st) := by subst hn; exact fun H locs ls hP hD hS hl => lv_lload C.1 C.2.1 hd (lv_at hl j hj) (k H locs ls hP hD hS hl)
theorem sd_lstore_n (lv' : List (Nat × Value)) (C : sd_C K E L own cc nL ret) {k' : Fin 4} {i : Nat} {x : Int64} (hd : decode cc pc = .ok (.lstore_n k', 1)) (hi : (k' : Nat) = i) (hb : i + 1 < nL) (hf : (i, Value.long x) :: lv.filter (fun q => !(q.1 == i) && (!(q.1 == i + 1) && !(q.1 + 1 == i && q.2.category == 2))) = lv') (hn : pc + 1 = n') (k : sd_Z K R E L nL Q M  n' lv' st) : sd_Z K R E L nL Q M  pc lv (.long x :: st) := by subst hn; exact fun H locs ls hP hD hS hl => lv_lstore_n C.1 C.2.1 hd hi hl hb hf (fun ls' hl' => k H locs ls' hP hD hS hl')
theorem sd_lstore (lv' : List (Nat × Value)) (C : sd_C K E L own cc nL ret) {i : Nat} {x : Int64} (hd : decode cc pc = .ok (.lstore i, 2)) (hb : i + 1 < nL) (hf : (i, Value.long x) :: lv.filter (fun q => !(q.1 == i) && (!(q.1 == i + 1) && !(q.1 + 1 == i && q.2.category == 2))) = lv') (hn : pc + 2 = n') (k : sd_Z K R E L nL Q M  n' lv' st) : sd_Z K R E L nL Q M  pc lv (.long x :: st) := by subst hn; exact fun H locs ls hP hD hS hl => lv_lstore C.1 C.2.1 hd hl hb hf (fun ls' hl' => k H locs ls' hP hD hS hl')
theorem sd_aload_n (C : sd_C K E L own cc nL ret) (j : Nat) {k' : Fin 4} {i : Nat} {x : Nat} (hd : decode cc pc = .ok (.aload_n k', 1)) (hi : (k' : Nat) = i) (hj : lv[j]? = some (i, .ref x)) (hn : pc + 1 = n') (k : sd_Z K R E L nL Q M  n' lv (.ref x :: st)) : sd_Z K R E L nL Q M  pc lv (st) := by subst hn; exact fun H locs ls hP hD hS hl => lv_aload_n C.1 C.2.1 hd hi (lv_at hl j hj) (k H locs ls hP hD hS hl)
theorem sd_aload (C : sd_C K E L own cc nL ret) (j : Nat) {i : Nat} {x : Nat} (hd : decode cc pc = .ok (.aload i, 2)) (hj : lv[j]? = some (i, .ref x)) (hn : pc + 2 = n') (k : sd_Z K R E L nL Q M  n' lv (.ref x :: st)) : sd_Z K R E L nL Q M  pc lv (st) := by subst hn; exact fun H locs ls hP hD hS hl => lv_aload C.1 C.2.1 hd (lv_at hl j hj) (k H locs ls hP hD hS hl)
theorem sd_astore_n (lv' : List (Nat × Value)) (C : sd_C K E L own cc nL ret) {k' : Fin 4} {i : Nat} {x : Nat} (hd : decode cc pc = .ok (.astore_n k', 1)) (hi : (k' : Nat) = i) (hb : i < nL) (hf : (i, Value.ref x) :: lv.filter (fun q => !(q.1 == i) && !(q.1 + 1 == i && q.2.category == 2)) = lv') (hn : pc + 1 = n') (k : sd_Z K R E L nL Q M  n' lv' st) : sd_Z K R E L nL Q M  pc lv (.ref x :: st) := by subst hn; exact fun H locs ls hP hD hS hl => lv_astore_n C.1 C.2.1 hd hi hl hb hf (fun ls' hl' => k H locs ls' hP hD hS hl')
theorem sd_astore (lv' : List (Nat × Value)) (C : sd_C K E L own cc nL ret) {i : Nat} {x : Nat} (hd : decode cc pc = .ok (.astore i, 2)) (hb : i < nL) (hf : (i, Value.ref x) :: lv.filter (fun q => !(q.1 == i) && !(q.1 + 1 == i && q.2.category == 2)) = lv') (hn : pc + 2 = n') (k : sd_Z K R E L nL Q M  n' lv' st) : sd_Z K R E L nL Q M  pc lv (.ref x :: st) := by subst hn; exact fun H locs ls hP hD hS hl => lv_astore C.1 C.2.1 hd hl hb hf (fun ls' hl' => k H locs ls' hP hD hS hl')
theorem sd_iinc (lv' : List (Nat × Value)) (j : Nat) (C : sd_C K E L own cc nL ret) {i : Nat} {n : Int} {x v : Int32} (hd : decode cc pc = .ok (.iinc i n, 3)) (hj : lv[j]? = some (i, .int x)) (hv : x + Int32.ofInt n = v) (hb : i < nL) (hf : (i, Value.int v) :: lv.filter (fun q => !(q.1 == i) && !(q.1 + 1 == i && q.2.category == 2)) = lv') (hn : pc + 3 = n') (k : sd_Z K R E L nL Q M  n' lv' st) : sd_Z K R E L nL Q M  pc lv st := by subst hn; exact fun H locs ls hP hD hS hl => lv_iinc C.1 C.2.1 hd hl hj hv hb hf (fun ls' hl' => k H locs ls' hP hD hS hl')
theorem sd_icmp_eq (C : sd_C K E L own cc nL ret) {x y : Int32} {off : Int} {tgt : Nat} (hd : decode cc pc = .ok (.if_icmp .eq off, 3)) (ht : (pc : Int) + off = (tgt : Int)) (hn : pc + 3 = n') (kt : x = y → sd_Z K R E L nL Q M  tgt lv st) (kf : ¬ x = y → sd_Z K R E L nL Q M  n' lv st) : sd_Z K R E L nL Q M  pc lv (.int y :: .int x :: st) := by subst hn; exact fun H locs ls hP hD hS hl => lv_icmp_eq C.1 C.2.1 hd ht (fun q => kt q H locs ls hP hD hS hl) (fun q => kf q H locs ls hP hD hS hl)
theorem sd_if_eq (C : sd_C K E L own cc nL ret) {x : Int32} {off : Int} {tgt : Nat} (hd : decode cc pc = .ok (.ifCond .eq off, 3)) (ht : (pc : Int) + off = (tgt : Int)) (hn : pc + 3 = n') (kt : x = 0 → sd_Z K R E L nL Q M  tgt lv st) (kf : ¬ x = 0 → sd_Z K R E L nL Q M  n' lv st) : sd_Z K R E L nL Q M  pc lv (.int x :: st) := by subst hn; exact fun H locs ls hP hD hS hl => lv_if_eq C.1 C.2.1 hd ht (fun q => kt q H locs ls hP hD hS hl) (fun q => kf q H locs ls hP hD hS hl)
theorem sd_icmp_ne (C : sd_C K E L own cc nL ret) {x y : Int32} {off : Int} {tgt : Nat} (hd : decode cc pc = .ok (.if_icmp .ne off, 3)) (ht : (pc : Int) + off = (tgt : Int)) (hn : pc + 3 = n') (kt : ¬ x = y → sd_Z K R E L nL Q M  tgt lv st) (kf : x = y → sd_Z K R E L nL Q M  n' lv st) : sd_Z K R E L nL Q M  pc lv (.int y :: .int x :: st) := by subst hn; exact fun H locs ls hP hD hS hl => lv_icmp_ne C.1 C.2.1 hd ht (fun q => kt q H locs ls hP hD hS hl) (fun q => kf q H locs ls hP hD hS hl)
theorem sd_if_ne (C : sd_C K E L own cc nL ret) {x : Int32} {off : Int} {tgt : Nat} (hd : decode cc pc = .ok (.ifCond .ne off, 3)) (ht : (pc : Int) + off = (tgt : Int)) (hn : pc + 3 = n') (kt : ¬ x = 0 → sd_Z K R E L nL Q M  tgt lv st) (kf : x = 0 → sd_Z K R E L nL Q M  n' lv st) : sd_Z K R E L nL Q M  pc lv (.int x :: st) := by subst hn; exact fun H locs ls hP hD hS hl => lv_if_ne C.1 C.2.1 hd ht (fun q => kt q H locs ls hP hD hS hl) (fun q => kf q H locs ls hP hD hS hl)
theorem sd_icmp_lt (C : sd_C K E L own cc nL ret) {x y : Int32} {off : Int} {tgt : Nat} (hd : decode cc pc = .ok (.if_icmp .lt off, 3)) (ht : (pc : Int) + off = (tgt : Int)) (hn : pc + 3 = n') (kt : x < y → sd_Z K R E L nL Q M  tgt lv st) (kf : ¬ x < y → sd_Z K R E L nL Q M  n' lv st) : sd_Z K R E L nL Q M  pc lv (.int y :: .int x :: st) := by subst hn; exact fun H locs ls hP hD hS hl => lv_icmp_lt C.1 C.2.1 hd ht (fun q => kt q H locs ls hP hD hS hl) (fun q => kf q H locs ls hP hD hS hl)
theorem sd_if_lt (C : sd_C K E L own cc nL ret) {x : Int32} {off : Int} {tgt : Nat} (hd : decode cc pc = .ok (.ifCond .lt off, 3)) (ht : (pc : Int) + off = (tgt : Int)) (hn : pc + 3 = n') (kt : x < 0 → sd_Z K R E L nL Q M  tgt lv st) (kf : ¬ x < 0 → sd_Z K R E L nL Q M  n' lv st) : sd_Z K R E L nL Q M  pc lv (.int x :: st) := by subst hn; exact fun H locs ls hP hD hS hl => lv_if_lt C.1 C.2.1 hd ht (fun q => kt q H locs ls hP hD hS hl) (fun q => kf q H locs ls hP hD hS hl)
theorem sd_icmp_ge (C : sd_C K E L own cc nL ret) {x y : Int32} {off : Int} {tgt : Nat} (hd : decode cc pc = .ok (.if_icmp .ge off, 3)) (ht : (pc : Int) + off = (tgt : Int)) (hn : pc + 3 = n') (kt : y ≤ x → sd_Z K R E L nL Q M  tgt lv st) (kf : ¬ y ≤ x → sd_Z K R E L nL Q M  n' lv st) : sd_Z K R E L nL Q M  pc lv (.int y :: .int x :: st) := by subst hn; exact fun H locs ls hP hD hS hl => lv_icmp_ge C.1 C.2.1 hd ht (fun q => kt q H locs ls hP hD hS hl) (fun q => kf q H locs ls hP hD hS hl)
theorem sd_if_ge (C : sd_C K E L own cc nL ret) {x : Int32} {off : Int} {tgt : Nat} (hd : decode cc pc = .ok (.ifCond .ge off, 3)) (ht : (pc : Int) + off = (tgt : Int)) (hn : pc + 3 = n') (kt : 0 ≤ x → sd_Z K R E L nL Q M  tgt lv st) (kf : ¬ 0 ≤ x → sd_Z K R E L nL Q M  n' lv st) : sd_Z K R E L nL Q M  pc lv (.int x :: st) := by subst hn; exact fun H locs ls hP hD hS hl => lv_if_ge C.1 C.2.1 hd ht (fun q => kt q H locs ls hP hD hS hl) (fun q => kf q H locs ls hP hD hS hl)
theorem sd_icmp_gt (C : sd_C K E L own cc nL ret) {x y : Int32} {off : Int} {tgt : Nat} (hd : decode cc pc = .ok (.if_icmp .gt off, 3)) (ht : (pc : Int) + off = (tgt : Int)) (hn : pc + 3 = n') (kt : y < x → sd_Z K R E L nL Q M  tgt lv st) (kf : ¬ y < x → sd_Z K R E L nL Q M  n' lv st) : sd_Z K R E L nL Q M  pc lv (.int y :: .int x :: st) := by subst hn; exact fun H locs ls hP hD hS hl => lv_icmp_gt C.1 C.2.1 hd ht (fun q => kt q H locs ls hP hD hS hl) (fun q => kf q H locs ls hP hD hS hl)
theorem sd_if_gt (C : sd_C K E L own cc nL ret) {x : Int32} {off : Int} {tgt : Nat} (hd : decode cc pc = .ok (.ifCond .gt off, 3)) (ht : (pc : Int) + off = (tgt : Int)) (hn : pc + 3 = n') (kt : 0 < x → sd_Z K R E L nL Q M  tgt lv st) (kf : ¬ 0 < x → sd_Z K R E L nL Q M  n' lv st) : sd_Z K R E L nL Q M  pc lv (.int x :: st) := by subst hn; exact fun H locs ls hP hD hS hl => lv_if_gt C.1 C.2.1 hd ht (fun q => kt q H locs ls hP hD hS hl) (fun q => kf q H locs ls hP hD hS hl)
theorem sd_icmp_le (C : sd_C K E L own cc nL ret) {x y : Int32} {off : Int} {tgt : Nat} (hd : decode cc pc = .ok (.if_icmp .le off, 3)) (ht : (pc : Int) + off = (tgt : Int)) (hn : pc + 3 = n') (kt : x ≤ y → sd_Z K R E L nL Q M  tgt lv st) (kf : ¬ x ≤ y → sd_Z K R E L nL Q M  n' lv st) : sd_Z K R E L nL Q M  pc lv (.int y :: .int x :: st) := by subst hn; exact fun H locs ls hP hD hS hl => lv_icmp_le C.1 C.2.1 hd ht (fun q => kt q H locs ls hP hD hS hl) (fun q => kf q H locs ls hP hD hS hl)
theorem sd_if_le (C : sd_C K E L own cc nL ret) {x : Int32} {off : Int} {tgt : Nat} (hd : decode cc pc = .ok (.ifCond .le off, 3)) (ht : (pc : Int) + off = (tgt : Int)) (hn : pc + 3 = n') (kt : x ≤ 0 → sd_Z K R E L nL Q M  tgt lv st) (kf : ¬ x ≤ 0 → sd_Z K R E L nL Q M  n' lv st) : sd_Z K R E L nL Q M  pc lv (.int x :: st) := by subst hn; exact fun H locs ls hP hD hS hl => lv_if_le C.1 C.2.1 hd ht (fun q => kt q H locs ls hP hD hS hl) (fun q => kf q H locs ls hP hD hS hl)
theorem sd_goto (C : sd_C K E L own cc nL ret) {off : Int} {tgt : Nat} (hd : decode cc pc = .ok (.goto off, 3)) (ht : (pc : Int) + off = (tgt : Int)) (k : sd_Z K R E L nL Q M  tgt lv st) : sd_Z K R E L nL Q M  pc lv st := fun H locs ls hP hD hS hl => lv_goto C.1 C.2.1 hd ht (k H locs ls hP hD hS hl)
theorem sd_sub (ks : List Nat) (h : lv_pick lv ks = lv') (k : sd_Z K R E L nL Q M  pc lv' st) : sd_Z K R E L nL Q M  pc lv st := fun H locs ls hP hD hS hl => k H locs ls hP hD hS (lv_sub hl ks h)
theorem sd_tabOut (C : sd_C K E L own cc nL ret) {dflt lo hi : Int} {offs : Array Int} {len : Nat} {x : Int32} {tgt : Nat} (hd : decode cc pc = .ok (.tableswitch dflt lo hi offs, len)) (h : x.toInt < lo ∨ hi < x.toInt) (ht : (pc : Int) + dflt = (tgt : Int)) (k : sd_Z K R E L nL Q M  tgt lv st) : sd_Z K R E L nL Q M  pc lv (.int x :: st) := fun H locs ls hP hD hS hl => lv_tableOut C.1 C.2.1 hd h ht (k H locs ls hP hD hS hl)
theorem sd_tabIn (C : sd_C K E L own cc nL ret) {dflt lo hi : Int} {offs : Array Int} {len : Nat} {x v : Int32} {off : Int} {tgt : Nat} (hx : x = v) (hd : decode cc pc = .ok (.tableswitch dflt lo hi offs, len)) (h1 : ¬ v.toInt < lo) (h2 : ¬ hi < v.toInt) (ho : offs[(v.toInt - lo).toNat]? = some off) (ht : (pc : Int) + off = (tgt : Int)) (k : sd_Z K R E L nL Q M  tgt lv st) : sd_Z K R E L nL Q M  pc lv (.int x :: st) := by subst hx; exact fun H locs ls hP hD hS hl => lv_tableIn C.1 C.2.1 hd h1 h2 ho ht (k H locs ls hP hD hS hl)
theorem sd_ldc2 (C : sd_C K E L own cc nL ret) {index : Nat} {v : Int64} (hc : Cond.constantLong own index v ∈ sd_TW) (hd : decode cc pc = .ok (.ldc2_w index, 3)) (hn : pc + 3 = n') (k : sd_Z K R E L nL Q M  n' lv (.long v :: st)) : sd_Z K R E L nL Q M  pc lv st := by subst hn; exact fun H locs ls hP hD hS hl => lv_ldc2 C.1 C.2.1 C.2.2.2.1 (C.2.2.2.2.1 _ hc) hd (k H locs ls hP hD hS hl)
theorem sd_ldcw (C : sd_C K E L own cc nL ret) {index : Nat} {v : Int32} (hc : Cond.constant own index v ∈ sd_TW) (hd : decode cc pc = .ok (.ldc_w index, 3)) (hn : pc + 3 = n') (k : sd_Z K R E L nL Q M  n' lv (.int v :: st)) : sd_Z K R E L nL Q M  pc lv st := by subst hn; exact fun H locs ls hP hD hS hl => lv_ldcw C.1 C.2.1 C.2.2.2.1 (C.2.2.2.2.1 _ hc) hd (k H locs ls hP hD hS hl)
theorem sd_in_lt {i : Int32} {n : Nat} (h : vp_in i n) : i.toNatClampNeg < n := Nat.not_le.mp fun q => h (Or.inr q)
theorem sd_get (C : sd_C K E L own cc nL ret) {id ci N index : Nat} {fs : List Value} {Cn : String} {T : u_T} (k : Nat) {v : Value} (hid : id ∈ L) (he : sd_ent E id (M.1 id) (M.2 id) = .inr (ci, fs)) (hc : sd_cl[ci]? = some (Cn, T, N)) (hin : ∀ w ∈ u_ws Cn T N, w ∈ sd_TW) (hk : k < N) (hlink : Cond.fieldLink own index (T k).1 (T k).2.1 (T k).2.2.1 ∈ sd_TW) (hv : fs[k]? = some v) (hd : decode cc pc = .ok (.getfield index, 3)) (hn : pc + 3 = n') (kk : sd_Z K R E L nL Q M  n' lv (v :: st)) : sd_Z K R E L nL Q M  pc lv (.ref (E.2.2 id) :: st) := by
  subst hn
  intro H locs ls hP hD hS hl
  obtain ⟨q0, -, hq⟩ := sd_pic_at (E := E) (M := M) hid
  rw [he] at hq
  exact va_get (ref := (T k).1) C.1 C.2.1 C.2.2.2.2.1 hin C.2.2.2.1 C.2.2.2.2.2.2.2.1 hP q0 hq hc k hk (C.2.2.2.2.1 _ hlink) (fun _ h => h) hv hd (kk H locs ls hP hD hS hl)
theorem sd_getN (C : sd_C K E L own cc nL ret) {id ci N index : Nat} {fs : List Value} {Cn host : String} {T : u_T} (k : Nat) {v : Value} (hid : id ∈ L) (he : sd_ent E id (M.1 id) (M.2 id) = .inr (ci, fs)) (hc : sd_cl[ci]? = some (Cn, T, N)) (hin : ∀ w ∈ u_ws Cn T N, w ∈ sd_TW) (hk : k < N) (hlink : Cond.fieldLinkNest own index (T k).1 (T k).2.1 (T k).2.2.1 host ∈ sd_NW) (hv : fs[k]? = some v) (hd : decode cc pc = .ok (.getfield index, 3)) (hn : pc + 3 = n') (kk : sd_Z K R E L nL Q M  n' lv (v :: st)) : sd_Z K R E L nL Q M  pc lv (.ref (E.2.2 id) :: st) := by
  subst hn
  intro H locs ls hP hD hS hl
  obtain ⟨q0, -, hq⟩ := sd_pic_at (E := E) (M := M) hid
  rw [he] at hq
  exact va_getN (ref := (T k).1) C.1 C.2.1 C.2.2.2.2.1 hin C.2.2.2.1 C.2.2.2.2.2.2.2.1 hP q0 hq hc k hk (va_Nw.use rfl (C.2.2.2.2.2.2.2.2.1 _ hlink)) (fun _ h => h) hv hd (kk H locs ls hP hD hS hl)
theorem sd_put (C : sd_C K E L own cc nL ret) {id ci N index : Nat} {fs : List Value} {Cn : String} {T : u_T} {ty0 : Nat → FieldType} (k : Nat) {ty : FieldType} {v : Value} (M' : sd_Mem) (hid : id ∈ L) (he : sd_ent E id (M.1 id) (M.2 id) = .inr (ci, fs)) (hc : sd_cl[ci]? = some (Cn, T, N)) (hin : ∀ w ∈ u_ws Cn T N, w ∈ sd_TW) (hty : ∀ k, k < N → parseFieldDescriptor (T k).2.2.1 = some (ty0 k)) (hnm : ∀ a, a < N → ∀ b, b < N → a ≠ b → (T a).2.1 ≠ (T b).2.1) (hk : k < N) (hlink : Cond.fieldLink own index (T k).1 (T k).2.1 (T k).2.2.1 ∈ sd_TW) (hfin : (T k).2.2.2 = false) (htd : parseFieldDescriptor (T k).2.2.1 = some ty) (hna : narrow ty v = v) (hfit : fits ty v = true) (hlen : k < fs.length)
    (he' : sd_ent E id (M'.1 id) (M'.2 id) = .inr (ci, fs.set k v)) (ho : ∀ j, j ≠ id → M'.1 j = M.1 j ∧ M'.2 j = M.2 j) (hd : decode cc pc = .ok (.putfield index, 3)) (hn : pc + 3 = n') (kk : sd_Z K R E L nL Q M' n' lv st) : sd_Z K R E L nL Q M pc lv (v :: .ref (E.2.2 id) :: st) := by
  subst hn
  intro H locs ls hP hD hS hl
  obtain ⟨q0, hL, hq⟩ := sd_pic_at (E := E) (M := M) hid
  rw [he] at hq
  refine va_put (ref := (T k).1) C.1 C.2.1 C.2.2.2.2.1 hin ty0 hty hnm C.2.2.2.1 C.2.2.2.2.2.2.2.1 hP hD hS q0 hq hc k hk (C.2.2.2.2.1 _ hlink) (fun _ h => h) hfin htd hna hfit hlen hd (fun H1 locs1 hP1 hD1 hS1 => ?_)
  rw [sd_pic_set hD hL he' ho] at hP1 hD1
  exact kk H1 locs1 ls hP1 hD1 hS1 hl
theorem sd_putN (C : sd_C K E L own cc nL ret) {id ci N index : Nat} {fs : List Value} {Cn host : String} {T : u_T} {ty0 : Nat → FieldType} (k : Nat) {ty : FieldType} {v : Value} (M' : sd_Mem) (hid : id ∈ L) (he : sd_ent E id (M.1 id) (M.2 id) = .inr (ci, fs)) (hc : sd_cl[ci]? = some (Cn, T, N)) (hin : ∀ w ∈ u_ws Cn T N, w ∈ sd_TW) (hty : ∀ k, k < N → parseFieldDescriptor (T k).2.2.1 = some (ty0 k)) (hnm : ∀ a, a < N → ∀ b, b < N → a ≠ b → (T a).2.1 ≠ (T b).2.1) (hk : k < N) (hlink : Cond.fieldLinkNest own index (T k).1 (T k).2.1 (T k).2.2.1 host ∈ sd_NW) (hfin : (T k).2.2.2 = false) (htd : parseFieldDescriptor (T k).2.2.1 = some ty) (hna : narrow ty v = v) (hfit : fits ty v = true) (hlen : k < fs.length)
    (he' : sd_ent E id (M'.1 id) (M'.2 id) = .inr (ci, fs.set k v)) (ho : ∀ j, j ≠ id → M'.1 j = M.1 j ∧ M'.2 j = M.2 j) (hd : decode cc pc = .ok (.putfield index, 3)) (hn : pc + 3 = n') (kk : sd_Z K R E L nL Q M' n' lv st) : sd_Z K R E L nL Q M pc lv (v :: .ref (E.2.2 id) :: st) := by
  subst hn
  intro H locs ls hP hD hS hl
  obtain ⟨q0, hL, hq⟩ := sd_pic_at (E := E) (M := M) hid
  rw [he] at hq
  refine va_putN (ref := (T k).1) C.1 C.2.1 C.2.2.2.2.1 hin ty0 hty hnm C.2.2.2.1 C.2.2.2.2.2.2.2.1 hP hD hS q0 hq hc k hk (va_Nw.use rfl (C.2.2.2.2.2.2.2.2.1 _ hlink)) (fun _ h => h) hfin htd hna hfit hlen hd (fun H1 locs1 hP1 hD1 hS1 => ?_)
  rw [sd_pic_set hD hL he' ho] at hP1 hD1
  exact kk H1 locs1 ls hP1 hD1 hS1 hl
theorem sd_iald (C : sd_C K E L own cc nL ret) {a n : Nat} {i : Int32} (hid : a ∈ L) (hk : sd_kd a = 20) (hln : sd_ln a = n) (hin : vp_in i n) (hd : decode cc pc = .ok (.iaload, 1)) (hn : pc + 1 = n') (kk : sd_Z K R E L nL Q M n' lv (.int (M.1 a i.toNatClampNeg) :: st)) : sd_Z K R E L nL Q M pc lv (.int i :: .ref (E.2.2 a) :: st) := by
  subst hn; subst hln
  intro H locs ls hP hD hS hl
  obtain ⟨q0, -, hq⟩ := sd_pic_at (E := E) (M := M) hid
  rw [sd_e20 hk] at hq
  exact va_iald C.1 C.2.1 C.2.2.2.2.2.2.2.1 hP q0 0 hq rfl hin hd (kk H locs ls hP hD hS hl)
theorem sd_zald (C : sd_C K E L own cc nL ret) {a n : Nat} {i : Int32} (hid : a ∈ L) (hk : sd_kd a = 21) (hln : sd_ln a = n) (hin : vp_in i n) (hd : decode cc pc = .ok (.baload, 1)) (hn : pc + 1 = n') (kk : sd_Z K R E L nL Q M n' lv (.int (M.1 a i.toNatClampNeg) :: st)) : sd_Z K R E L nL Q M pc lv (.int i :: .ref (E.2.2 a) :: st) := by
  subst hn; subst hln
  intro H locs ls hP hD hS hl
  obtain ⟨q0, -, hq⟩ := sd_pic_at (E := E) (M := M) hid
  rw [sd_e21 hk] at hq
  exact va_zald C.1 C.2.1 C.2.2.2.2.2.2.2.1 hP q0 1 hq rfl hin hd (kk H locs ls hP hD hS hl)
theorem sd_lald (C : sd_C K E L own cc nL ret) {a n : Nat} {i : Int32} (hid : a ∈ L) (hk : sd_kd a = 22) (hln : sd_ln a = n) (hin : vp_in i n) (hd : decode cc pc = .ok (.laload, 1)) (hn : pc + 1 = n') (kk : sd_Z K R E L nL Q M n' lv (.long (M.2 a i.toNatClampNeg) :: st)) : sd_Z K R E L nL Q M pc lv (.int i :: .ref (E.2.2 a) :: st) := by
  subst hn; subst hln
  intro H locs ls hP hD hS hl
  obtain ⟨q0, -, hq⟩ := sd_pic_at (E := E) (M := M) hid
  rw [sd_e22 hk] at hq
  exact va_lald C.1 C.2.1 C.2.2.2.2.2.2.2.1 hP q0 2 hq rfl hin hd (kk H locs ls hP hD hS hl)
theorem sd_cald (C : sd_C K E L own cc nL ret) {a n : Nat} {i : Int32} (hid : a ∈ L) (hk : sd_kd a = 23) (hln : sd_ln a = n) (hin : vp_in i n) (hd : decode cc pc = .ok (.aaload, 1)) (hn : pc + 1 = n') (kk : sd_Z K R E L nL Q M n' lv (.ref (E.2.2 (a + 1 + 2 * i.toNatClampNeg)) :: st)) : sd_Z K R E L nL Q M pc lv (.int i :: .ref (E.2.2 a) :: st) := by
  subst hn; subst hln
  intro H locs ls hP hD hS hl
  obtain ⟨q0, -, hq⟩ := sd_pic_at (E := E) (M := M) hid
  rw [sd_e23 hk] at hq
  exact va_aldq C.1 C.2.1 C.2.2.2.2.2.2.2.1 hP q0 3 hq rfl hin hd (kk H locs ls hP hD hS hl)
theorem sd_wald (C : sd_C K E L own cc nL ret) {a n : Nat} {i : Int32} (hid : a ∈ L) (hk : sd_kd a = 24) (hln : sd_ln a = n) (hin : vp_in i n) (hd : decode cc pc = .ok (.aaload, 1)) (hn : pc + 1 = n') (kk : sd_Z K R E L nL Q M n' lv (.ref (E.2.2 (a + 1 + 2 * i.toNatClampNeg)) :: st)) : sd_Z K R E L nL Q M pc lv (.int i :: .ref (E.2.2 a) :: st) := by
  subst hn; subst hln
  intro H locs ls hP hD hS hl
  obtain ⟨q0, -, hq⟩ := sd_pic_at (E := E) (M := M) hid
  rw [sd_e24 hk] at hq
  exact va_aldq C.1 C.2.1 C.2.2.2.2.2.2.2.1 hP q0 4 hq rfl hin hd (kk H locs ls hP hD hS hl)
theorem sd_gald (C : sd_C K E L own cc nL ret) {a n : Nat} {i : Int32} (hid : a ∈ L) (hk : sd_kd a = 25) (hln : sd_ln a = n) (hin : vp_in i n) (hd : decode cc pc = .ok (.aaload, 1)) (hn : pc + 1 = n') (kk : sd_Z K R E L nL Q M n' lv (.ref (E.2.2 (a + 1 + i.toNatClampNeg)) :: st)) : sd_Z K R E L nL Q M pc lv (.int i :: .ref (E.2.2 a) :: st) := by
  subst hn; subst hln
  intro H locs ls hP hD hS hl
  obtain ⟨q0, -, hq⟩ := sd_pic_at (E := E) (M := M) hid
  rw [sd_e25 hk] at hq
  exact sd_ald2 C.1 C.2.1 C.2.2.2.2.2.2.2.1 hP q0 5 hq rfl hin hd (kk H locs ls hP hD hS hl)
theorem sd_hald (C : sd_C K E L own cc nL ret) {a n : Nat} {i : Int32} (hid : a ∈ L) (hk : sd_kd a = 26) (hln : sd_ln a = n) (hin : vp_in i n) (hd : decode cc pc = .ok (.aaload, 1)) (hn : pc + 1 = n') (kk : sd_Z K R E L nL Q M n' lv (.ref (E.2.2 (a + 1 + i.toNatClampNeg)) :: st)) : sd_Z K R E L nL Q M pc lv (.int i :: .ref (E.2.2 a) :: st) := by
  subst hn; subst hln
  intro H locs ls hP hD hS hl
  obtain ⟨q0, -, hq⟩ := sd_pic_at (E := E) (M := M) hid
  rw [sd_e26 hk] at hq
  exact sd_ald2 C.1 C.2.1 C.2.2.2.2.2.2.2.1 hP q0 6 hq rfl hin hd (kk H locs ls hP hD hS hl)
theorem sd_iast (C : sd_C K E L own cc nL ret) {a n : Nat} {i : Int32} {x : Int32} (hid : a ∈ L) (hk : sd_kd a = 20) (hln : sd_ln a = n) (hin : vp_in i n) (hd : decode cc pc = .ok (.iastore, 1)) (hn : pc + 1 = n') (kk : sd_Z K R E L nL Q (sd_setI M a i.toNatClampNeg x) n' lv st) : sd_Z K R E L nL Q M pc lv (.int x :: .int i :: .ref (E.2.2 a) :: st) := by
  subst hn; subst hln
  intro H locs ls hP hD hS hl
  obtain ⟨q0, hL, hq⟩ := sd_pic_at (E := E) (M := M) hid
  rw [sd_e20 hk] at hq
  refine va_iast C.1 C.2.1 C.2.2.2.2.2.2.2.1 hP hD hS q0 0 hq rfl hin hd (fun H1 locs1 hP1 hD1 hS1 => ?_)
  rw [sd_pic_set (M' := sd_setI M a i.toNatClampNeg x) hD hL (by rw [sd_setI_at, sd_e20 hk] <;> rfl) sd_setI_ne] at hP1 hD1
  exact kk H1 locs1 ls hP1 hD1 hS1 hl
theorem sd_zast (C : sd_C K E L own cc nL ret) {a n : Nat} {i : Int32} {x : Int32} (hid : a ∈ L) (hk : sd_kd a = 21) (hln : sd_ln a = n) (hin : vp_in i n) (hd : decode cc pc = .ok (.bastore, 1)) (hn : pc + 1 = n') (kk : sd_Z K R E L nL Q (sd_setI M a i.toNatClampNeg (x &&& 1)) n' lv st) : sd_Z K R E L nL Q M pc lv (.int x :: .int i :: .ref (E.2.2 a) :: st) := by
  subst hn; subst hln
  intro H locs ls hP hD hS hl
  obtain ⟨q0, hL, hq⟩ := sd_pic_at (E := E) (M := M) hid
  rw [sd_e21 hk] at hq
  refine va_zast C.1 C.2.1 C.2.2.2.2.2.2.2.1 hP hD hS q0 1 hq rfl hin hd (fun H1 locs1 hP1 hD1 hS1 => ?_)
  rw [sd_pic_set (M' := sd_setI M a i.toNatClampNeg (x &&& 1)) hD hL (by rw [sd_setI_at, sd_e21 hk] <;> rfl) sd_setI_ne] at hP1 hD1
  exact kk H1 locs1 ls hP1 hD1 hS1 hl
theorem sd_last (C : sd_C K E L own cc nL ret) {a n : Nat} {i : Int32} {x : Int64} (hid : a ∈ L) (hk : sd_kd a = 22) (hln : sd_ln a = n) (hin : vp_in i n) (hd : decode cc pc = .ok (.lastore, 1)) (hn : pc + 1 = n') (kk : sd_Z K R E L nL Q (sd_setL M a i.toNatClampNeg x) n' lv st) : sd_Z K R E L nL Q M pc lv (.long x :: .int i :: .ref (E.2.2 a) :: st) := by
  subst hn; subst hln
  intro H locs ls hP hD hS hl
  obtain ⟨q0, hL, hq⟩ := sd_pic_at (E := E) (M := M) hid
  rw [sd_e22 hk] at hq
  refine va_last C.1 C.2.1 C.2.2.2.2.2.2.2.1 hP hD hS q0 2 hq rfl hin hd (fun H1 locs1 hP1 hD1 hS1 => ?_)
  rw [sd_pic_set (M' := sd_setL M a i.toNatClampNeg x) hD hL (by rw [sd_setL_at, sd_e22 hk] <;> rfl) sd_setL_ne] at hP1 hD1
  exact kk H1 locs1 ls hP1 hD1 hS1 hl
theorem sd_alen (C : sd_C K E L own cc nL ret) {a n : Nat} {v : Int32} (hid : a ∈ L) (hk : sd_kd a = 20) (hln : sd_ln a = n) (hv : Int32.ofNat n = v) (hd : decode cc pc = .ok (.arraylength, 1)) (hn : pc + 1 = n') (kk : sd_Z K R E L nL Q M n' lv (.int v :: st)) : sd_Z K R E L nL Q M pc lv (.ref (E.2.2 a) :: st) := by
  subst hn; subst hln
  intro H locs ls hP hD hS hl
  obtain ⟨q0, -, hq⟩ := sd_pic_at (E := E) (M := M) hid
  rw [sd_e20 hk] at hq
  exact va_alen (ty := .int) C.1 C.2.1 C.2.2.2.2.2.2.2.1 hP q0 0 hq rfl hv hd (kk H locs ls hP hD hS hl)
theorem sd_alenC (C : sd_C K E L own cc nL ret) {a n : Nat} {v : Int32} (hid : a ∈ L) (hk : sd_kd a = 23) (hln : sd_ln a = n) (hv : Int32.ofNat n = v) (hd : decode cc pc = .ok (.arraylength, 1)) (hn : pc + 1 = n') (kk : sd_Z K R E L nL Q M n' lv (.int v :: st)) : sd_Z K R E L nL Q M pc lv (.ref (E.2.2 a) :: st) := by
  subst hn; subst hln
  intro H locs ls hP hD hS hl
  obtain ⟨q0, -, hq⟩ := sd_pic_at (E := E) (M := M) hid
  rw [sd_e23 hk] at hq
  exact va_alen (ty := .object RX1) C.1 C.2.1 C.2.2.2.2.2.2.2.1 hP q0 3 hq rfl hv hd (kk H locs ls hP hD hS hl)
theorem sd_alenW (C : sd_C K E L own cc nL ret) {a n : Nat} {v : Int32} (hid : a ∈ L) (hk : sd_kd a = 24) (hln : sd_ln a = n) (hv : Int32.ofNat n = v) (hd : decode cc pc = .ok (.arraylength, 1)) (hn : pc + 1 = n') (kk : sd_Z K R E L nL Q M n' lv (.int v :: st)) : sd_Z K R E L nL Q M pc lv (.ref (E.2.2 a) :: st) := by
  subst hn; subst hln
  intro H locs ls hP hD hS hl
  obtain ⟨q0, -, hq⟩ := sd_pic_at (E := E) (M := M) hid
  rw [sd_e24 hk] at hq
  exact va_alen (ty := .object RX9) C.1 C.2.1 C.2.2.2.2.2.2.2.1 hP q0 4 hq rfl hv hd (kk H locs ls hP hD hS hl)
/-- POWERS[i], three instructions -/
theorem sd_pow3 (C : sd_C K E L own cc nL ret) {index : Nat} (j : Nat) {k' : Fin 4} {iv : Nat} {i : Int32} (hlink : Cond.fieldLink own index "StrikeDays$Quarrel" "POWERS" "[J" ∈ sd_TW) (hi : (k' : Nat) = iv) (hj : lv[j]? = some (iv, .int i)) (hin : vp_in i 11) (hd : decode cc pc = .ok (.getstatic index, 3)) (hd2 : decode cc (pc + 3) = .ok (.iload_n k', 1)) (hd3 : decode cc (pc + 4) = .ok (.laload, 1)) (hn : pc + 5 = n') (kk : sd_Z K R E L nL Q M n' lv (.long (sd_pow i.toNatClampNeg) :: st)) : sd_Z K R E L nL Q M pc lv st := by
  subst hn
  intro H locs ls hP hD hS hl
  obtain ⟨t, hZ, hT⟩ := C.2.2.2.2.2.2.2.2.2
  refine va_gets C.1 C.2.1 hZ hS C.2.2.2.1 (C.2.2.2.2.1 _ hlink) (fun _ h => h) hd ?_
  refine lv_iload_n C.1 C.2.1 hd2 hi (lv_at hl j hj) ?_
  exact va_tl C.1 C.2.1 hT hS hin rfl hd3 (kk H locs ls hP hD hS hl)
theorem sd_acopy (C : sd_C K E L own cc nL ret) {a0 a1 index : Nat} {sp dp n : Int32} (h0 : a0 ∈ L) (h0k : sd_kd a0 = 20) (h1 : a1 ∈ L) (h1k : sd_kd a1 = 20) (w1 : Cond.methodLink own index arraycopyName ∈ sd_TW) (w2 : Cond.native arraycopyName ∈ sd_TW) (w3 : Cond.static arraycopyName ∈ sd_TW) (w4 : Cond.initialized "java/lang/System" ∈ sd_TW) (hb : ¬ (sp < 0 ∨ dp < 0 ∨ n < 0 ∨ sd_ln a0 < sp.toNatClampNeg + n.toNatClampNeg ∨ sd_ln a1 < dp.toNatClampNeg + n.toNatClampNeg))
    (hframes : 1 ≤ R.frames) (hlocals : (st.map fun v => v.category).sum + (nativeFrameWords "java/lang/System" "arraycopy" 5 + 11) ≤ R.locals) (hd : decode cc pc = .ok (.invokestatic index, 3)) (hn : pc + 3 = n') (kk : sd_Z K R E L nL Q (sd_setA M a1 (va_cpy (M.1 a0) (M.1 a1) sp.toNatClampNeg dp.toNatClampNeg n.toNatClampNeg)) n' lv st) : sd_Z K R E L nL Q M pc lv (.int n :: .int dp :: .ref (E.2.2 a1) :: .int sp :: .ref (E.2.2 a0) :: st) := by
  subst hn
  intro H locs ls hP hD hS hl
  obtain ⟨q0, hL0, hq0⟩ := sd_pic_at (E := E) (M := M) h0
  obtain ⟨q1, hL1, hq1⟩ := sd_pic_at (E := E) (M := M) h1
  rw [sd_e20 h0k] at hq0
  rw [sd_e20 h1k] at hq1
  have g1 : ¬ sp < 0 := fun q => hb (Or.inl q)
  have g2 : ¬ dp < 0 := fun q => hb (Or.inr (Or.inl q))
  have g3 : ¬ n < 0 := fun q => hb (Or.inr (Or.inr (Or.inl q)))
  have g4 : sp.toNatClampNeg + n.toNatClampNeg ≤ sd_ln a0 := Nat.not_lt.mp fun q => hb (Or.inr (Or.inr (Or.inr (Or.inl q))))
  have g5 : dp.toNatClampNeg + n.toNatClampNeg ≤ sd_ln a1 := Nat.not_lt.mp fun q => hb (Or.inr (Or.inr (Or.inr (Or.inr q))))
  refine va_copyi (ty := .int) C.1 C.2.1 (by rw [hl.1]; exact C.2.2.1) C.2.2.2.1 (C.2.2.2.2.1 _ w1) (C.2.2.2.2.1 _ w2) (C.2.2.2.2.1 _ w3) (C.2.2.2.2.1 _ w4) C.2.2.2.2.2.2.2.1 hP hD hS q0 q1 0 0 hq0 hq1 rfl rfl rfl g1 g2 g3 g4 g5 (fun _ _ => rfl) hframes hlocals hd (fun H1 locs1 hP1 hD1 hS1 => ?_)
  rw [sd_pic_set (M' := sd_setA M a1 (va_cpy (M.1 a0) (M.1 a1) sp.toNatClampNeg dp.toNatClampNeg n.toNatClampNeg)) hD hL1 (by rw [sd_setA_at, sd_e20 h1k]) sd_setA_ne] at hP1 hD1
  exact kk H1 locs1 ls hP1 hD1 hS1 hl
theorem sd_goodW {y : MethodName} {b : ByteArray} {mL : Nat} {rt : Option FieldType} (h : Cond.code y b mL rt ∈ sd_TW) : GoodIn sd_TW (Cond.code y b mL rt :: sd_TW) := fun w hw => by
  rcases List.mem_cons.mp hw with rfl | hw
  · exact ⟨h, good_of_word (sd_tw_good h)⟩
  · exact ⟨hw, good_of_word (sd_tw_good hw)⟩
def sd_nm (y : MethodName) (n : Nat) : Prop := y.cls ≠ "java/lang/invoke/MethodHandle" ∧ y.cls ≠ "java/lang/invoke/VarHandle" ∧ (parseMethodDescriptor y.desc).map (fun d => d.parameters.length) = some n
def sd_VW (own : String) (index : Nat) (y : MethodName) (b : ByteArray) (mL : Nat) (rt : Option FieldType) (n : Nat) : Prop := Cond.methodLink own index y ∈ sd_TW ∧ Cond.instanceMethod y ∈ sd_TW ∧ Cond.selects y.cls y y ∈ sd_TW ∧ Cond.initialized y.cls ∈ sd_TW ∧ Cond.code y b mL rt ∈ sd_TW ∧ sd_nm y n
def sd_SW (own : String) (index : Nat) (y : MethodName) (b : ByteArray) (mL : Nat) (rt : Option FieldType) (n : Nat) : Prop := Cond.methodLink own index y ∈ sd_TW ∧ Cond.static y ∈ sd_TW ∧ Cond.initialized y.cls ∈ sd_TW ∧ Cond.code y b mL rt ∈ sd_TW ∧ sd_nm y n
def sd_SN (own : String) (index : Nat) (y : MethodName) (b : ByteArray) (mL : Nat) (rt : Option FieldType) (n : Nat) : Prop := Cond.methodLinkNest own index y "StrikeDays" ∈ sd_NW ∧ Cond.static y ∈ sd_TW ∧ Cond.initialized y.cls ∈ sd_TW ∧ Cond.code y b mL rt ∈ sd_TW ∧ sd_nm y n
def sd_rmok (R rm : Room) (mL : Nat) : Prop := rm.cells = 0 ∧ rm.slots = 0 ∧ rm.frames + 1 ≤ R.frames ∧ 8 + (mL + 11) + rm.locals ≤ R.locals
theorem sd_callVI (As rest : List Value) (C : sd_C K E L own cc nL ret) {y : MethodName} {b : ByteArray} {mL n index : Nat} {rt : Option FieldType} {rm : Room} {id ci : Nat} {fs : List Value} {cn : vw_C} {r0 : Int32} {M1 : sd_Mem} (hM : sd_MI K.2.1 E L y b mL rt rm (.ref (E.2.2 id) :: As) M r0 M1) (hw : sd_VW own index y b mL rt n) (hrm : sd_rmok R rm mL) (hid : id ∈ L) (he : sd_ent E id (M.1 id) (M.2 id) = .inr (ci, fs)) (hc : sd_cl[ci]? = some cn) (hcn : cn.1 = y.cls) (hlen : As.length = n) (hrest : (rest.map fun v => v.category).sum ≤ 8) (hd : decode cc pc = .ok (.invokevirtual index, 3)) (hn : pc + 3 = n') (kk : sd_Z K R E L nL Q M1 n' lv (.int r0 :: rest)) : sd_Z K R E L nL Q M pc lv (As.reverse ++ .ref (E.2.2 id) :: rest) := by
  subst hn
  intro H locs ls hP hD hS hl
  obtain ⟨q0, -, hq⟩ := sd_pic_at (E := E) (M := M) hid
  rw [he] at hq
  have hrv := va_recv C.2.2.2.2.2.2.2.1 hP hc hq
  rw [hcn] at hrv
  refine va_calli (va_runV (As := As) (rest := rest) ⟨C.1, C.2.1, C.2.2.1, C.2.2.2.1, C.2.2.2.2.1⟩ hM ⟨callB_of n C.2.2.2.2.1 (sd_goodW hw.2.2.2.2.1) rfl hrm.1 hrm.2.1 (C.2.2.2.2.1 _ hw.2.2.2.1) (C.2.2.2.2.1 _ hw.1) hw.2.2.2.2.2 hrm.2.2, C.2.2.2.2.1 _ hw.2.1, C.2.2.2.2.1 _ hw.2.2.1⟩ ⟨sd_blind _ E L M, hrv, fun U hU hW => ⟨rfl, sd_Wd_at C hP hD hS hU hW⟩⟩ rfl hlen hl.1 rfl (lv_room hrest) hd ⟨Nat.zero_le _, Nat.zero_le _⟩) hS (fun q _ h => h) (fun q h => h) (fun r u t H1 locs1 ht hvm hw1 hB _ _ hS1 => ?_)
  obtain ⟨rfl, rfl⟩ := hw1
  obtain ⟨hP1, hK1, hD1, -, -⟩ := hB
  rw [ht] at hP1
  exact kk H1 locs1 ls hP1 (sd_pic_D hD1) hS1 hl
theorem sd_callVL (As rest : List Value) (C : sd_C K E L own cc nL ret) {y : MethodName} {b : ByteArray} {mL n index : Nat} {rt : Option FieldType} {rm : Room} {id ci : Nat} {fs : List Value} {cn : vw_C} {r0 : Int64} {M1 : sd_Mem} (hM : sd_ML K.2.1 E L y b mL rt rm (.ref (E.2.2 id) :: As) M r0 M1) (hw : sd_VW own index y b mL rt n) (hrm : sd_rmok R rm mL) (hid : id ∈ L) (he : sd_ent E id (M.1 id) (M.2 id) = .inr (ci, fs)) (hc : sd_cl[ci]? = some cn) (hcn : cn.1 = y.cls) (hlen : As.length = n) (hrest : (rest.map fun v => v.category).sum ≤ 8) (hd : decode cc pc = .ok (.invokevirtual index, 3)) (hn : pc + 3 = n') (kk : sd_Z K R E L nL Q M1 n' lv (.long r0 :: rest)) : sd_Z K R E L nL Q M pc lv (As.reverse ++ .ref (E.2.2 id) :: rest) := by
  subst hn
  intro H locs ls hP hD hS hl
  obtain ⟨q0, -, hq⟩ := sd_pic_at (E := E) (M := M) hid
  rw [he] at hq
  have hrv := va_recv C.2.2.2.2.2.2.2.1 hP hc hq
  rw [hcn] at hrv
  refine va_calll (va_runV (As := As) (rest := rest) ⟨C.1, C.2.1, C.2.2.1, C.2.2.2.1, C.2.2.2.2.1⟩ hM ⟨callB_of n C.2.2.2.2.1 (sd_goodW hw.2.2.2.2.1) rfl hrm.1 hrm.2.1 (C.2.2.2.2.1 _ hw.2.2.2.1) (C.2.2.2.2.1 _ hw.1) hw.2.2.2.2.2 hrm.2.2, C.2.2.2.2.1 _ hw.2.1, C.2.2.2.2.1 _ hw.2.2.1⟩ ⟨sd_blind _ E L M, hrv, fun U hU hW => ⟨rfl, sd_Wd_at C hP hD hS hU hW⟩⟩ rfl hlen hl.1 rfl (lv_room hrest) hd ⟨Nat.zero_le _, Nat.zero_le _⟩) hS (fun q _ h => h) (fun q h => h) (fun r u t H1 locs1 ht hvm hw1 hB _ _ hS1 => ?_)
  obtain ⟨rfl, rfl⟩ := hw1
  obtain ⟨hP1, hK1, hD1, -, -⟩ := hB
  rw [ht] at hP1
  exact kk H1 locs1 ls hP1 (sd_pic_D hD1) hS1 hl
theorem sd_callVV (As rest : List Value) (C : sd_C K E L own cc nL ret) {y : MethodName} {b : ByteArray} {mL n index : Nat} {rt : Option FieldType} {rm : Room} {id ci : Nat} {fs : List Value} {cn : vw_C} {M1 : sd_Mem} (hM : sd_MV K.2.1 E L y b mL rt rm (.ref (E.2.2 id) :: As) M M1) (hw : sd_VW own index y b mL rt n) (hrm : sd_rmok R rm mL) (hid : id ∈ L) (he : sd_ent E id (M.1 id) (M.2 id) = .inr (ci, fs)) (hc : sd_cl[ci]? = some cn) (hcn : cn.1 = y.cls) (hlen : As.length = n) (hrest : (rest.map fun v => v.category).sum ≤ 8) (hd : decode cc pc = .ok (.invokevirtual index, 3)) (hn : pc + 3 = n') (kk : sd_Z K R E L nL Q M1 n' lv (rest)) : sd_Z K R E L nL Q M pc lv (As.reverse ++ .ref (E.2.2 id) :: rest) := by
  subst hn
  intro H locs ls hP hD hS hl
  obtain ⟨q0, -, hq⟩ := sd_pic_at (E := E) (M := M) hid
  rw [he] at hq
  have hrv := va_recv C.2.2.2.2.2.2.2.1 hP hc hq
  rw [hcn] at hrv
  refine va_callv (va_runV (As := As) (rest := rest) ⟨C.1, C.2.1, C.2.2.1, C.2.2.2.1, C.2.2.2.2.1⟩ hM ⟨callB_of n C.2.2.2.2.1 (sd_goodW hw.2.2.2.2.1) rfl hrm.1 hrm.2.1 (C.2.2.2.2.1 _ hw.2.2.2.1) (C.2.2.2.2.1 _ hw.1) hw.2.2.2.2.2 hrm.2.2, C.2.2.2.2.1 _ hw.2.1, C.2.2.2.2.1 _ hw.2.2.1⟩ ⟨sd_blind _ E L M, hrv, fun U hU hW => ⟨rfl, sd_Wd_at C hP hD hS hU hW⟩⟩ rfl hlen hl.1 rfl (lv_room hrest) hd ⟨Nat.zero_le _, Nat.zero_le _⟩) hS (fun q _ h => h) (fun q h => h) (fun u t H1 locs1 ht hvm hw1 hB _ _ hS1 => ?_)
  subst hw1
  obtain ⟨hP1, hK1, hD1, -, -⟩ := hB
  rw [ht] at hP1
  exact kk H1 locs1 ls hP1 (sd_pic_D hD1) hS1 hl
theorem sd_callSI (As rest : List Value) (C : sd_C K E L own cc nL ret) {y : MethodName} {b : ByteArray} {mL n index : Nat} {rt : Option FieldType} {rm : Room} {r0 : Int32} {M1 : sd_Mem} (hM : sd_MI K.2.1 E L y b mL rt rm As M r0 M1) (hw : sd_SW own index y b mL rt n) (hrm : sd_rmok R rm mL) (hlen : As.length = n) (hrest : (rest.map fun v => v.category).sum ≤ 8) (hd : decode cc pc = .ok (.invokestatic index, 3)) (hn : pc + 3 = n') (kk : sd_Z K R E L nL Q M1 n' lv (.int r0 :: rest)) : sd_Z K R E L nL Q M pc lv (As.reverse ++ rest) := by
  subst hn
  intro H locs ls hP hD hS hl
  refine va_calli (va_runS (As := As) (rest := rest) ⟨C.1, C.2.1, C.2.2.1, C.2.2.2.1, C.2.2.2.2.1⟩ hM ⟨callB_of n C.2.2.2.2.1 (sd_goodW hw.2.2.2.1) rfl hrm.1 hrm.2.1 (C.2.2.2.2.1 _ hw.2.2.1) (C.2.2.2.2.1 _ hw.1) hw.2.2.2.2 hrm.2.2, C.2.2.2.2.1 _ hw.2.1⟩ ⟨sd_blind _ E L M, fun U hU hW => ⟨rfl, sd_Wd_at C hP hD hS hU hW⟩⟩ rfl hlen hl.1 rfl (lv_room hrest) hd ⟨Nat.zero_le _, Nat.zero_le _⟩) hS (fun q _ h => h) (fun q h => h) (fun r u t H1 locs1 ht hvm hw1 hB _ _ hS1 => ?_)
  obtain ⟨rfl, rfl⟩ := hw1
  obtain ⟨hP1, hK1, hD1, -, -⟩ := hB
  rw [ht] at hP1
  exact kk H1 locs1 ls hP1 (sd_pic_D hD1) hS1 hl
theorem sd_callSL (As rest : List Value) (C : sd_C K E L own cc nL ret) {y : MethodName} {b : ByteArray} {mL n index : Nat} {rt : Option FieldType} {rm : Room} {r0 : Int64} {M1 : sd_Mem} (hM : sd_ML K.2.1 E L y b mL rt rm As M r0 M1) (hw : sd_SW own index y b mL rt n) (hrm : sd_rmok R rm mL) (hlen : As.length = n) (hrest : (rest.map fun v => v.category).sum ≤ 8) (hd : decode cc pc = .ok (.invokestatic index, 3)) (hn : pc + 3 = n') (kk : sd_Z K R E L nL Q M1 n' lv (.long r0 :: rest)) : sd_Z K R E L nL Q M pc lv (As.reverse ++ rest) := by
  subst hn
  intro H locs ls hP hD hS hl
  refine va_calll (va_runS (As := As) (rest := rest) ⟨C.1, C.2.1, C.2.2.1, C.2.2.2.1, C.2.2.2.2.1⟩ hM ⟨callB_of n C.2.2.2.2.1 (sd_goodW hw.2.2.2.1) rfl hrm.1 hrm.2.1 (C.2.2.2.2.1 _ hw.2.2.1) (C.2.2.2.2.1 _ hw.1) hw.2.2.2.2 hrm.2.2, C.2.2.2.2.1 _ hw.2.1⟩ ⟨sd_blind _ E L M, fun U hU hW => ⟨rfl, sd_Wd_at C hP hD hS hU hW⟩⟩ rfl hlen hl.1 rfl (lv_room hrest) hd ⟨Nat.zero_le _, Nat.zero_le _⟩) hS (fun q _ h => h) (fun q h => h) (fun r u t H1 locs1 ht hvm hw1 hB _ _ hS1 => ?_)
  obtain ⟨rfl, rfl⟩ := hw1
  obtain ⟨hP1, hK1, hD1, -, -⟩ := hB
  rw [ht] at hP1
  exact kk H1 locs1 ls hP1 (sd_pic_D hD1) hS1 hl
theorem sd_callSV (As rest : List Value) (C : sd_C K E L own cc nL ret) {y : MethodName} {b : ByteArray} {mL n index : Nat} {rt : Option FieldType} {rm : Room} {M1 : sd_Mem} (hM : sd_MV K.2.1 E L y b mL rt rm As M M1) (hw : sd_SW own index y b mL rt n) (hrm : sd_rmok R rm mL) (hlen : As.length = n) (hrest : (rest.map fun v => v.category).sum ≤ 8) (hd : decode cc pc = .ok (.invokestatic index, 3)) (hn : pc + 3 = n') (kk : sd_Z K R E L nL Q M1 n' lv (rest)) : sd_Z K R E L nL Q M pc lv (As.reverse ++ rest) := by
  subst hn
  intro H locs ls hP hD hS hl
  refine va_callv (va_runS (As := As) (rest := rest) ⟨C.1, C.2.1, C.2.2.1, C.2.2.2.1, C.2.2.2.2.1⟩ hM ⟨callB_of n C.2.2.2.2.1 (sd_goodW hw.2.2.2.1) rfl hrm.1 hrm.2.1 (C.2.2.2.2.1 _ hw.2.2.1) (C.2.2.2.2.1 _ hw.1) hw.2.2.2.2 hrm.2.2, C.2.2.2.2.1 _ hw.2.1⟩ ⟨sd_blind _ E L M, fun U hU hW => ⟨rfl, sd_Wd_at C hP hD hS hU hW⟩⟩ rfl hlen hl.1 rfl (lv_room hrest) hd ⟨Nat.zero_le _, Nat.zero_le _⟩) hS (fun q _ h => h) (fun q h => h) (fun u t H1 locs1 ht hvm hw1 hB _ _ hS1 => ?_)
  subst hw1
  obtain ⟨hP1, hK1, hD1, -, -⟩ := hB
  rw [ht] at hP1
  exact kk H1 locs1 ls hP1 (sd_pic_D hD1) hS1 hl
theorem sd_callNI (As rest : List Value) (C : sd_C K E L own cc nL ret) {y : MethodName} {b : ByteArray} {mL n index : Nat} {rt : Option FieldType} {rm : Room} {r0 : Int32} {M1 : sd_Mem} (hM : sd_MI K.2.1 E L y b mL rt rm As M r0 M1) (hw : sd_SN own index y b mL rt n) (hrm : sd_rmok R rm mL) (hlen : As.length = n) (hrest : (rest.map fun v => v.category).sum ≤ 8) (hd : decode cc pc = .ok (.invokestatic index, 3)) (hn : pc + 3 = n') (kk : sd_Z K R E L nL Q M1 n' lv (.int r0 :: rest)) : sd_Z K R E L nL Q M pc lv (As.reverse ++ rest) := by
  subst hn
  intro H locs ls hP hD hS hl
  refine va_calli (va_runSN (As := As) (rest := rest) ⟨C.1, C.2.1, C.2.2.1, C.2.2.2.1, C.2.2.2.2.1⟩ hM ⟨va_cnB n C.2.2.2.2.1 (sd_goodW hw.2.2.2.1) rfl hrm.1 hrm.2.1 (C.2.2.2.2.2.2.2.2.1 _ hw.1) (C.2.2.2.2.1 _ hw.2.2.1) hw.2.2.2.2 hrm.2.2, C.2.2.2.2.1 _ hw.2.1, trivial⟩ ⟨sd_blind _ E L M, fun U hU hW => ⟨rfl, sd_Wd_at C hP hD hS hU hW⟩⟩ rfl hlen hl.1 rfl (lv_room hrest) hd ⟨Nat.zero_le _, Nat.zero_le _⟩) hS (fun q _ h => h) (fun q h => h) (fun r u t H1 locs1 ht hvm hw1 hB _ _ hS1 => ?_)
  obtain ⟨rfl, rfl⟩ := hw1
  obtain ⟨hP1, hK1, hD1, -, -⟩ := hB
  rw [ht] at hP1
  exact kk H1 locs1 ls hP1 (sd_pic_D hD1) hS1 hl
theorem sd_callNL (As rest : List Value) (C : sd_C K E L own cc nL ret) {y : MethodName} {b : ByteArray} {mL n index : Nat} {rt : Option FieldType} {rm : Room} {r0 : Int64} {M1 : sd_Mem} (hM : sd_ML K.2.1 E L y b mL rt rm As M r0 M1) (hw : sd_SN own index y b mL rt n) (hrm : sd_rmok R rm mL) (hlen : As.length = n) (hrest : (rest.map fun v => v.category).sum ≤ 8) (hd : decode cc pc = .ok (.invokestatic index, 3)) (hn : pc + 3 = n') (kk : sd_Z K R E L nL Q M1 n' lv (.long r0 :: rest)) : sd_Z K R E L nL Q M pc lv (As.reverse ++ rest) := by
  subst hn
  intro H locs ls hP hD hS hl
  refine va_calll (va_runSN (As := As) (rest := rest) ⟨C.1, C.2.1, C.2.2.1, C.2.2.2.1, C.2.2.2.2.1⟩ hM ⟨va_cnB n C.2.2.2.2.1 (sd_goodW hw.2.2.2.1) rfl hrm.1 hrm.2.1 (C.2.2.2.2.2.2.2.2.1 _ hw.1) (C.2.2.2.2.1 _ hw.2.2.1) hw.2.2.2.2 hrm.2.2, C.2.2.2.2.1 _ hw.2.1, trivial⟩ ⟨sd_blind _ E L M, fun U hU hW => ⟨rfl, sd_Wd_at C hP hD hS hU hW⟩⟩ rfl hlen hl.1 rfl (lv_room hrest) hd ⟨Nat.zero_le _, Nat.zero_le _⟩) hS (fun q _ h => h) (fun q h => h) (fun r u t H1 locs1 ht hvm hw1 hB _ _ hS1 => ?_)
  obtain ⟨rfl, rfl⟩ := hw1
  obtain ⟨hP1, hK1, hD1, -, -⟩ := hB
  rw [ht] at hP1
  exact kk H1 locs1 ls hP1 (sd_pic_D hD1) hS1 hl
theorem sd_callNV (As rest : List Value) (C : sd_C K E L own cc nL ret) {y : MethodName} {b : ByteArray} {mL n index : Nat} {rt : Option FieldType} {rm : Room} {M1 : sd_Mem} (hM : sd_MV K.2.1 E L y b mL rt rm As M M1) (hw : sd_SN own index y b mL rt n) (hrm : sd_rmok R rm mL) (hlen : As.length = n) (hrest : (rest.map fun v => v.category).sum ≤ 8) (hd : decode cc pc = .ok (.invokestatic index, 3)) (hn : pc + 3 = n') (kk : sd_Z K R E L nL Q M1 n' lv (rest)) : sd_Z K R E L nL Q M pc lv (As.reverse ++ rest) := by
  subst hn
  intro H locs ls hP hD hS hl
  refine va_callv (va_runSN (As := As) (rest := rest) ⟨C.1, C.2.1, C.2.2.1, C.2.2.2.1, C.2.2.2.2.1⟩ hM ⟨va_cnB n C.2.2.2.2.1 (sd_goodW hw.2.2.2.1) rfl hrm.1 hrm.2.1 (C.2.2.2.2.2.2.2.2.1 _ hw.1) (C.2.2.2.2.1 _ hw.2.2.1) hw.2.2.2.2 hrm.2.2, C.2.2.2.2.1 _ hw.2.1, trivial⟩ ⟨sd_blind _ E L M, fun U hU hW => ⟨rfl, sd_Wd_at C hP hD hS hU hW⟩⟩ rfl hlen hl.1 rfl (lv_room hrest) hd ⟨Nat.zero_le _, Nat.zero_le _⟩) hS (fun q _ h => h) (fun q h => h) (fun u t H1 locs1 ht hvm hw1 hB _ _ hS1 => ?_)
  subst hw1
  obtain ⟨hP1, hK1, hD1, -, -⟩ := hB
  rw [ht] at hP1
  exact kk H1 locs1 ls hP1 (sd_pic_D hD1) hS1 hl
theorem sd_callVR (As rest : List Value) (C : sd_C K E L own cc nL ret) {y : MethodName} {b : ByteArray} {mL n index : Nat} {rt : Option FieldType} {rm : Room} {id ci : Nat} {fs : List Value} {cn : vw_C} {r0 : Nat} {M1 : sd_Mem} (hM : sd_MR K.2.1 E L y b mL rt rm (.ref (E.2.2 id) :: As) M r0 M1) (hw : sd_VW own index y b mL rt n) (hrm : sd_rmok R rm mL) (hid : id ∈ L) (he : sd_ent E id (M.1 id) (M.2 id) = .inr (ci, fs)) (hc : sd_cl[ci]? = some cn) (hcn : cn.1 = y.cls) (hlen : As.length = n) (hrest : (rest.map fun v => v.category).sum ≤ 8) (hd : decode cc pc = .ok (.invokevirtual index, 3)) (hn : pc + 3 = n') (kk : sd_Z K R E L nL Q M1 n' lv (.ref (E.2.2 r0) :: rest)) : sd_Z K R E L nL Q M pc lv (As.reverse ++ .ref (E.2.2 id) :: rest) := by
  subst hn
  intro H locs ls hP hD hS hl
  obtain ⟨q0, -, hq⟩ := sd_pic_at (E := E) (M := M) hid
  rw [he] at hq
  have hrv := va_recv C.2.2.2.2.2.2.2.1 hP hc hq
  rw [hcn] at hrv
  refine va_callr (va_runV (As := As) (rest := rest) ⟨C.1, C.2.1, C.2.2.1, C.2.2.2.1, C.2.2.2.2.1⟩ hM ⟨callB_of n C.2.2.2.2.1 (sd_goodW hw.2.2.2.2.1) rfl hrm.1 hrm.2.1 (C.2.2.2.2.1 _ hw.2.2.2.1) (C.2.2.2.2.1 _ hw.1) hw.2.2.2.2.2 hrm.2.2, C.2.2.2.2.1 _ hw.2.1, C.2.2.2.2.1 _ hw.2.2.1⟩ ⟨sd_blind _ E L M, hrv, fun U hU hW => ⟨rfl, sd_Wd_at C hP hD hS hU hW⟩⟩ rfl hlen hl.1 rfl (lv_room hrest) hd ⟨Nat.zero_le _, Nat.zero_le _⟩) hS (fun q _ h => h) (fun q h => h) (fun u a t H1 locs1 ht hvm hw1 hB _ _ hS1 => ?_)
  subst hw1; obtain ⟨rfl, hB⟩ := hB
  obtain ⟨hP1, hK1, hD1, -, -⟩ := hB
  rw [ht] at hP1
  exact kk H1 locs1 ls hP1 (sd_pic_D hD1) hS1 hl
end SDR
