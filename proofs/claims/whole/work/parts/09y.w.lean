section SDYH
variable {K : sd_K} {R : Room} {E : sd_Env} {A0 : Nat → Prop} {nL : Nat} {Q : State → Prop} {ws : va_W} {cells slots : Nat} {pc n' : Nat} {lv lv' : List (Nat × Value)} {st : List Value} {own : String} {cc : ByteArray} {ret : Option FieldType}
theorem sd_yw (ws' : va_W) (h : ws = ws') (k : sd_Y K R E A0 nL Q ws' cells slots pc lv st) : sd_Y K R E A0 nL Q ws cells slots pc lv st := by subst h; exact k
theorem sd_yal (α' : Nat → Nat) (h0 : Nat) (k : ∀ α : Nat → Nat, (fun id => if id = 40 then h0 else α id) = α → α = α' → sd_Y K R E A0 nL Q ws cells slots pc lv st) (h : (fun id => if id = 40 then h0 else α' id) = α') : sd_Y K R E A0 nL Q ws cells slots pc lv st := k α' h rfl
theorem sd_yaastM (ws' : va_W) (G : sd_G K E A0 own cc nL ret) {a n v ci : Nat} {c0 : ClassId} {f : Nat → Option Nat} {i : Int32} {r : vw_C} {vs : List Value} (q0 t0 k0 : Nat) (hk0 : i.toNatClampNeg = k0) (hv : (v, (.inr (ci, vs) : va_E)) ∈ ws) (he : ws[q0]? = some (a, .inl (c0, n, .inr (.inr (.inr (.inr f)))))) (ht : (sd_tys E)[t0]? = some (c0, .object r.1)) (hc : sd_cl[ci]? = some r) (hin : vp_in i n) (hw : ws.set q0 (a, .inl (c0, n, .inr (.inr (.inr (.inr (va_up f k0 (some v))))))) = ws') (hd : decode cc pc = .ok (.aastore, 1)) (hn : pc + 1 = n') (kk : sd_Y K R E A0 nL Q ws' cells slots n' lv st) : sd_Y K R E A0 nL Q ws cells slots pc lv (.ref v :: .int i :: .ref a :: st) := by
  subst hk0
  obtain ⟨qk, hq⟩ := List.getElem?_of_mem hv
  exact sd_yaast ws' G q0 qk t0 he ht hq hc hin hw hd hn kk
theorem sd_arrV_congr {c : ClassId} {n : Nat} {f g : Nat → Value} (h : ∀ j, j < n → f j = g j) : arrV c n f = arrV c n g := by
  unfold arrV
  congr 1
  apply Array.ext
  · simp
  · intro i h1 h2
    simp only [Array.getElem_ofFn]
    exact h i (by simpa using h1)
theorem sd_at_congr {D : va_G} {a : Nat} {c : ClassId} {n : Nat} {f g : Nat → Option Nat} {H : Heap} (h : ∀ j, j < n → f j = g j) (ha : va_at D sd_cl (a, .inl (c, n, .inr (.inr (.inr (.inr f))))) H) : va_at D sd_cl (a, .inl (c, n, .inr (.inr (.inr (.inr g))))) H := by
  show H[a]? = some (arrV c n (fun j => va_rf (g j)))
  rw [← sd_arrV_congr (f := fun j => va_rf (f j)) (fun j hj => by rw [h j hj])]
  exact ha
/-- a row of references, said otherwise -/
theorem sd_ycg (q0 : Nat) {a n : Nat} {c : ClassId} {f g : Nat → Option Nat} (he : ws[q0]? = some (a, .inl (c, n, .inr (.inr (.inr (.inr f)))))) (h : ∀ j, j < n → f j = g j) (k : sd_Y K R E A0 nL Q (ws.set q0 (a, .inl (c, n, .inr (.inr (.inr (.inr g)))))) cells slots pc lv st) : sd_Y K R E A0 nL Q ws cells slots pc lv st := by
  intro H locs ls hP hD hS hl
  refine k H locs ls (hP.set hD he (sd_at_congr h (hP q0 _ he)) (fun _ _ => rfl)) (hD.set he) hS hl
end SDYH
theorem sd_two {f g : Nat → Option Nat} (h0 : f 0 = g 0) (h1 : f 1 = g 1) : ∀ j, j < 2 → f j = g j := fun j hj => by
  rcases (show j = 0 ∨ j = 1 by omega) with rfl | rfl
  · exact h0
  · exact h1
theorem sd_inner_int (n : Nat) (c : ClassId) : Jvm.Free.Multi.innerC c n (defaultValue .int) = vp_cell c (n, .inl (fun _ => 0)) := by
  show ({ cls := c, slots := Array.replicate n (Value.int 0), vm := .none } : Cell) = _
  rw [arrV_new]
  rfl
theorem sd_inner_long (n : Nat) (c : ClassId) : Jvm.Free.Multi.innerC c n (defaultValue .long) = vp_cell c (n, .inr (.inl (fun _ => 0))) := by
  show ({ cls := c, slots := Array.replicate n (Value.long 0), vm := .none } : Cell) = _
  rw [arrV_new]
  rfl
def sd_M0 : sd_Mem := (fun _ _ => 0, fun _ _ => 0)
def sd_LQ : List Nat := List.range' 40 9
theorem sd_mQ {i : Nat} (h1 : 40 ≤ i) (h2 : i < 49) : i ∈ sd_LQ := by
  unfold sd_LQ
  rw [List.mem_range'_1]
  omega
theorem sd_w79 : Cond.initialized RX4 ∈ sd_TW := sd_tw 79 (by decide +kernel) rfl
theorem sd_w97 : Cond.methodLink RX10 1 ⟨"java/lang/Object", "<init>", "()V"⟩ ∈ sd_TW := sd_tw 97 (by decide +kernel) rfl
theorem sd_w100 : Cond.classLink RX10 9 RX1 ∈ sd_TW := sd_tw 100 (by decide +kernel) rfl
theorem sd_w102 : Cond.classLink RX10 18 RX9 ∈ sd_TW := sd_tw 102 (by decide +kernel) rfl
theorem sd_w104 : Cond.classLink RX10 24 RX5 ∈ sd_TW := sd_tw 104 (by decide +kernel) rfl
theorem sd_w105 : Cond.instantiable RX5 8 ∈ sd_TW := sd_tw 105 (by decide +kernel) rfl
theorem sd_w106 : Cond.methodLink RX10 26 yX5_init ∈ sd_TW := sd_tw 106 (by decide +kernel) rfl
theorem sd_w107 : Cond.instanceMethod yX5_init ∈ sd_TW := sd_tw 107 (by decide +kernel) rfl
theorem sd_w108 : Cond.code yX5_init cX5_init 1 none ∈ sd_TW := sd_tw 108 (by decide +kernel) rfl
theorem sd_w109 : Cond.methodLink RX5 3 ⟨"java/lang/Object", "<init>", "()V"⟩ ∈ sd_TW := sd_tw 109 (by decide +kernel) rfl
theorem sd_w110 : Cond.classLink RX5 18 "[[I" ∈ sd_TW := sd_tw 110 (by decide +kernel) rfl
theorem sd_w167 : Cond.arrayClass .int ∈ sd_TW := sd_tw 167 (by decide +kernel) rfl
theorem sd_w168 : Cond.classLink RX10 31 RX4 ∈ sd_TW := sd_tw 168 (by decide +kernel) rfl
theorem sd_w169 : Cond.instantiable RX4 3 ∈ sd_TW := sd_tw 169 (by decide +kernel) rfl
theorem sd_w170 : Cond.methodLinkNest RX10 33 yX4_init "StrikeDays" ∈ sd_NW := sd_nw 170 (by decide +kernel) rfl
theorem sd_w171 : Cond.instanceMethod yX4_init ∈ sd_TW := sd_tw 171 (by decide +kernel) rfl
theorem sd_w172 : Cond.code yX4_init cX4_init 1 none ∈ sd_TW := sd_tw 172 (by decide +kernel) rfl
theorem sd_w173 : Cond.methodLink RX4 1 ⟨"java/lang/Object", "<init>", "()V"⟩ ∈ sd_TW := sd_tw 173 (by decide +kernel) rfl
theorem sd_w174 : Cond.fieldLink RX4 7 (TX4 0).1 (TX4 0).2.1 (TX4 0).2.2.1 ∈ sd_TW := sd_tw 174 (by decide +kernel) rfl
theorem sd_w178 : Cond.fieldLink RX4 13 (TX4 1).1 (TX4 1).2.1 (TX4 1).2.2.1 ∈ sd_TW := sd_tw 178 (by decide +kernel) rfl
theorem sd_w182 : Cond.fieldLink RX4 16 (TX4 2).1 (TX4 2).2.1 (TX4 2).2.2.1 ∈ sd_TW := sd_tw 182 (by decide +kernel) rfl
theorem sd_w193 : Cond.classLink RX10 41 RX6 ∈ sd_TW := sd_tw 193 (by decide +kernel) rfl
theorem sd_w194 : Cond.instantiable RX6 2 ∈ sd_TW := sd_tw 194 (by decide +kernel) rfl
theorem sd_w195 : Cond.methodLinkNest RX10 43 yX6_init "StrikeDays" ∈ sd_NW := sd_nw 195 (by decide +kernel) rfl
theorem sd_w196 : Cond.instanceMethod yX6_init ∈ sd_TW := sd_tw 196 (by decide +kernel) rfl
theorem sd_w197 : Cond.code yX6_init cX6_init 1 none ∈ sd_TW := sd_tw 197 (by decide +kernel) rfl
theorem sd_w198 : Cond.methodLink RX6 3 ⟨"java/lang/Object", "<init>", "()V"⟩ ∈ sd_TW := sd_tw 198 (by decide +kernel) rfl
theorem sd_w199 : Cond.classLink RX6 9 RX5 ∈ sd_TW := sd_tw 199 (by decide +kernel) rfl
theorem sd_w200 : Cond.methodLink RX6 11 yX5_init ∈ sd_TW := sd_tw 200 (by decide +kernel) rfl
theorem sd_w208 : Cond.classLink RX10 48 RX7 ∈ sd_TW := sd_tw 208 (by decide +kernel) rfl
theorem sd_w209 : Cond.instantiable RX7 2 ∈ sd_TW := sd_tw 209 (by decide +kernel) rfl
theorem sd_w210 : Cond.methodLink RX10 50 yX7_init ∈ sd_TW := sd_tw 210 (by decide +kernel) rfl
theorem sd_w211 : Cond.instanceMethod yX7_init ∈ sd_TW := sd_tw 211 (by decide +kernel) rfl
theorem sd_w212 : Cond.code yX7_init cX7_init 3 none ∈ sd_TW := sd_tw 212 (by decide +kernel) rfl
theorem sd_w213 : Cond.methodLink RX7 3 ⟨"java/lang/Object", "<init>", "()V"⟩ ∈ sd_TW := sd_tw 213 (by decide +kernel) rfl
theorem sd_w221 : Cond.classLink RX10 60 RX0 ∈ sd_TW := sd_tw 221 (by decide +kernel) rfl
theorem sd_w222 : Cond.instantiable RX0 4 ∈ sd_TW := sd_tw 222 (by decide +kernel) rfl
theorem sd_w223 : Cond.methodLink RX10 62 yX0_init ∈ sd_TW := sd_tw 223 (by decide +kernel) rfl
theorem sd_w224 : Cond.instanceMethod yX0_init ∈ sd_TW := sd_tw 224 (by decide +kernel) rfl
theorem sd_w225 : Cond.code yX0_init cX0_init 3 none ∈ sd_TW := sd_tw 225 (by decide +kernel) rfl
theorem sd_w226 : Cond.methodLink RX0 3 ⟨"java/lang/Object", "<init>", "()V"⟩ ∈ sd_TW := sd_tw 226 (by decide +kernel) rfl
theorem sd_w227 : Cond.classLink RX0 9 "[[J" ∈ sd_TW := sd_tw 227 (by decide +kernel) rfl
theorem sd_w229 : Cond.classLink RX0 16 "[[I" ∈ sd_TW := sd_tw 229 (by decide +kernel) rfl
theorem sd_w243 : Cond.arrayClass .long ∈ sd_TW := sd_tw 243 (by decide +kernel) rfl
theorem sd_w244 : Cond.classLink RX10 67 RX8 ∈ sd_TW := sd_tw 244 (by decide +kernel) rfl
theorem sd_w245 : Cond.instantiable RX8 6 ∈ sd_TW := sd_tw 245 (by decide +kernel) rfl
theorem sd_w246 : Cond.methodLinkNest RX10 69 yX8_init "StrikeDays" ∈ sd_NW := sd_nw 246 (by decide +kernel) rfl
theorem sd_w247 : Cond.instanceMethod yX8_init ∈ sd_TW := sd_tw 247 (by decide +kernel) rfl
theorem sd_w248 : Cond.code yX8_init cX8_init 1 none ∈ sd_TW := sd_tw 248 (by decide +kernel) rfl
theorem sd_w249 : Cond.methodLink RX8 3 ⟨"java/lang/Object", "<init>", "()V"⟩ ∈ sd_TW := sd_tw 249 (by decide +kernel) rfl
theorem sd_w272 : Cond.arrayClass .boolean ∈ sd_TW := sd_tw 272 (by decide +kernel) rfl
theorem sd_w273 : Cond.classLink RX10 74 RX3 ∈ sd_TW := sd_tw 273 (by decide +kernel) rfl
theorem sd_w274 : Cond.instantiable RX3 2 ∈ sd_TW := sd_tw 274 (by decide +kernel) rfl
theorem sd_w275 : Cond.methodLinkNest RX10 76 yX3_init "StrikeDays" ∈ sd_NW := sd_nw 275 (by decide +kernel) rfl
theorem sd_w276 : Cond.instanceMethod yX3_init ∈ sd_TW := sd_tw 276 (by decide +kernel) rfl
theorem sd_w277 : Cond.code yX3_init cX3_init 1 none ∈ sd_TW := sd_tw 277 (by decide +kernel) rfl
theorem sd_w278 : Cond.methodLink RX3 1 ⟨"java/lang/Object", "<init>", "()V"⟩ ∈ sd_TW := sd_tw 278 (by decide +kernel) rfl
theorem sd_w288 : Cond.classLink RX10 81 RX2 ∈ sd_TW := sd_tw 288 (by decide +kernel) rfl
theorem sd_w289 : Cond.instantiable RX2 2 ∈ sd_TW := sd_tw 289 (by decide +kernel) rfl
theorem sd_w290 : Cond.methodLinkNest RX10 83 yX2_init "StrikeDays" ∈ sd_NW := sd_nw 290 (by decide +kernel) rfl
theorem sd_w291 : Cond.instanceMethod yX2_init ∈ sd_TW := sd_tw 291 (by decide +kernel) rfl
theorem sd_w292 : Cond.code yX2_init cX2_init 1 none ∈ sd_TW := sd_tw 292 (by decide +kernel) rfl
theorem sd_w293 : Cond.methodLink RX2 3 ⟨"java/lang/Object", "<init>", "()V"⟩ ∈ sd_TW := sd_tw 293 (by decide +kernel) rfl
theorem sd_w301 : Cond.instantiable RX1 2 ∈ sd_TW := sd_tw 301 (by decide +kernel) rfl
theorem sd_w302 : Cond.methodLink RX10 92 yX1_init ∈ sd_TW := sd_tw 302 (by decide +kernel) rfl
theorem sd_w303 : Cond.instanceMethod yX1_init ∈ sd_TW := sd_tw 303 (by decide +kernel) rfl
theorem sd_w304 : Cond.code yX1_init cX1_init 2 none ∈ sd_TW := sd_tw 304 (by decide +kernel) rfl
theorem sd_w305 : Cond.methodLink RX1 3 ⟨"java/lang/Object", "<init>", "()V"⟩ ∈ sd_TW := sd_tw 305 (by decide +kernel) rfl
theorem sd_w316 : Cond.instantiable RX9 2 ∈ sd_TW := sd_tw 316 (by decide +kernel) rfl
theorem sd_w317 : Cond.methodLinkNest RX10 95 yX9_init "StrikeDays" ∈ sd_NW := sd_nw 317 (by decide +kernel) rfl
theorem sd_w318 : Cond.instanceMethod yX9_init ∈ sd_TW := sd_tw 318 (by decide +kernel) rfl
theorem sd_w319 : Cond.code yX9_init cX9_init 1 none ∈ sd_TW := sd_tw 319 (by decide +kernel) rfl
theorem sd_w320 : Cond.methodLink RX9 3 ⟨"java/lang/Object", "<init>", "()V"⟩ ∈ sd_TW := sd_tw 320 (by decide +kernel) rfl
theorem sd_w1040 : Cond.methodLink RX11 1 ⟨"java/lang/Object", "<init>", "()V"⟩ ∈ sd_TW := sd_tw 1040 (by decide +kernel) rfl
theorem sd_nm_X0_init : sd_nm yX0_init 2 := ⟨by decide +kernel, by decide +kernel, by decide +kernel⟩
theorem sd_nm_X1_init : sd_nm yX1_init 1 := ⟨by decide +kernel, by decide +kernel, by decide +kernel⟩
theorem sd_nm_X2_init : sd_nm yX2_init 0 := ⟨by decide +kernel, by decide +kernel, by decide +kernel⟩
theorem sd_nm_X3_init : sd_nm yX3_init 0 := ⟨by decide +kernel, by decide +kernel, by decide +kernel⟩
theorem sd_nm_X4_init : sd_nm yX4_init 0 := ⟨by decide +kernel, by decide +kernel, by decide +kernel⟩
theorem sd_nm_X5_init : sd_nm yX5_init 0 := ⟨by decide +kernel, by decide +kernel, by decide +kernel⟩
theorem sd_nm_X6_init : sd_nm yX6_init 0 := ⟨by decide +kernel, by decide +kernel, by decide +kernel⟩
theorem sd_nm_X7_init : sd_nm yX7_init 2 := ⟨by decide +kernel, by decide +kernel, by decide +kernel⟩
theorem sd_nm_X8_init : sd_nm yX8_init 0 := ⟨by decide +kernel, by decide +kernel, by decide +kernel⟩
theorem sd_nm_X9_init : sd_nm yX9_init 0 := ⟨by decide +kernel, by decide +kernel, by decide +kernel⟩
theorem sd_wob1 : Cond.instanceMethod Lib.objectInit ∈ sd_TW := sd_tw 98 (by decide +kernel) rfl
theorem sd_wob2 : Cond.code Lib.objectInit ⟨#[0xb1]⟩ 1 none ∈ sd_TW := sd_tw 99 (by decide +kernel) rfl
