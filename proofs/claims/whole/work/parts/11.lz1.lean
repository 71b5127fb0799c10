def sd_St0 (Rel : sd_Mem → sd_Mem → Prop) : Prop := ∀ (M N : sd_Mem), Rel M N → ∀ (x1 x2 : Int32), ∃ (q : (Int32 × sd_Mem)) (q2 : (Int32 × sd_Mem)), fn_X10_row M x1 x2 = some q ∧ fn_X11_row N x1 x2 = some q2 ∧ q.1 = q2.1 ∧ Rel q.2 q2.2
def sd_St1 (Rel : sd_Mem → sd_Mem → Prop) : Prop := ∀ (M N : sd_Mem), Rel M N → ∀ (x1 x2 x3 : Int32), ∃ (q : (Int32 × sd_Mem)) (q2 : (Int32 × sd_Mem)), fn_X10_lay M x1 x2 x3 = some q ∧ fn_X11_lay N x1 x2 x3 = some q2 ∧ q.1 = q2.1 ∧ Rel q.2 q2.2
def sd_St2 (Rel : sd_Mem → sd_Mem → Prop) : Prop := ∀ (M N : sd_Mem), Rel M N → ∀ (x1 : Int32), ∃ (q : (Int32 × sd_Mem)) (q2 : (Int32 × sd_Mem)), fn_X10_tear M x1 = some q ∧ fn_X11_tear N x1 = some q2 ∧ q.1 = q2.1 ∧ Rel q.2 q2.2
def sd_St3 (Rel : sd_Mem → sd_Mem → Prop) : Prop := ∀ (M N : sd_Mem), Rel M N → ∀ (x1 x2 x3 x4 x5 : Int32), ∃ (q : (Int32 × sd_Mem)) (q2 : (Int32 × sd_Mem)), fn_X10_copy M x1 x2 x3 x4 x5 = some q ∧ fn_X11_copy N x1 x2 x3 x4 x5 = some q2 ∧ q.1 = q2.1 ∧ Rel q.2 q2.2
def sd_St4 (Rel : sd_Mem → sd_Mem → Prop) : Prop := ∀ (M N : sd_Mem), Rel M N → ∀ (x1 : Int32), ∃ (q : (Int32 × sd_Mem)) (q2 : (Int32 × sd_Mem)), fn_X10_mean M x1 = some q ∧ fn_X11_mean N x1 = some q2 ∧ q.1 = q2.1 ∧ Rel q.2 q2.2
def sd_St5 (Rel : sd_Mem → sd_Mem → Prop) : Prop := ∀ (M N : sd_Mem), Rel M N → ∀ (x1 x2 : Int32), ∃ (q : (Int32 × sd_Mem)) (q2 : (Int32 × sd_Mem)), fn_X10_text M x1 x2 = some q ∧ fn_X11_text N x1 x2 = some q2 ∧ q.1 = q2.1 ∧ Rel q.2 q2.2
def sd_St6 (Rel : sd_Mem → sd_Mem → Prop) : Prop := ∀ (M N : sd_Mem), Rel M N → ∀ (x1 x2 x3 : Int32), ∃ (q : (Int32 × sd_Mem)) (q2 : (Int32 × sd_Mem)), fn_X10_put M x1 x2 x3 = some q ∧ fn_X11_put N x1 x2 x3 = some q2 ∧ q.1 = q2.1 ∧ Rel q.2 q2.2
def sd_St7 (Rel : sd_Mem → sd_Mem → Prop) : Prop := ∀ (M N : sd_Mem), Rel M N → ∀ (x1 : Int32), ∃ (q : (Int32 × sd_Mem)) (q2 : (Int32 × sd_Mem)), fn_X10_fault M x1 = some q ∧ fn_X11_fault N x1 = some q2 ∧ q.1 = q2.1 ∧ Rel q.2 q2.2
def sd_St8 (Rel : sd_Mem → sd_Mem → Prop) : Prop := ∀ (M N : sd_Mem), Rel M N → ∀ (x1 : Int32), ∃ (q : (Int32 × sd_Mem)) (q2 : (Int32 × sd_Mem)), fn_X10_quarrel M x1 = some q ∧ fn_X11_quarrel N x1 = some q2 ∧ q.1 = q2.1 ∧ Rel q.2 q2.2
def sd_St9 (Rel : sd_Mem → sd_Mem → Prop) : Prop := ∀ (M N : sd_Mem), Rel M N → ∀ (x1 : Int32), ∃ (q : (Int32 × sd_Mem)) (q2 : (Int32 × sd_Mem)), fn_X10_told M x1 = some q ∧ fn_X11_told N x1 = some q2 ∧ q.1 = q2.1 ∧ Rel q.2 q2.2
def sd_St10 (Rel : sd_Mem → sd_Mem → Prop) : Prop := ∀ (M N : sd_Mem), Rel M N → ∀ (x1 x2 x3 : Int32), ∃ (q : (Int32 × sd_Mem)) (q2 : (Int32 × sd_Mem)), fn_X10_sort M x1 x2 x3 = some q ∧ fn_X11_sort N x1 x2 x3 = some q2 ∧ q.1 = q2.1 ∧ Rel q.2 q2.2
def sd_St11 (Rel : sd_Mem → sd_Mem → Prop) : Prop := ∀ (M N : sd_Mem), Rel M N → ∀ (x1 : Int32), ∃ (q : (Int32 × sd_Mem)) (q2 : (Int32 × sd_Mem)), fn_X10_notice M x1 = some q ∧ fn_X11_notice N x1 = some q2 ∧ q.1 = q2.1 ∧ Rel q.2 q2.2
def sd_St12 (Rel : sd_Mem → sd_Mem → Prop) : Prop := ∀ (M N : sd_Mem), Rel M N → ∀ (x1 x2 : Int32), ∃ (q : (Int32 × sd_Mem)) (q2 : (Int32 × sd_Mem)), fn_X10_judge M x1 x2 = some q ∧ fn_X11_judge N x1 x2 = some q2 ∧ q.1 = q2.1 ∧ Rel q.2 q2.2
def sd_St13 (Rel : sd_Mem → sd_Mem → Prop) : Prop := ∀ (M N : sd_Mem), Rel M N → ∀ (x1 x2 : Int32), ∃ (q : (Int32 × sd_Mem)) (q2 : (Int32 × sd_Mem)), fn_X10_way M x1 x2 = some q ∧ fn_X11_way N x1 x2 = some q2 ∧ q.1 = q2.1 ∧ Rel q.2 q2.2
def sd_St14 (Rel : sd_Mem → sd_Mem → Prop) : Prop := ∀ (M N : sd_Mem), Rel M N → ∀ (x1 x2 x3 x4 : Int32), ∃ (q : (Int32 × sd_Mem)) (q2 : (Int32 × sd_Mem)), fn_X10_set M x1 x2 x3 x4 = some q ∧ fn_X11_set N x1 x2 x3 x4 = some q2 ∧ q.1 = q2.1 ∧ Rel q.2 q2.2
def sd_St15 (Rel : sd_Mem → sd_Mem → Prop) : Prop := ∀ (M N : sd_Mem), Rel M N → ∀ (x1 x2 x3 : Int32), ∃ (q : (Int32 × sd_Mem)) (q2 : (Int32 × sd_Mem)), fn_X10_setAll M x1 x2 x3 = some q ∧ fn_X11_setAll N x1 x2 x3 = some q2 ∧ q.1 = q2.1 ∧ Rel q.2 q2.2
def sd_St16 (Rel : sd_Mem → sd_Mem → Prop) : Prop := ∀ (M N : sd_Mem), Rel M N → ∀ (x1 x2 x3 : Int32), ∃ (q : (Int32 × sd_Mem)) (q2 : (Int32 × sd_Mem)), fn_X10_at M x1 x2 x3 = some q ∧ fn_X11_at N x1 x2 x3 = some q2 ∧ q.1 = q2.1 ∧ Rel q.2 q2.2
def sd_St17 (Rel : sd_Mem → sd_Mem → Prop) : Prop := ∀ (M N : sd_Mem), Rel M N → ∀ (x1 : Int32), ∃ (q : (Int32 × sd_Mem)) (q2 : (Int32 × sd_Mem)), fn_X10_kind M x1 = some q ∧ fn_X11_kind N x1 = some q2 ∧ q.1 = q2.1 ∧ Rel q.2 q2.2
def sd_St18 (Rel : sd_Mem → sd_Mem → Prop) : Prop := ∀ (M N : sd_Mem), Rel M N → ∀ (x1 x2 : Int32), ∃ (q : (Int32 × sd_Mem)) (q2 : (Int32 × sd_Mem)), fn_X10_mark M x1 x2 = some q ∧ fn_X11_mark N x1 x2 = some q2 ∧ q.1 = q2.1 ∧ Rel q.2 q2.2
def sd_St19 (Rel : sd_Mem → sd_Mem → Prop) : Prop := ∀ (M N : sd_Mem), Rel M N → ∀ (x1 x2 x3 x4 : Int32), ∃ (q : (Int32 × sd_Mem)) (q2 : (Int32 × sd_Mem)), fn_X10_run M x1 x2 x3 x4 = some q ∧ fn_X11_run N x1 x2 x3 x4 = some q2 ∧ q.1 = q2.1 ∧ Rel q.2 q2.2
def sd_St20 (Rel : sd_Mem → sd_Mem → Prop) : Prop := ∀ (M N : sd_Mem), Rel M N → ∀ (x1 x2 x3 x4 : Int32), ∃ (q : (Int32 × sd_Mem)) (q2 : (Int32 × sd_Mem)), fn_X10_worth M x1 x2 x3 x4 = some q ∧ fn_X11_worth N x1 x2 x3 x4 = some q2 ∧ q.1 = q2.1 ∧ Rel q.2 q2.2
def sd_St21 (Rel : sd_Mem → sd_Mem → Prop) : Prop := ∀ (M N : sd_Mem), Rel M N → ∀ (x1 x2 x3 x4 x5 x6 : Int32), ∃ (q : (Int32 × sd_Mem)) (q2 : (Int32 × sd_Mem)), fn_X10_think M x1 x2 x3 x4 x5 x6 = some q ∧ fn_X11_think N x1 x2 x3 x4 x5 x6 = some q2 ∧ q.1 = q2.1 ∧ Rel q.2 q2.2
def sd_St22 (Rel : sd_Mem → sd_Mem → Prop) : Prop := ∀ (M N : sd_Mem), Rel M N → ∀ (x1 x2 x3 : Int32), ∃ (q : (Int32 × sd_Mem)) (q2 : (Int32 × sd_Mem)), fn_X10_end M x1 x2 x3 = some q ∧ fn_X11_end N x1 x2 x3 = some q2 ∧ q.1 = q2.1 ∧ Rel q.2 q2.2
def sd_St23 (Rel : sd_Mem → sd_Mem → Prop) : Prop := ∀ (M N : sd_Mem), Rel M N → ∀ (x1 x2 x3 : Int32), ∃ (q : (Int32 × sd_Mem)) (q2 : (Int32 × sd_Mem)), fn_X10_best M x1 x2 x3 = some q ∧ fn_X11_best N x1 x2 x3 = some q2 ∧ q.1 = q2.1 ∧ Rel q.2 q2.2
def sd_St24 (Rel : sd_Mem → sd_Mem → Prop) : Prop := ∀ (M N : sd_Mem), Rel M N → ∀ (x1 x2 : Int32), ∃ (q : (Int32 × sd_Mem)) (q2 : (Int32 × sd_Mem)), fn_X10_rest M x1 x2 = some q ∧ fn_X11_rest N x1 x2 = some q2 ∧ q.1 = q2.1 ∧ Rel q.2 q2.2
def sd_St25 (Rel : sd_Mem → sd_Mem → Prop) : Prop := ∀ (M N : sd_Mem), Rel M N → ∀ (x1 x2 : Int32), ∃ (q : (Int32 × sd_Mem)) (q2 : (Int32 × sd_Mem)), fn_X10_answer M x1 x2 = some q ∧ fn_X11_answer N x1 x2 = some q2 ∧ q.1 = q2.1 ∧ Rel q.2 q2.2
def sd_St26 (Rel : sd_Mem → sd_Mem → Prop) : Prop := ∀ (M N : sd_Mem), Rel M N → ∀ (x1 x2 : Int32), ∃ (q : (Int32 × sd_Mem)) (q2 : (Int32 × sd_Mem)), fn_X10_reply M x1 x2 = some q ∧ fn_X11_reply N x1 x2 = some q2 ∧ q.1 = q2.1 ∧ Rel q.2 q2.2
def sd_St27 (Rel : sd_Mem → sd_Mem → Prop) : Prop := ∀ (M N : sd_Mem), Rel M N → ∀ (x1 x2 : Int32), ∃ (q : (Int32 × sd_Mem)) (q2 : (Int32 × sd_Mem)), fn_X10_longer M x1 x2 = some q ∧ fn_X11_longer N x1 x2 = some q2 ∧ q.1 = q2.1 ∧ Rel q.2 q2.2
def sd_St28 (Rel : sd_Mem → sd_Mem → Prop) : Prop := ∀ (M N : sd_Mem), Rel M N → ∀ (x1 x2 : Int32), ∃ (q : (Int32 × sd_Mem)) (q2 : (Int32 × sd_Mem)), fn_X10_lost M x1 x2 = some q ∧ fn_X11_lost N x1 x2 = some q2 ∧ q.1 = q2.1 ∧ Rel q.2 q2.2
def sd_St29 (Rel : sd_Mem → sd_Mem → Prop) : Prop := ∀ (M N : sd_Mem), Rel M N → ∀ (x1 x2 x3 x4 : Int32), ∃ (q : (Int32 × sd_Mem)) (q2 : (Int32 × sd_Mem)), fn_X10_morning M x1 x2 x3 x4 = some q ∧ fn_X11_morning N x1 x2 x3 x4 = some q2 ∧ q.1 = q2.1 ∧ Rel q.2 q2.2
def sd_St30 (Rel : sd_Mem → sd_Mem → Prop) : Prop := ∀ (M N : sd_Mem), Rel M N → ∀ (x1 x2 : Int32), ∃ (q : (Int32 × sd_Mem)) (q2 : (Int32 × sd_Mem)), fn_X10_law M x1 x2 = some q ∧ fn_X11_law N x1 x2 = some q2 ∧ q.1 = q2.1 ∧ Rel q.2 q2.2
def sd_St31 (Rel : sd_Mem → sd_Mem → Prop) : Prop := ∀ (M N : sd_Mem), Rel M N → ∀ (x1 x2 x3 x4 : Int32), ∃ (q : (Int32 × sd_Mem)) (q2 : (Int32 × sd_Mem)), fn_X10_men M x1 x2 x3 x4 = some q ∧ fn_X11_men N x1 x2 x3 x4 = some q2 ∧ q.1 = q2.1 ∧ Rel q.2 q2.2
def sd_St32 (Rel : sd_Mem → sd_Mem → Prop) : Prop := ∀ (M N : sd_Mem), Rel M N → ∀ (x1 x2 x3 x4 : Int32), ∃ (q : (Int32 × sd_Mem)) (q2 : (Int32 × sd_Mem)), fn_X10_leftBy M x1 x2 x3 x4 = some q ∧ fn_X11_leftBy N x1 x2 x3 x4 = some q2 ∧ q.1 = q2.1 ∧ Rel q.2 q2.2
def sd_St33 (Rel : sd_Mem → sd_Mem → Prop) : Prop := ∀ (M N : sd_Mem), Rel M N → ∀ (x1 x2 x3 : Int32), ∃ (q : (Int32 × sd_Mem)) (q2 : (Int32 × sd_Mem)), fn_X10_gone M x1 x2 x3 = some q ∧ fn_X11_gone N x1 x2 x3 = some q2 ∧ q.1 = q2.1 ∧ Rel q.2 q2.2
def sd_St34 (Rel : sd_Mem → sd_Mem → Prop) : Prop := ∀ (M N : sd_Mem), Rel M N → ∀ (x1 x2 : Int32), ∃ (q : (Int32 × sd_Mem)) (q2 : (Int32 × sd_Mem)), fn_X10_all M x1 x2 = some q ∧ fn_X11_all N x1 x2 = some q2 ∧ q.1 = q2.1 ∧ Rel q.2 q2.2
def sd_St35 (Rel : sd_Mem → sd_Mem → Prop) : Prop := ∀ (M N : sd_Mem), Rel M N → ∀ (x1 : Int32), ∃ (q : (Int32 × sd_Mem)) (q2 : (Int32 × sd_Mem)), fn_X10_turns M x1 = some q ∧ fn_X11_turns N x1 = some q2 ∧ q.1 = q2.1 ∧ Rel q.2 q2.2
def sd_St36 (Rel : sd_Mem → sd_Mem → Prop) : Prop := ∀ (M N : sd_Mem), Rel M N → ∀ (x1 x2 : Int32), ∃ (q : (Int32 × sd_Mem)) (q2 : (Int32 × sd_Mem)), fn_X10_fund M x1 x2 = some q ∧ fn_X11_fund N x1 x2 = some q2 ∧ q.1 = q2.1 ∧ Rel q.2 q2.2
def sd_St37 (Rel : sd_Mem → sd_Mem → Prop) : Prop := ∀ (M N : sd_Mem), Rel M N → ∀ (x1 x2 x3 : Int32), ∃ (q : Int32) (q2 : Int32), fn_X10_pact x1 x2 x3 = some q ∧ fn_X11_pact x1 x2 x3 = some q2 ∧ q = q2 ∧ Rel M N
def sd_St38 (Rel : sd_Mem → sd_Mem → Prop) : Prop := ∀ (M N : sd_Mem), Rel M N → ∃ (q : Int32) (q2 : Int32), fn_X10_asked M = some q ∧ fn_X11_asked N = some q2 ∧ q = q2 ∧ Rel M N
def sd_St39 (Rel : sd_Mem → sd_Mem → Prop) : Prop := ∀ (M N : sd_Mem), Rel M N → ∃ (q : Int64) (q2 : Int64), fn_X10_upper M = some q ∧ fn_X11_upper N = some q2 ∧ q = q2 ∧ Rel M N
def sd_St40 (Rel : sd_Mem → sd_Mem → Prop) : Prop := ∀ (M N : sd_Mem), Rel M N → ∃ (q : Int64) (q2 : Int64), fn_X10_lower M = some q ∧ fn_X11_lower N = some q2 ∧ q = q2 ∧ Rel M N
def sd_St41 (Rel : sd_Mem → sd_Mem → Prop) : Prop := ∀ (M N : sd_Mem), Rel M N → ∀ (x1 : Int32), ∃ (q : Int32) (q2 : Int32), fn_X10_count M x1 = some q ∧ fn_X11_count N x1 = some q2 ∧ q = q2 ∧ Rel M N
def sd_St42 (Rel : sd_Mem → sd_Mem → Prop) : Prop := ∀ (M N : sd_Mem), Rel M N → ∃ (q : Int32) (q2 : Int32), fn_X10_finding M = some q ∧ fn_X11_finding N = some q2 ∧ q = q2 ∧ Rel M N
def sd_St43 (Rel : sd_Mem → sd_Mem → Prop) : Prop := ∀ (M N : sd_Mem), Rel M N → ∀ (x1 : Int32), ∃ (q : Int32) (q2 : Int32), fn_X10_findings M x1 = some q ∧ fn_X11_findings N x1 = some q2 ∧ q = q2 ∧ Rel M N
def sd_St44 (Rel : sd_Mem → sd_Mem → Prop) : Prop := ∀ (M N : sd_Mem), Rel M N → ∃ (q : Int64) (q2 : (Int64 × sd_Mem)), fn_X10_digest M = some q ∧ fn_X11_digest N = some q2 ∧ q = q2.1 ∧ Rel M q2.2
set_option maxRecDepth 100000 in
theorem sd_law0 {Rel : sd_Mem → sd_Mem → Prop} {K : sd_K} {E : sd_Env} {b : Nat} {xs : Nat → Int32} {Lx : Nat} {Q : State → Prop} {M N : sd_Mem} {x3 : Int32} (G : sd_GL K E b xs Lx) (hs : sd_St0 Rel) (hR : Rel M N) (v1 : vp_in (x3 + (1 : Int32)) Lx) (v2 : vp_in (x3 + (2 : Int32)) Lx) (hk : ∀ M N : sd_Mem, Rel M N → sd_X K E b xs Lx Q M N 1798 [(0, .ref b), (1, .ref (E.2.2 0)), (2, .ref (E.2.2 100)), (3, .int x3)] []) : sd_X K E b xs Lx Q M N 228 [(0, .ref b), (1, .ref (E.2.2 0)), (2, .ref (E.2.2 100)), (3, .int x3)] [] := by
  obtain ⟨q, q2, e1, e2, e3, e4⟩ := hs M N hR (xs (x3 + (1 : Int32)).toNatClampNeg) (xs (x3 + (2 : Int32)).toNatClampNeg)
  refine sd_xaload_n G 1 dL_law_228 rfl rfl rfl (n' := 229) ?_
  refine sd_xaload_n G 0 dL_law_229 rfl rfl rfl (n' := 230) ?_
  refine sd_xiload_n G 3 dL_law_230 rfl rfl rfl (n' := 231) ?_
  refine sd_xiconst G (v := 1) dL_law_231 rfl rfl (n' := 232) ?_
  refine sd_xiadd G dL_law_232 rfl (n' := 233) ?_
  refine sd_xsld G v1 dL_law_233 rfl (n' := 234) ?_
  refine sd_xaload_n G 0 dL_law_234 rfl rfl rfl (n' := 235) ?_
  refine sd_xiload_n G 3 dL_law_235 rfl rfl rfl (n' := 236) ?_
  refine sd_xiconst G (v := 2) dL_law_236 rfl rfl (n' := 237) ?_
  refine sd_xiadd G dL_law_237 rfl (n' := 238) ?_
  refine sd_xsld G v2 dL_law_238 rfl (n' := 239) ?_
  refine sd_xcallCI [.int (xs (x3 + (1 : Int32)).toNatClampNeg), .int (xs (x3 + (2 : Int32)).toNatClampNeg)] [] G (ct_X10_row M (xs (x3 + (1 : Int32)).toNatClampNeg) (xs (x3 + (2 : Int32)).toNatClampNeg) e1) sd_lL_13 ⟨rfl, rfl, Nat.le_of_ble_eq_true rfl, Nat.le_of_ble_eq_true rfl⟩ (sd_e11 rfl) rfl rfl (Nat.le_of_ble_eq_true rfl) dL_law_239 rfl (n' := 242) ?_
  refine sd_xaload_n G 2 dL_law_242 rfl rfl rfl (n' := 243) ?_
  refine sd_xaload_n G 0 dL_law_243 rfl rfl rfl (n' := 244) ?_
  refine sd_xiload_n G 3 dL_law_244 rfl rfl rfl (n' := 245) ?_
  refine sd_xiconst G (v := 1) dL_law_245 rfl rfl (n' := 246) ?_
  refine sd_xiadd G dL_law_246 rfl (n' := 247) ?_
  refine sd_xsld G v1 dL_law_247 rfl (n' := 248) ?_
  refine sd_xaload_n G 0 dL_law_248 rfl rfl rfl (n' := 249) ?_
  refine sd_xiload_n G 3 dL_law_249 rfl rfl rfl (n' := 250) ?_
  refine sd_xiconst G (v := 2) dL_law_250 rfl rfl (n' := 251) ?_
  refine sd_xiadd G dL_law_251 rfl (n' := 252) ?_
  refine sd_xsld G v2 dL_law_252 rfl (n' := 253) ?_
  refine sd_xcallMI [.int (xs (x3 + (1 : Int32)).toNatClampNeg), .int (xs (x3 + (2 : Int32)).toNatClampNeg)] [.int q.1] G (ct_X11_row N (xs (x3 + (1 : Int32)).toNatClampNeg) (xs (x3 + (2 : Int32)).toNatClampNeg) e2) sd_lL_17 ⟨rfl, rfl, Nat.le_of_ble_eq_true rfl, Nat.le_of_ble_eq_true rfl⟩ (sd_e12 rfl) rfl rfl (Nat.le_of_ble_eq_true rfl) dL_law_253 rfl (n' := 256) ?_
  refine sd_xeq G (tgt := 1798) dL_law_256 rfl e3 ?_
  exact hk _ _ e4
set_option maxRecDepth 100000 in
theorem sd_law1 {Rel : sd_Mem → sd_Mem → Prop} {K : sd_K} {E : sd_Env} {b : Nat} {xs : Nat → Int32} {Lx : Nat} {Q : State → Prop} {M N : sd_Mem} {x3 : Int32} (G : sd_GL K E b xs Lx) (hs : sd_St1 Rel) (hR : Rel M N) (v1 : vp_in (x3 + (1 : Int32)) Lx) (v2 : vp_in (x3 + (2 : Int32)) Lx) (v3 : vp_in (x3 + (3 : Int32)) Lx) (hk : ∀ M N : sd_Mem, Rel M N → sd_X K E b xs Lx Q M N 1798 [(0, .ref b), (1, .ref (E.2.2 0)), (2, .ref (E.2.2 100)), (3, .int x3)] []) : sd_X K E b xs Lx Q M N 261 [(0, .ref b), (1, .ref (E.2.2 0)), (2, .ref (E.2.2 100)), (3, .int x3)] [] := by
  obtain ⟨q, q2, e1, e2, e3, e4⟩ := hs M N hR (xs (x3 + (1 : Int32)).toNatClampNeg) (xs (x3 + (2 : Int32)).toNatClampNeg) (xs (x3 + (3 : Int32)).toNatClampNeg)
  refine sd_xaload_n G 1 dL_law_261 rfl rfl rfl (n' := 262) ?_
  refine sd_xaload_n G 0 dL_law_262 rfl rfl rfl (n' := 263) ?_
  refine sd_xiload_n G 3 dL_law_263 rfl rfl rfl (n' := 264) ?_
  refine sd_xiconst G (v := 1) dL_law_264 rfl rfl (n' := 265) ?_
  refine sd_xiadd G dL_law_265 rfl (n' := 266) ?_
  refine sd_xsld G v1 dL_law_266 rfl (n' := 267) ?_
  refine sd_xaload_n G 0 dL_law_267 rfl rfl rfl (n' := 268) ?_
  refine sd_xiload_n G 3 dL_law_268 rfl rfl rfl (n' := 269) ?_
  refine sd_xiconst G (v := 2) dL_law_269 rfl rfl (n' := 270) ?_
  refine sd_xiadd G dL_law_270 rfl (n' := 271) ?_
  refine sd_xsld G v2 dL_law_271 rfl (n' := 272) ?_
  refine sd_xaload_n G 0 dL_law_272 rfl rfl rfl (n' := 273) ?_
  refine sd_xiload_n G 3 dL_law_273 rfl rfl rfl (n' := 274) ?_
  refine sd_xiconst G (v := 3) dL_law_274 rfl rfl (n' := 275) ?_
  refine sd_xiadd G dL_law_275 rfl (n' := 276) ?_
  refine sd_xsld G v3 dL_law_276 rfl (n' := 277) ?_
  refine sd_xcallCI [.int (xs (x3 + (1 : Int32)).toNatClampNeg), .int (xs (x3 + (2 : Int32)).toNatClampNeg), .int (xs (x3 + (3 : Int32)).toNatClampNeg)] [] G (ct_X10_lay M (xs (x3 + (1 : Int32)).toNatClampNeg) (xs (x3 + (2 : Int32)).toNatClampNeg) (xs (x3 + (3 : Int32)).toNatClampNeg) e1) sd_lL_18 ⟨rfl, rfl, Nat.le_of_ble_eq_true rfl, Nat.le_of_ble_eq_true rfl⟩ (sd_e11 rfl) rfl rfl (Nat.le_of_ble_eq_true rfl) dL_law_277 rfl (n' := 280) ?_
  refine sd_xaload_n G 2 dL_law_280 rfl rfl rfl (n' := 281) ?_
  refine sd_xaload_n G 0 dL_law_281 rfl rfl rfl (n' := 282) ?_
  refine sd_xiload_n G 3 dL_law_282 rfl rfl rfl (n' := 283) ?_
  refine sd_xiconst G (v := 1) dL_law_283 rfl rfl (n' := 284) ?_
  refine sd_xiadd G dL_law_284 rfl (n' := 285) ?_
  refine sd_xsld G v1 dL_law_285 rfl (n' := 286) ?_
  refine sd_xaload_n G 0 dL_law_286 rfl rfl rfl (n' := 287) ?_
  refine sd_xiload_n G 3 dL_law_287 rfl rfl rfl (n' := 288) ?_
  refine sd_xiconst G (v := 2) dL_law_288 rfl rfl (n' := 289) ?_
  refine sd_xiadd G dL_law_289 rfl (n' := 290) ?_
  refine sd_xsld G v2 dL_law_290 rfl (n' := 291) ?_
  refine sd_xaload_n G 0 dL_law_291 rfl rfl rfl (n' := 292) ?_
  refine sd_xiload_n G 3 dL_law_292 rfl rfl rfl (n' := 293) ?_
  refine sd_xiconst G (v := 3) dL_law_293 rfl rfl (n' := 294) ?_
  refine sd_xiadd G dL_law_294 rfl (n' := 295) ?_
  refine sd_xsld G v3 dL_law_295 rfl (n' := 296) ?_
  refine sd_xcallMI [.int (xs (x3 + (1 : Int32)).toNatClampNeg), .int (xs (x3 + (2 : Int32)).toNatClampNeg), .int (xs (x3 + (3 : Int32)).toNatClampNeg)] [.int q.1] G (ct_X11_lay N (xs (x3 + (1 : Int32)).toNatClampNeg) (xs (x3 + (2 : Int32)).toNatClampNeg) (xs (x3 + (3 : Int32)).toNatClampNeg) e2) sd_lL_22 ⟨rfl, rfl, Nat.le_of_ble_eq_true rfl, Nat.le_of_ble_eq_true rfl⟩ (sd_e12 rfl) rfl rfl (Nat.le_of_ble_eq_true rfl) dL_law_296 rfl (n' := 299) ?_
  refine sd_xeq G (tgt := 1798) dL_law_299 rfl e3 ?_
  exact hk _ _ e4
set_option maxRecDepth 100000 in
theorem sd_law2 {Rel : sd_Mem → sd_Mem → Prop} {K : sd_K} {E : sd_Env} {b : Nat} {xs : Nat → Int32} {Lx : Nat} {Q : State → Prop} {M N : sd_Mem} {x3 : Int32} (G : sd_GL K E b xs Lx) (hs : sd_St2 Rel) (hR : Rel M N) (v1 : vp_in (x3 + (1 : Int32)) Lx) (hk : ∀ M N : sd_Mem, Rel M N → sd_X K E b xs Lx Q M N 1798 [(0, .ref b), (1, .ref (E.2.2 0)), (2, .ref (E.2.2 100)), (3, .int x3)] []) : sd_X K E b xs Lx Q M N 304 [(0, .ref b), (1, .ref (E.2.2 0)), (2, .ref (E.2.2 100)), (3, .int x3)] [] := by
  obtain ⟨q, q2, e1, e2, e3, e4⟩ := hs M N hR (xs (x3 + (1 : Int32)).toNatClampNeg)
  refine sd_xaload_n G 1 dL_law_304 rfl rfl rfl (n' := 305) ?_
  refine sd_xaload_n G 0 dL_law_305 rfl rfl rfl (n' := 306) ?_
  refine sd_xiload_n G 3 dL_law_306 rfl rfl rfl (n' := 307) ?_
  refine sd_xiconst G (v := 1) dL_law_307 rfl rfl (n' := 308) ?_
  refine sd_xiadd G dL_law_308 rfl (n' := 309) ?_
  refine sd_xsld G v1 dL_law_309 rfl (n' := 310) ?_
  refine sd_xcallCI [.int (xs (x3 + (1 : Int32)).toNatClampNeg)] [] G (ct_X10_tear M (xs (x3 + (1 : Int32)).toNatClampNeg) e1) sd_lL_23 ⟨rfl, rfl, Nat.le_of_ble_eq_true rfl, Nat.le_of_ble_eq_true rfl⟩ (sd_e11 rfl) rfl rfl (Nat.le_of_ble_eq_true rfl) dL_law_310 rfl (n' := 313) ?_
  refine sd_xaload_n G 2 dL_law_313 rfl rfl rfl (n' := 314) ?_
  refine sd_xaload_n G 0 dL_law_314 rfl rfl rfl (n' := 315) ?_
  refine sd_xiload_n G 3 dL_law_315 rfl rfl rfl (n' := 316) ?_
  refine sd_xiconst G (v := 1) dL_law_316 rfl rfl (n' := 317) ?_
  refine sd_xiadd G dL_law_317 rfl (n' := 318) ?_
  refine sd_xsld G v1 dL_law_318 rfl (n' := 319) ?_
  refine sd_xcallMI [.int (xs (x3 + (1 : Int32)).toNatClampNeg)] [.int q.1] G (ct_X11_tear N (xs (x3 + (1 : Int32)).toNatClampNeg) e2) sd_lL_27 ⟨rfl, rfl, Nat.le_of_ble_eq_true rfl, Nat.le_of_ble_eq_true rfl⟩ (sd_e12 rfl) rfl rfl (Nat.le_of_ble_eq_true rfl) dL_law_319 rfl (n' := 322) ?_
  refine sd_xeq G (tgt := 1798) dL_law_322 rfl e3 ?_
  exact hk _ _ e4
set_option maxRecDepth 100000 in
theorem sd_law3 {Rel : sd_Mem → sd_Mem → Prop} {K : sd_K} {E : sd_Env} {b : Nat} {xs : Nat → Int32} {Lx : Nat} {Q : State → Prop} {M N : sd_Mem} {x3 : Int32} (G : sd_GL K E b xs Lx) (hs : sd_St3 Rel) (hR : Rel M N) (v1 : vp_in (x3 + (1 : Int32)) Lx) (v2 : vp_in (x3 + (2 : Int32)) Lx) (v3 : vp_in (x3 + (3 : Int32)) Lx) (v4 : vp_in (x3 + (4 : Int32)) Lx) (v5 : vp_in (x3 + (5 : Int32)) Lx) (hk : ∀ M N : sd_Mem, Rel M N → sd_X K E b xs Lx Q M N 1798 [(0, .ref b), (1, .ref (E.2.2 0)), (2, .ref (E.2.2 100)), (3, .int x3)] []) : sd_X K E b xs Lx Q M N 327 [(0, .ref b), (1, .ref (E.2.2 0)), (2, .ref (E.2.2 100)), (3, .int x3)] [] := by
  obtain ⟨q, q2, e1, e2, e3, e4⟩ := hs M N hR (xs (x3 + (1 : Int32)).toNatClampNeg) (xs (x3 + (2 : Int32)).toNatClampNeg) (xs (x3 + (3 : Int32)).toNatClampNeg) (xs (x3 + (4 : Int32)).toNatClampNeg) (xs (x3 + (5 : Int32)).toNatClampNeg)
  refine sd_xaload_n G 1 dL_law_327 rfl rfl rfl (n' := 328) ?_
  refine sd_xaload_n G 0 dL_law_328 rfl rfl rfl (n' := 329) ?_
  refine sd_xiload_n G 3 dL_law_329 rfl rfl rfl (n' := 330) ?_
  refine sd_xiconst G (v := 1) dL_law_330 rfl rfl (n' := 331) ?_
  refine sd_xiadd G dL_law_331 rfl (n' := 332) ?_
  refine sd_xsld G v1 dL_law_332 rfl (n' := 333) ?_
  refine sd_xaload_n G 0 dL_law_333 rfl rfl rfl (n' := 334) ?_
  refine sd_xiload_n G 3 dL_law_334 rfl rfl rfl (n' := 335) ?_
  refine sd_xiconst G (v := 2) dL_law_335 rfl rfl (n' := 336) ?_
  refine sd_xiadd G dL_law_336 rfl (n' := 337) ?_
  refine sd_xsld G v2 dL_law_337 rfl (n' := 338) ?_
  refine sd_xaload_n G 0 dL_law_338 rfl rfl rfl (n' := 339) ?_
  refine sd_xiload_n G 3 dL_law_339 rfl rfl rfl (n' := 340) ?_
  refine sd_xiconst G (v := 3) dL_law_340 rfl rfl (n' := 341) ?_
  refine sd_xiadd G dL_law_341 rfl (n' := 342) ?_
  refine sd_xsld G v3 dL_law_342 rfl (n' := 343) ?_
  refine sd_xaload_n G 0 dL_law_343 rfl rfl rfl (n' := 344) ?_
  refine sd_xiload_n G 3 dL_law_344 rfl rfl rfl (n' := 345) ?_
  refine sd_xiconst G (v := 4) dL_law_345 rfl rfl (n' := 346) ?_
  refine sd_xiadd G dL_law_346 rfl (n' := 347) ?_
  refine sd_xsld G v4 dL_law_347 rfl (n' := 348) ?_
  refine sd_xaload_n G 0 dL_law_348 rfl rfl rfl (n' := 349) ?_
  refine sd_xiload_n G 3 dL_law_349 rfl rfl rfl (n' := 350) ?_
  refine sd_xiconst G (v := 5) dL_law_350 rfl rfl (n' := 351) ?_
  refine sd_xiadd G dL_law_351 rfl (n' := 352) ?_
  refine sd_xsld G v5 dL_law_352 rfl (n' := 353) ?_
  refine sd_xcallCI [.int (xs (x3 + (1 : Int32)).toNatClampNeg), .int (xs (x3 + (2 : Int32)).toNatClampNeg), .int (xs (x3 + (3 : Int32)).toNatClampNeg), .int (xs (x3 + (4 : Int32)).toNatClampNeg), .int (xs (x3 + (5 : Int32)).toNatClampNeg)] [] G (ct_X10_copy M (xs (x3 + (1 : Int32)).toNatClampNeg) (xs (x3 + (2 : Int32)).toNatClampNeg) (xs (x3 + (3 : Int32)).toNatClampNeg) (xs (x3 + (4 : Int32)).toNatClampNeg) (xs (x3 + (5 : Int32)).toNatClampNeg) e1) sd_lL_28 ⟨rfl, rfl, Nat.le_of_ble_eq_true rfl, Nat.le_of_ble_eq_true rfl⟩ (sd_e11 rfl) rfl rfl (Nat.le_of_ble_eq_true rfl) dL_law_353 rfl (n' := 356) ?_
  refine sd_xaload_n G 2 dL_law_356 rfl rfl rfl (n' := 357) ?_
  refine sd_xaload_n G 0 dL_law_357 rfl rfl rfl (n' := 358) ?_
  refine sd_xiload_n G 3 dL_law_358 rfl rfl rfl (n' := 359) ?_
  refine sd_xiconst G (v := 1) dL_law_359 rfl rfl (n' := 360) ?_
  refine sd_xiadd G dL_law_360 rfl (n' := 361) ?_
  refine sd_xsld G v1 dL_law_361 rfl (n' := 362) ?_
  refine sd_xaload_n G 0 dL_law_362 rfl rfl rfl (n' := 363) ?_
  refine sd_xiload_n G 3 dL_law_363 rfl rfl rfl (n' := 364) ?_
  refine sd_xiconst G (v := 2) dL_law_364 rfl rfl (n' := 365) ?_
  refine sd_xiadd G dL_law_365 rfl (n' := 366) ?_
  refine sd_xsld G v2 dL_law_366 rfl (n' := 367) ?_
  refine sd_xaload_n G 0 dL_law_367 rfl rfl rfl (n' := 368) ?_
  refine sd_xiload_n G 3 dL_law_368 rfl rfl rfl (n' := 369) ?_
  refine sd_xiconst G (v := 3) dL_law_369 rfl rfl (n' := 370) ?_
  refine sd_xiadd G dL_law_370 rfl (n' := 371) ?_
  refine sd_xsld G v3 dL_law_371 rfl (n' := 372) ?_
  refine sd_xaload_n G 0 dL_law_372 rfl rfl rfl (n' := 373) ?_
  refine sd_xiload_n G 3 dL_law_373 rfl rfl rfl (n' := 374) ?_
  refine sd_xiconst G (v := 4) dL_law_374 rfl rfl (n' := 375) ?_
  refine sd_xiadd G dL_law_375 rfl (n' := 376) ?_
  refine sd_xsld G v4 dL_law_376 rfl (n' := 377) ?_
  refine sd_xaload_n G 0 dL_law_377 rfl rfl rfl (n' := 378) ?_
  refine sd_xiload_n G 3 dL_law_378 rfl rfl rfl (n' := 379) ?_
  refine sd_xiconst G (v := 5) dL_law_379 rfl rfl (n' := 380) ?_
  refine sd_xiadd G dL_law_380 rfl (n' := 381) ?_
  refine sd_xsld G v5 dL_law_381 rfl (n' := 382) ?_
  refine sd_xcallMI [.int (xs (x3 + (1 : Int32)).toNatClampNeg), .int (xs (x3 + (2 : Int32)).toNatClampNeg), .int (xs (x3 + (3 : Int32)).toNatClampNeg), .int (xs (x3 + (4 : Int32)).toNatClampNeg), .int (xs (x3 + (5 : Int32)).toNatClampNeg)] [.int q.1] G (ct_X11_copy N (xs (x3 + (1 : Int32)).toNatClampNeg) (xs (x3 + (2 : Int32)).toNatClampNeg) (xs (x3 + (3 : Int32)).toNatClampNeg) (xs (x3 + (4 : Int32)).toNatClampNeg) (xs (x3 + (5 : Int32)).toNatClampNeg) e2) sd_lL_32 ⟨rfl, rfl, Nat.le_of_ble_eq_true rfl, Nat.le_of_ble_eq_true rfl⟩ (sd_e12 rfl) rfl rfl (Nat.le_of_ble_eq_true rfl) dL_law_382 rfl (n' := 385) ?_
  refine sd_xeq G (tgt := 1798) dL_law_385 rfl e3 ?_
  exact hk _ _ e4
set_option maxRecDepth 100000 in
theorem sd_law4 {Rel : sd_Mem → sd_Mem → Prop} {K : sd_K} {E : sd_Env} {b : Nat} {xs : Nat → Int32} {Lx : Nat} {Q : State → Prop} {M N : sd_Mem} {x3 : Int32} (G : sd_GL K E b xs Lx) (hs : sd_St4 Rel) (hR : Rel M N) (v1 : vp_in (x3 + (1 : Int32)) Lx) (hk : ∀ M N : sd_Mem, Rel M N → sd_X K E b xs Lx Q M N 1798 [(0, .ref b), (1, .ref (E.2.2 0)), (2, .ref (E.2.2 100)), (3, .int x3)] []) : sd_X K E b xs Lx Q M N 390 [(0, .ref b), (1, .ref (E.2.2 0)), (2, .ref (E.2.2 100)), (3, .int x3)] [] := by
  obtain ⟨q, q2, e1, e2, e3, e4⟩ := hs M N hR (xs (x3 + (1 : Int32)).toNatClampNeg)
  refine sd_xaload_n G 1 dL_law_390 rfl rfl rfl (n' := 391) ?_
  refine sd_xaload_n G 0 dL_law_391 rfl rfl rfl (n' := 392) ?_
  refine sd_xiload_n G 3 dL_law_392 rfl rfl rfl (n' := 393) ?_
  refine sd_xiconst G (v := 1) dL_law_393 rfl rfl (n' := 394) ?_
  refine sd_xiadd G dL_law_394 rfl (n' := 395) ?_
  refine sd_xsld G v1 dL_law_395 rfl (n' := 396) ?_
  refine sd_xcallCI [.int (xs (x3 + (1 : Int32)).toNatClampNeg)] [] G (ct_X10_mean M (xs (x3 + (1 : Int32)).toNatClampNeg) e1) sd_lL_33 ⟨rfl, rfl, Nat.le_of_ble_eq_true rfl, Nat.le_of_ble_eq_true rfl⟩ (sd_e11 rfl) rfl rfl (Nat.le_of_ble_eq_true rfl) dL_law_396 rfl (n' := 399) ?_
  refine sd_xaload_n G 2 dL_law_399 rfl rfl rfl (n' := 400) ?_
  refine sd_xaload_n G 0 dL_law_400 rfl rfl rfl (n' := 401) ?_
  refine sd_xiload_n G 3 dL_law_401 rfl rfl rfl (n' := 402) ?_
  refine sd_xiconst G (v := 1) dL_law_402 rfl rfl (n' := 403) ?_
  refine sd_xiadd G dL_law_403 rfl (n' := 404) ?_
  refine sd_xsld G v1 dL_law_404 rfl (n' := 405) ?_
  refine sd_xcallMI [.int (xs (x3 + (1 : Int32)).toNatClampNeg)] [.int q.1] G (ct_X11_mean N (xs (x3 + (1 : Int32)).toNatClampNeg) e2) sd_lL_36 ⟨rfl, rfl, Nat.le_of_ble_eq_true rfl, Nat.le_of_ble_eq_true rfl⟩ (sd_e12 rfl) rfl rfl (Nat.le_of_ble_eq_true rfl) dL_law_405 rfl (n' := 408) ?_
  refine sd_xeq G (tgt := 1798) dL_law_408 rfl e3 ?_
  exact hk _ _ e4
set_option maxRecDepth 100000 in
theorem sd_law5 {Rel : sd_Mem → sd_Mem → Prop} {K : sd_K} {E : sd_Env} {b : Nat} {xs : Nat → Int32} {Lx : Nat} {Q : State → Prop} {M N : sd_Mem} {x3 : Int32} (G : sd_GL K E b xs Lx) (hs : sd_St5 Rel) (hR : Rel M N) (v1 : vp_in (x3 + (1 : Int32)) Lx) (v2 : vp_in (x3 + (2 : Int32)) Lx) (hk : ∀ M N : sd_Mem, Rel M N → sd_X K E b xs Lx Q M N 1798 [(0, .ref b), (1, .ref (E.2.2 0)), (2, .ref (E.2.2 100)), (3, .int x3)] []) : sd_X K E b xs Lx Q M N 413 [(0, .ref b), (1, .ref (E.2.2 0)), (2, .ref (E.2.2 100)), (3, .int x3)] [] := by
  obtain ⟨q, q2, e1, e2, e3, e4⟩ := hs M N hR (xs (x3 + (1 : Int32)).toNatClampNeg) (xs (x3 + (2 : Int32)).toNatClampNeg)
  refine sd_xaload_n G 1 dL_law_413 rfl rfl rfl (n' := 414) ?_
  refine sd_xaload_n G 0 dL_law_414 rfl rfl rfl (n' := 415) ?_
  refine sd_xiload_n G 3 dL_law_415 rfl rfl rfl (n' := 416) ?_
  refine sd_xiconst G (v := 1) dL_law_416 rfl rfl (n' := 417) ?_
  refine sd_xiadd G dL_law_417 rfl (n' := 418) ?_
  refine sd_xsld G v1 dL_law_418 rfl (n' := 419) ?_
  refine sd_xaload_n G 0 dL_law_419 rfl rfl rfl (n' := 420) ?_
  refine sd_xiload_n G 3 dL_law_420 rfl rfl rfl (n' := 421) ?_
  refine sd_xiconst G (v := 2) dL_law_421 rfl rfl (n' := 422) ?_
  refine sd_xiadd G dL_law_422 rfl (n' := 423) ?_
  refine sd_xsld G v2 dL_law_423 rfl (n' := 424) ?_
  refine sd_xcallCI [.int (xs (x3 + (1 : Int32)).toNatClampNeg), .int (xs (x3 + (2 : Int32)).toNatClampNeg)] [] G (ct_X10_text M (xs (x3 + (1 : Int32)).toNatClampNeg) (xs (x3 + (2 : Int32)).toNatClampNeg) e1) sd_lL_37 ⟨rfl, rfl, Nat.le_of_ble_eq_true rfl, Nat.le_of_ble_eq_true rfl⟩ (sd_e11 rfl) rfl rfl (Nat.le_of_ble_eq_true rfl) dL_law_424 rfl (n' := 427) ?_
  refine sd_xaload_n G 2 dL_law_427 rfl rfl rfl (n' := 428) ?_
  refine sd_xaload_n G 0 dL_law_428 rfl rfl rfl (n' := 429) ?_
  refine sd_xiload_n G 3 dL_law_429 rfl rfl rfl (n' := 430) ?_
  refine sd_xiconst G (v := 1) dL_law_430 rfl rfl (n' := 431) ?_
  refine sd_xiadd G dL_law_431 rfl (n' := 432) ?_
  refine sd_xsld G v1 dL_law_432 rfl (n' := 433) ?_
  refine sd_xaload_n G 0 dL_law_433 rfl rfl rfl (n' := 434) ?_
  refine sd_xiload_n G 3 dL_law_434 rfl rfl rfl (n' := 435) ?_
  refine sd_xiconst G (v := 2) dL_law_435 rfl rfl (n' := 436) ?_
  refine sd_xiadd G dL_law_436 rfl (n' := 437) ?_
  refine sd_xsld G v2 dL_law_437 rfl (n' := 438) ?_
  refine sd_xcallMI [.int (xs (x3 + (1 : Int32)).toNatClampNeg), .int (xs (x3 + (2 : Int32)).toNatClampNeg)] [.int q.1] G (ct_X11_text N (xs (x3 + (1 : Int32)).toNatClampNeg) (xs (x3 + (2 : Int32)).toNatClampNeg) e2) sd_lL_40 ⟨rfl, rfl, Nat.le_of_ble_eq_true rfl, Nat.le_of_ble_eq_true rfl⟩ (sd_e12 rfl) rfl rfl (Nat.le_of_ble_eq_true rfl) dL_law_438 rfl (n' := 441) ?_
  refine sd_xeq G (tgt := 1798) dL_law_441 rfl e3 ?_
  exact hk _ _ e4
set_option maxRecDepth 100000 in
theorem sd_law6 {Rel : sd_Mem → sd_Mem → Prop} {K : sd_K} {E : sd_Env} {b : Nat} {xs : Nat → Int32} {Lx : Nat} {Q : State → Prop} {M N : sd_Mem} {x3 : Int32} (G : sd_GL K E b xs Lx) (hs : sd_St6 Rel) (hR : Rel M N) (v1 : vp_in (x3 + (1 : Int32)) Lx) (v2 : vp_in (x3 + (2 : Int32)) Lx) (v3 : vp_in (x3 + (3 : Int32)) Lx) (hk : ∀ M N : sd_Mem, Rel M N → sd_X K E b xs Lx Q M N 1798 [(0, .ref b), (1, .ref (E.2.2 0)), (2, .ref (E.2.2 100)), (3, .int x3)] []) : sd_X K E b xs Lx Q M N 446 [(0, .ref b), (1, .ref (E.2.2 0)), (2, .ref (E.2.2 100)), (3, .int x3)] [] := by
  obtain ⟨q, q2, e1, e2, e3, e4⟩ := hs M N hR (xs (x3 + (1 : Int32)).toNatClampNeg) (xs (x3 + (2 : Int32)).toNatClampNeg) (xs (x3 + (3 : Int32)).toNatClampNeg)
  refine sd_xaload_n G 1 dL_law_446 rfl rfl rfl (n' := 447) ?_
  refine sd_xaload_n G 0 dL_law_447 rfl rfl rfl (n' := 448) ?_
  refine sd_xiload_n G 3 dL_law_448 rfl rfl rfl (n' := 449) ?_
  refine sd_xiconst G (v := 1) dL_law_449 rfl rfl (n' := 450) ?_
  refine sd_xiadd G dL_law_450 rfl (n' := 451) ?_
  refine sd_xsld G v1 dL_law_451 rfl (n' := 452) ?_
  refine sd_xaload_n G 0 dL_law_452 rfl rfl rfl (n' := 453) ?_
  refine sd_xiload_n G 3 dL_law_453 rfl rfl rfl (n' := 454) ?_
  refine sd_xiconst G (v := 2) dL_law_454 rfl rfl (n' := 455) ?_
  refine sd_xiadd G dL_law_455 rfl (n' := 456) ?_
  refine sd_xsld G v2 dL_law_456 rfl (n' := 457) ?_
  refine sd_xaload_n G 0 dL_law_457 rfl rfl rfl (n' := 458) ?_
  refine sd_xiload_n G 3 dL_law_458 rfl rfl rfl (n' := 459) ?_
  refine sd_xiconst G (v := 3) dL_law_459 rfl rfl (n' := 460) ?_
  refine sd_xiadd G dL_law_460 rfl (n' := 461) ?_
  refine sd_xsld G v3 dL_law_461 rfl (n' := 462) ?_
  refine sd_xcallCI [.int (xs (x3 + (1 : Int32)).toNatClampNeg), .int (xs (x3 + (2 : Int32)).toNatClampNeg), .int (xs (x3 + (3 : Int32)).toNatClampNeg)] [] G (ct_X10_put M (xs (x3 + (1 : Int32)).toNatClampNeg) (xs (x3 + (2 : Int32)).toNatClampNeg) (xs (x3 + (3 : Int32)).toNatClampNeg) e1) sd_lL_41 ⟨rfl, rfl, Nat.le_of_ble_eq_true rfl, Nat.le_of_ble_eq_true rfl⟩ (sd_e11 rfl) rfl rfl (Nat.le_of_ble_eq_true rfl) dL_law_462 rfl (n' := 465) ?_
  refine sd_xaload_n G 2 dL_law_465 rfl rfl rfl (n' := 466) ?_
  refine sd_xaload_n G 0 dL_law_466 rfl rfl rfl (n' := 467) ?_
  refine sd_xiload_n G 3 dL_law_467 rfl rfl rfl (n' := 468) ?_
  refine sd_xiconst G (v := 1) dL_law_468 rfl rfl (n' := 469) ?_
  refine sd_xiadd G dL_law_469 rfl (n' := 470) ?_
  refine sd_xsld G v1 dL_law_470 rfl (n' := 471) ?_
  refine sd_xaload_n G 0 dL_law_471 rfl rfl rfl (n' := 472) ?_
  refine sd_xiload_n G 3 dL_law_472 rfl rfl rfl (n' := 473) ?_
  refine sd_xiconst G (v := 2) dL_law_473 rfl rfl (n' := 474) ?_
  refine sd_xiadd G dL_law_474 rfl (n' := 475) ?_
  refine sd_xsld G v2 dL_law_475 rfl (n' := 476) ?_
  refine sd_xaload_n G 0 dL_law_476 rfl rfl rfl (n' := 477) ?_
  refine sd_xiload_n G 3 dL_law_477 rfl rfl rfl (n' := 478) ?_
  refine sd_xiconst G (v := 3) dL_law_478 rfl rfl (n' := 479) ?_
  refine sd_xiadd G dL_law_479 rfl (n' := 480) ?_
  refine sd_xsld G v3 dL_law_480 rfl (n' := 481) ?_
  refine sd_xcallMI [.int (xs (x3 + (1 : Int32)).toNatClampNeg), .int (xs (x3 + (2 : Int32)).toNatClampNeg), .int (xs (x3 + (3 : Int32)).toNatClampNeg)] [.int q.1] G (ct_X11_put N (xs (x3 + (1 : Int32)).toNatClampNeg) (xs (x3 + (2 : Int32)).toNatClampNeg) (xs (x3 + (3 : Int32)).toNatClampNeg) e2) sd_lL_44 ⟨rfl, rfl, Nat.le_of_ble_eq_true rfl, Nat.le_of_ble_eq_true rfl⟩ (sd_e12 rfl) rfl rfl (Nat.le_of_ble_eq_true rfl) dL_law_481 rfl (n' := 484) ?_
  refine sd_xeq G (tgt := 1798) dL_law_484 rfl e3 ?_
  exact hk _ _ e4
set_option maxRecDepth 100000 in
theorem sd_law7 {Rel : sd_Mem → sd_Mem → Prop} {K : sd_K} {E : sd_Env} {b : Nat} {xs : Nat → Int32} {Lx : Nat} {Q : State → Prop} {M N : sd_Mem} {x3 : Int32} (G : sd_GL K E b xs Lx) (hs : sd_St7 Rel) (hR : Rel M N) (v1 : vp_in (x3 + (1 : Int32)) Lx) (hk : ∀ M N : sd_Mem, Rel M N → sd_X K E b xs Lx Q M N 1798 [(0, .ref b), (1, .ref (E.2.2 0)), (2, .ref (E.2.2 100)), (3, .int x3)] []) : sd_X K E b xs Lx Q M N 489 [(0, .ref b), (1, .ref (E.2.2 0)), (2, .ref (E.2.2 100)), (3, .int x3)] [] := by
  obtain ⟨q, q2, e1, e2, e3, e4⟩ := hs M N hR (xs (x3 + (1 : Int32)).toNatClampNeg)
  refine sd_xaload_n G 1 dL_law_489 rfl rfl rfl (n' := 490) ?_
  refine sd_xaload_n G 0 dL_law_490 rfl rfl rfl (n' := 491) ?_
  refine sd_xiload_n G 3 dL_law_491 rfl rfl rfl (n' := 492) ?_
  refine sd_xiconst G (v := 1) dL_law_492 rfl rfl (n' := 493) ?_
  refine sd_xiadd G dL_law_493 rfl (n' := 494) ?_
  refine sd_xsld G v1 dL_law_494 rfl (n' := 495) ?_
  refine sd_xcallCI [.int (xs (x3 + (1 : Int32)).toNatClampNeg)] [] G (ct_X10_fault M (xs (x3 + (1 : Int32)).toNatClampNeg) e1) sd_lL_45 ⟨rfl, rfl, Nat.le_of_ble_eq_true rfl, Nat.le_of_ble_eq_true rfl⟩ (sd_e11 rfl) rfl rfl (Nat.le_of_ble_eq_true rfl) dL_law_495 rfl (n' := 498) ?_
  refine sd_xaload_n G 2 dL_law_498 rfl rfl rfl (n' := 499) ?_
  refine sd_xaload_n G 0 dL_law_499 rfl rfl rfl (n' := 500) ?_
  refine sd_xiload_n G 3 dL_law_500 rfl rfl rfl (n' := 501) ?_
  refine sd_xiconst G (v := 1) dL_law_501 rfl rfl (n' := 502) ?_
  refine sd_xiadd G dL_law_502 rfl (n' := 503) ?_
  refine sd_xsld G v1 dL_law_503 rfl (n' := 504) ?_
  refine sd_xcallMI [.int (xs (x3 + (1 : Int32)).toNatClampNeg)] [.int q.1] G (ct_X11_fault N (xs (x3 + (1 : Int32)).toNatClampNeg) e2) sd_lL_48 ⟨rfl, rfl, Nat.le_of_ble_eq_true rfl, Nat.le_of_ble_eq_true rfl⟩ (sd_e12 rfl) rfl rfl (Nat.le_of_ble_eq_true rfl) dL_law_504 rfl (n' := 507) ?_
  refine sd_xeq G (tgt := 1798) dL_law_507 rfl e3 ?_
  exact hk _ _ e4
set_option maxRecDepth 100000 in
theorem sd_law8 {Rel : sd_Mem → sd_Mem → Prop} {K : sd_K} {E : sd_Env} {b : Nat} {xs : Nat → Int32} {Lx : Nat} {Q : State → Prop} {M N : sd_Mem} {x3 : Int32} (G : sd_GL K E b xs Lx) (hs : sd_St8 Rel) (hR : Rel M N) (v1 : vp_in (x3 + (1 : Int32)) Lx) (hk : ∀ M N : sd_Mem, Rel M N → sd_X K E b xs Lx Q M N 1798 [(0, .ref b), (1, .ref (E.2.2 0)), (2, .ref (E.2.2 100)), (3, .int x3)] []) : sd_X K E b xs Lx Q M N 512 [(0, .ref b), (1, .ref (E.2.2 0)), (2, .ref (E.2.2 100)), (3, .int x3)] [] := by
  obtain ⟨q, q2, e1, e2, e3, e4⟩ := hs M N hR (xs (x3 + (1 : Int32)).toNatClampNeg)
  refine sd_xaload_n G 1 dL_law_512 rfl rfl rfl (n' := 513) ?_
  refine sd_xaload_n G 0 dL_law_513 rfl rfl rfl (n' := 514) ?_
  refine sd_xiload_n G 3 dL_law_514 rfl rfl rfl (n' := 515) ?_
  refine sd_xiconst G (v := 1) dL_law_515 rfl rfl (n' := 516) ?_
  refine sd_xiadd G dL_law_516 rfl (n' := 517) ?_
  refine sd_xsld G v1 dL_law_517 rfl (n' := 518) ?_
  refine sd_xcallCI [.int (xs (x3 + (1 : Int32)).toNatClampNeg)] [] G (ct_X10_quarrel M (xs (x3 + (1 : Int32)).toNatClampNeg) e1) sd_lL_49 ⟨rfl, rfl, Nat.le_of_ble_eq_true rfl, Nat.le_of_ble_eq_true rfl⟩ (sd_e11 rfl) rfl rfl (Nat.le_of_ble_eq_true rfl) dL_law_518 rfl (n' := 521) ?_
  refine sd_xaload_n G 2 dL_law_521 rfl rfl rfl (n' := 522) ?_
  refine sd_xaload_n G 0 dL_law_522 rfl rfl rfl (n' := 523) ?_
  refine sd_xiload_n G 3 dL_law_523 rfl rfl rfl (n' := 524) ?_
  refine sd_xiconst G (v := 1) dL_law_524 rfl rfl (n' := 525) ?_
  refine sd_xiadd G dL_law_525 rfl (n' := 526) ?_
  refine sd_xsld G v1 dL_law_526 rfl (n' := 527) ?_
  refine sd_xcallMI [.int (xs (x3 + (1 : Int32)).toNatClampNeg)] [.int q.1] G (ct_X11_quarrel N (xs (x3 + (1 : Int32)).toNatClampNeg) e2) sd_lL_52 ⟨rfl, rfl, Nat.le_of_ble_eq_true rfl, Nat.le_of_ble_eq_true rfl⟩ (sd_e12 rfl) rfl rfl (Nat.le_of_ble_eq_true rfl) dL_law_527 rfl (n' := 530) ?_
  refine sd_xeq G (tgt := 1798) dL_law_530 rfl e3 ?_
  exact hk _ _ e4
set_option maxRecDepth 100000 in
theorem sd_law9 {Rel : sd_Mem → sd_Mem → Prop} {K : sd_K} {E : sd_Env} {b : Nat} {xs : Nat → Int32} {Lx : Nat} {Q : State → Prop} {M N : sd_Mem} {x3 : Int32} (G : sd_GL K E b xs Lx) (hs : sd_St9 Rel) (hR : Rel M N) (v1 : vp_in (x3 + (1 : Int32)) Lx) (hk : ∀ M N : sd_Mem, Rel M N → sd_X K E b xs Lx Q M N 1798 [(0, .ref b), (1, .ref (E.2.2 0)), (2, .ref (E.2.2 100)), (3, .int x3)] []) : sd_X K E b xs Lx Q M N 535 [(0, .ref b), (1, .ref (E.2.2 0)), (2, .ref (E.2.2 100)), (3, .int x3)] [] := by
  obtain ⟨q, q2, e1, e2, e3, e4⟩ := hs M N hR (xs (x3 + (1 : Int32)).toNatClampNeg)
  refine sd_xaload_n G 1 dL_law_535 rfl rfl rfl (n' := 536) ?_
  refine sd_xaload_n G 0 dL_law_536 rfl rfl rfl (n' := 537) ?_
  refine sd_xiload_n G 3 dL_law_537 rfl rfl rfl (n' := 538) ?_
  refine sd_xiconst G (v := 1) dL_law_538 rfl rfl (n' := 539) ?_
  refine sd_xiadd G dL_law_539 rfl (n' := 540) ?_
  refine sd_xsld G v1 dL_law_540 rfl (n' := 541) ?_
  refine sd_xcallCI [.int (xs (x3 + (1 : Int32)).toNatClampNeg)] [] G (ct_X10_told M (xs (x3 + (1 : Int32)).toNatClampNeg) e1) sd_lL_53 ⟨rfl, rfl, Nat.le_of_ble_eq_true rfl, Nat.le_of_ble_eq_true rfl⟩ (sd_e11 rfl) rfl rfl (Nat.le_of_ble_eq_true rfl) dL_law_541 rfl (n' := 544) ?_
  refine sd_xaload_n G 2 dL_law_544 rfl rfl rfl (n' := 545) ?_
  refine sd_xaload_n G 0 dL_law_545 rfl rfl rfl (n' := 546) ?_
  refine sd_xiload_n G 3 dL_law_546 rfl rfl rfl (n' := 547) ?_
  refine sd_xiconst G (v := 1) dL_law_547 rfl rfl (n' := 548) ?_
  refine sd_xiadd G dL_law_548 rfl (n' := 549) ?_
  refine sd_xsld G v1 dL_law_549 rfl (n' := 550) ?_
  refine sd_xcallMI [.int (xs (x3 + (1 : Int32)).toNatClampNeg)] [.int q.1] G (ct_X11_told N (xs (x3 + (1 : Int32)).toNatClampNeg) e2) sd_lL_56 ⟨rfl, rfl, Nat.le_of_ble_eq_true rfl, Nat.le_of_ble_eq_true rfl⟩ (sd_e12 rfl) rfl rfl (Nat.le_of_ble_eq_true rfl) dL_law_550 rfl (n' := 553) ?_
  refine sd_xeq G (tgt := 1798) dL_law_553 rfl e3 ?_
  exact hk _ _ e4
set_option maxRecDepth 100000 in
theorem sd_law10 {Rel : sd_Mem → sd_Mem → Prop} {K : sd_K} {E : sd_Env} {b : Nat} {xs : Nat → Int32} {Lx : Nat} {Q : State → Prop} {M N : sd_Mem} {x3 : Int32} (G : sd_GL K E b xs Lx) (hs : sd_St10 Rel) (hR : Rel M N) (v1 : vp_in (x3 + (1 : Int32)) Lx) (v2 : vp_in (x3 + (2 : Int32)) Lx) (v3 : vp_in (x3 + (3 : Int32)) Lx) (hk : ∀ M N : sd_Mem, Rel M N → sd_X K E b xs Lx Q M N 1798 [(0, .ref b), (1, .ref (E.2.2 0)), (2, .ref (E.2.2 100)), (3, .int x3)] []) : sd_X K E b xs Lx Q M N 558 [(0, .ref b), (1, .ref (E.2.2 0)), (2, .ref (E.2.2 100)), (3, .int x3)] [] := by
  obtain ⟨q, q2, e1, e2, e3, e4⟩ := hs M N hR (xs (x3 + (1 : Int32)).toNatClampNeg) (xs (x3 + (2 : Int32)).toNatClampNeg) (xs (x3 + (3 : Int32)).toNatClampNeg)
  refine sd_xaload_n G 1 dL_law_558 rfl rfl rfl (n' := 559) ?_
  refine sd_xaload_n G 0 dL_law_559 rfl rfl rfl (n' := 560) ?_
  refine sd_xiload_n G 3 dL_law_560 rfl rfl rfl (n' := 561) ?_
  refine sd_xiconst G (v := 1) dL_law_561 rfl rfl (n' := 562) ?_
  refine sd_xiadd G dL_law_562 rfl (n' := 563) ?_
  refine sd_xsld G v1 dL_law_563 rfl (n' := 564) ?_
  refine sd_xaload_n G 0 dL_law_564 rfl rfl rfl (n' := 565) ?_
  refine sd_xiload_n G 3 dL_law_565 rfl rfl rfl (n' := 566) ?_
  refine sd_xiconst G (v := 2) dL_law_566 rfl rfl (n' := 567) ?_
  refine sd_xiadd G dL_law_567 rfl (n' := 568) ?_
  refine sd_xsld G v2 dL_law_568 rfl (n' := 569) ?_
  refine sd_xaload_n G 0 dL_law_569 rfl rfl rfl (n' := 570) ?_
  refine sd_xiload_n G 3 dL_law_570 rfl rfl rfl (n' := 571) ?_
  refine sd_xiconst G (v := 3) dL_law_571 rfl rfl (n' := 572) ?_
  refine sd_xiadd G dL_law_572 rfl (n' := 573) ?_
  refine sd_xsld G v3 dL_law_573 rfl (n' := 574) ?_
  refine sd_xcallCI [.int (xs (x3 + (1 : Int32)).toNatClampNeg), .int (xs (x3 + (2 : Int32)).toNatClampNeg), .int (xs (x3 + (3 : Int32)).toNatClampNeg)] [] G (ct_X10_sort M (xs (x3 + (1 : Int32)).toNatClampNeg) (xs (x3 + (2 : Int32)).toNatClampNeg) (xs (x3 + (3 : Int32)).toNatClampNeg) e1) sd_lL_57 ⟨rfl, rfl, Nat.le_of_ble_eq_true rfl, Nat.le_of_ble_eq_true rfl⟩ (sd_e11 rfl) rfl rfl (Nat.le_of_ble_eq_true rfl) dL_law_574 rfl (n' := 577) ?_
  refine sd_xaload_n G 2 dL_law_577 rfl rfl rfl (n' := 578) ?_
  refine sd_xaload_n G 0 dL_law_578 rfl rfl rfl (n' := 579) ?_
  refine sd_xiload_n G 3 dL_law_579 rfl rfl rfl (n' := 580) ?_
  refine sd_xiconst G (v := 1) dL_law_580 rfl rfl (n' := 581) ?_
  refine sd_xiadd G dL_law_581 rfl (n' := 582) ?_
  refine sd_xsld G v1 dL_law_582 rfl (n' := 583) ?_
  refine sd_xaload_n G 0 dL_law_583 rfl rfl rfl (n' := 584) ?_
  refine sd_xiload_n G 3 dL_law_584 rfl rfl rfl (n' := 585) ?_
  refine sd_xiconst G (v := 2) dL_law_585 rfl rfl (n' := 586) ?_
  refine sd_xiadd G dL_law_586 rfl (n' := 587) ?_
  refine sd_xsld G v2 dL_law_587 rfl (n' := 588) ?_
  refine sd_xaload_n G 0 dL_law_588 rfl rfl rfl (n' := 589) ?_
  refine sd_xiload_n G 3 dL_law_589 rfl rfl rfl (n' := 590) ?_
  refine sd_xiconst G (v := 3) dL_law_590 rfl rfl (n' := 591) ?_
  refine sd_xiadd G dL_law_591 rfl (n' := 592) ?_
  refine sd_xsld G v3 dL_law_592 rfl (n' := 593) ?_
  refine sd_xcallMI [.int (xs (x3 + (1 : Int32)).toNatClampNeg), .int (xs (x3 + (2 : Int32)).toNatClampNeg), .int (xs (x3 + (3 : Int32)).toNatClampNeg)] [.int q.1] G (ct_X11_sort N (xs (x3 + (1 : Int32)).toNatClampNeg) (xs (x3 + (2 : Int32)).toNatClampNeg) (xs (x3 + (3 : Int32)).toNatClampNeg) e2) sd_lL_60 ⟨rfl, rfl, Nat.le_of_ble_eq_true rfl, Nat.le_of_ble_eq_true rfl⟩ (sd_e12 rfl) rfl rfl (Nat.le_of_ble_eq_true rfl) dL_law_593 rfl (n' := 596) ?_
  refine sd_xeq G (tgt := 1798) dL_law_596 rfl e3 ?_
  exact hk _ _ e4
set_option maxRecDepth 100000 in
theorem sd_law11 {Rel : sd_Mem → sd_Mem → Prop} {K : sd_K} {E : sd_Env} {b : Nat} {xs : Nat → Int32} {Lx : Nat} {Q : State → Prop} {M N : sd_Mem} {x3 : Int32} (G : sd_GL K E b xs Lx) (hs : sd_St11 Rel) (hR : Rel M N) (v1 : vp_in (x3 + (1 : Int32)) Lx) (hk : ∀ M N : sd_Mem, Rel M N → sd_X K E b xs Lx Q M N 1798 [(0, .ref b), (1, .ref (E.2.2 0)), (2, .ref (E.2.2 100)), (3, .int x3)] []) : sd_X K E b xs Lx Q M N 601 [(0, .ref b), (1, .ref (E.2.2 0)), (2, .ref (E.2.2 100)), (3, .int x3)] [] := by
  obtain ⟨q, q2, e1, e2, e3, e4⟩ := hs M N hR (xs (x3 + (1 : Int32)).toNatClampNeg)
  refine sd_xaload_n G 1 dL_law_601 rfl rfl rfl (n' := 602) ?_
  refine sd_xaload_n G 0 dL_law_602 rfl rfl rfl (n' := 603) ?_
  refine sd_xiload_n G 3 dL_law_603 rfl rfl rfl (n' := 604) ?_
  refine sd_xiconst G (v := 1) dL_law_604 rfl rfl (n' := 605) ?_
  refine sd_xiadd G dL_law_605 rfl (n' := 606) ?_
  refine sd_xsld G v1 dL_law_606 rfl (n' := 607) ?_
  refine sd_xcallCI [.int (xs (x3 + (1 : Int32)).toNatClampNeg)] [] G (ct_X10_notice M (xs (x3 + (1 : Int32)).toNatClampNeg) e1) sd_lL_61 ⟨rfl, rfl, Nat.le_of_ble_eq_true rfl, Nat.le_of_ble_eq_true rfl⟩ (sd_e11 rfl) rfl rfl (Nat.le_of_ble_eq_true rfl) dL_law_607 rfl (n' := 610) ?_
  refine sd_xaload_n G 2 dL_law_610 rfl rfl rfl (n' := 611) ?_
  refine sd_xaload_n G 0 dL_law_611 rfl rfl rfl (n' := 612) ?_
  refine sd_xiload_n G 3 dL_law_612 rfl rfl rfl (n' := 613) ?_
  refine sd_xiconst G (v := 1) dL_law_613 rfl rfl (n' := 614) ?_
  refine sd_xiadd G dL_law_614 rfl (n' := 615) ?_
  refine sd_xsld G v1 dL_law_615 rfl (n' := 616) ?_
  refine sd_xcallMI [.int (xs (x3 + (1 : Int32)).toNatClampNeg)] [.int q.1] G (ct_X11_notice N (xs (x3 + (1 : Int32)).toNatClampNeg) e2) sd_lL_64 ⟨rfl, rfl, Nat.le_of_ble_eq_true rfl, Nat.le_of_ble_eq_true rfl⟩ (sd_e12 rfl) rfl rfl (Nat.le_of_ble_eq_true rfl) dL_law_616 rfl (n' := 619) ?_
  refine sd_xeq G (tgt := 1798) dL_law_619 rfl e3 ?_
  exact hk _ _ e4
set_option maxRecDepth 100000 in
theorem sd_law12 {Rel : sd_Mem → sd_Mem → Prop} {K : sd_K} {E : sd_Env} {b : Nat} {xs : Nat → Int32} {Lx : Nat} {Q : State → Prop} {M N : sd_Mem} {x3 : Int32} (G : sd_GL K E b xs Lx) (hs : sd_St12 Rel) (hR : Rel M N) (v1 : vp_in (x3 + (1 : Int32)) Lx) (v2 : vp_in (x3 + (2 : Int32)) Lx) (hk : ∀ M N : sd_Mem, Rel M N → sd_X K E b xs Lx Q M N 1798 [(0, .ref b), (1, .ref (E.2.2 0)), (2, .ref (E.2.2 100)), (3, .int x3)] []) : sd_X K E b xs Lx Q M N 624 [(0, .ref b), (1, .ref (E.2.2 0)), (2, .ref (E.2.2 100)), (3, .int x3)] [] := by
  obtain ⟨q, q2, e1, e2, e3, e4⟩ := hs M N hR (xs (x3 + (1 : Int32)).toNatClampNeg) (xs (x3 + (2 : Int32)).toNatClampNeg)
  refine sd_xaload_n G 1 dL_law_624 rfl rfl rfl (n' := 625) ?_
  refine sd_xaload_n G 0 dL_law_625 rfl rfl rfl (n' := 626) ?_
  refine sd_xiload_n G 3 dL_law_626 rfl rfl rfl (n' := 627) ?_
  refine sd_xiconst G (v := 1) dL_law_627 rfl rfl (n' := 628) ?_
  refine sd_xiadd G dL_law_628 rfl (n' := 629) ?_
  refine sd_xsld G v1 dL_law_629 rfl (n' := 630) ?_
  refine sd_xaload_n G 0 dL_law_630 rfl rfl rfl (n' := 631) ?_
  refine sd_xiload_n G 3 dL_law_631 rfl rfl rfl (n' := 632) ?_
  refine sd_xiconst G (v := 2) dL_law_632 rfl rfl (n' := 633) ?_
  refine sd_xiadd G dL_law_633 rfl (n' := 634) ?_
  refine sd_xsld G v2 dL_law_634 rfl (n' := 635) ?_
  refine sd_xcallCI [.int (xs (x3 + (1 : Int32)).toNatClampNeg), .int (xs (x3 + (2 : Int32)).toNatClampNeg)] [] G (ct_X10_judge M (xs (x3 + (1 : Int32)).toNatClampNeg) (xs (x3 + (2 : Int32)).toNatClampNeg) e1) sd_lL_65 ⟨rfl, rfl, Nat.le_of_ble_eq_true rfl, Nat.le_of_ble_eq_true rfl⟩ (sd_e11 rfl) rfl rfl (Nat.le_of_ble_eq_true rfl) dL_law_635 rfl (n' := 638) ?_
  refine sd_xaload_n G 2 dL_law_638 rfl rfl rfl (n' := 639) ?_
  refine sd_xaload_n G 0 dL_law_639 rfl rfl rfl (n' := 640) ?_
  refine sd_xiload_n G 3 dL_law_640 rfl rfl rfl (n' := 641) ?_
  refine sd_xiconst G (v := 1) dL_law_641 rfl rfl (n' := 642) ?_
  refine sd_xiadd G dL_law_642 rfl (n' := 643) ?_
  refine sd_xsld G v1 dL_law_643 rfl (n' := 644) ?_
  refine sd_xaload_n G 0 dL_law_644 rfl rfl rfl (n' := 645) ?_
  refine sd_xiload_n G 3 dL_law_645 rfl rfl rfl (n' := 646) ?_
  refine sd_xiconst G (v := 2) dL_law_646 rfl rfl (n' := 647) ?_
  refine sd_xiadd G dL_law_647 rfl (n' := 648) ?_
  refine sd_xsld G v2 dL_law_648 rfl (n' := 649) ?_
  refine sd_xcallMI [.int (xs (x3 + (1 : Int32)).toNatClampNeg), .int (xs (x3 + (2 : Int32)).toNatClampNeg)] [.int q.1] G (ct_X11_judge N (xs (x3 + (1 : Int32)).toNatClampNeg) (xs (x3 + (2 : Int32)).toNatClampNeg) e2) sd_lL_68 ⟨rfl, rfl, Nat.le_of_ble_eq_true rfl, Nat.le_of_ble_eq_true rfl⟩ (sd_e12 rfl) rfl rfl (Nat.le_of_ble_eq_true rfl) dL_law_649 rfl (n' := 652) ?_
  refine sd_xeq G (tgt := 1798) dL_law_652 rfl e3 ?_
  exact hk _ _ e4
set_option maxRecDepth 100000 in
theorem sd_law13 {Rel : sd_Mem → sd_Mem → Prop} {K : sd_K} {E : sd_Env} {b : Nat} {xs : Nat → Int32} {Lx : Nat} {Q : State → Prop} {M N : sd_Mem} {x3 : Int32} (G : sd_GL K E b xs Lx) (hs : sd_St13 Rel) (hR : Rel M N) (v1 : vp_in (x3 + (1 : Int32)) Lx) (v2 : vp_in (x3 + (2 : Int32)) Lx) (hk : ∀ M N : sd_Mem, Rel M N → sd_X K E b xs Lx Q M N 1798 [(0, .ref b), (1, .ref (E.2.2 0)), (2, .ref (E.2.2 100)), (3, .int x3)] []) : sd_X K E b xs Lx Q M N 657 [(0, .ref b), (1, .ref (E.2.2 0)), (2, .ref (E.2.2 100)), (3, .int x3)] [] := by
  obtain ⟨q, q2, e1, e2, e3, e4⟩ := hs M N hR (xs (x3 + (1 : Int32)).toNatClampNeg) (xs (x3 + (2 : Int32)).toNatClampNeg)
  refine sd_xaload_n G 1 dL_law_657 rfl rfl rfl (n' := 658) ?_
  refine sd_xaload_n G 0 dL_law_658 rfl rfl rfl (n' := 659) ?_
  refine sd_xiload_n G 3 dL_law_659 rfl rfl rfl (n' := 660) ?_
  refine sd_xiconst G (v := 1) dL_law_660 rfl rfl (n' := 661) ?_
  refine sd_xiadd G dL_law_661 rfl (n' := 662) ?_
  refine sd_xsld G v1 dL_law_662 rfl (n' := 663) ?_
  refine sd_xaload_n G 0 dL_law_663 rfl rfl rfl (n' := 664) ?_
  refine sd_xiload_n G 3 dL_law_664 rfl rfl rfl (n' := 665) ?_
  refine sd_xiconst G (v := 2) dL_law_665 rfl rfl (n' := 666) ?_
  refine sd_xiadd G dL_law_666 rfl (n' := 667) ?_
  refine sd_xsld G v2 dL_law_667 rfl (n' := 668) ?_
  refine sd_xcallCI [.int (xs (x3 + (1 : Int32)).toNatClampNeg), .int (xs (x3 + (2 : Int32)).toNatClampNeg)] [] G (ct_X10_way M (xs (x3 + (1 : Int32)).toNatClampNeg) (xs (x3 + (2 : Int32)).toNatClampNeg) e1) sd_lL_69 ⟨rfl, rfl, Nat.le_of_ble_eq_true rfl, Nat.le_of_ble_eq_true rfl⟩ (sd_e11 rfl) rfl rfl (Nat.le_of_ble_eq_true rfl) dL_law_668 rfl (n' := 671) ?_
  refine sd_xaload_n G 2 dL_law_671 rfl rfl rfl (n' := 672) ?_
  refine sd_xaload_n G 0 dL_law_672 rfl rfl rfl (n' := 673) ?_
  refine sd_xiload_n G 3 dL_law_673 rfl rfl rfl (n' := 674) ?_
  refine sd_xiconst G (v := 1) dL_law_674 rfl rfl (n' := 675) ?_
  refine sd_xiadd G dL_law_675 rfl (n' := 676) ?_
  refine sd_xsld G v1 dL_law_676 rfl (n' := 677) ?_
  refine sd_xaload_n G 0 dL_law_677 rfl rfl rfl (n' := 678) ?_
  refine sd_xiload_n G 3 dL_law_678 rfl rfl rfl (n' := 679) ?_
  refine sd_xiconst G (v := 2) dL_law_679 rfl rfl (n' := 680) ?_
  refine sd_xiadd G dL_law_680 rfl (n' := 681) ?_
  refine sd_xsld G v2 dL_law_681 rfl (n' := 682) ?_
  refine sd_xcallMI [.int (xs (x3 + (1 : Int32)).toNatClampNeg), .int (xs (x3 + (2 : Int32)).toNatClampNeg)] [.int q.1] G (ct_X11_way N (xs (x3 + (1 : Int32)).toNatClampNeg) (xs (x3 + (2 : Int32)).toNatClampNeg) e2) sd_lL_72 ⟨rfl, rfl, Nat.le_of_ble_eq_true rfl, Nat.le_of_ble_eq_true rfl⟩ (sd_e12 rfl) rfl rfl (Nat.le_of_ble_eq_true rfl) dL_law_682 rfl (n' := 685) ?_
  refine sd_xeq G (tgt := 1798) dL_law_685 rfl e3 ?_
  exact hk _ _ e4
set_option maxRecDepth 100000 in
theorem sd_law14 {Rel : sd_Mem → sd_Mem → Prop} {K : sd_K} {E : sd_Env} {b : Nat} {xs : Nat → Int32} {Lx : Nat} {Q : State → Prop} {M N : sd_Mem} {x3 : Int32} (G : sd_GL K E b xs Lx) (hs : sd_St14 Rel) (hR : Rel M N) (v1 : vp_in (x3 + (1 : Int32)) Lx) (v2 : vp_in (x3 + (2 : Int32)) Lx) (v3 : vp_in (x3 + (3 : Int32)) Lx) (v4 : vp_in (x3 + (4 : Int32)) Lx) (hk : ∀ M N : sd_Mem, Rel M N → sd_X K E b xs Lx Q M N 1798 [(0, .ref b), (1, .ref (E.2.2 0)), (2, .ref (E.2.2 100)), (3, .int x3)] []) : sd_X K E b xs Lx Q M N 690 [(0, .ref b), (1, .ref (E.2.2 0)), (2, .ref (E.2.2 100)), (3, .int x3)] [] := by
  obtain ⟨q, q2, e1, e2, e3, e4⟩ := hs M N hR (xs (x3 + (1 : Int32)).toNatClampNeg) (xs (x3 + (2 : Int32)).toNatClampNeg) (xs (x3 + (3 : Int32)).toNatClampNeg) (xs (x3 + (4 : Int32)).toNatClampNeg)
  refine sd_xaload_n G 1 dL_law_690 rfl rfl rfl (n' := 691) ?_
  refine sd_xaload_n G 0 dL_law_691 rfl rfl rfl (n' := 692) ?_
  refine sd_xiload_n G 3 dL_law_692 rfl rfl rfl (n' := 693) ?_
  refine sd_xiconst G (v := 1) dL_law_693 rfl rfl (n' := 694) ?_
  refine sd_xiadd G dL_law_694 rfl (n' := 695) ?_
  refine sd_xsld G v1 dL_law_695 rfl (n' := 696) ?_
  refine sd_xaload_n G 0 dL_law_696 rfl rfl rfl (n' := 697) ?_
  refine sd_xiload_n G 3 dL_law_697 rfl rfl rfl (n' := 698) ?_
  refine sd_xiconst G (v := 2) dL_law_698 rfl rfl (n' := 699) ?_
  refine sd_xiadd G dL_law_699 rfl (n' := 700) ?_
  refine sd_xsld G v2 dL_law_700 rfl (n' := 701) ?_
  refine sd_xaload_n G 0 dL_law_701 rfl rfl rfl (n' := 702) ?_
  refine sd_xiload_n G 3 dL_law_702 rfl rfl rfl (n' := 703) ?_
  refine sd_xiconst G (v := 3) dL_law_703 rfl rfl (n' := 704) ?_
  refine sd_xiadd G dL_law_704 rfl (n' := 705) ?_
  refine sd_xsld G v3 dL_law_705 rfl (n' := 706) ?_
  refine sd_xaload_n G 0 dL_law_706 rfl rfl rfl (n' := 707) ?_
  refine sd_xiload_n G 3 dL_law_707 rfl rfl rfl (n' := 708) ?_
  refine sd_xiconst G (v := 4) dL_law_708 rfl rfl (n' := 709) ?_
  refine sd_xiadd G dL_law_709 rfl (n' := 710) ?_
  refine sd_xsld G v4 dL_law_710 rfl (n' := 711) ?_
  refine sd_xcallCI [.int (xs (x3 + (1 : Int32)).toNatClampNeg), .int (xs (x3 + (2 : Int32)).toNatClampNeg), .int (xs (x3 + (3 : Int32)).toNatClampNeg), .int (xs (x3 + (4 : Int32)).toNatClampNeg)] [] G (ct_X10_set M (xs (x3 + (1 : Int32)).toNatClampNeg) (xs (x3 + (2 : Int32)).toNatClampNeg) (xs (x3 + (3 : Int32)).toNatClampNeg) (xs (x3 + (4 : Int32)).toNatClampNeg) e1) sd_lL_73 ⟨rfl, rfl, Nat.le_of_ble_eq_true rfl, Nat.le_of_ble_eq_true rfl⟩ (sd_e11 rfl) rfl rfl (Nat.le_of_ble_eq_true rfl) dL_law_711 rfl (n' := 714) ?_
  refine sd_xaload_n G 2 dL_law_714 rfl rfl rfl (n' := 715) ?_
  refine sd_xaload_n G 0 dL_law_715 rfl rfl rfl (n' := 716) ?_
  refine sd_xiload_n G 3 dL_law_716 rfl rfl rfl (n' := 717) ?_
  refine sd_xiconst G (v := 1) dL_law_717 rfl rfl (n' := 718) ?_
  refine sd_xiadd G dL_law_718 rfl (n' := 719) ?_
  refine sd_xsld G v1 dL_law_719 rfl (n' := 720) ?_
  refine sd_xaload_n G 0 dL_law_720 rfl rfl rfl (n' := 721) ?_
  refine sd_xiload_n G 3 dL_law_721 rfl rfl rfl (n' := 722) ?_
  refine sd_xiconst G (v := 2) dL_law_722 rfl rfl (n' := 723) ?_
  refine sd_xiadd G dL_law_723 rfl (n' := 724) ?_
  refine sd_xsld G v2 dL_law_724 rfl (n' := 725) ?_
  refine sd_xaload_n G 0 dL_law_725 rfl rfl rfl (n' := 726) ?_
  refine sd_xiload_n G 3 dL_law_726 rfl rfl rfl (n' := 727) ?_
  refine sd_xiconst G (v := 3) dL_law_727 rfl rfl (n' := 728) ?_
  refine sd_xiadd G dL_law_728 rfl (n' := 729) ?_
  refine sd_xsld G v3 dL_law_729 rfl (n' := 730) ?_
  refine sd_xaload_n G 0 dL_law_730 rfl rfl rfl (n' := 731) ?_
  refine sd_xiload_n G 3 dL_law_731 rfl rfl rfl (n' := 732) ?_
  refine sd_xiconst G (v := 4) dL_law_732 rfl rfl (n' := 733) ?_
  refine sd_xiadd G dL_law_733 rfl (n' := 734) ?_
  refine sd_xsld G v4 dL_law_734 rfl (n' := 735) ?_
  refine sd_xcallMI [.int (xs (x3 + (1 : Int32)).toNatClampNeg), .int (xs (x3 + (2 : Int32)).toNatClampNeg), .int (xs (x3 + (3 : Int32)).toNatClampNeg), .int (xs (x3 + (4 : Int32)).toNatClampNeg)] [.int q.1] G (ct_X11_set N (xs (x3 + (1 : Int32)).toNatClampNeg) (xs (x3 + (2 : Int32)).toNatClampNeg) (xs (x3 + (3 : Int32)).toNatClampNeg) (xs (x3 + (4 : Int32)).toNatClampNeg) e2) sd_lL_77 ⟨rfl, rfl, Nat.le_of_ble_eq_true rfl, Nat.le_of_ble_eq_true rfl⟩ (sd_e12 rfl) rfl rfl (Nat.le_of_ble_eq_true rfl) dL_law_735 rfl (n' := 738) ?_
  refine sd_xeq G (tgt := 1798) dL_law_738 rfl e3 ?_
  exact hk _ _ e4
set_option maxRecDepth 100000 in
theorem sd_law15 {Rel : sd_Mem → sd_Mem → Prop} {K : sd_K} {E : sd_Env} {b : Nat} {xs : Nat → Int32} {Lx : Nat} {Q : State → Prop} {M N : sd_Mem} {x3 : Int32} (G : sd_GL K E b xs Lx) (hs : sd_St15 Rel) (hR : Rel M N) (v1 : vp_in (x3 + (1 : Int32)) Lx) (v2 : vp_in (x3 + (2 : Int32)) Lx) (v3 : vp_in (x3 + (3 : Int32)) Lx) (hk : ∀ M N : sd_Mem, Rel M N → sd_X K E b xs Lx Q M N 1798 [(0, .ref b), (1, .ref (E.2.2 0)), (2, .ref (E.2.2 100)), (3, .int x3)] []) : sd_X K E b xs Lx Q M N 743 [(0, .ref b), (1, .ref (E.2.2 0)), (2, .ref (E.2.2 100)), (3, .int x3)] [] := by
  obtain ⟨q, q2, e1, e2, e3, e4⟩ := hs M N hR (xs (x3 + (1 : Int32)).toNatClampNeg) (xs (x3 + (2 : Int32)).toNatClampNeg) (xs (x3 + (3 : Int32)).toNatClampNeg)
  refine sd_xaload_n G 1 dL_law_743 rfl rfl rfl (n' := 744) ?_
  refine sd_xaload_n G 0 dL_law_744 rfl rfl rfl (n' := 745) ?_
  refine sd_xiload_n G 3 dL_law_745 rfl rfl rfl (n' := 746) ?_
  refine sd_xiconst G (v := 1) dL_law_746 rfl rfl (n' := 747) ?_
  refine sd_xiadd G dL_law_747 rfl (n' := 748) ?_
  refine sd_xsld G v1 dL_law_748 rfl (n' := 749) ?_
  refine sd_xaload_n G 0 dL_law_749 rfl rfl rfl (n' := 750) ?_
  refine sd_xiload_n G 3 dL_law_750 rfl rfl rfl (n' := 751) ?_
  refine sd_xiconst G (v := 2) dL_law_751 rfl rfl (n' := 752) ?_
  refine sd_xiadd G dL_law_752 rfl (n' := 753) ?_
  refine sd_xsld G v2 dL_law_753 rfl (n' := 754) ?_
  refine sd_xaload_n G 0 dL_law_754 rfl rfl rfl (n' := 755) ?_
  refine sd_xiload_n G 3 dL_law_755 rfl rfl rfl (n' := 756) ?_
  refine sd_xiconst G (v := 3) dL_law_756 rfl rfl (n' := 757) ?_
  refine sd_xiadd G dL_law_757 rfl (n' := 758) ?_
  refine sd_xsld G v3 dL_law_758 rfl (n' := 759) ?_
  refine sd_xcallCI [.int (xs (x3 + (1 : Int32)).toNatClampNeg), .int (xs (x3 + (2 : Int32)).toNatClampNeg), .int (xs (x3 + (3 : Int32)).toNatClampNeg)] [] G (ct_X10_setAll M (xs (x3 + (1 : Int32)).toNatClampNeg) (xs (x3 + (2 : Int32)).toNatClampNeg) (xs (x3 + (3 : Int32)).toNatClampNeg) e1) sd_lL_78 ⟨rfl, rfl, Nat.le_of_ble_eq_true rfl, Nat.le_of_ble_eq_true rfl⟩ (sd_e11 rfl) rfl rfl (Nat.le_of_ble_eq_true rfl) dL_law_759 rfl (n' := 762) ?_
  refine sd_xaload_n G 2 dL_law_762 rfl rfl rfl (n' := 763) ?_
  refine sd_xaload_n G 0 dL_law_763 rfl rfl rfl (n' := 764) ?_
  refine sd_xiload_n G 3 dL_law_764 rfl rfl rfl (n' := 765) ?_
  refine sd_xiconst G (v := 1) dL_law_765 rfl rfl (n' := 766) ?_
  refine sd_xiadd G dL_law_766 rfl (n' := 767) ?_
  refine sd_xsld G v1 dL_law_767 rfl (n' := 768) ?_
  refine sd_xaload_n G 0 dL_law_768 rfl rfl rfl (n' := 769) ?_
  refine sd_xiload_n G 3 dL_law_769 rfl rfl rfl (n' := 770) ?_
  refine sd_xiconst G (v := 2) dL_law_770 rfl rfl (n' := 771) ?_
  refine sd_xiadd G dL_law_771 rfl (n' := 772) ?_
  refine sd_xsld G v2 dL_law_772 rfl (n' := 773) ?_
  refine sd_xaload_n G 0 dL_law_773 rfl rfl rfl (n' := 774) ?_
  refine sd_xiload_n G 3 dL_law_774 rfl rfl rfl (n' := 775) ?_
  refine sd_xiconst G (v := 3) dL_law_775 rfl rfl (n' := 776) ?_
  refine sd_xiadd G dL_law_776 rfl (n' := 777) ?_
  refine sd_xsld G v3 dL_law_777 rfl (n' := 778) ?_
  refine sd_xcallMI [.int (xs (x3 + (1 : Int32)).toNatClampNeg), .int (xs (x3 + (2 : Int32)).toNatClampNeg), .int (xs (x3 + (3 : Int32)).toNatClampNeg)] [.int q.1] G (ct_X11_setAll N (xs (x3 + (1 : Int32)).toNatClampNeg) (xs (x3 + (2 : Int32)).toNatClampNeg) (xs (x3 + (3 : Int32)).toNatClampNeg) e2) sd_lL_81 ⟨rfl, rfl, Nat.le_of_ble_eq_true rfl, Nat.le_of_ble_eq_true rfl⟩ (sd_e12 rfl) rfl rfl (Nat.le_of_ble_eq_true rfl) dL_law_778 rfl (n' := 781) ?_
  refine sd_xeq G (tgt := 1798) dL_law_781 rfl e3 ?_
  exact hk _ _ e4
set_option maxRecDepth 100000 in
theorem sd_law16 {Rel : sd_Mem → sd_Mem → Prop} {K : sd_K} {E : sd_Env} {b : Nat} {xs : Nat → Int32} {Lx : Nat} {Q : State → Prop} {M N : sd_Mem} {x3 : Int32} (G : sd_GL K E b xs Lx) (hs : sd_St16 Rel) (hR : Rel M N) (v1 : vp_in (x3 + (1 : Int32)) Lx) (v2 : vp_in (x3 + (2 : Int32)) Lx) (v3 : vp_in (x3 + (3 : Int32)) Lx) (hk : ∀ M N : sd_Mem, Rel M N → sd_X K E b xs Lx Q M N 1798 [(0, .ref b), (1, .ref (E.2.2 0)), (2, .ref (E.2.2 100)), (3, .int x3)] []) : sd_X K E b xs Lx Q M N 786 [(0, .ref b), (1, .ref (E.2.2 0)), (2, .ref (E.2.2 100)), (3, .int x3)] [] := by
  obtain ⟨q, q2, e1, e2, e3, e4⟩ := hs M N hR (xs (x3 + (1 : Int32)).toNatClampNeg) (xs (x3 + (2 : Int32)).toNatClampNeg) (xs (x3 + (3 : Int32)).toNatClampNeg)
  refine sd_xaload_n G 1 dL_law_786 rfl rfl rfl (n' := 787) ?_
  refine sd_xaload_n G 0 dL_law_787 rfl rfl rfl (n' := 788) ?_
  refine sd_xiload_n G 3 dL_law_788 rfl rfl rfl (n' := 789) ?_
  refine sd_xiconst G (v := 1) dL_law_789 rfl rfl (n' := 790) ?_
  refine sd_xiadd G dL_law_790 rfl (n' := 791) ?_
  refine sd_xsld G v1 dL_law_791 rfl (n' := 792) ?_
  refine sd_xaload_n G 0 dL_law_792 rfl rfl rfl (n' := 793) ?_
  refine sd_xiload_n G 3 dL_law_793 rfl rfl rfl (n' := 794) ?_
  refine sd_xiconst G (v := 2) dL_law_794 rfl rfl (n' := 795) ?_
  refine sd_xiadd G dL_law_795 rfl (n' := 796) ?_
  refine sd_xsld G v2 dL_law_796 rfl (n' := 797) ?_
  refine sd_xaload_n G 0 dL_law_797 rfl rfl rfl (n' := 798) ?_
  refine sd_xiload_n G 3 dL_law_798 rfl rfl rfl (n' := 799) ?_
  refine sd_xiconst G (v := 3) dL_law_799 rfl rfl (n' := 800) ?_
  refine sd_xiadd G dL_law_800 rfl (n' := 801) ?_
  refine sd_xsld G v3 dL_law_801 rfl (n' := 802) ?_
  refine sd_xcallCI [.int (xs (x3 + (1 : Int32)).toNatClampNeg), .int (xs (x3 + (2 : Int32)).toNatClampNeg), .int (xs (x3 + (3 : Int32)).toNatClampNeg)] [] G (ct_X10_at M (xs (x3 + (1 : Int32)).toNatClampNeg) (xs (x3 + (2 : Int32)).toNatClampNeg) (xs (x3 + (3 : Int32)).toNatClampNeg) e1) sd_lL_82 ⟨rfl, rfl, Nat.le_of_ble_eq_true rfl, Nat.le_of_ble_eq_true rfl⟩ (sd_e11 rfl) rfl rfl (Nat.le_of_ble_eq_true rfl) dL_law_802 rfl (n' := 805) ?_
  refine sd_xaload_n G 2 dL_law_805 rfl rfl rfl (n' := 806) ?_
  refine sd_xaload_n G 0 dL_law_806 rfl rfl rfl (n' := 807) ?_
  refine sd_xiload_n G 3 dL_law_807 rfl rfl rfl (n' := 808) ?_
  refine sd_xiconst G (v := 1) dL_law_808 rfl rfl (n' := 809) ?_
  refine sd_xiadd G dL_law_809 rfl (n' := 810) ?_
  refine sd_xsld G v1 dL_law_810 rfl (n' := 811) ?_
  refine sd_xaload_n G 0 dL_law_811 rfl rfl rfl (n' := 812) ?_
  refine sd_xiload_n G 3 dL_law_812 rfl rfl rfl (n' := 813) ?_
  refine sd_xiconst G (v := 2) dL_law_813 rfl rfl (n' := 814) ?_
  refine sd_xiadd G dL_law_814 rfl (n' := 815) ?_
  refine sd_xsld G v2 dL_law_815 rfl (n' := 816) ?_
  refine sd_xaload_n G 0 dL_law_816 rfl rfl rfl (n' := 817) ?_
  refine sd_xiload_n G 3 dL_law_817 rfl rfl rfl (n' := 818) ?_
  refine sd_xiconst G (v := 3) dL_law_818 rfl rfl (n' := 819) ?_
  refine sd_xiadd G dL_law_819 rfl (n' := 820) ?_
  refine sd_xsld G v3 dL_law_820 rfl (n' := 821) ?_
  refine sd_xcallMI [.int (xs (x3 + (1 : Int32)).toNatClampNeg), .int (xs (x3 + (2 : Int32)).toNatClampNeg), .int (xs (x3 + (3 : Int32)).toNatClampNeg)] [.int q.1] G (ct_X11_at N (xs (x3 + (1 : Int32)).toNatClampNeg) (xs (x3 + (2 : Int32)).toNatClampNeg) (xs (x3 + (3 : Int32)).toNatClampNeg) e2) sd_lL_85 ⟨rfl, rfl, Nat.le_of_ble_eq_true rfl, Nat.le_of_ble_eq_true rfl⟩ (sd_e12 rfl) rfl rfl (Nat.le_of_ble_eq_true rfl) dL_law_821 rfl (n' := 824) ?_
  refine sd_xeq G (tgt := 1798) dL_law_824 rfl e3 ?_
  exact hk _ _ e4
set_option maxRecDepth 100000 in
theorem sd_law17 {Rel : sd_Mem → sd_Mem → Prop} {K : sd_K} {E : sd_Env} {b : Nat} {xs : Nat → Int32} {Lx : Nat} {Q : State → Prop} {M N : sd_Mem} {x3 : Int32} (G : sd_GL K E b xs Lx) (hs : sd_St17 Rel) (hR : Rel M N) (v1 : vp_in (x3 + (1 : Int32)) Lx) (hk : ∀ M N : sd_Mem, Rel M N → sd_X K E b xs Lx Q M N 1798 [(0, .ref b), (1, .ref (E.2.2 0)), (2, .ref (E.2.2 100)), (3, .int x3)] []) : sd_X K E b xs Lx Q M N 829 [(0, .ref b), (1, .ref (E.2.2 0)), (2, .ref (E.2.2 100)), (3, .int x3)] [] := by
  obtain ⟨q, q2, e1, e2, e3, e4⟩ := hs M N hR (xs (x3 + (1 : Int32)).toNatClampNeg)
  refine sd_xaload_n G 1 dL_law_829 rfl rfl rfl (n' := 830) ?_
  refine sd_xaload_n G 0 dL_law_830 rfl rfl rfl (n' := 831) ?_
  refine sd_xiload_n G 3 dL_law_831 rfl rfl rfl (n' := 832) ?_
  refine sd_xiconst G (v := 1) dL_law_832 rfl rfl (n' := 833) ?_
  refine sd_xiadd G dL_law_833 rfl (n' := 834) ?_
  refine sd_xsld G v1 dL_law_834 rfl (n' := 835) ?_
  refine sd_xcallCI [.int (xs (x3 + (1 : Int32)).toNatClampNeg)] [] G (ct_X10_kind M (xs (x3 + (1 : Int32)).toNatClampNeg) e1) sd_lL_86 ⟨rfl, rfl, Nat.le_of_ble_eq_true rfl, Nat.le_of_ble_eq_true rfl⟩ (sd_e11 rfl) rfl rfl (Nat.le_of_ble_eq_true rfl) dL_law_835 rfl (n' := 838) ?_
  refine sd_xaload_n G 2 dL_law_838 rfl rfl rfl (n' := 839) ?_
  refine sd_xaload_n G 0 dL_law_839 rfl rfl rfl (n' := 840) ?_
  refine sd_xiload_n G 3 dL_law_840 rfl rfl rfl (n' := 841) ?_
  refine sd_xiconst G (v := 1) dL_law_841 rfl rfl (n' := 842) ?_
  refine sd_xiadd G dL_law_842 rfl (n' := 843) ?_
  refine sd_xsld G v1 dL_law_843 rfl (n' := 844) ?_
  refine sd_xcallMI [.int (xs (x3 + (1 : Int32)).toNatClampNeg)] [.int q.1] G (ct_X11_kind N (xs (x3 + (1 : Int32)).toNatClampNeg) e2) sd_lL_89 ⟨rfl, rfl, Nat.le_of_ble_eq_true rfl, Nat.le_of_ble_eq_true rfl⟩ (sd_e12 rfl) rfl rfl (Nat.le_of_ble_eq_true rfl) dL_law_844 rfl (n' := 847) ?_
  refine sd_xeq G (tgt := 1798) dL_law_847 rfl e3 ?_
  exact hk _ _ e4
set_option maxRecDepth 100000 in
theorem sd_law18 {Rel : sd_Mem → sd_Mem → Prop} {K : sd_K} {E : sd_Env} {b : Nat} {xs : Nat → Int32} {Lx : Nat} {Q : State → Prop} {M N : sd_Mem} {x3 : Int32} (G : sd_GL K E b xs Lx) (hs : sd_St18 Rel) (hR : Rel M N) (v1 : vp_in (x3 + (1 : Int32)) Lx) (v2 : vp_in (x3 + (2 : Int32)) Lx) (hk : ∀ M N : sd_Mem, Rel M N → sd_X K E b xs Lx Q M N 1798 [(0, .ref b), (1, .ref (E.2.2 0)), (2, .ref (E.2.2 100)), (3, .int x3)] []) : sd_X K E b xs Lx Q M N 852 [(0, .ref b), (1, .ref (E.2.2 0)), (2, .ref (E.2.2 100)), (3, .int x3)] [] := by
  obtain ⟨q, q2, e1, e2, e3, e4⟩ := hs M N hR (xs (x3 + (1 : Int32)).toNatClampNeg) (xs (x3 + (2 : Int32)).toNatClampNeg)
  refine sd_xaload_n G 1 dL_law_852 rfl rfl rfl (n' := 853) ?_
  refine sd_xaload_n G 0 dL_law_853 rfl rfl rfl (n' := 854) ?_
  refine sd_xiload_n G 3 dL_law_854 rfl rfl rfl (n' := 855) ?_
  refine sd_xiconst G (v := 1) dL_law_855 rfl rfl (n' := 856) ?_
  refine sd_xiadd G dL_law_856 rfl (n' := 857) ?_
  refine sd_xsld G v1 dL_law_857 rfl (n' := 858) ?_
  refine sd_xaload_n G 0 dL_law_858 rfl rfl rfl (n' := 859) ?_
  refine sd_xiload_n G 3 dL_law_859 rfl rfl rfl (n' := 860) ?_
  refine sd_xiconst G (v := 2) dL_law_860 rfl rfl (n' := 861) ?_
  refine sd_xiadd G dL_law_861 rfl (n' := 862) ?_
  refine sd_xsld G v2 dL_law_862 rfl (n' := 863) ?_
  refine sd_xcallCI [.int (xs (x3 + (1 : Int32)).toNatClampNeg), .int (xs (x3 + (2 : Int32)).toNatClampNeg)] [] G (ct_X10_mark M (xs (x3 + (1 : Int32)).toNatClampNeg) (xs (x3 + (2 : Int32)).toNatClampNeg) e1) sd_lL_90 ⟨rfl, rfl, Nat.le_of_ble_eq_true rfl, Nat.le_of_ble_eq_true rfl⟩ (sd_e11 rfl) rfl rfl (Nat.le_of_ble_eq_true rfl) dL_law_863 rfl (n' := 866) ?_
  refine sd_xaload_n G 2 dL_law_866 rfl rfl rfl (n' := 867) ?_
  refine sd_xaload_n G 0 dL_law_867 rfl rfl rfl (n' := 868) ?_
  refine sd_xiload_n G 3 dL_law_868 rfl rfl rfl (n' := 869) ?_
  refine sd_xiconst G (v := 1) dL_law_869 rfl rfl (n' := 870) ?_
  refine sd_xiadd G dL_law_870 rfl (n' := 871) ?_
  refine sd_xsld G v1 dL_law_871 rfl (n' := 872) ?_
  refine sd_xaload_n G 0 dL_law_872 rfl rfl rfl (n' := 873) ?_
  refine sd_xiload_n G 3 dL_law_873 rfl rfl rfl (n' := 874) ?_
  refine sd_xiconst G (v := 2) dL_law_874 rfl rfl (n' := 875) ?_
  refine sd_xiadd G dL_law_875 rfl (n' := 876) ?_
  refine sd_xsld G v2 dL_law_876 rfl (n' := 877) ?_
  refine sd_xcallMI [.int (xs (x3 + (1 : Int32)).toNatClampNeg), .int (xs (x3 + (2 : Int32)).toNatClampNeg)] [.int q.1] G (ct_X11_mark N (xs (x3 + (1 : Int32)).toNatClampNeg) (xs (x3 + (2 : Int32)).toNatClampNeg) e2) sd_lL_93 ⟨rfl, rfl, Nat.le_of_ble_eq_true rfl, Nat.le_of_ble_eq_true rfl⟩ (sd_e12 rfl) rfl rfl (Nat.le_of_ble_eq_true rfl) dL_law_877 rfl (n' := 880) ?_
  refine sd_xeq G (tgt := 1798) dL_law_880 rfl e3 ?_
  exact hk _ _ e4
set_option maxRecDepth 100000 in
theorem sd_law19 {Rel : sd_Mem → sd_Mem → Prop} {K : sd_K} {E : sd_Env} {b : Nat} {xs : Nat → Int32} {Lx : Nat} {Q : State → Prop} {M N : sd_Mem} {x3 : Int32} (G : sd_GL K E b xs Lx) (hs : sd_St19 Rel) (hR : Rel M N) (v1 : vp_in (x3 + (1 : Int32)) Lx) (v2 : vp_in (x3 + (2 : Int32)) Lx) (v3 : vp_in (x3 + (3 : Int32)) Lx) (v4 : vp_in (x3 + (4 : Int32)) Lx) (hk : ∀ M N : sd_Mem, Rel M N → sd_X K E b xs Lx Q M N 1798 [(0, .ref b), (1, .ref (E.2.2 0)), (2, .ref (E.2.2 100)), (3, .int x3)] []) : sd_X K E b xs Lx Q M N 885 [(0, .ref b), (1, .ref (E.2.2 0)), (2, .ref (E.2.2 100)), (3, .int x3)] [] := by
  obtain ⟨q, q2, e1, e2, e3, e4⟩ := hs M N hR (xs (x3 + (1 : Int32)).toNatClampNeg) (xs (x3 + (2 : Int32)).toNatClampNeg) (xs (x3 + (3 : Int32)).toNatClampNeg) (xs (x3 + (4 : Int32)).toNatClampNeg)
  refine sd_xaload_n G 1 dL_law_885 rfl rfl rfl (n' := 886) ?_
  refine sd_xaload_n G 0 dL_law_886 rfl rfl rfl (n' := 887) ?_
  refine sd_xiload_n G 3 dL_law_887 rfl rfl rfl (n' := 888) ?_
  refine sd_xiconst G (v := 1) dL_law_888 rfl rfl (n' := 889) ?_
  refine sd_xiadd G dL_law_889 rfl (n' := 890) ?_
  refine sd_xsld G v1 dL_law_890 rfl (n' := 891) ?_
  refine sd_xaload_n G 0 dL_law_891 rfl rfl rfl (n' := 892) ?_
  refine sd_xiload_n G 3 dL_law_892 rfl rfl rfl (n' := 893) ?_
  refine sd_xiconst G (v := 2) dL_law_893 rfl rfl (n' := 894) ?_
  refine sd_xiadd G dL_law_894 rfl (n' := 895) ?_
  refine sd_xsld G v2 dL_law_895 rfl (n' := 896) ?_
  refine sd_xaload_n G 0 dL_law_896 rfl rfl rfl (n' := 897) ?_
  refine sd_xiload_n G 3 dL_law_897 rfl rfl rfl (n' := 898) ?_
  refine sd_xiconst G (v := 3) dL_law_898 rfl rfl (n' := 899) ?_
  refine sd_xiadd G dL_law_899 rfl (n' := 900) ?_
  refine sd_xsld G v3 dL_law_900 rfl (n' := 901) ?_
  refine sd_xaload_n G 0 dL_law_901 rfl rfl rfl (n' := 902) ?_
  refine sd_xiload_n G 3 dL_law_902 rfl rfl rfl (n' := 903) ?_
  refine sd_xiconst G (v := 4) dL_law_903 rfl rfl (n' := 904) ?_
  refine sd_xiadd G dL_law_904 rfl (n' := 905) ?_
  refine sd_xsld G v4 dL_law_905 rfl (n' := 906) ?_
  refine sd_xcallCI [.int (xs (x3 + (1 : Int32)).toNatClampNeg), .int (xs (x3 + (2 : Int32)).toNatClampNeg), .int (xs (x3 + (3 : Int32)).toNatClampNeg), .int (xs (x3 + (4 : Int32)).toNatClampNeg)] [] G (ct_X10_run M (xs (x3 + (1 : Int32)).toNatClampNeg) (xs (x3 + (2 : Int32)).toNatClampNeg) (xs (x3 + (3 : Int32)).toNatClampNeg) (xs (x3 + (4 : Int32)).toNatClampNeg) e1) sd_lL_94 ⟨rfl, rfl, Nat.le_of_ble_eq_true rfl, Nat.le_of_ble_eq_true rfl⟩ (sd_e11 rfl) rfl rfl (Nat.le_of_ble_eq_true rfl) dL_law_906 rfl (n' := 909) ?_
  refine sd_xaload_n G 2 dL_law_909 rfl rfl rfl (n' := 910) ?_
  refine sd_xaload_n G 0 dL_law_910 rfl rfl rfl (n' := 911) ?_
  refine sd_xiload_n G 3 dL_law_911 rfl rfl rfl (n' := 912) ?_
  refine sd_xiconst G (v := 1) dL_law_912 rfl rfl (n' := 913) ?_
  refine sd_xiadd G dL_law_913 rfl (n' := 914) ?_
  refine sd_xsld G v1 dL_law_914 rfl (n' := 915) ?_
  refine sd_xaload_n G 0 dL_law_915 rfl rfl rfl (n' := 916) ?_
  refine sd_xiload_n G 3 dL_law_916 rfl rfl rfl (n' := 917) ?_
  refine sd_xiconst G (v := 2) dL_law_917 rfl rfl (n' := 918) ?_
  refine sd_xiadd G dL_law_918 rfl (n' := 919) ?_
  refine sd_xsld G v2 dL_law_919 rfl (n' := 920) ?_
  refine sd_xaload_n G 0 dL_law_920 rfl rfl rfl (n' := 921) ?_
  refine sd_xiload_n G 3 dL_law_921 rfl rfl rfl (n' := 922) ?_
  refine sd_xiconst G (v := 3) dL_law_922 rfl rfl (n' := 923) ?_
  refine sd_xiadd G dL_law_923 rfl (n' := 924) ?_
  refine sd_xsld G v3 dL_law_924 rfl (n' := 925) ?_
  refine sd_xaload_n G 0 dL_law_925 rfl rfl rfl (n' := 926) ?_
  refine sd_xiload_n G 3 dL_law_926 rfl rfl rfl (n' := 927) ?_
  refine sd_xiconst G (v := 4) dL_law_927 rfl rfl (n' := 928) ?_
  refine sd_xiadd G dL_law_928 rfl (n' := 929) ?_
  refine sd_xsld G v4 dL_law_929 rfl (n' := 930) ?_
  refine sd_xcallMI [.int (xs (x3 + (1 : Int32)).toNatClampNeg), .int (xs (x3 + (2 : Int32)).toNatClampNeg), .int (xs (x3 + (3 : Int32)).toNatClampNeg), .int (xs (x3 + (4 : Int32)).toNatClampNeg)] [.int q.1] G (ct_X11_run N (xs (x3 + (1 : Int32)).toNatClampNeg) (xs (x3 + (2 : Int32)).toNatClampNeg) (xs (x3 + (3 : Int32)).toNatClampNeg) (xs (x3 + (4 : Int32)).toNatClampNeg) e2) sd_lL_97 ⟨rfl, rfl, Nat.le_of_ble_eq_true rfl, Nat.le_of_ble_eq_true rfl⟩ (sd_e12 rfl) rfl rfl (Nat.le_of_ble_eq_true rfl) dL_law_930 rfl (n' := 933) ?_
  refine sd_xeq G (tgt := 1798) dL_law_933 rfl e3 ?_
  exact hk _ _ e4
set_option maxRecDepth 100000 in
theorem sd_law20 {Rel : sd_Mem → sd_Mem → Prop} {K : sd_K} {E : sd_Env} {b : Nat} {xs : Nat → Int32} {Lx : Nat} {Q : State → Prop} {M N : sd_Mem} {x3 : Int32} (G : sd_GL K E b xs Lx) (hs : sd_St20 Rel) (hR : Rel M N) (v1 : vp_in (x3 + (1 : Int32)) Lx) (v2 : vp_in (x3 + (2 : Int32)) Lx) (v3 : vp_in (x3 + (3 : Int32)) Lx) (v4 : vp_in (x3 + (4 : Int32)) Lx) (hk : ∀ M N : sd_Mem, Rel M N → sd_X K E b xs Lx Q M N 1798 [(0, .ref b), (1, .ref (E.2.2 0)), (2, .ref (E.2.2 100)), (3, .int x3)] []) : sd_X K E b xs Lx Q M N 938 [(0, .ref b), (1, .ref (E.2.2 0)), (2, .ref (E.2.2 100)), (3, .int x3)] [] := by
  obtain ⟨q, q2, e1, e2, e3, e4⟩ := hs M N hR (xs (x3 + (1 : Int32)).toNatClampNeg) (xs (x3 + (2 : Int32)).toNatClampNeg) (xs (x3 + (3 : Int32)).toNatClampNeg) (xs (x3 + (4 : Int32)).toNatClampNeg)
  refine sd_xaload_n G 1 dL_law_938 rfl rfl rfl (n' := 939) ?_
  refine sd_xaload_n G 0 dL_law_939 rfl rfl rfl (n' := 940) ?_
  refine sd_xiload_n G 3 dL_law_940 rfl rfl rfl (n' := 941) ?_
  refine sd_xiconst G (v := 1) dL_law_941 rfl rfl (n' := 942) ?_
  refine sd_xiadd G dL_law_942 rfl (n' := 943) ?_
  refine sd_xsld G v1 dL_law_943 rfl (n' := 944) ?_
  refine sd_xaload_n G 0 dL_law_944 rfl rfl rfl (n' := 945) ?_
  refine sd_xiload_n G 3 dL_law_945 rfl rfl rfl (n' := 946) ?_
  refine sd_xiconst G (v := 2) dL_law_946 rfl rfl (n' := 947) ?_
  refine sd_xiadd G dL_law_947 rfl (n' := 948) ?_
  refine sd_xsld G v2 dL_law_948 rfl (n' := 949) ?_
  refine sd_xaload_n G 0 dL_law_949 rfl rfl rfl (n' := 950) ?_
  refine sd_xiload_n G 3 dL_law_950 rfl rfl rfl (n' := 951) ?_
  refine sd_xiconst G (v := 3) dL_law_951 rfl rfl (n' := 952) ?_
  refine sd_xiadd G dL_law_952 rfl (n' := 953) ?_
  refine sd_xsld G v3 dL_law_953 rfl (n' := 954) ?_
  refine sd_xaload_n G 0 dL_law_954 rfl rfl rfl (n' := 955) ?_
  refine sd_xiload_n G 3 dL_law_955 rfl rfl rfl (n' := 956) ?_
  refine sd_xiconst G (v := 4) dL_law_956 rfl rfl (n' := 957) ?_
  refine sd_xiadd G dL_law_957 rfl (n' := 958) ?_
  refine sd_xsld G v4 dL_law_958 rfl (n' := 959) ?_
  refine sd_xcallCI [.int (xs (x3 + (1 : Int32)).toNatClampNeg), .int (xs (x3 + (2 : Int32)).toNatClampNeg), .int (xs (x3 + (3 : Int32)).toNatClampNeg), .int (xs (x3 + (4 : Int32)).toNatClampNeg)] [] G (ct_X10_worth M (xs (x3 + (1 : Int32)).toNatClampNeg) (xs (x3 + (2 : Int32)).toNatClampNeg) (xs (x3 + (3 : Int32)).toNatClampNeg) (xs (x3 + (4 : Int32)).toNatClampNeg) e1) sd_lL_98 ⟨rfl, rfl, Nat.le_of_ble_eq_true rfl, Nat.le_of_ble_eq_true rfl⟩ (sd_e11 rfl) rfl rfl (Nat.le_of_ble_eq_true rfl) dL_law_959 rfl (n' := 962) ?_
  refine sd_xaload_n G 2 dL_law_962 rfl rfl rfl (n' := 963) ?_
  refine sd_xaload_n G 0 dL_law_963 rfl rfl rfl (n' := 964) ?_
  refine sd_xiload_n G 3 dL_law_964 rfl rfl rfl (n' := 965) ?_
  refine sd_xiconst G (v := 1) dL_law_965 rfl rfl (n' := 966) ?_
  refine sd_xiadd G dL_law_966 rfl (n' := 967) ?_
  refine sd_xsld G v1 dL_law_967 rfl (n' := 968) ?_
  refine sd_xaload_n G 0 dL_law_968 rfl rfl rfl (n' := 969) ?_
  refine sd_xiload_n G 3 dL_law_969 rfl rfl rfl (n' := 970) ?_
  refine sd_xiconst G (v := 2) dL_law_970 rfl rfl (n' := 971) ?_
  refine sd_xiadd G dL_law_971 rfl (n' := 972) ?_
  refine sd_xsld G v2 dL_law_972 rfl (n' := 973) ?_
  refine sd_xaload_n G 0 dL_law_973 rfl rfl rfl (n' := 974) ?_
  refine sd_xiload_n G 3 dL_law_974 rfl rfl rfl (n' := 975) ?_
  refine sd_xiconst G (v := 3) dL_law_975 rfl rfl (n' := 976) ?_
  refine sd_xiadd G dL_law_976 rfl (n' := 977) ?_
  refine sd_xsld G v3 dL_law_977 rfl (n' := 978) ?_
  refine sd_xaload_n G 0 dL_law_978 rfl rfl rfl (n' := 979) ?_
  refine sd_xiload_n G 3 dL_law_979 rfl rfl rfl (n' := 980) ?_
  refine sd_xiconst G (v := 4) dL_law_980 rfl rfl (n' := 981) ?_
  refine sd_xiadd G dL_law_981 rfl (n' := 982) ?_
  refine sd_xsld G v4 dL_law_982 rfl (n' := 983) ?_
  refine sd_xcallMI [.int (xs (x3 + (1 : Int32)).toNatClampNeg), .int (xs (x3 + (2 : Int32)).toNatClampNeg), .int (xs (x3 + (3 : Int32)).toNatClampNeg), .int (xs (x3 + (4 : Int32)).toNatClampNeg)] [.int q.1] G (ct_X11_worth N (xs (x3 + (1 : Int32)).toNatClampNeg) (xs (x3 + (2 : Int32)).toNatClampNeg) (xs (x3 + (3 : Int32)).toNatClampNeg) (xs (x3 + (4 : Int32)).toNatClampNeg) e2) sd_lL_101 ⟨rfl, rfl, Nat.le_of_ble_eq_true rfl, Nat.le_of_ble_eq_true rfl⟩ (sd_e12 rfl) rfl rfl (Nat.le_of_ble_eq_true rfl) dL_law_983 rfl (n' := 986) ?_
  refine sd_xeq G (tgt := 1798) dL_law_986 rfl e3 ?_
  exact hk _ _ e4
set_option maxRecDepth 100000 in
theorem sd_law21 {Rel : sd_Mem → sd_Mem → Prop} {K : sd_K} {E : sd_Env} {b : Nat} {xs : Nat → Int32} {Lx : Nat} {Q : State → Prop} {M N : sd_Mem} {x3 : Int32} (G : sd_GL K E b xs Lx) (hs : sd_St21 Rel) (hR : Rel M N) (v1 : vp_in (x3 + (1 : Int32)) Lx) (v2 : vp_in (x3 + (2 : Int32)) Lx) (v3 : vp_in (x3 + (3 : Int32)) Lx) (v4 : vp_in (x3 + (4 : Int32)) Lx) (v5 : vp_in (x3 + (5 : Int32)) Lx) (v6 : vp_in (x3 + (6 : Int32)) Lx) (hk : ∀ M N : sd_Mem, Rel M N → sd_X K E b xs Lx Q M N 1798 [(0, .ref b), (1, .ref (E.2.2 0)), (2, .ref (E.2.2 100)), (3, .int x3)] []) : sd_X K E b xs Lx Q M N 991 [(0, .ref b), (1, .ref (E.2.2 0)), (2, .ref (E.2.2 100)), (3, .int x3)] [] := by
  obtain ⟨q, q2, e1, e2, e3, e4⟩ := hs M N hR (xs (x3 + (1 : Int32)).toNatClampNeg) (xs (x3 + (2 : Int32)).toNatClampNeg) (xs (x3 + (3 : Int32)).toNatClampNeg) (xs (x3 + (4 : Int32)).toNatClampNeg) (xs (x3 + (5 : Int32)).toNatClampNeg) (xs (x3 + (6 : Int32)).toNatClampNeg)
  refine sd_xaload_n G 1 dL_law_991 rfl rfl rfl (n' := 992) ?_
  refine sd_xaload_n G 0 dL_law_992 rfl rfl rfl (n' := 993) ?_
  refine sd_xiload_n G 3 dL_law_993 rfl rfl rfl (n' := 994) ?_
  refine sd_xiconst G (v := 1) dL_law_994 rfl rfl (n' := 995) ?_
  refine sd_xiadd G dL_law_995 rfl (n' := 996) ?_
  refine sd_xsld G v1 dL_law_996 rfl (n' := 997) ?_
  refine sd_xaload_n G 0 dL_law_997 rfl rfl rfl (n' := 998) ?_
  refine sd_xiload_n G 3 dL_law_998 rfl rfl rfl (n' := 999) ?_
  refine sd_xiconst G (v := 2) dL_law_999 rfl rfl (n' := 1000) ?_
  refine sd_xiadd G dL_law_1000 rfl (n' := 1001) ?_
  refine sd_xsld G v2 dL_law_1001 rfl (n' := 1002) ?_
  refine sd_xaload_n G 0 dL_law_1002 rfl rfl rfl (n' := 1003) ?_
  refine sd_xiload_n G 3 dL_law_1003 rfl rfl rfl (n' := 1004) ?_
  refine sd_xiconst G (v := 3) dL_law_1004 rfl rfl (n' := 1005) ?_
  refine sd_xiadd G dL_law_1005 rfl (n' := 1006) ?_
  refine sd_xsld G v3 dL_law_1006 rfl (n' := 1007) ?_
  refine sd_xaload_n G 0 dL_law_1007 rfl rfl rfl (n' := 1008) ?_
  refine sd_xiload_n G 3 dL_law_1008 rfl rfl rfl (n' := 1009) ?_
  refine sd_xiconst G (v := 4) dL_law_1009 rfl rfl (n' := 1010) ?_
  refine sd_xiadd G dL_law_1010 rfl (n' := 1011) ?_
  refine sd_xsld G v4 dL_law_1011 rfl (n' := 1012) ?_
  refine sd_xaload_n G 0 dL_law_1012 rfl rfl rfl (n' := 1013) ?_
  refine sd_xiload_n G 3 dL_law_1013 rfl rfl rfl (n' := 1014) ?_
  refine sd_xiconst G (v := 5) dL_law_1014 rfl rfl (n' := 1015) ?_
  refine sd_xiadd G dL_law_1015 rfl (n' := 1016) ?_
  refine sd_xsld G v5 dL_law_1016 rfl (n' := 1017) ?_
  refine sd_xaload_n G 0 dL_law_1017 rfl rfl rfl (n' := 1018) ?_
  refine sd_xiload_n G 3 dL_law_1018 rfl rfl rfl (n' := 1019) ?_
  refine sd_xbipush G (v := 6) dL_law_1019 rfl rfl (n' := 1021) ?_
  refine sd_xiadd G dL_law_1021 rfl (n' := 1022) ?_
  refine sd_xsld G v6 dL_law_1022 rfl (n' := 1023) ?_
  refine sd_xcallCI [.int (xs (x3 + (1 : Int32)).toNatClampNeg), .int (xs (x3 + (2 : Int32)).toNatClampNeg), .int (xs (x3 + (3 : Int32)).toNatClampNeg), .int (xs (x3 + (4 : Int32)).toNatClampNeg), .int (xs (x3 + (5 : Int32)).toNatClampNeg), .int (xs (x3 + (6 : Int32)).toNatClampNeg)] [] G (ct_X10_think M (xs (x3 + (1 : Int32)).toNatClampNeg) (xs (x3 + (2 : Int32)).toNatClampNeg) (xs (x3 + (3 : Int32)).toNatClampNeg) (xs (x3 + (4 : Int32)).toNatClampNeg) (xs (x3 + (5 : Int32)).toNatClampNeg) (xs (x3 + (6 : Int32)).toNatClampNeg) e1) sd_lL_102 ⟨rfl, rfl, Nat.le_of_ble_eq_true rfl, Nat.le_of_ble_eq_true rfl⟩ (sd_e11 rfl) rfl rfl (Nat.le_of_ble_eq_true rfl) dL_law_1023 rfl (n' := 1026) ?_
  refine sd_xaload_n G 2 dL_law_1026 rfl rfl rfl (n' := 1027) ?_
  refine sd_xaload_n G 0 dL_law_1027 rfl rfl rfl (n' := 1028) ?_
  refine sd_xiload_n G 3 dL_law_1028 rfl rfl rfl (n' := 1029) ?_
  refine sd_xiconst G (v := 1) dL_law_1029 rfl rfl (n' := 1030) ?_
  refine sd_xiadd G dL_law_1030 rfl (n' := 1031) ?_
  refine sd_xsld G v1 dL_law_1031 rfl (n' := 1032) ?_
  refine sd_xaload_n G 0 dL_law_1032 rfl rfl rfl (n' := 1033) ?_
  refine sd_xiload_n G 3 dL_law_1033 rfl rfl rfl (n' := 1034) ?_
  refine sd_xiconst G (v := 2) dL_law_1034 rfl rfl (n' := 1035) ?_
  refine sd_xiadd G dL_law_1035 rfl (n' := 1036) ?_
  refine sd_xsld G v2 dL_law_1036 rfl (n' := 1037) ?_
  refine sd_xaload_n G 0 dL_law_1037 rfl rfl rfl (n' := 1038) ?_
  refine sd_xiload_n G 3 dL_law_1038 rfl rfl rfl (n' := 1039) ?_
  refine sd_xiconst G (v := 3) dL_law_1039 rfl rfl (n' := 1040) ?_
  refine sd_xiadd G dL_law_1040 rfl (n' := 1041) ?_
  refine sd_xsld G v3 dL_law_1041 rfl (n' := 1042) ?_
  refine sd_xaload_n G 0 dL_law_1042 rfl rfl rfl (n' := 1043) ?_
  refine sd_xiload_n G 3 dL_law_1043 rfl rfl rfl (n' := 1044) ?_
  refine sd_xiconst G (v := 4) dL_law_1044 rfl rfl (n' := 1045) ?_
  refine sd_xiadd G dL_law_1045 rfl (n' := 1046) ?_
  refine sd_xsld G v4 dL_law_1046 rfl (n' := 1047) ?_
  refine sd_xaload_n G 0 dL_law_1047 rfl rfl rfl (n' := 1048) ?_
  refine sd_xiload_n G 3 dL_law_1048 rfl rfl rfl (n' := 1049) ?_
  refine sd_xiconst G (v := 5) dL_law_1049 rfl rfl (n' := 1050) ?_
  refine sd_xiadd G dL_law_1050 rfl (n' := 1051) ?_
  refine sd_xsld G v5 dL_law_1051 rfl (n' := 1052) ?_
  refine sd_xaload_n G 0 dL_law_1052 rfl rfl rfl (n' := 1053) ?_
  refine sd_xiload_n G 3 dL_law_1053 rfl rfl rfl (n' := 1054) ?_
  refine sd_xbipush G (v := 6) dL_law_1054 rfl rfl (n' := 1056) ?_
  refine sd_xiadd G dL_law_1056 rfl (n' := 1057) ?_
  refine sd_xsld G v6 dL_law_1057 rfl (n' := 1058) ?_
  refine sd_xcallMI [.int (xs (x3 + (1 : Int32)).toNatClampNeg), .int (xs (x3 + (2 : Int32)).toNatClampNeg), .int (xs (x3 + (3 : Int32)).toNatClampNeg), .int (xs (x3 + (4 : Int32)).toNatClampNeg), .int (xs (x3 + (5 : Int32)).toNatClampNeg), .int (xs (x3 + (6 : Int32)).toNatClampNeg)] [.int q.1] G (ct_X11_think N (xs (x3 + (1 : Int32)).toNatClampNeg) (xs (x3 + (2 : Int32)).toNatClampNeg) (xs (x3 + (3 : Int32)).toNatClampNeg) (xs (x3 + (4 : Int32)).toNatClampNeg) (xs (x3 + (5 : Int32)).toNatClampNeg) (xs (x3 + (6 : Int32)).toNatClampNeg) e2) sd_lL_106 ⟨rfl, rfl, Nat.le_of_ble_eq_true rfl, Nat.le_of_ble_eq_true rfl⟩ (sd_e12 rfl) rfl rfl (Nat.le_of_ble_eq_true rfl) dL_law_1058 rfl (n' := 1061) ?_
  refine sd_xeq G (tgt := 1798) dL_law_1061 rfl e3 ?_
  exact hk _ _ e4
set_option maxRecDepth 100000 in
theorem sd_law22 {Rel : sd_Mem → sd_Mem → Prop} {K : sd_K} {E : sd_Env} {b : Nat} {xs : Nat → Int32} {Lx : Nat} {Q : State → Prop} {M N : sd_Mem} {x3 : Int32} (G : sd_GL K E b xs Lx) (hs : sd_St22 Rel) (hR : Rel M N) (v1 : vp_in (x3 + (1 : Int32)) Lx) (v2 : vp_in (x3 + (2 : Int32)) Lx) (v3 : vp_in (x3 + (3 : Int32)) Lx) (hk : ∀ M N : sd_Mem, Rel M N → sd_X K E b xs Lx Q M N 1798 [(0, .ref b), (1, .ref (E.2.2 0)), (2, .ref (E.2.2 100)), (3, .int x3)] []) : sd_X K E b xs Lx Q M N 1066 [(0, .ref b), (1, .ref (E.2.2 0)), (2, .ref (E.2.2 100)), (3, .int x3)] [] := by
  obtain ⟨q, q2, e1, e2, e3, e4⟩ := hs M N hR (xs (x3 + (1 : Int32)).toNatClampNeg) (xs (x3 + (2 : Int32)).toNatClampNeg) (xs (x3 + (3 : Int32)).toNatClampNeg)
  refine sd_xaload_n G 1 dL_law_1066 rfl rfl rfl (n' := 1067) ?_
  refine sd_xaload_n G 0 dL_law_1067 rfl rfl rfl (n' := 1068) ?_
  refine sd_xiload_n G 3 dL_law_1068 rfl rfl rfl (n' := 1069) ?_
  refine sd_xiconst G (v := 1) dL_law_1069 rfl rfl (n' := 1070) ?_
  refine sd_xiadd G dL_law_1070 rfl (n' := 1071) ?_
  refine sd_xsld G v1 dL_law_1071 rfl (n' := 1072) ?_
  refine sd_xaload_n G 0 dL_law_1072 rfl rfl rfl (n' := 1073) ?_
  refine sd_xiload_n G 3 dL_law_1073 rfl rfl rfl (n' := 1074) ?_
  refine sd_xiconst G (v := 2) dL_law_1074 rfl rfl (n' := 1075) ?_
  refine sd_xiadd G dL_law_1075 rfl (n' := 1076) ?_
  refine sd_xsld G v2 dL_law_1076 rfl (n' := 1077) ?_
  refine sd_xaload_n G 0 dL_law_1077 rfl rfl rfl (n' := 1078) ?_
  refine sd_xiload_n G 3 dL_law_1078 rfl rfl rfl (n' := 1079) ?_
  refine sd_xiconst G (v := 3) dL_law_1079 rfl rfl (n' := 1080) ?_
  refine sd_xiadd G dL_law_1080 rfl (n' := 1081) ?_
  refine sd_xsld G v3 dL_law_1081 rfl (n' := 1082) ?_
  refine sd_xcallCI [.int (xs (x3 + (1 : Int32)).toNatClampNeg), .int (xs (x3 + (2 : Int32)).toNatClampNeg), .int (xs (x3 + (3 : Int32)).toNatClampNeg)] [] G (ct_X10_end M (xs (x3 + (1 : Int32)).toNatClampNeg) (xs (x3 + (2 : Int32)).toNatClampNeg) (xs (x3 + (3 : Int32)).toNatClampNeg) e1) sd_lL_107 ⟨rfl, rfl, Nat.le_of_ble_eq_true rfl, Nat.le_of_ble_eq_true rfl⟩ (sd_e11 rfl) rfl rfl (Nat.le_of_ble_eq_true rfl) dL_law_1082 rfl (n' := 1085) ?_
  refine sd_xaload_n G 2 dL_law_1085 rfl rfl rfl (n' := 1086) ?_
  refine sd_xaload_n G 0 dL_law_1086 rfl rfl rfl (n' := 1087) ?_
  refine sd_xiload_n G 3 dL_law_1087 rfl rfl rfl (n' := 1088) ?_
  refine sd_xiconst G (v := 1) dL_law_1088 rfl rfl (n' := 1089) ?_
  refine sd_xiadd G dL_law_1089 rfl (n' := 1090) ?_
  refine sd_xsld G v1 dL_law_1090 rfl (n' := 1091) ?_
  refine sd_xaload_n G 0 dL_law_1091 rfl rfl rfl (n' := 1092) ?_
  refine sd_xiload_n G 3 dL_law_1092 rfl rfl rfl (n' := 1093) ?_
  refine sd_xiconst G (v := 2) dL_law_1093 rfl rfl (n' := 1094) ?_
  refine sd_xiadd G dL_law_1094 rfl (n' := 1095) ?_
  refine sd_xsld G v2 dL_law_1095 rfl (n' := 1096) ?_
  refine sd_xaload_n G 0 dL_law_1096 rfl rfl rfl (n' := 1097) ?_
  refine sd_xiload_n G 3 dL_law_1097 rfl rfl rfl (n' := 1098) ?_
  refine sd_xiconst G (v := 3) dL_law_1098 rfl rfl (n' := 1099) ?_
  refine sd_xiadd G dL_law_1099 rfl (n' := 1100) ?_
  refine sd_xsld G v3 dL_law_1100 rfl (n' := 1101) ?_
  refine sd_xcallMI [.int (xs (x3 + (1 : Int32)).toNatClampNeg), .int (xs (x3 + (2 : Int32)).toNatClampNeg), .int (xs (x3 + (3 : Int32)).toNatClampNeg)] [.int q.1] G (ct_X11_end N (xs (x3 + (1 : Int32)).toNatClampNeg) (xs (x3 + (2 : Int32)).toNatClampNeg) (xs (x3 + (3 : Int32)).toNatClampNeg) e2) sd_lL_110 ⟨rfl, rfl, Nat.le_of_ble_eq_true rfl, Nat.le_of_ble_eq_true rfl⟩ (sd_e12 rfl) rfl rfl (Nat.le_of_ble_eq_true rfl) dL_law_1101 rfl (n' := 1104) ?_
  refine sd_xeq G (tgt := 1798) dL_law_1104 rfl e3 ?_
  exact hk _ _ e4
set_option maxRecDepth 100000 in
theorem sd_law23 {Rel : sd_Mem → sd_Mem → Prop} {K : sd_K} {E : sd_Env} {b : Nat} {xs : Nat → Int32} {Lx : Nat} {Q : State → Prop} {M N : sd_Mem} {x3 : Int32} (G : sd_GL K E b xs Lx) (hs : sd_St23 Rel) (hR : Rel M N) (v1 : vp_in (x3 + (1 : Int32)) Lx) (v2 : vp_in (x3 + (2 : Int32)) Lx) (v3 : vp_in (x3 + (3 : Int32)) Lx) (hk : ∀ M N : sd_Mem, Rel M N → sd_X K E b xs Lx Q M N 1798 [(0, .ref b), (1, .ref (E.2.2 0)), (2, .ref (E.2.2 100)), (3, .int x3)] []) : sd_X K E b xs Lx Q M N 1109 [(0, .ref b), (1, .ref (E.2.2 0)), (2, .ref (E.2.2 100)), (3, .int x3)] [] := by
  obtain ⟨q, q2, e1, e2, e3, e4⟩ := hs M N hR (xs (x3 + (1 : Int32)).toNatClampNeg) (xs (x3 + (2 : Int32)).toNatClampNeg) (xs (x3 + (3 : Int32)).toNatClampNeg)
  refine sd_xaload_n G 1 dL_law_1109 rfl rfl rfl (n' := 1110) ?_
  refine sd_xaload_n G 0 dL_law_1110 rfl rfl rfl (n' := 1111) ?_
  refine sd_xiload_n G 3 dL_law_1111 rfl rfl rfl (n' := 1112) ?_
  refine sd_xiconst G (v := 1) dL_law_1112 rfl rfl (n' := 1113) ?_
  refine sd_xiadd G dL_law_1113 rfl (n' := 1114) ?_
  refine sd_xsld G v1 dL_law_1114 rfl (n' := 1115) ?_
  refine sd_xaload_n G 0 dL_law_1115 rfl rfl rfl (n' := 1116) ?_
  refine sd_xiload_n G 3 dL_law_1116 rfl rfl rfl (n' := 1117) ?_
  refine sd_xiconst G (v := 2) dL_law_1117 rfl rfl (n' := 1118) ?_
  refine sd_xiadd G dL_law_1118 rfl (n' := 1119) ?_
  refine sd_xsld G v2 dL_law_1119 rfl (n' := 1120) ?_
  refine sd_xaload_n G 0 dL_law_1120 rfl rfl rfl (n' := 1121) ?_
  refine sd_xiload_n G 3 dL_law_1121 rfl rfl rfl (n' := 1122) ?_
  refine sd_xiconst G (v := 3) dL_law_1122 rfl rfl (n' := 1123) ?_
  refine sd_xiadd G dL_law_1123 rfl (n' := 1124) ?_
  refine sd_xsld G v3 dL_law_1124 rfl (n' := 1125) ?_
  refine sd_xcallCI [.int (xs (x3 + (1 : Int32)).toNatClampNeg), .int (xs (x3 + (2 : Int32)).toNatClampNeg), .int (xs (x3 + (3 : Int32)).toNatClampNeg)] [] G (ct_X10_best M (xs (x3 + (1 : Int32)).toNatClampNeg) (xs (x3 + (2 : Int32)).toNatClampNeg) (xs (x3 + (3 : Int32)).toNatClampNeg) e1) sd_lL_111 ⟨rfl, rfl, Nat.le_of_ble_eq_true rfl, Nat.le_of_ble_eq_true rfl⟩ (sd_e11 rfl) rfl rfl (Nat.le_of_ble_eq_true rfl) dL_law_1125 rfl (n' := 1128) ?_
  refine sd_xaload_n G 2 dL_law_1128 rfl rfl rfl (n' := 1129) ?_
  refine sd_xaload_n G 0 dL_law_1129 rfl rfl rfl (n' := 1130) ?_
  refine sd_xiload_n G 3 dL_law_1130 rfl rfl rfl (n' := 1131) ?_
  refine sd_xiconst G (v := 1) dL_law_1131 rfl rfl (n' := 1132) ?_
  refine sd_xiadd G dL_law_1132 rfl (n' := 1133) ?_
  refine sd_xsld G v1 dL_law_1133 rfl (n' := 1134) ?_
  refine sd_xaload_n G 0 dL_law_1134 rfl rfl rfl (n' := 1135) ?_
  refine sd_xiload_n G 3 dL_law_1135 rfl rfl rfl (n' := 1136) ?_
  refine sd_xiconst G (v := 2) dL_law_1136 rfl rfl (n' := 1137) ?_
  refine sd_xiadd G dL_law_1137 rfl (n' := 1138) ?_
  refine sd_xsld G v2 dL_law_1138 rfl (n' := 1139) ?_
  refine sd_xaload_n G 0 dL_law_1139 rfl rfl rfl (n' := 1140) ?_
  refine sd_xiload_n G 3 dL_law_1140 rfl rfl rfl (n' := 1141) ?_
  refine sd_xiconst G (v := 3) dL_law_1141 rfl rfl (n' := 1142) ?_
  refine sd_xiadd G dL_law_1142 rfl (n' := 1143) ?_
  refine sd_xsld G v3 dL_law_1143 rfl (n' := 1144) ?_
  refine sd_xcallMI [.int (xs (x3 + (1 : Int32)).toNatClampNeg), .int (xs (x3 + (2 : Int32)).toNatClampNeg), .int (xs (x3 + (3 : Int32)).toNatClampNeg)] [.int q.1] G (ct_X11_best N (xs (x3 + (1 : Int32)).toNatClampNeg) (xs (x3 + (2 : Int32)).toNatClampNeg) (xs (x3 + (3 : Int32)).toNatClampNeg) e2) sd_lL_114 ⟨rfl, rfl, Nat.le_of_ble_eq_true rfl, Nat.le_of_ble_eq_true rfl⟩ (sd_e12 rfl) rfl rfl (Nat.le_of_ble_eq_true rfl) dL_law_1144 rfl (n' := 1147) ?_
  refine sd_xeq G (tgt := 1798) dL_law_1147 rfl e3 ?_
  exact hk _ _ e4
set_option maxRecDepth 100000 in
theorem sd_law24 {Rel : sd_Mem → sd_Mem → Prop} {K : sd_K} {E : sd_Env} {b : Nat} {xs : Nat → Int32} {Lx : Nat} {Q : State → Prop} {M N : sd_Mem} {x3 : Int32} (G : sd_GL K E b xs Lx) (hs : sd_St24 Rel) (hR : Rel M N) (v1 : vp_in (x3 + (1 : Int32)) Lx) (v2 : vp_in (x3 + (2 : Int32)) Lx) (hk : ∀ M N : sd_Mem, Rel M N → sd_X K E b xs Lx Q M N 1798 [(0, .ref b), (1, .ref (E.2.2 0)), (2, .ref (E.2.2 100)), (3, .int x3)] []) : sd_X K E b xs Lx Q M N 1152 [(0, .ref b), (1, .ref (E.2.2 0)), (2, .ref (E.2.2 100)), (3, .int x3)] [] := by
  obtain ⟨q, q2, e1, e2, e3, e4⟩ := hs M N hR (xs (x3 + (1 : Int32)).toNatClampNeg) (xs (x3 + (2 : Int32)).toNatClampNeg)
  refine sd_xaload_n G 1 dL_law_1152 rfl rfl rfl (n' := 1153) ?_
  refine sd_xaload_n G 0 dL_law_1153 rfl rfl rfl (n' := 1154) ?_
  refine sd_xiload_n G 3 dL_law_1154 rfl rfl rfl (n' := 1155) ?_
  refine sd_xiconst G (v := 1) dL_law_1155 rfl rfl (n' := 1156) ?_
  refine sd_xiadd G dL_law_1156 rfl (n' := 1157) ?_
  refine sd_xsld G v1 dL_law_1157 rfl (n' := 1158) ?_
  refine sd_xaload_n G 0 dL_law_1158 rfl rfl rfl (n' := 1159) ?_
  refine sd_xiload_n G 3 dL_law_1159 rfl rfl rfl (n' := 1160) ?_
  refine sd_xiconst G (v := 2) dL_law_1160 rfl rfl (n' := 1161) ?_
  refine sd_xiadd G dL_law_1161 rfl (n' := 1162) ?_
  refine sd_xsld G v2 dL_law_1162 rfl (n' := 1163) ?_
  refine sd_xcallCI [.int (xs (x3 + (1 : Int32)).toNatClampNeg), .int (xs (x3 + (2 : Int32)).toNatClampNeg)] [] G (ct_X10_rest M (xs (x3 + (1 : Int32)).toNatClampNeg) (xs (x3 + (2 : Int32)).toNatClampNeg) e1) sd_lL_115 ⟨rfl, rfl, Nat.le_of_ble_eq_true rfl, Nat.le_of_ble_eq_true rfl⟩ (sd_e11 rfl) rfl rfl (Nat.le_of_ble_eq_true rfl) dL_law_1163 rfl (n' := 1166) ?_
  refine sd_xaload_n G 2 dL_law_1166 rfl rfl rfl (n' := 1167) ?_
  refine sd_xaload_n G 0 dL_law_1167 rfl rfl rfl (n' := 1168) ?_
  refine sd_xiload_n G 3 dL_law_1168 rfl rfl rfl (n' := 1169) ?_
  refine sd_xiconst G (v := 1) dL_law_1169 rfl rfl (n' := 1170) ?_
  refine sd_xiadd G dL_law_1170 rfl (n' := 1171) ?_
  refine sd_xsld G v1 dL_law_1171 rfl (n' := 1172) ?_
  refine sd_xaload_n G 0 dL_law_1172 rfl rfl rfl (n' := 1173) ?_
  refine sd_xiload_n G 3 dL_law_1173 rfl rfl rfl (n' := 1174) ?_
  refine sd_xiconst G (v := 2) dL_law_1174 rfl rfl (n' := 1175) ?_
  refine sd_xiadd G dL_law_1175 rfl (n' := 1176) ?_
  refine sd_xsld G v2 dL_law_1176 rfl (n' := 1177) ?_
  refine sd_xcallMI [.int (xs (x3 + (1 : Int32)).toNatClampNeg), .int (xs (x3 + (2 : Int32)).toNatClampNeg)] [.int q.1] G (ct_X11_rest N (xs (x3 + (1 : Int32)).toNatClampNeg) (xs (x3 + (2 : Int32)).toNatClampNeg) e2) sd_lL_118 ⟨rfl, rfl, Nat.le_of_ble_eq_true rfl, Nat.le_of_ble_eq_true rfl⟩ (sd_e12 rfl) rfl rfl (Nat.le_of_ble_eq_true rfl) dL_law_1177 rfl (n' := 1180) ?_
  refine sd_xeq G (tgt := 1798) dL_law_1180 rfl e3 ?_
  exact hk _ _ e4
set_option maxRecDepth 100000 in
theorem sd_law25 {Rel : sd_Mem → sd_Mem → Prop} {K : sd_K} {E : sd_Env} {b : Nat} {xs : Nat → Int32} {Lx : Nat} {Q : State → Prop} {M N : sd_Mem} {x3 : Int32} (G : sd_GL K E b xs Lx) (hs : sd_St25 Rel) (hR : Rel M N) (v1 : vp_in (x3 + (1 : Int32)) Lx) (v2 : vp_in (x3 + (2 : Int32)) Lx) (hk : ∀ M N : sd_Mem, Rel M N → sd_X K E b xs Lx Q M N 1798 [(0, .ref b), (1, .ref (E.2.2 0)), (2, .ref (E.2.2 100)), (3, .int x3)] []) : sd_X K E b xs Lx Q M N 1185 [(0, .ref b), (1, .ref (E.2.2 0)), (2, .ref (E.2.2 100)), (3, .int x3)] [] := by
  obtain ⟨q, q2, e1, e2, e3, e4⟩ := hs M N hR (xs (x3 + (1 : Int32)).toNatClampNeg) (xs (x3 + (2 : Int32)).toNatClampNeg)
  refine sd_xaload_n G 1 dL_law_1185 rfl rfl rfl (n' := 1186) ?_
  refine sd_xaload_n G 0 dL_law_1186 rfl rfl rfl (n' := 1187) ?_
  refine sd_xiload_n G 3 dL_law_1187 rfl rfl rfl (n' := 1188) ?_
  refine sd_xiconst G (v := 1) dL_law_1188 rfl rfl (n' := 1189) ?_
  refine sd_xiadd G dL_law_1189 rfl (n' := 1190) ?_
  refine sd_xsld G v1 dL_law_1190 rfl (n' := 1191) ?_
  refine sd_xaload_n G 0 dL_law_1191 rfl rfl rfl (n' := 1192) ?_
  refine sd_xiload_n G 3 dL_law_1192 rfl rfl rfl (n' := 1193) ?_
  refine sd_xiconst G (v := 2) dL_law_1193 rfl rfl (n' := 1194) ?_
  refine sd_xiadd G dL_law_1194 rfl (n' := 1195) ?_
  refine sd_xsld G v2 dL_law_1195 rfl (n' := 1196) ?_
  refine sd_xcallCI [.int (xs (x3 + (1 : Int32)).toNatClampNeg), .int (xs (x3 + (2 : Int32)).toNatClampNeg)] [] G (ct_X10_answer M (xs (x3 + (1 : Int32)).toNatClampNeg) (xs (x3 + (2 : Int32)).toNatClampNeg) e1) sd_lL_119 ⟨rfl, rfl, Nat.le_of_ble_eq_true rfl, Nat.le_of_ble_eq_true rfl⟩ (sd_e11 rfl) rfl rfl (Nat.le_of_ble_eq_true rfl) dL_law_1196 rfl (n' := 1199) ?_
  refine sd_xaload_n G 2 dL_law_1199 rfl rfl rfl (n' := 1200) ?_
  refine sd_xaload_n G 0 dL_law_1200 rfl rfl rfl (n' := 1201) ?_
  refine sd_xiload_n G 3 dL_law_1201 rfl rfl rfl (n' := 1202) ?_
  refine sd_xiconst G (v := 1) dL_law_1202 rfl rfl (n' := 1203) ?_
  refine sd_xiadd G dL_law_1203 rfl (n' := 1204) ?_
  refine sd_xsld G v1 dL_law_1204 rfl (n' := 1205) ?_
  refine sd_xaload_n G 0 dL_law_1205 rfl rfl rfl (n' := 1206) ?_
  refine sd_xiload_n G 3 dL_law_1206 rfl rfl rfl (n' := 1207) ?_
  refine sd_xiconst G (v := 2) dL_law_1207 rfl rfl (n' := 1208) ?_
  refine sd_xiadd G dL_law_1208 rfl (n' := 1209) ?_
  refine sd_xsld G v2 dL_law_1209 rfl (n' := 1210) ?_
  refine sd_xcallMI [.int (xs (x3 + (1 : Int32)).toNatClampNeg), .int (xs (x3 + (2 : Int32)).toNatClampNeg)] [.int q.1] G (ct_X11_answer N (xs (x3 + (1 : Int32)).toNatClampNeg) (xs (x3 + (2 : Int32)).toNatClampNeg) e2) sd_lL_122 ⟨rfl, rfl, Nat.le_of_ble_eq_true rfl, Nat.le_of_ble_eq_true rfl⟩ (sd_e12 rfl) rfl rfl (Nat.le_of_ble_eq_true rfl) dL_law_1210 rfl (n' := 1213) ?_
  refine sd_xeq G (tgt := 1798) dL_law_1213 rfl e3 ?_
  exact hk _ _ e4
set_option maxRecDepth 100000 in
theorem sd_law26 {Rel : sd_Mem → sd_Mem → Prop} {K : sd_K} {E : sd_Env} {b : Nat} {xs : Nat → Int32} {Lx : Nat} {Q : State → Prop} {M N : sd_Mem} {x3 : Int32} (G : sd_GL K E b xs Lx) (hs : sd_St26 Rel) (hR : Rel M N) (v1 : vp_in (x3 + (1 : Int32)) Lx) (v2 : vp_in (x3 + (2 : Int32)) Lx) (hk : ∀ M N : sd_Mem, Rel M N → sd_X K E b xs Lx Q M N 1798 [(0, .ref b), (1, .ref (E.2.2 0)), (2, .ref (E.2.2 100)), (3, .int x3)] []) : sd_X K E b xs Lx Q M N 1218 [(0, .ref b), (1, .ref (E.2.2 0)), (2, .ref (E.2.2 100)), (3, .int x3)] [] := by
  obtain ⟨q, q2, e1, e2, e3, e4⟩ := hs M N hR (xs (x3 + (1 : Int32)).toNatClampNeg) (xs (x3 + (2 : Int32)).toNatClampNeg)
  refine sd_xaload_n G 1 dL_law_1218 rfl rfl rfl (n' := 1219) ?_
  refine sd_xaload_n G 0 dL_law_1219 rfl rfl rfl (n' := 1220) ?_
  refine sd_xiload_n G 3 dL_law_1220 rfl rfl rfl (n' := 1221) ?_
  refine sd_xiconst G (v := 1) dL_law_1221 rfl rfl (n' := 1222) ?_
  refine sd_xiadd G dL_law_1222 rfl (n' := 1223) ?_
  refine sd_xsld G v1 dL_law_1223 rfl (n' := 1224) ?_
  refine sd_xaload_n G 0 dL_law_1224 rfl rfl rfl (n' := 1225) ?_
  refine sd_xiload_n G 3 dL_law_1225 rfl rfl rfl (n' := 1226) ?_
  refine sd_xiconst G (v := 2) dL_law_1226 rfl rfl (n' := 1227) ?_
  refine sd_xiadd G dL_law_1227 rfl (n' := 1228) ?_
  refine sd_xsld G v2 dL_law_1228 rfl (n' := 1229) ?_
  refine sd_xcallCI [.int (xs (x3 + (1 : Int32)).toNatClampNeg), .int (xs (x3 + (2 : Int32)).toNatClampNeg)] [] G (ct_X10_reply M (xs (x3 + (1 : Int32)).toNatClampNeg) (xs (x3 + (2 : Int32)).toNatClampNeg) e1) sd_lL_123 ⟨rfl, rfl, Nat.le_of_ble_eq_true rfl, Nat.le_of_ble_eq_true rfl⟩ (sd_e11 rfl) rfl rfl (Nat.le_of_ble_eq_true rfl) dL_law_1229 rfl (n' := 1232) ?_
  refine sd_xaload_n G 2 dL_law_1232 rfl rfl rfl (n' := 1233) ?_
  refine sd_xaload_n G 0 dL_law_1233 rfl rfl rfl (n' := 1234) ?_
  refine sd_xiload_n G 3 dL_law_1234 rfl rfl rfl (n' := 1235) ?_
  refine sd_xiconst G (v := 1) dL_law_1235 rfl rfl (n' := 1236) ?_
  refine sd_xiadd G dL_law_1236 rfl (n' := 1237) ?_
  refine sd_xsld G v1 dL_law_1237 rfl (n' := 1238) ?_
  refine sd_xaload_n G 0 dL_law_1238 rfl rfl rfl (n' := 1239) ?_
  refine sd_xiload_n G 3 dL_law_1239 rfl rfl rfl (n' := 1240) ?_
  refine sd_xiconst G (v := 2) dL_law_1240 rfl rfl (n' := 1241) ?_
  refine sd_xiadd G dL_law_1241 rfl (n' := 1242) ?_
  refine sd_xsld G v2 dL_law_1242 rfl (n' := 1243) ?_
  refine sd_xcallMI [.int (xs (x3 + (1 : Int32)).toNatClampNeg), .int (xs (x3 + (2 : Int32)).toNatClampNeg)] [.int q.1] G (ct_X11_reply N (xs (x3 + (1 : Int32)).toNatClampNeg) (xs (x3 + (2 : Int32)).toNatClampNeg) e2) sd_lL_126 ⟨rfl, rfl, Nat.le_of_ble_eq_true rfl, Nat.le_of_ble_eq_true rfl⟩ (sd_e12 rfl) rfl rfl (Nat.le_of_ble_eq_true rfl) dL_law_1243 rfl (n' := 1246) ?_
  refine sd_xeq G (tgt := 1798) dL_law_1246 rfl e3 ?_
  exact hk _ _ e4
set_option maxRecDepth 100000 in
theorem sd_law27 {Rel : sd_Mem → sd_Mem → Prop} {K : sd_K} {E : sd_Env} {b : Nat} {xs : Nat → Int32} {Lx : Nat} {Q : State → Prop} {M N : sd_Mem} {x3 : Int32} (G : sd_GL K E b xs Lx) (hs : sd_St27 Rel) (hR : Rel M N) (v1 : vp_in (x3 + (1 : Int32)) Lx) (v2 : vp_in (x3 + (2 : Int32)) Lx) (hk : ∀ M N : sd_Mem, Rel M N → sd_X K E b xs Lx Q M N 1798 [(0, .ref b), (1, .ref (E.2.2 0)), (2, .ref (E.2.2 100)), (3, .int x3)] []) : sd_X K E b xs Lx Q M N 1251 [(0, .ref b), (1, .ref (E.2.2 0)), (2, .ref (E.2.2 100)), (3, .int x3)] [] := by
  obtain ⟨q, q2, e1, e2, e3, e4⟩ := hs M N hR (xs (x3 + (1 : Int32)).toNatClampNeg) (xs (x3 + (2 : Int32)).toNatClampNeg)
  refine sd_xaload_n G 1 dL_law_1251 rfl rfl rfl (n' := 1252) ?_
  refine sd_xaload_n G 0 dL_law_1252 rfl rfl rfl (n' := 1253) ?_
  refine sd_xiload_n G 3 dL_law_1253 rfl rfl rfl (n' := 1254) ?_
  refine sd_xiconst G (v := 1) dL_law_1254 rfl rfl (n' := 1255) ?_
  refine sd_xiadd G dL_law_1255 rfl (n' := 1256) ?_
  refine sd_xsld G v1 dL_law_1256 rfl (n' := 1257) ?_
  refine sd_xaload_n G 0 dL_law_1257 rfl rfl rfl (n' := 1258) ?_
  refine sd_xiload_n G 3 dL_law_1258 rfl rfl rfl (n' := 1259) ?_
  refine sd_xiconst G (v := 2) dL_law_1259 rfl rfl (n' := 1260) ?_
  refine sd_xiadd G dL_law_1260 rfl (n' := 1261) ?_
  refine sd_xsld G v2 dL_law_1261 rfl (n' := 1262) ?_
  refine sd_xcallCI [.int (xs (x3 + (1 : Int32)).toNatClampNeg), .int (xs (x3 + (2 : Int32)).toNatClampNeg)] [] G (ct_X10_longer M (xs (x3 + (1 : Int32)).toNatClampNeg) (xs (x3 + (2 : Int32)).toNatClampNeg) e1) sd_lL_127 ⟨rfl, rfl, Nat.le_of_ble_eq_true rfl, Nat.le_of_ble_eq_true rfl⟩ (sd_e11 rfl) rfl rfl (Nat.le_of_ble_eq_true rfl) dL_law_1262 rfl (n' := 1265) ?_
  refine sd_xaload_n G 2 dL_law_1265 rfl rfl rfl (n' := 1266) ?_
  refine sd_xaload_n G 0 dL_law_1266 rfl rfl rfl (n' := 1267) ?_
  refine sd_xiload_n G 3 dL_law_1267 rfl rfl rfl (n' := 1268) ?_
  refine sd_xiconst G (v := 1) dL_law_1268 rfl rfl (n' := 1269) ?_
  refine sd_xiadd G dL_law_1269 rfl (n' := 1270) ?_
  refine sd_xsld G v1 dL_law_1270 rfl (n' := 1271) ?_
  refine sd_xaload_n G 0 dL_law_1271 rfl rfl rfl (n' := 1272) ?_
  refine sd_xiload_n G 3 dL_law_1272 rfl rfl rfl (n' := 1273) ?_
  refine sd_xiconst G (v := 2) dL_law_1273 rfl rfl (n' := 1274) ?_
  refine sd_xiadd G dL_law_1274 rfl (n' := 1275) ?_
  refine sd_xsld G v2 dL_law_1275 rfl (n' := 1276) ?_
  refine sd_xcallMI [.int (xs (x3 + (1 : Int32)).toNatClampNeg), .int (xs (x3 + (2 : Int32)).toNatClampNeg)] [.int q.1] G (ct_X11_longer N (xs (x3 + (1 : Int32)).toNatClampNeg) (xs (x3 + (2 : Int32)).toNatClampNeg) e2) sd_lL_130 ⟨rfl, rfl, Nat.le_of_ble_eq_true rfl, Nat.le_of_ble_eq_true rfl⟩ (sd_e12 rfl) rfl rfl (Nat.le_of_ble_eq_true rfl) dL_law_1276 rfl (n' := 1279) ?_
  refine sd_xeq G (tgt := 1798) dL_law_1279 rfl e3 ?_
  exact hk _ _ e4
set_option maxRecDepth 100000 in
theorem sd_law28 {Rel : sd_Mem → sd_Mem → Prop} {K : sd_K} {E : sd_Env} {b : Nat} {xs : Nat → Int32} {Lx : Nat} {Q : State → Prop} {M N : sd_Mem} {x3 : Int32} (G : sd_GL K E b xs Lx) (hs : sd_St28 Rel) (hR : Rel M N) (v1 : vp_in (x3 + (1 : Int32)) Lx) (v2 : vp_in (x3 + (2 : Int32)) Lx) (hk : ∀ M N : sd_Mem, Rel M N → sd_X K E b xs Lx Q M N 1798 [(0, .ref b), (1, .ref (E.2.2 0)), (2, .ref (E.2.2 100)), (3, .int x3)] []) : sd_X K E b xs Lx Q M N 1284 [(0, .ref b), (1, .ref (E.2.2 0)), (2, .ref (E.2.2 100)), (3, .int x3)] [] := by
  obtain ⟨q, q2, e1, e2, e3, e4⟩ := hs M N hR (xs (x3 + (1 : Int32)).toNatClampNeg) (xs (x3 + (2 : Int32)).toNatClampNeg)
  refine sd_xaload_n G 1 dL_law_1284 rfl rfl rfl (n' := 1285) ?_
  refine sd_xaload_n G 0 dL_law_1285 rfl rfl rfl (n' := 1286) ?_
  refine sd_xiload_n G 3 dL_law_1286 rfl rfl rfl (n' := 1287) ?_
  refine sd_xiconst G (v := 1) dL_law_1287 rfl rfl (n' := 1288) ?_
  refine sd_xiadd G dL_law_1288 rfl (n' := 1289) ?_
  refine sd_xsld G v1 dL_law_1289 rfl (n' := 1290) ?_
  refine sd_xaload_n G 0 dL_law_1290 rfl rfl rfl (n' := 1291) ?_
  refine sd_xiload_n G 3 dL_law_1291 rfl rfl rfl (n' := 1292) ?_
  refine sd_xiconst G (v := 2) dL_law_1292 rfl rfl (n' := 1293) ?_
  refine sd_xiadd G dL_law_1293 rfl (n' := 1294) ?_
  refine sd_xsld G v2 dL_law_1294 rfl (n' := 1295) ?_
  refine sd_xcallCI [.int (xs (x3 + (1 : Int32)).toNatClampNeg), .int (xs (x3 + (2 : Int32)).toNatClampNeg)] [] G (ct_X10_lost M (xs (x3 + (1 : Int32)).toNatClampNeg) (xs (x3 + (2 : Int32)).toNatClampNeg) e1) sd_lL_131 ⟨rfl, rfl, Nat.le_of_ble_eq_true rfl, Nat.le_of_ble_eq_true rfl⟩ (sd_e11 rfl) rfl rfl (Nat.le_of_ble_eq_true rfl) dL_law_1295 rfl (n' := 1298) ?_
  refine sd_xaload_n G 2 dL_law_1298 rfl rfl rfl (n' := 1299) ?_
  refine sd_xaload_n G 0 dL_law_1299 rfl rfl rfl (n' := 1300) ?_
  refine sd_xiload_n G 3 dL_law_1300 rfl rfl rfl (n' := 1301) ?_
  refine sd_xiconst G (v := 1) dL_law_1301 rfl rfl (n' := 1302) ?_
  refine sd_xiadd G dL_law_1302 rfl (n' := 1303) ?_
  refine sd_xsld G v1 dL_law_1303 rfl (n' := 1304) ?_
  refine sd_xaload_n G 0 dL_law_1304 rfl rfl rfl (n' := 1305) ?_
  refine sd_xiload_n G 3 dL_law_1305 rfl rfl rfl (n' := 1306) ?_
  refine sd_xiconst G (v := 2) dL_law_1306 rfl rfl (n' := 1307) ?_
  refine sd_xiadd G dL_law_1307 rfl (n' := 1308) ?_
  refine sd_xsld G v2 dL_law_1308 rfl (n' := 1309) ?_
  refine sd_xcallMI [.int (xs (x3 + (1 : Int32)).toNatClampNeg), .int (xs (x3 + (2 : Int32)).toNatClampNeg)] [.int q.1] G (ct_X11_lost N (xs (x3 + (1 : Int32)).toNatClampNeg) (xs (x3 + (2 : Int32)).toNatClampNeg) e2) sd_lL_134 ⟨rfl, rfl, Nat.le_of_ble_eq_true rfl, Nat.le_of_ble_eq_true rfl⟩ (sd_e12 rfl) rfl rfl (Nat.le_of_ble_eq_true rfl) dL_law_1309 rfl (n' := 1312) ?_
  refine sd_xeq G (tgt := 1798) dL_law_1312 rfl e3 ?_
  exact hk _ _ e4
set_option maxRecDepth 100000 in
theorem sd_law29 {Rel : sd_Mem → sd_Mem → Prop} {K : sd_K} {E : sd_Env} {b : Nat} {xs : Nat → Int32} {Lx : Nat} {Q : State → Prop} {M N : sd_Mem} {x3 : Int32} (G : sd_GL K E b xs Lx) (hs : sd_St29 Rel) (hR : Rel M N) (v1 : vp_in (x3 + (1 : Int32)) Lx) (v2 : vp_in (x3 + (2 : Int32)) Lx) (v3 : vp_in (x3 + (3 : Int32)) Lx) (v4 : vp_in (x3 + (4 : Int32)) Lx) (hk : ∀ M N : sd_Mem, Rel M N → sd_X K E b xs Lx Q M N 1798 [(0, .ref b), (1, .ref (E.2.2 0)), (2, .ref (E.2.2 100)), (3, .int x3)] []) : sd_X K E b xs Lx Q M N 1317 [(0, .ref b), (1, .ref (E.2.2 0)), (2, .ref (E.2.2 100)), (3, .int x3)] [] := by
  obtain ⟨q, q2, e1, e2, e3, e4⟩ := hs M N hR (xs (x3 + (1 : Int32)).toNatClampNeg) (xs (x3 + (2 : Int32)).toNatClampNeg) (xs (x3 + (3 : Int32)).toNatClampNeg) (xs (x3 + (4 : Int32)).toNatClampNeg)
  refine sd_xaload_n G 1 dL_law_1317 rfl rfl rfl (n' := 1318) ?_
  refine sd_xaload_n G 0 dL_law_1318 rfl rfl rfl (n' := 1319) ?_
  refine sd_xiload_n G 3 dL_law_1319 rfl rfl rfl (n' := 1320) ?_
  refine sd_xiconst G (v := 1) dL_law_1320 rfl rfl (n' := 1321) ?_
  refine sd_xiadd G dL_law_1321 rfl (n' := 1322) ?_
  refine sd_xsld G v1 dL_law_1322 rfl (n' := 1323) ?_
  refine sd_xaload_n G 0 dL_law_1323 rfl rfl rfl (n' := 1324) ?_
  refine sd_xiload_n G 3 dL_law_1324 rfl rfl rfl (n' := 1325) ?_
  refine sd_xiconst G (v := 2) dL_law_1325 rfl rfl (n' := 1326) ?_
  refine sd_xiadd G dL_law_1326 rfl (n' := 1327) ?_
  refine sd_xsld G v2 dL_law_1327 rfl (n' := 1328) ?_
  refine sd_xaload_n G 0 dL_law_1328 rfl rfl rfl (n' := 1329) ?_
  refine sd_xiload_n G 3 dL_law_1329 rfl rfl rfl (n' := 1330) ?_
  refine sd_xiconst G (v := 3) dL_law_1330 rfl rfl (n' := 1331) ?_
  refine sd_xiadd G dL_law_1331 rfl (n' := 1332) ?_
  refine sd_xsld G v3 dL_law_1332 rfl (n' := 1333) ?_
  refine sd_xaload_n G 0 dL_law_1333 rfl rfl rfl (n' := 1334) ?_
  refine sd_xiload_n G 3 dL_law_1334 rfl rfl rfl (n' := 1335) ?_
  refine sd_xiconst G (v := 4) dL_law_1335 rfl rfl (n' := 1336) ?_
  refine sd_xiadd G dL_law_1336 rfl (n' := 1337) ?_
  refine sd_xsld G v4 dL_law_1337 rfl (n' := 1338) ?_
  refine sd_xcallCI [.int (xs (x3 + (1 : Int32)).toNatClampNeg), .int (xs (x3 + (2 : Int32)).toNatClampNeg), .int (xs (x3 + (3 : Int32)).toNatClampNeg), .int (xs (x3 + (4 : Int32)).toNatClampNeg)] [] G (ct_X10_morning M (xs (x3 + (1 : Int32)).toNatClampNeg) (xs (x3 + (2 : Int32)).toNatClampNeg) (xs (x3 + (3 : Int32)).toNatClampNeg) (xs (x3 + (4 : Int32)).toNatClampNeg) e1) sd_lL_135 ⟨rfl, rfl, Nat.le_of_ble_eq_true rfl, Nat.le_of_ble_eq_true rfl⟩ (sd_e11 rfl) rfl rfl (Nat.le_of_ble_eq_true rfl) dL_law_1338 rfl (n' := 1341) ?_
  refine sd_xaload_n G 2 dL_law_1341 rfl rfl rfl (n' := 1342) ?_
  refine sd_xaload_n G 0 dL_law_1342 rfl rfl rfl (n' := 1343) ?_
  refine sd_xiload_n G 3 dL_law_1343 rfl rfl rfl (n' := 1344) ?_
  refine sd_xiconst G (v := 1) dL_law_1344 rfl rfl (n' := 1345) ?_
  refine sd_xiadd G dL_law_1345 rfl (n' := 1346) ?_
  refine sd_xsld G v1 dL_law_1346 rfl (n' := 1347) ?_
  refine sd_xaload_n G 0 dL_law_1347 rfl rfl rfl (n' := 1348) ?_
  refine sd_xiload_n G 3 dL_law_1348 rfl rfl rfl (n' := 1349) ?_
  refine sd_xiconst G (v := 2) dL_law_1349 rfl rfl (n' := 1350) ?_
  refine sd_xiadd G dL_law_1350 rfl (n' := 1351) ?_
  refine sd_xsld G v2 dL_law_1351 rfl (n' := 1352) ?_
  refine sd_xaload_n G 0 dL_law_1352 rfl rfl rfl (n' := 1353) ?_
  refine sd_xiload_n G 3 dL_law_1353 rfl rfl rfl (n' := 1354) ?_
  refine sd_xiconst G (v := 3) dL_law_1354 rfl rfl (n' := 1355) ?_
  refine sd_xiadd G dL_law_1355 rfl (n' := 1356) ?_
  refine sd_xsld G v3 dL_law_1356 rfl (n' := 1357) ?_
  refine sd_xaload_n G 0 dL_law_1357 rfl rfl rfl (n' := 1358) ?_
  refine sd_xiload_n G 3 dL_law_1358 rfl rfl rfl (n' := 1359) ?_
  refine sd_xiconst G (v := 4) dL_law_1359 rfl rfl (n' := 1360) ?_
  refine sd_xiadd G dL_law_1360 rfl (n' := 1361) ?_
  refine sd_xsld G v4 dL_law_1361 rfl (n' := 1362) ?_
  refine sd_xcallMI [.int (xs (x3 + (1 : Int32)).toNatClampNeg), .int (xs (x3 + (2 : Int32)).toNatClampNeg), .int (xs (x3 + (3 : Int32)).toNatClampNeg), .int (xs (x3 + (4 : Int32)).toNatClampNeg)] [.int q.1] G (ct_X11_morning N (xs (x3 + (1 : Int32)).toNatClampNeg) (xs (x3 + (2 : Int32)).toNatClampNeg) (xs (x3 + (3 : Int32)).toNatClampNeg) (xs (x3 + (4 : Int32)).toNatClampNeg) e2) sd_lL_138 ⟨rfl, rfl, Nat.le_of_ble_eq_true rfl, Nat.le_of_ble_eq_true rfl⟩ (sd_e12 rfl) rfl rfl (Nat.le_of_ble_eq_true rfl) dL_law_1362 rfl (n' := 1365) ?_
  refine sd_xeq G (tgt := 1798) dL_law_1365 rfl e3 ?_
  exact hk _ _ e4
set_option maxRecDepth 100000 in
theorem sd_law30 {Rel : sd_Mem → sd_Mem → Prop} {K : sd_K} {E : sd_Env} {b : Nat} {xs : Nat → Int32} {Lx : Nat} {Q : State → Prop} {M N : sd_Mem} {x3 : Int32} (G : sd_GL K E b xs Lx) (hs : sd_St30 Rel) (hR : Rel M N) (v1 : vp_in (x3 + (1 : Int32)) Lx) (v2 : vp_in (x3 + (2 : Int32)) Lx) (hk : ∀ M N : sd_Mem, Rel M N → sd_X K E b xs Lx Q M N 1798 [(0, .ref b), (1, .ref (E.2.2 0)), (2, .ref (E.2.2 100)), (3, .int x3)] []) : sd_X K E b xs Lx Q M N 1370 [(0, .ref b), (1, .ref (E.2.2 0)), (2, .ref (E.2.2 100)), (3, .int x3)] [] := by
  obtain ⟨q, q2, e1, e2, e3, e4⟩ := hs M N hR (xs (x3 + (1 : Int32)).toNatClampNeg) (xs (x3 + (2 : Int32)).toNatClampNeg)
  refine sd_xaload_n G 1 dL_law_1370 rfl rfl rfl (n' := 1371) ?_
  refine sd_xaload_n G 0 dL_law_1371 rfl rfl rfl (n' := 1372) ?_
  refine sd_xiload_n G 3 dL_law_1372 rfl rfl rfl (n' := 1373) ?_
  refine sd_xiconst G (v := 1) dL_law_1373 rfl rfl (n' := 1374) ?_
  refine sd_xiadd G dL_law_1374 rfl (n' := 1375) ?_
  refine sd_xsld G v1 dL_law_1375 rfl (n' := 1376) ?_
  refine sd_xaload_n G 0 dL_law_1376 rfl rfl rfl (n' := 1377) ?_
  refine sd_xiload_n G 3 dL_law_1377 rfl rfl rfl (n' := 1378) ?_
  refine sd_xiconst G (v := 2) dL_law_1378 rfl rfl (n' := 1379) ?_
  refine sd_xiadd G dL_law_1379 rfl (n' := 1380) ?_
  refine sd_xsld G v2 dL_law_1380 rfl (n' := 1381) ?_
  refine sd_xcallCI [.int (xs (x3 + (1 : Int32)).toNatClampNeg), .int (xs (x3 + (2 : Int32)).toNatClampNeg)] [] G (ct_X10_law M (xs (x3 + (1 : Int32)).toNatClampNeg) (xs (x3 + (2 : Int32)).toNatClampNeg) e1) sd_lL_139 ⟨rfl, rfl, Nat.le_of_ble_eq_true rfl, Nat.le_of_ble_eq_true rfl⟩ (sd_e11 rfl) rfl rfl (Nat.le_of_ble_eq_true rfl) dL_law_1381 rfl (n' := 1384) ?_
  refine sd_xaload_n G 2 dL_law_1384 rfl rfl rfl (n' := 1385) ?_
  refine sd_xaload_n G 0 dL_law_1385 rfl rfl rfl (n' := 1386) ?_
  refine sd_xiload_n G 3 dL_law_1386 rfl rfl rfl (n' := 1387) ?_
  refine sd_xiconst G (v := 1) dL_law_1387 rfl rfl (n' := 1388) ?_
  refine sd_xiadd G dL_law_1388 rfl (n' := 1389) ?_
  refine sd_xsld G v1 dL_law_1389 rfl (n' := 1390) ?_
  refine sd_xaload_n G 0 dL_law_1390 rfl rfl rfl (n' := 1391) ?_
  refine sd_xiload_n G 3 dL_law_1391 rfl rfl rfl (n' := 1392) ?_
  refine sd_xiconst G (v := 2) dL_law_1392 rfl rfl (n' := 1393) ?_
  refine sd_xiadd G dL_law_1393 rfl (n' := 1394) ?_
  refine sd_xsld G v2 dL_law_1394 rfl (n' := 1395) ?_
  refine sd_xcallMI [.int (xs (x3 + (1 : Int32)).toNatClampNeg), .int (xs (x3 + (2 : Int32)).toNatClampNeg)] [.int q.1] G (ct_X11_law N (xs (x3 + (1 : Int32)).toNatClampNeg) (xs (x3 + (2 : Int32)).toNatClampNeg) e2) sd_lL_142 ⟨rfl, rfl, Nat.le_of_ble_eq_true rfl, Nat.le_of_ble_eq_true rfl⟩ (sd_e12 rfl) rfl rfl (Nat.le_of_ble_eq_true rfl) dL_law_1395 rfl (n' := 1398) ?_
  refine sd_xeq G (tgt := 1798) dL_law_1398 rfl e3 ?_
  exact hk _ _ e4
set_option maxRecDepth 100000 in
theorem sd_law31 {Rel : sd_Mem → sd_Mem → Prop} {K : sd_K} {E : sd_Env} {b : Nat} {xs : Nat → Int32} {Lx : Nat} {Q : State → Prop} {M N : sd_Mem} {x3 : Int32} (G : sd_GL K E b xs Lx) (hs : sd_St31 Rel) (hR : Rel M N) (v1 : vp_in (x3 + (1 : Int32)) Lx) (v2 : vp_in (x3 + (2 : Int32)) Lx) (v3 : vp_in (x3 + (3 : Int32)) Lx) (v4 : vp_in (x3 + (4 : Int32)) Lx) (hk : ∀ M N : sd_Mem, Rel M N → sd_X K E b xs Lx Q M N 1798 [(0, .ref b), (1, .ref (E.2.2 0)), (2, .ref (E.2.2 100)), (3, .int x3)] []) : sd_X K E b xs Lx Q M N 1403 [(0, .ref b), (1, .ref (E.2.2 0)), (2, .ref (E.2.2 100)), (3, .int x3)] [] := by
  obtain ⟨q, q2, e1, e2, e3, e4⟩ := hs M N hR (xs (x3 + (1 : Int32)).toNatClampNeg) (xs (x3 + (2 : Int32)).toNatClampNeg) (xs (x3 + (3 : Int32)).toNatClampNeg) (xs (x3 + (4 : Int32)).toNatClampNeg)
  refine sd_xaload_n G 1 dL_law_1403 rfl rfl rfl (n' := 1404) ?_
  refine sd_xaload_n G 0 dL_law_1404 rfl rfl rfl (n' := 1405) ?_
  refine sd_xiload_n G 3 dL_law_1405 rfl rfl rfl (n' := 1406) ?_
  refine sd_xiconst G (v := 1) dL_law_1406 rfl rfl (n' := 1407) ?_
  refine sd_xiadd G dL_law_1407 rfl (n' := 1408) ?_
  refine sd_xsld G v1 dL_law_1408 rfl (n' := 1409) ?_
  refine sd_xaload_n G 0 dL_law_1409 rfl rfl rfl (n' := 1410) ?_
  refine sd_xiload_n G 3 dL_law_1410 rfl rfl rfl (n' := 1411) ?_
  refine sd_xiconst G (v := 2) dL_law_1411 rfl rfl (n' := 1412) ?_
  refine sd_xiadd G dL_law_1412 rfl (n' := 1413) ?_
  refine sd_xsld G v2 dL_law_1413 rfl (n' := 1414) ?_
  refine sd_xaload_n G 0 dL_law_1414 rfl rfl rfl (n' := 1415) ?_
  refine sd_xiload_n G 3 dL_law_1415 rfl rfl rfl (n' := 1416) ?_
  refine sd_xiconst G (v := 3) dL_law_1416 rfl rfl (n' := 1417) ?_
  refine sd_xiadd G dL_law_1417 rfl (n' := 1418) ?_
  refine sd_xsld G v3 dL_law_1418 rfl (n' := 1419) ?_
  refine sd_xaload_n G 0 dL_law_1419 rfl rfl rfl (n' := 1420) ?_
  refine sd_xiload_n G 3 dL_law_1420 rfl rfl rfl (n' := 1421) ?_
  refine sd_xiconst G (v := 4) dL_law_1421 rfl rfl (n' := 1422) ?_
  refine sd_xiadd G dL_law_1422 rfl (n' := 1423) ?_
  refine sd_xsld G v4 dL_law_1423 rfl (n' := 1424) ?_
  refine sd_xcallCI [.int (xs (x3 + (1 : Int32)).toNatClampNeg), .int (xs (x3 + (2 : Int32)).toNatClampNeg), .int (xs (x3 + (3 : Int32)).toNatClampNeg), .int (xs (x3 + (4 : Int32)).toNatClampNeg)] [] G (ct_X10_men M (xs (x3 + (1 : Int32)).toNatClampNeg) (xs (x3 + (2 : Int32)).toNatClampNeg) (xs (x3 + (3 : Int32)).toNatClampNeg) (xs (x3 + (4 : Int32)).toNatClampNeg) e1) sd_lL_143 ⟨rfl, rfl, Nat.le_of_ble_eq_true rfl, Nat.le_of_ble_eq_true rfl⟩ (sd_e11 rfl) rfl rfl (Nat.le_of_ble_eq_true rfl) dL_law_1424 rfl (n' := 1427) ?_
  refine sd_xaload_n G 2 dL_law_1427 rfl rfl rfl (n' := 1428) ?_
  refine sd_xaload_n G 0 dL_law_1428 rfl rfl rfl (n' := 1429) ?_
  refine sd_xiload_n G 3 dL_law_1429 rfl rfl rfl (n' := 1430) ?_
  refine sd_xiconst G (v := 1) dL_law_1430 rfl rfl (n' := 1431) ?_
  refine sd_xiadd G dL_law_1431 rfl (n' := 1432) ?_
  refine sd_xsld G v1 dL_law_1432 rfl (n' := 1433) ?_
  refine sd_xaload_n G 0 dL_law_1433 rfl rfl rfl (n' := 1434) ?_
  refine sd_xiload_n G 3 dL_law_1434 rfl rfl rfl (n' := 1435) ?_
  refine sd_xiconst G (v := 2) dL_law_1435 rfl rfl (n' := 1436) ?_
  refine sd_xiadd G dL_law_1436 rfl (n' := 1437) ?_
  refine sd_xsld G v2 dL_law_1437 rfl (n' := 1438) ?_
  refine sd_xaload_n G 0 dL_law_1438 rfl rfl rfl (n' := 1439) ?_
  refine sd_xiload_n G 3 dL_law_1439 rfl rfl rfl (n' := 1440) ?_
  refine sd_xiconst G (v := 3) dL_law_1440 rfl rfl (n' := 1441) ?_
  refine sd_xiadd G dL_law_1441 rfl (n' := 1442) ?_
  refine sd_xsld G v3 dL_law_1442 rfl (n' := 1443) ?_
  refine sd_xaload_n G 0 dL_law_1443 rfl rfl rfl (n' := 1444) ?_
  refine sd_xiload_n G 3 dL_law_1444 rfl rfl rfl (n' := 1445) ?_
  refine sd_xiconst G (v := 4) dL_law_1445 rfl rfl (n' := 1446) ?_
  refine sd_xiadd G dL_law_1446 rfl (n' := 1447) ?_
  refine sd_xsld G v4 dL_law_1447 rfl (n' := 1448) ?_
  refine sd_xcallMI [.int (xs (x3 + (1 : Int32)).toNatClampNeg), .int (xs (x3 + (2 : Int32)).toNatClampNeg), .int (xs (x3 + (3 : Int32)).toNatClampNeg), .int (xs (x3 + (4 : Int32)).toNatClampNeg)] [.int q.1] G (ct_X11_men N (xs (x3 + (1 : Int32)).toNatClampNeg) (xs (x3 + (2 : Int32)).toNatClampNeg) (xs (x3 + (3 : Int32)).toNatClampNeg) (xs (x3 + (4 : Int32)).toNatClampNeg) e2) sd_lL_146 ⟨rfl, rfl, Nat.le_of_ble_eq_true rfl, Nat.le_of_ble_eq_true rfl⟩ (sd_e12 rfl) rfl rfl (Nat.le_of_ble_eq_true rfl) dL_law_1448 rfl (n' := 1451) ?_
  refine sd_xeq G (tgt := 1798) dL_law_1451 rfl e3 ?_
  exact hk _ _ e4
set_option maxRecDepth 100000 in
theorem sd_law32 {Rel : sd_Mem → sd_Mem → Prop} {K : sd_K} {E : sd_Env} {b : Nat} {xs : Nat → Int32} {Lx : Nat} {Q : State → Prop} {M N : sd_Mem} {x3 : Int32} (G : sd_GL K E b xs Lx) (hs : sd_St32 Rel) (hR : Rel M N) (v1 : vp_in (x3 + (1 : Int32)) Lx) (v2 : vp_in (x3 + (2 : Int32)) Lx) (v3 : vp_in (x3 + (3 : Int32)) Lx) (v4 : vp_in (x3 + (4 : Int32)) Lx) (hk : ∀ M N : sd_Mem, Rel M N → sd_X K E b xs Lx Q M N 1798 [(0, .ref b), (1, .ref (E.2.2 0)), (2, .ref (E.2.2 100)), (3, .int x3)] []) : sd_X K E b xs Lx Q M N 1456 [(0, .ref b), (1, .ref (E.2.2 0)), (2, .ref (E.2.2 100)), (3, .int x3)] [] := by
  obtain ⟨q, q2, e1, e2, e3, e4⟩ := hs M N hR (xs (x3 + (1 : Int32)).toNatClampNeg) (xs (x3 + (2 : Int32)).toNatClampNeg) (xs (x3 + (3 : Int32)).toNatClampNeg) (xs (x3 + (4 : Int32)).toNatClampNeg)
  refine sd_xaload_n G 1 dL_law_1456 rfl rfl rfl (n' := 1457) ?_
  refine sd_xaload_n G 0 dL_law_1457 rfl rfl rfl (n' := 1458) ?_
  refine sd_xiload_n G 3 dL_law_1458 rfl rfl rfl (n' := 1459) ?_
  refine sd_xiconst G (v := 1) dL_law_1459 rfl rfl (n' := 1460) ?_
  refine sd_xiadd G dL_law_1460 rfl (n' := 1461) ?_
  refine sd_xsld G v1 dL_law_1461 rfl (n' := 1462) ?_
  refine sd_xaload_n G 0 dL_law_1462 rfl rfl rfl (n' := 1463) ?_
  refine sd_xiload_n G 3 dL_law_1463 rfl rfl rfl (n' := 1464) ?_
  refine sd_xiconst G (v := 2) dL_law_1464 rfl rfl (n' := 1465) ?_
  refine sd_xiadd G dL_law_1465 rfl (n' := 1466) ?_
  refine sd_xsld G v2 dL_law_1466 rfl (n' := 1467) ?_
  refine sd_xaload_n G 0 dL_law_1467 rfl rfl rfl (n' := 1468) ?_
  refine sd_xiload_n G 3 dL_law_1468 rfl rfl rfl (n' := 1469) ?_
  refine sd_xiconst G (v := 3) dL_law_1469 rfl rfl (n' := 1470) ?_
  refine sd_xiadd G dL_law_1470 rfl (n' := 1471) ?_
  refine sd_xsld G v3 dL_law_1471 rfl (n' := 1472) ?_
  refine sd_xaload_n G 0 dL_law_1472 rfl rfl rfl (n' := 1473) ?_
  refine sd_xiload_n G 3 dL_law_1473 rfl rfl rfl (n' := 1474) ?_
  refine sd_xiconst G (v := 4) dL_law_1474 rfl rfl (n' := 1475) ?_
  refine sd_xiadd G dL_law_1475 rfl (n' := 1476) ?_
  refine sd_xsld G v4 dL_law_1476 rfl (n' := 1477) ?_
  refine sd_xcallCI [.int (xs (x3 + (1 : Int32)).toNatClampNeg), .int (xs (x3 + (2 : Int32)).toNatClampNeg), .int (xs (x3 + (3 : Int32)).toNatClampNeg), .int (xs (x3 + (4 : Int32)).toNatClampNeg)] [] G (ct_X10_leftBy M (xs (x3 + (1 : Int32)).toNatClampNeg) (xs (x3 + (2 : Int32)).toNatClampNeg) (xs (x3 + (3 : Int32)).toNatClampNeg) (xs (x3 + (4 : Int32)).toNatClampNeg) e1) sd_lL_147 ⟨rfl, rfl, Nat.le_of_ble_eq_true rfl, Nat.le_of_ble_eq_true rfl⟩ (sd_e11 rfl) rfl rfl (Nat.le_of_ble_eq_true rfl) dL_law_1477 rfl (n' := 1480) ?_
  refine sd_xaload_n G 2 dL_law_1480 rfl rfl rfl (n' := 1481) ?_
  refine sd_xaload_n G 0 dL_law_1481 rfl rfl rfl (n' := 1482) ?_
  refine sd_xiload_n G 3 dL_law_1482 rfl rfl rfl (n' := 1483) ?_
  refine sd_xiconst G (v := 1) dL_law_1483 rfl rfl (n' := 1484) ?_
  refine sd_xiadd G dL_law_1484 rfl (n' := 1485) ?_
  refine sd_xsld G v1 dL_law_1485 rfl (n' := 1486) ?_
  refine sd_xaload_n G 0 dL_law_1486 rfl rfl rfl (n' := 1487) ?_
  refine sd_xiload_n G 3 dL_law_1487 rfl rfl rfl (n' := 1488) ?_
  refine sd_xiconst G (v := 2) dL_law_1488 rfl rfl (n' := 1489) ?_
  refine sd_xiadd G dL_law_1489 rfl (n' := 1490) ?_
  refine sd_xsld G v2 dL_law_1490 rfl (n' := 1491) ?_
  refine sd_xaload_n G 0 dL_law_1491 rfl rfl rfl (n' := 1492) ?_
  refine sd_xiload_n G 3 dL_law_1492 rfl rfl rfl (n' := 1493) ?_
  refine sd_xiconst G (v := 3) dL_law_1493 rfl rfl (n' := 1494) ?_
  refine sd_xiadd G dL_law_1494 rfl (n' := 1495) ?_
  refine sd_xsld G v3 dL_law_1495 rfl (n' := 1496) ?_
  refine sd_xaload_n G 0 dL_law_1496 rfl rfl rfl (n' := 1497) ?_
  refine sd_xiload_n G 3 dL_law_1497 rfl rfl rfl (n' := 1498) ?_
  refine sd_xiconst G (v := 4) dL_law_1498 rfl rfl (n' := 1499) ?_
  refine sd_xiadd G dL_law_1499 rfl (n' := 1500) ?_
  refine sd_xsld G v4 dL_law_1500 rfl (n' := 1501) ?_
  refine sd_xcallMI [.int (xs (x3 + (1 : Int32)).toNatClampNeg), .int (xs (x3 + (2 : Int32)).toNatClampNeg), .int (xs (x3 + (3 : Int32)).toNatClampNeg), .int (xs (x3 + (4 : Int32)).toNatClampNeg)] [.int q.1] G (ct_X11_leftBy N (xs (x3 + (1 : Int32)).toNatClampNeg) (xs (x3 + (2 : Int32)).toNatClampNeg) (xs (x3 + (3 : Int32)).toNatClampNeg) (xs (x3 + (4 : Int32)).toNatClampNeg) e2) sd_lL_150 ⟨rfl, rfl, Nat.le_of_ble_eq_true rfl, Nat.le_of_ble_eq_true rfl⟩ (sd_e12 rfl) rfl rfl (Nat.le_of_ble_eq_true rfl) dL_law_1501 rfl (n' := 1504) ?_
  refine sd_xeq G (tgt := 1798) dL_law_1504 rfl e3 ?_
  exact hk _ _ e4
set_option maxRecDepth 100000 in
theorem sd_law33 {Rel : sd_Mem → sd_Mem → Prop} {K : sd_K} {E : sd_Env} {b : Nat} {xs : Nat → Int32} {Lx : Nat} {Q : State → Prop} {M N : sd_Mem} {x3 : Int32} (G : sd_GL K E b xs Lx) (hs : sd_St33 Rel) (hR : Rel M N) (v1 : vp_in (x3 + (1 : Int32)) Lx) (v2 : vp_in (x3 + (2 : Int32)) Lx) (v3 : vp_in (x3 + (3 : Int32)) Lx) (hk : ∀ M N : sd_Mem, Rel M N → sd_X K E b xs Lx Q M N 1798 [(0, .ref b), (1, .ref (E.2.2 0)), (2, .ref (E.2.2 100)), (3, .int x3)] []) : sd_X K E b xs Lx Q M N 1509 [(0, .ref b), (1, .ref (E.2.2 0)), (2, .ref (E.2.2 100)), (3, .int x3)] [] := by
  obtain ⟨q, q2, e1, e2, e3, e4⟩ := hs M N hR (xs (x3 + (1 : Int32)).toNatClampNeg) (xs (x3 + (2 : Int32)).toNatClampNeg) (xs (x3 + (3 : Int32)).toNatClampNeg)
  refine sd_xaload_n G 1 dL_law_1509 rfl rfl rfl (n' := 1510) ?_
  refine sd_xaload_n G 0 dL_law_1510 rfl rfl rfl (n' := 1511) ?_
  refine sd_xiload_n G 3 dL_law_1511 rfl rfl rfl (n' := 1512) ?_
  refine sd_xiconst G (v := 1) dL_law_1512 rfl rfl (n' := 1513) ?_
  refine sd_xiadd G dL_law_1513 rfl (n' := 1514) ?_
  refine sd_xsld G v1 dL_law_1514 rfl (n' := 1515) ?_
  refine sd_xaload_n G 0 dL_law_1515 rfl rfl rfl (n' := 1516) ?_
  refine sd_xiload_n G 3 dL_law_1516 rfl rfl rfl (n' := 1517) ?_
  refine sd_xiconst G (v := 2) dL_law_1517 rfl rfl (n' := 1518) ?_
  refine sd_xiadd G dL_law_1518 rfl (n' := 1519) ?_
  refine sd_xsld G v2 dL_law_1519 rfl (n' := 1520) ?_
  refine sd_xaload_n G 0 dL_law_1520 rfl rfl rfl (n' := 1521) ?_
  refine sd_xiload_n G 3 dL_law_1521 rfl rfl rfl (n' := 1522) ?_
  refine sd_xiconst G (v := 3) dL_law_1522 rfl rfl (n' := 1523) ?_
  refine sd_xiadd G dL_law_1523 rfl (n' := 1524) ?_
  refine sd_xsld G v3 dL_law_1524 rfl (n' := 1525) ?_
  refine sd_xcallCI [.int (xs (x3 + (1 : Int32)).toNatClampNeg), .int (xs (x3 + (2 : Int32)).toNatClampNeg), .int (xs (x3 + (3 : Int32)).toNatClampNeg)] [] G (ct_X10_gone M (xs (x3 + (1 : Int32)).toNatClampNeg) (xs (x3 + (2 : Int32)).toNatClampNeg) (xs (x3 + (3 : Int32)).toNatClampNeg) e1) sd_lL_151 ⟨rfl, rfl, Nat.le_of_ble_eq_true rfl, Nat.le_of_ble_eq_true rfl⟩ (sd_e11 rfl) rfl rfl (Nat.le_of_ble_eq_true rfl) dL_law_1525 rfl (n' := 1528) ?_
  refine sd_xaload_n G 2 dL_law_1528 rfl rfl rfl (n' := 1529) ?_
  refine sd_xaload_n G 0 dL_law_1529 rfl rfl rfl (n' := 1530) ?_
  refine sd_xiload_n G 3 dL_law_1530 rfl rfl rfl (n' := 1531) ?_
  refine sd_xiconst G (v := 1) dL_law_1531 rfl rfl (n' := 1532) ?_
  refine sd_xiadd G dL_law_1532 rfl (n' := 1533) ?_
  refine sd_xsld G v1 dL_law_1533 rfl (n' := 1534) ?_
  refine sd_xaload_n G 0 dL_law_1534 rfl rfl rfl (n' := 1535) ?_
  refine sd_xiload_n G 3 dL_law_1535 rfl rfl rfl (n' := 1536) ?_
  refine sd_xiconst G (v := 2) dL_law_1536 rfl rfl (n' := 1537) ?_
  refine sd_xiadd G dL_law_1537 rfl (n' := 1538) ?_
  refine sd_xsld G v2 dL_law_1538 rfl (n' := 1539) ?_
  refine sd_xaload_n G 0 dL_law_1539 rfl rfl rfl (n' := 1540) ?_
  refine sd_xiload_n G 3 dL_law_1540 rfl rfl rfl (n' := 1541) ?_
  refine sd_xiconst G (v := 3) dL_law_1541 rfl rfl (n' := 1542) ?_
  refine sd_xiadd G dL_law_1542 rfl (n' := 1543) ?_
  refine sd_xsld G v3 dL_law_1543 rfl (n' := 1544) ?_
  refine sd_xcallMI [.int (xs (x3 + (1 : Int32)).toNatClampNeg), .int (xs (x3 + (2 : Int32)).toNatClampNeg), .int (xs (x3 + (3 : Int32)).toNatClampNeg)] [.int q.1] G (ct_X11_gone N (xs (x3 + (1 : Int32)).toNatClampNeg) (xs (x3 + (2 : Int32)).toNatClampNeg) (xs (x3 + (3 : Int32)).toNatClampNeg) e2) sd_lL_154 ⟨rfl, rfl, Nat.le_of_ble_eq_true rfl, Nat.le_of_ble_eq_true rfl⟩ (sd_e12 rfl) rfl rfl (Nat.le_of_ble_eq_true rfl) dL_law_1544 rfl (n' := 1547) ?_
  refine sd_xeq G (tgt := 1798) dL_law_1547 rfl e3 ?_
  exact hk _ _ e4
set_option maxRecDepth 100000 in
theorem sd_law34 {Rel : sd_Mem → sd_Mem → Prop} {K : sd_K} {E : sd_Env} {b : Nat} {xs : Nat → Int32} {Lx : Nat} {Q : State → Prop} {M N : sd_Mem} {x3 : Int32} (G : sd_GL K E b xs Lx) (hs : sd_St34 Rel) (hR : Rel M N) (v1 : vp_in (x3 + (1 : Int32)) Lx) (v2 : vp_in (x3 + (2 : Int32)) Lx) (hk : ∀ M N : sd_Mem, Rel M N → sd_X K E b xs Lx Q M N 1798 [(0, .ref b), (1, .ref (E.2.2 0)), (2, .ref (E.2.2 100)), (3, .int x3)] []) : sd_X K E b xs Lx Q M N 1552 [(0, .ref b), (1, .ref (E.2.2 0)), (2, .ref (E.2.2 100)), (3, .int x3)] [] := by
  obtain ⟨q, q2, e1, e2, e3, e4⟩ := hs M N hR (xs (x3 + (1 : Int32)).toNatClampNeg) (xs (x3 + (2 : Int32)).toNatClampNeg)
  refine sd_xaload_n G 1 dL_law_1552 rfl rfl rfl (n' := 1553) ?_
  refine sd_xaload_n G 0 dL_law_1553 rfl rfl rfl (n' := 1554) ?_
  refine sd_xiload_n G 3 dL_law_1554 rfl rfl rfl (n' := 1555) ?_
  refine sd_xiconst G (v := 1) dL_law_1555 rfl rfl (n' := 1556) ?_
  refine sd_xiadd G dL_law_1556 rfl (n' := 1557) ?_
  refine sd_xsld G v1 dL_law_1557 rfl (n' := 1558) ?_
  refine sd_xaload_n G 0 dL_law_1558 rfl rfl rfl (n' := 1559) ?_
  refine sd_xiload_n G 3 dL_law_1559 rfl rfl rfl (n' := 1560) ?_
  refine sd_xiconst G (v := 2) dL_law_1560 rfl rfl (n' := 1561) ?_
  refine sd_xiadd G dL_law_1561 rfl (n' := 1562) ?_
  refine sd_xsld G v2 dL_law_1562 rfl (n' := 1563) ?_
  refine sd_xcallCI [.int (xs (x3 + (1 : Int32)).toNatClampNeg), .int (xs (x3 + (2 : Int32)).toNatClampNeg)] [] G (ct_X10_all M (xs (x3 + (1 : Int32)).toNatClampNeg) (xs (x3 + (2 : Int32)).toNatClampNeg) e1) sd_lL_155 ⟨rfl, rfl, Nat.le_of_ble_eq_true rfl, Nat.le_of_ble_eq_true rfl⟩ (sd_e11 rfl) rfl rfl (Nat.le_of_ble_eq_true rfl) dL_law_1563 rfl (n' := 1566) ?_
  refine sd_xaload_n G 2 dL_law_1566 rfl rfl rfl (n' := 1567) ?_
  refine sd_xaload_n G 0 dL_law_1567 rfl rfl rfl (n' := 1568) ?_
  refine sd_xiload_n G 3 dL_law_1568 rfl rfl rfl (n' := 1569) ?_
  refine sd_xiconst G (v := 1) dL_law_1569 rfl rfl (n' := 1570) ?_
  refine sd_xiadd G dL_law_1570 rfl (n' := 1571) ?_
  refine sd_xsld G v1 dL_law_1571 rfl (n' := 1572) ?_
  refine sd_xaload_n G 0 dL_law_1572 rfl rfl rfl (n' := 1573) ?_
  refine sd_xiload_n G 3 dL_law_1573 rfl rfl rfl (n' := 1574) ?_
  refine sd_xiconst G (v := 2) dL_law_1574 rfl rfl (n' := 1575) ?_
  refine sd_xiadd G dL_law_1575 rfl (n' := 1576) ?_
  refine sd_xsld G v2 dL_law_1576 rfl (n' := 1577) ?_
  refine sd_xcallMI [.int (xs (x3 + (1 : Int32)).toNatClampNeg), .int (xs (x3 + (2 : Int32)).toNatClampNeg)] [.int q.1] G (ct_X11_all N (xs (x3 + (1 : Int32)).toNatClampNeg) (xs (x3 + (2 : Int32)).toNatClampNeg) e2) sd_lL_158 ⟨rfl, rfl, Nat.le_of_ble_eq_true rfl, Nat.le_of_ble_eq_true rfl⟩ (sd_e12 rfl) rfl rfl (Nat.le_of_ble_eq_true rfl) dL_law_1577 rfl (n' := 1580) ?_
  refine sd_xeq G (tgt := 1798) dL_law_1580 rfl e3 ?_
  exact hk _ _ e4
set_option maxRecDepth 100000 in
theorem sd_law35 {Rel : sd_Mem → sd_Mem → Prop} {K : sd_K} {E : sd_Env} {b : Nat} {xs : Nat → Int32} {Lx : Nat} {Q : State → Prop} {M N : sd_Mem} {x3 : Int32} (G : sd_GL K E b xs Lx) (hs : sd_St35 Rel) (hR : Rel M N) (v1 : vp_in (x3 + (1 : Int32)) Lx) (hk : ∀ M N : sd_Mem, Rel M N → sd_X K E b xs Lx Q M N 1798 [(0, .ref b), (1, .ref (E.2.2 0)), (2, .ref (E.2.2 100)), (3, .int x3)] []) : sd_X K E b xs Lx Q M N 1585 [(0, .ref b), (1, .ref (E.2.2 0)), (2, .ref (E.2.2 100)), (3, .int x3)] [] := by
  obtain ⟨q, q2, e1, e2, e3, e4⟩ := hs M N hR (xs (x3 + (1 : Int32)).toNatClampNeg)
  refine sd_xaload_n G 1 dL_law_1585 rfl rfl rfl (n' := 1586) ?_
  refine sd_xaload_n G 0 dL_law_1586 rfl rfl rfl (n' := 1587) ?_
  refine sd_xiload_n G 3 dL_law_1587 rfl rfl rfl (n' := 1588) ?_
  refine sd_xiconst G (v := 1) dL_law_1588 rfl rfl (n' := 1589) ?_
  refine sd_xiadd G dL_law_1589 rfl (n' := 1590) ?_
  refine sd_xsld G v1 dL_law_1590 rfl (n' := 1591) ?_
  refine sd_xcallCI [.int (xs (x3 + (1 : Int32)).toNatClampNeg)] [] G (ct_X10_turns M (xs (x3 + (1 : Int32)).toNatClampNeg) e1) sd_lL_159 ⟨rfl, rfl, Nat.le_of_ble_eq_true rfl, Nat.le_of_ble_eq_true rfl⟩ (sd_e11 rfl) rfl rfl (Nat.le_of_ble_eq_true rfl) dL_law_1591 rfl (n' := 1594) ?_
  refine sd_xaload_n G 2 dL_law_1594 rfl rfl rfl (n' := 1595) ?_
  refine sd_xaload_n G 0 dL_law_1595 rfl rfl rfl (n' := 1596) ?_
  refine sd_xiload_n G 3 dL_law_1596 rfl rfl rfl (n' := 1597) ?_
  refine sd_xiconst G (v := 1) dL_law_1597 rfl rfl (n' := 1598) ?_
  refine sd_xiadd G dL_law_1598 rfl (n' := 1599) ?_
  refine sd_xsld G v1 dL_law_1599 rfl (n' := 1600) ?_
  refine sd_xcallMI [.int (xs (x3 + (1 : Int32)).toNatClampNeg)] [.int q.1] G (ct_X11_turns N (xs (x3 + (1 : Int32)).toNatClampNeg) e2) sd_lL_162 ⟨rfl, rfl, Nat.le_of_ble_eq_true rfl, Nat.le_of_ble_eq_true rfl⟩ (sd_e12 rfl) rfl rfl (Nat.le_of_ble_eq_true rfl) dL_law_1600 rfl (n' := 1603) ?_
  refine sd_xeq G (tgt := 1798) dL_law_1603 rfl e3 ?_
  exact hk _ _ e4
set_option maxRecDepth 100000 in
theorem sd_law36 {Rel : sd_Mem → sd_Mem → Prop} {K : sd_K} {E : sd_Env} {b : Nat} {xs : Nat → Int32} {Lx : Nat} {Q : State → Prop} {M N : sd_Mem} {x3 : Int32} (G : sd_GL K E b xs Lx) (hs : sd_St36 Rel) (hR : Rel M N) (v1 : vp_in (x3 + (1 : Int32)) Lx) (v2 : vp_in (x3 + (2 : Int32)) Lx) (hk : ∀ M N : sd_Mem, Rel M N → sd_X K E b xs Lx Q M N 1798 [(0, .ref b), (1, .ref (E.2.2 0)), (2, .ref (E.2.2 100)), (3, .int x3)] []) : sd_X K E b xs Lx Q M N 1608 [(0, .ref b), (1, .ref (E.2.2 0)), (2, .ref (E.2.2 100)), (3, .int x3)] [] := by
  obtain ⟨q, q2, e1, e2, e3, e4⟩ := hs M N hR (xs (x3 + (1 : Int32)).toNatClampNeg) (xs (x3 + (2 : Int32)).toNatClampNeg)
  refine sd_xaload_n G 1 dL_law_1608 rfl rfl rfl (n' := 1609) ?_
  refine sd_xaload_n G 0 dL_law_1609 rfl rfl rfl (n' := 1610) ?_
  refine sd_xiload_n G 3 dL_law_1610 rfl rfl rfl (n' := 1611) ?_
  refine sd_xiconst G (v := 1) dL_law_1611 rfl rfl (n' := 1612) ?_
  refine sd_xiadd G dL_law_1612 rfl (n' := 1613) ?_
  refine sd_xsld G v1 dL_law_1613 rfl (n' := 1614) ?_
  refine sd_xaload_n G 0 dL_law_1614 rfl rfl rfl (n' := 1615) ?_
  refine sd_xiload_n G 3 dL_law_1615 rfl rfl rfl (n' := 1616) ?_
  refine sd_xiconst G (v := 2) dL_law_1616 rfl rfl (n' := 1617) ?_
  refine sd_xiadd G dL_law_1617 rfl (n' := 1618) ?_
  refine sd_xsld G v2 dL_law_1618 rfl (n' := 1619) ?_
  refine sd_xcallCI [.int (xs (x3 + (1 : Int32)).toNatClampNeg), .int (xs (x3 + (2 : Int32)).toNatClampNeg)] [] G (ct_X10_fund M (xs (x3 + (1 : Int32)).toNatClampNeg) (xs (x3 + (2 : Int32)).toNatClampNeg) e1) sd_lL_163 ⟨rfl, rfl, Nat.le_of_ble_eq_true rfl, Nat.le_of_ble_eq_true rfl⟩ (sd_e11 rfl) rfl rfl (Nat.le_of_ble_eq_true rfl) dL_law_1619 rfl (n' := 1622) ?_
  refine sd_xaload_n G 2 dL_law_1622 rfl rfl rfl (n' := 1623) ?_
  refine sd_xaload_n G 0 dL_law_1623 rfl rfl rfl (n' := 1624) ?_
  refine sd_xiload_n G 3 dL_law_1624 rfl rfl rfl (n' := 1625) ?_
  refine sd_xiconst G (v := 1) dL_law_1625 rfl rfl (n' := 1626) ?_
  refine sd_xiadd G dL_law_1626 rfl (n' := 1627) ?_
  refine sd_xsld G v1 dL_law_1627 rfl (n' := 1628) ?_
  refine sd_xaload_n G 0 dL_law_1628 rfl rfl rfl (n' := 1629) ?_
  refine sd_xiload_n G 3 dL_law_1629 rfl rfl rfl (n' := 1630) ?_
  refine sd_xiconst G (v := 2) dL_law_1630 rfl rfl (n' := 1631) ?_
  refine sd_xiadd G dL_law_1631 rfl (n' := 1632) ?_
  refine sd_xsld G v2 dL_law_1632 rfl (n' := 1633) ?_
  refine sd_xcallMI [.int (xs (x3 + (1 : Int32)).toNatClampNeg), .int (xs (x3 + (2 : Int32)).toNatClampNeg)] [.int q.1] G (ct_X11_fund N (xs (x3 + (1 : Int32)).toNatClampNeg) (xs (x3 + (2 : Int32)).toNatClampNeg) e2) sd_lL_166 ⟨rfl, rfl, Nat.le_of_ble_eq_true rfl, Nat.le_of_ble_eq_true rfl⟩ (sd_e12 rfl) rfl rfl (Nat.le_of_ble_eq_true rfl) dL_law_1633 rfl (n' := 1636) ?_
  refine sd_xeq G (tgt := 1798) dL_law_1636 rfl e3 ?_
  exact hk _ _ e4
set_option maxRecDepth 100000 in
theorem sd_law37 {Rel : sd_Mem → sd_Mem → Prop} {K : sd_K} {E : sd_Env} {b : Nat} {xs : Nat → Int32} {Lx : Nat} {Q : State → Prop} {M N : sd_Mem} {x3 : Int32} (G : sd_GL K E b xs Lx) (hs : sd_St37 Rel) (hR : Rel M N) (v1 : vp_in (x3 + (1 : Int32)) Lx) (v2 : vp_in (x3 + (2 : Int32)) Lx) (v3 : vp_in (x3 + (3 : Int32)) Lx) (hk : ∀ M N : sd_Mem, Rel M N → sd_X K E b xs Lx Q M N 1798 [(0, .ref b), (1, .ref (E.2.2 0)), (2, .ref (E.2.2 100)), (3, .int x3)] []) : sd_X K E b xs Lx Q M N 1641 [(0, .ref b), (1, .ref (E.2.2 0)), (2, .ref (E.2.2 100)), (3, .int x3)] [] := by
  obtain ⟨q, q2, e1, e2, e3, e4⟩ := hs M N hR (xs (x3 + (1 : Int32)).toNatClampNeg) (xs (x3 + (2 : Int32)).toNatClampNeg) (xs (x3 + (3 : Int32)).toNatClampNeg)
  refine sd_xaload_n G 1 dL_law_1641 rfl rfl rfl (n' := 1642) ?_
  refine sd_xaload_n G 0 dL_law_1642 rfl rfl rfl (n' := 1643) ?_
  refine sd_xiload_n G 3 dL_law_1643 rfl rfl rfl (n' := 1644) ?_
  refine sd_xiconst G (v := 1) dL_law_1644 rfl rfl (n' := 1645) ?_
  refine sd_xiadd G dL_law_1645 rfl (n' := 1646) ?_
  refine sd_xsld G v1 dL_law_1646 rfl (n' := 1647) ?_
  refine sd_xaload_n G 0 dL_law_1647 rfl rfl rfl (n' := 1648) ?_
  refine sd_xiload_n G 3 dL_law_1648 rfl rfl rfl (n' := 1649) ?_
  refine sd_xiconst G (v := 2) dL_law_1649 rfl rfl (n' := 1650) ?_
  refine sd_xiadd G dL_law_1650 rfl (n' := 1651) ?_
  refine sd_xsld G v2 dL_law_1651 rfl (n' := 1652) ?_
  refine sd_xaload_n G 0 dL_law_1652 rfl rfl rfl (n' := 1653) ?_
  refine sd_xiload_n G 3 dL_law_1653 rfl rfl rfl (n' := 1654) ?_
  refine sd_xiconst G (v := 3) dL_law_1654 rfl rfl (n' := 1655) ?_
  refine sd_xiadd G dL_law_1655 rfl (n' := 1656) ?_
  refine sd_xsld G v3 dL_law_1656 rfl (n' := 1657) ?_
  refine sd_xcallCI [.int (xs (x3 + (1 : Int32)).toNatClampNeg), .int (xs (x3 + (2 : Int32)).toNatClampNeg), .int (xs (x3 + (3 : Int32)).toNatClampNeg)] [] G (ct_X10_pact M (xs (x3 + (1 : Int32)).toNatClampNeg) (xs (x3 + (2 : Int32)).toNatClampNeg) (xs (x3 + (3 : Int32)).toNatClampNeg) e1) sd_lL_167 ⟨rfl, rfl, Nat.le_of_ble_eq_true rfl, Nat.le_of_ble_eq_true rfl⟩ (sd_e11 rfl) rfl rfl (Nat.le_of_ble_eq_true rfl) dL_law_1657 rfl (n' := 1660) ?_
  refine sd_xaload_n G 2 dL_law_1660 rfl rfl rfl (n' := 1661) ?_
  refine sd_xaload_n G 0 dL_law_1661 rfl rfl rfl (n' := 1662) ?_
  refine sd_xiload_n G 3 dL_law_1662 rfl rfl rfl (n' := 1663) ?_
  refine sd_xiconst G (v := 1) dL_law_1663 rfl rfl (n' := 1664) ?_
  refine sd_xiadd G dL_law_1664 rfl (n' := 1665) ?_
  refine sd_xsld G v1 dL_law_1665 rfl (n' := 1666) ?_
  refine sd_xaload_n G 0 dL_law_1666 rfl rfl rfl (n' := 1667) ?_
  refine sd_xiload_n G 3 dL_law_1667 rfl rfl rfl (n' := 1668) ?_
  refine sd_xiconst G (v := 2) dL_law_1668 rfl rfl (n' := 1669) ?_
  refine sd_xiadd G dL_law_1669 rfl (n' := 1670) ?_
  refine sd_xsld G v2 dL_law_1670 rfl (n' := 1671) ?_
  refine sd_xaload_n G 0 dL_law_1671 rfl rfl rfl (n' := 1672) ?_
  refine sd_xiload_n G 3 dL_law_1672 rfl rfl rfl (n' := 1673) ?_
  refine sd_xiconst G (v := 3) dL_law_1673 rfl rfl (n' := 1674) ?_
  refine sd_xiadd G dL_law_1674 rfl (n' := 1675) ?_
  refine sd_xsld G v3 dL_law_1675 rfl (n' := 1676) ?_
  refine sd_xcallMI [.int (xs (x3 + (1 : Int32)).toNatClampNeg), .int (xs (x3 + (2 : Int32)).toNatClampNeg), .int (xs (x3 + (3 : Int32)).toNatClampNeg)] [.int q] G (ct_X11_pact N (xs (x3 + (1 : Int32)).toNatClampNeg) (xs (x3 + (2 : Int32)).toNatClampNeg) (xs (x3 + (3 : Int32)).toNatClampNeg) e2) sd_lL_170 ⟨rfl, rfl, Nat.le_of_ble_eq_true rfl, Nat.le_of_ble_eq_true rfl⟩ (sd_e12 rfl) rfl rfl (Nat.le_of_ble_eq_true rfl) dL_law_1676 rfl (n' := 1679) ?_
  refine sd_xeq G (tgt := 1798) dL_law_1679 rfl e3 ?_
  exact hk _ _ e4
set_option maxRecDepth 100000 in
theorem sd_law38 {Rel : sd_Mem → sd_Mem → Prop} {K : sd_K} {E : sd_Env} {b : Nat} {xs : Nat → Int32} {Lx : Nat} {Q : State → Prop} {M N : sd_Mem} {x3 : Int32} (G : sd_GL K E b xs Lx) (hs : sd_St38 Rel) (hR : Rel M N) (hk : ∀ M N : sd_Mem, Rel M N → sd_X K E b xs Lx Q M N 1798 [(0, .ref b), (1, .ref (E.2.2 0)), (2, .ref (E.2.2 100)), (3, .int x3)] []) : sd_X K E b xs Lx Q M N 1684 [(0, .ref b), (1, .ref (E.2.2 0)), (2, .ref (E.2.2 100)), (3, .int x3)] [] := by
  obtain ⟨q, q2, e1, e2, e3, e4⟩ := hs M N hR 
  refine sd_xaload_n G 1 dL_law_1684 rfl rfl rfl (n' := 1685) ?_
  refine sd_xcallCI [] [] G (ct_X10_asked M  e1) sd_lL_171 ⟨rfl, rfl, Nat.le_of_ble_eq_true rfl, Nat.le_of_ble_eq_true rfl⟩ (sd_e11 rfl) rfl rfl (Nat.le_of_ble_eq_true rfl) dL_law_1685 rfl (n' := 1688) ?_
  refine sd_xaload_n G 2 dL_law_1688 rfl rfl rfl (n' := 1689) ?_
  refine sd_xcallMI [] [.int q] G (ct_X11_asked N  e2) sd_lL_175 ⟨rfl, rfl, Nat.le_of_ble_eq_true rfl, Nat.le_of_ble_eq_true rfl⟩ (sd_e12 rfl) rfl rfl (Nat.le_of_ble_eq_true rfl) dL_law_1689 rfl (n' := 1692) ?_
  refine sd_xeq G (tgt := 1798) dL_law_1692 rfl e3 ?_
  exact hk _ _ e4
set_option maxRecDepth 100000 in
theorem sd_law39 {Rel : sd_Mem → sd_Mem → Prop} {K : sd_K} {E : sd_Env} {b : Nat} {xs : Nat → Int32} {Lx : Nat} {Q : State → Prop} {M N : sd_Mem} {x3 : Int32} (G : sd_GL K E b xs Lx) (hs : sd_St39 Rel) (hR : Rel M N) (hk : ∀ M N : sd_Mem, Rel M N → sd_X K E b xs Lx Q M N 1798 [(0, .ref b), (1, .ref (E.2.2 0)), (2, .ref (E.2.2 100)), (3, .int x3)] []) : sd_X K E b xs Lx Q M N 1697 [(0, .ref b), (1, .ref (E.2.2 0)), (2, .ref (E.2.2 100)), (3, .int x3)] [] := by
  obtain ⟨q, q2, e1, e2, e3, e4⟩ := hs M N hR 
  refine sd_xaload_n G 1 dL_law_1697 rfl rfl rfl (n' := 1698) ?_
  refine sd_xcallCL [] [] G (ct_X10_upper M  e1) sd_lL_176 ⟨rfl, rfl, Nat.le_of_ble_eq_true rfl, Nat.le_of_ble_eq_true rfl⟩ (sd_e11 rfl) rfl rfl (Nat.le_of_ble_eq_true rfl) dL_law_1698 rfl (n' := 1701) ?_
  refine sd_xaload_n G 2 dL_law_1701 rfl rfl rfl (n' := 1702) ?_
  refine sd_xcallML [] [.long q] G (ct_X11_upper N  e2) sd_lL_180 ⟨rfl, rfl, Nat.le_of_ble_eq_true rfl, Nat.le_of_ble_eq_true rfl⟩ (sd_e12 rfl) rfl rfl (Nat.le_of_ble_eq_true rfl) dL_law_1702 rfl (n' := 1705) ?_
  refine sd_xeqL G (tgt := 1798) dL_law_1705 dL_law_1706 rfl e3 ?_
  exact hk _ _ e4
set_option maxRecDepth 100000 in
theorem sd_law40 {Rel : sd_Mem → sd_Mem → Prop} {K : sd_K} {E : sd_Env} {b : Nat} {xs : Nat → Int32} {Lx : Nat} {Q : State → Prop} {M N : sd_Mem} {x3 : Int32} (G : sd_GL K E b xs Lx) (hs : sd_St40 Rel) (hR : Rel M N) (hk : ∀ M N : sd_Mem, Rel M N → sd_X K E b xs Lx Q M N 1798 [(0, .ref b), (1, .ref (E.2.2 0)), (2, .ref (E.2.2 100)), (3, .int x3)] []) : sd_X K E b xs Lx Q M N 1711 [(0, .ref b), (1, .ref (E.2.2 0)), (2, .ref (E.2.2 100)), (3, .int x3)] [] := by
  obtain ⟨q, q2, e1, e2, e3, e4⟩ := hs M N hR 
  refine sd_xaload_n G 1 dL_law_1711 rfl rfl rfl (n' := 1712) ?_
  refine sd_xcallCL [] [] G (ct_X10_lower M  e1) sd_lL_181 ⟨rfl, rfl, Nat.le_of_ble_eq_true rfl, Nat.le_of_ble_eq_true rfl⟩ (sd_e11 rfl) rfl rfl (Nat.le_of_ble_eq_true rfl) dL_law_1712 rfl (n' := 1715) ?_
  refine sd_xaload_n G 2 dL_law_1715 rfl rfl rfl (n' := 1716) ?_
  refine sd_xcallML [] [.long q] G (ct_X11_lower N  e2) sd_lL_184 ⟨rfl, rfl, Nat.le_of_ble_eq_true rfl, Nat.le_of_ble_eq_true rfl⟩ (sd_e12 rfl) rfl rfl (Nat.le_of_ble_eq_true rfl) dL_law_1716 rfl (n' := 1719) ?_
  refine sd_xeqL G (tgt := 1798) dL_law_1719 dL_law_1720 rfl e3 ?_
  exact hk _ _ e4
set_option maxRecDepth 100000 in
theorem sd_law41 {Rel : sd_Mem → sd_Mem → Prop} {K : sd_K} {E : sd_Env} {b : Nat} {xs : Nat → Int32} {Lx : Nat} {Q : State → Prop} {M N : sd_Mem} {x3 : Int32} (G : sd_GL K E b xs Lx) (hs : sd_St41 Rel) (hR : Rel M N) (v1 : vp_in (x3 + (1 : Int32)) Lx) (hk : ∀ M N : sd_Mem, Rel M N → sd_X K E b xs Lx Q M N 1798 [(0, .ref b), (1, .ref (E.2.2 0)), (2, .ref (E.2.2 100)), (3, .int x3)] []) : sd_X K E b xs Lx Q M N 1725 [(0, .ref b), (1, .ref (E.2.2 0)), (2, .ref (E.2.2 100)), (3, .int x3)] [] := by
  obtain ⟨q, q2, e1, e2, e3, e4⟩ := hs M N hR (xs (x3 + (1 : Int32)).toNatClampNeg)
  refine sd_xaload_n G 1 dL_law_1725 rfl rfl rfl (n' := 1726) ?_
  refine sd_xaload_n G 0 dL_law_1726 rfl rfl rfl (n' := 1727) ?_
  refine sd_xiload_n G 3 dL_law_1727 rfl rfl rfl (n' := 1728) ?_
  refine sd_xiconst G (v := 1) dL_law_1728 rfl rfl (n' := 1729) ?_
  refine sd_xiadd G dL_law_1729 rfl (n' := 1730) ?_
  refine sd_xsld G v1 dL_law_1730 rfl (n' := 1731) ?_
  refine sd_xcallCI [.int (xs (x3 + (1 : Int32)).toNatClampNeg)] [] G (ct_X10_count M (xs (x3 + (1 : Int32)).toNatClampNeg) e1) sd_lL_185 ⟨rfl, rfl, Nat.le_of_ble_eq_true rfl, Nat.le_of_ble_eq_true rfl⟩ (sd_e11 rfl) rfl rfl (Nat.le_of_ble_eq_true rfl) dL_law_1731 rfl (n' := 1734) ?_
  refine sd_xaload_n G 2 dL_law_1734 rfl rfl rfl (n' := 1735) ?_
  refine sd_xaload_n G 0 dL_law_1735 rfl rfl rfl (n' := 1736) ?_
  refine sd_xiload_n G 3 dL_law_1736 rfl rfl rfl (n' := 1737) ?_
  refine sd_xiconst G (v := 1) dL_law_1737 rfl rfl (n' := 1738) ?_
  refine sd_xiadd G dL_law_1738 rfl (n' := 1739) ?_
  refine sd_xsld G v1 dL_law_1739 rfl (n' := 1740) ?_
  refine sd_xcallMI [.int (xs (x3 + (1 : Int32)).toNatClampNeg)] [.int q] G (ct_X11_count N (xs (x3 + (1 : Int32)).toNatClampNeg) e2) sd_lL_188 ⟨rfl, rfl, Nat.le_of_ble_eq_true rfl, Nat.le_of_ble_eq_true rfl⟩ (sd_e12 rfl) rfl rfl (Nat.le_of_ble_eq_true rfl) dL_law_1740 rfl (n' := 1743) ?_
  refine sd_xeq G (tgt := 1798) dL_law_1743 rfl e3 ?_
  exact hk _ _ e4
set_option maxRecDepth 100000 in
theorem sd_law42 {Rel : sd_Mem → sd_Mem → Prop} {K : sd_K} {E : sd_Env} {b : Nat} {xs : Nat → Int32} {Lx : Nat} {Q : State → Prop} {M N : sd_Mem} {x3 : Int32} (G : sd_GL K E b xs Lx) (hs : sd_St42 Rel) (hR : Rel M N) (hk : ∀ M N : sd_Mem, Rel M N → sd_X K E b xs Lx Q M N 1798 [(0, .ref b), (1, .ref (E.2.2 0)), (2, .ref (E.2.2 100)), (3, .int x3)] []) : sd_X K E b xs Lx Q M N 1748 [(0, .ref b), (1, .ref (E.2.2 0)), (2, .ref (E.2.2 100)), (3, .int x3)] [] := by
  obtain ⟨q, q2, e1, e2, e3, e4⟩ := hs M N hR 
  refine sd_xaload_n G 1 dL_law_1748 rfl rfl rfl (n' := 1749) ?_
  refine sd_xcallCI [] [] G (ct_X10_finding M  e1) sd_lL_189 ⟨rfl, rfl, Nat.le_of_ble_eq_true rfl, Nat.le_of_ble_eq_true rfl⟩ (sd_e11 rfl) rfl rfl (Nat.le_of_ble_eq_true rfl) dL_law_1749 rfl (n' := 1752) ?_
  refine sd_xaload_n G 2 dL_law_1752 rfl rfl rfl (n' := 1753) ?_
  refine sd_xcallMI [] [.int q] G (ct_X11_finding N  e2) sd_lL_192 ⟨rfl, rfl, Nat.le_of_ble_eq_true rfl, Nat.le_of_ble_eq_true rfl⟩ (sd_e12 rfl) rfl rfl (Nat.le_of_ble_eq_true rfl) dL_law_1753 rfl (n' := 1756) ?_
  refine sd_xeq G (tgt := 1798) dL_law_1756 rfl e3 ?_
  exact hk _ _ e4
set_option maxRecDepth 100000 in
theorem sd_law43 {Rel : sd_Mem → sd_Mem → Prop} {K : sd_K} {E : sd_Env} {b : Nat} {xs : Nat → Int32} {Lx : Nat} {Q : State → Prop} {M N : sd_Mem} {x3 : Int32} (G : sd_GL K E b xs Lx) (hs : sd_St43 Rel) (hR : Rel M N) (v1 : vp_in (x3 + (1 : Int32)) Lx) (hk : ∀ M N : sd_Mem, Rel M N → sd_X K E b xs Lx Q M N 1798 [(0, .ref b), (1, .ref (E.2.2 0)), (2, .ref (E.2.2 100)), (3, .int x3)] []) : sd_X K E b xs Lx Q M N 1761 [(0, .ref b), (1, .ref (E.2.2 0)), (2, .ref (E.2.2 100)), (3, .int x3)] [] := by
  obtain ⟨q, q2, e1, e2, e3, e4⟩ := hs M N hR (xs (x3 + (1 : Int32)).toNatClampNeg)
  refine sd_xaload_n G 1 dL_law_1761 rfl rfl rfl (n' := 1762) ?_
  refine sd_xaload_n G 0 dL_law_1762 rfl rfl rfl (n' := 1763) ?_
  refine sd_xiload_n G 3 dL_law_1763 rfl rfl rfl (n' := 1764) ?_
  refine sd_xiconst G (v := 1) dL_law_1764 rfl rfl (n' := 1765) ?_
  refine sd_xiadd G dL_law_1765 rfl (n' := 1766) ?_
  refine sd_xsld G v1 dL_law_1766 rfl (n' := 1767) ?_
  refine sd_xcallCI [.int (xs (x3 + (1 : Int32)).toNatClampNeg)] [] G (ct_X10_findings M (xs (x3 + (1 : Int32)).toNatClampNeg) e1) sd_lL_193 ⟨rfl, rfl, Nat.le_of_ble_eq_true rfl, Nat.le_of_ble_eq_true rfl⟩ (sd_e11 rfl) rfl rfl (Nat.le_of_ble_eq_true rfl) dL_law_1767 rfl (n' := 1770) ?_
  refine sd_xaload_n G 2 dL_law_1770 rfl rfl rfl (n' := 1771) ?_
  refine sd_xaload_n G 0 dL_law_1771 rfl rfl rfl (n' := 1772) ?_
  refine sd_xiload_n G 3 dL_law_1772 rfl rfl rfl (n' := 1773) ?_
  refine sd_xiconst G (v := 1) dL_law_1773 rfl rfl (n' := 1774) ?_
  refine sd_xiadd G dL_law_1774 rfl (n' := 1775) ?_
  refine sd_xsld G v1 dL_law_1775 rfl (n' := 1776) ?_
  refine sd_xcallMI [.int (xs (x3 + (1 : Int32)).toNatClampNeg)] [.int q] G (ct_X11_findings N (xs (x3 + (1 : Int32)).toNatClampNeg) e2) sd_lL_196 ⟨rfl, rfl, Nat.le_of_ble_eq_true rfl, Nat.le_of_ble_eq_true rfl⟩ (sd_e12 rfl) rfl rfl (Nat.le_of_ble_eq_true rfl) dL_law_1776 rfl (n' := 1779) ?_
  refine sd_xeq G (tgt := 1798) dL_law_1779 rfl e3 ?_
  exact hk _ _ e4
set_option maxRecDepth 100000 in
theorem sd_law44 {Rel : sd_Mem → sd_Mem → Prop} {K : sd_K} {E : sd_Env} {b : Nat} {xs : Nat → Int32} {Lx : Nat} {Q : State → Prop} {M N : sd_Mem} {x3 : Int32} (G : sd_GL K E b xs Lx) (hs : sd_St44 Rel) (hR : Rel M N) (hk : ∀ M N : sd_Mem, Rel M N → sd_X K E b xs Lx Q M N 1798 [(0, .ref b), (1, .ref (E.2.2 0)), (2, .ref (E.2.2 100)), (3, .int x3)] []) : sd_X K E b xs Lx Q M N 1784 [(0, .ref b), (1, .ref (E.2.2 0)), (2, .ref (E.2.2 100)), (3, .int x3)] [] := by
  obtain ⟨q, q2, e1, e2, e3, e4⟩ := hs M N hR 
  refine sd_xaload_n G 1 dL_law_1784 rfl rfl rfl (n' := 1785) ?_
  refine sd_xcallCL [] [] G (ct_X10_digest M  e1) sd_lL_197 ⟨rfl, rfl, Nat.le_of_ble_eq_true rfl, Nat.le_of_ble_eq_true rfl⟩ (sd_e11 rfl) rfl rfl (Nat.le_of_ble_eq_true rfl) dL_law_1785 rfl (n' := 1788) ?_
  refine sd_xaload_n G 2 dL_law_1788 rfl rfl rfl (n' := 1789) ?_
  refine sd_xcallML [] [.long q] G (ct_X11_digest N  e2) sd_lL_200 ⟨rfl, rfl, Nat.le_of_ble_eq_true rfl, Nat.le_of_ble_eq_true rfl⟩ (sd_e12 rfl) rfl rfl (Nat.le_of_ble_eq_true rfl) dL_law_1789 rfl (n' := 1792) ?_
  refine sd_xeqL G (tgt := 1798) dL_law_1792 dL_law_1793 rfl e3 ?_
  exact hk _ _ e4
