/-- one WAY's numbers on both sides -/
def Wn (W : Nat) (O : Nat → Nat → Nat) (M N : sd_Mem) : Prop := W < 8 ∧ ∀ s, s < 3 → ∀ x, 1 ≤ x → x ≤ 10 → O s x ≤ 13 ∧ M.1 (23 + 1 + 2 * W + 1) (10 * s + x - 1) = nI (O s x) ∧ N.1 116 (30 * W + 10 * s + x - 1) = nI (O s x)
theorem Wn.keep {S : List Nat} {M M' N N' : sd_Mem} (hM : keepM S M M') (hN : keepN S N N') (h3 : 3 ∉ S) {W : Nat} {O : Nat → Nat → Nat} (p : Wn W O M N) : Wn W O M' N' := by
  refine ⟨p.1, fun s hs x h1 h2 => ?_⟩
  rw [hM.e _ _ 3 (rgM_way p.1).2 h3, hN.e 116 _ 3 (rgN_o (by decide)) h3]
  exact p.2 s hs x h1 h2
theorem Lw.keep {S : List Nat} {M M' N N' : sd_Mem} (hM : keepM S M M') (hN : keepN S N N') (h5 : 5 ∉ S) {a t w : Nat} (p : Lw a t w M N) : Lw a t w M' N' := by
  unfold Lw
  rw [hM.e 58 0 5 rfl h5, hM.e 58 1 5 rfl h5, hM.e 58 2 5 rfl h5, hN.e 100 14 5 rfl h5, hN.e 100 15 5 rfl h5, hN.e 100 16 5 rfl h5]
  exact p
theorem wnM {W : Nat} {O : Nat → Nat → Nat} {M N : sd_Mem} (p : Wn W O M N) {s x : Nat} (hs : s < 3) (h1 : 1 ≤ x) (h2 : x ≤ 10) : fn_X9_number M (23 + 1 + 2 * W) (nI s) (nI x) = some (nI (O s x)) ∧ fn_X11_number N (nI W) (nI s) (nI x) = some (nI (O s x)) := by
  obtain ⟨-, m1, m2⟩ := p.2 s hs x h1 h2
  exact ⟨by rw [numM hs h1 h2 (plc1 hs h1 h2), m1], by rw [numN p.1 hs h1 h2, m2]⟩
theorem Pr.wn {o t kd : Nat} {O T : Nat → Nat → Nat} {M N : sd_Mem} (p : Pr o t kd O T M N) : Wn o O M N ∧ Wn t T M N := by
  obtain ⟨ho, ht, -, -, -, -, -, pn⟩ := p
  refine ⟨⟨ho, fun s hs x h1 h2 => ?_⟩, ⟨ht, fun s hs x h1 h2 => (pn s hs x h1 h2).2⟩⟩
  obtain ⟨⟨a1, a2⟩, -⟩ := pn s hs x h1 h2
  exact ⟨by omega, a2⟩
theorem rg_sum : ∀ x, x < 12 → rgM (64 + 1 + x) = 9 := by decide
theorem rg_off : ∀ x, x < 12 → rgM (77 + 1 + x) = 9 := by decide
theorem pow_ge : ∀ k, k ≤ 3 → 1 ≤ 2 ^ k := by decide
theorem heldIn {x S : Nat} (h1 : 1 ≤ x) (h2 : x ≤ 11) (hS : S < 8) : fn_X0_isHeld (nI x) (nI S) = some 1 := by
  simp only [fn_X0_isHeld, fn_X0_isHeld_0, wiN (a := 1) (b := 11) (lo := 1) (hi := 11) rfl rfl h1 h2 (by decide), wiN (a := 0) (b := 7) (lo := 0) (hi := 7) rfl rfl (Nat.zero_le _) (show S ≤ 7 by omega) (by decide), Option.bind_some, if_neg I1ne]
theorem sumIn {M : sd_Mem} {x S : Nat} (h1 : 1 ≤ x) (h2 : x ≤ 11) (hS : S < 8) : fn_X0_sum M (nI x) (nI S) = some (M.2 (64 + 1 + x) S) := by
  simp only [fn_X0_sum, fn_X0_sum_0, heldIn h1 h2 hS, Option.bind_some, if_neg I1ne, clm (show x < 2 ^ 31 by omega), clm (show S < 2 ^ 31 by omega), if_neg (bd2 (show x < 12 by omega) (show 12 < 2 ^ 31 by decide)), if_neg (bd2 hS (show 8 < 2 ^ 31 by decide))]
theorem keepIn {M : sd_Mem} {x S : Nat} {V : Int64} (h1 : 1 ≤ x) (h2 : x ≤ 11) (hS : S < 8) : fn_X0_keep M (nI x) (nI S) V = some (sd_setL M (64 + 1 + x) S V) := by
  simp only [fn_X0_keep, fn_X0_keep_0, heldIn h1 h2 hS, Option.bind_some, if_neg I1ne, clm (show x < 2 ^ 31 by omega), clm (show S < 2 ^ 31 by omega), if_neg (bd2 (show x < 12 by omega) (show 12 < 2 ^ 31 by decide)), if_neg (bd2 hS (show 8 < 2 ^ 31 by decide))]
theorem ix8 {x S : Nat} : (8 : Int32) * nI x + nI S = nI (8 * x + S) := ix rfl
theorem acc_zero {c : Nat → Nat} : ∀ k, acc 0 c k = 0
  | 0 => rfl
  | k + 1 => by rw [acc, acc_zero k, Nat.zero_testBit]; rfl
/-- what a SORT has of a settling on day x at wage y with the SORTS of a set, in the day's shares -/
def sv (n : Nat → Nat) (c d : Nat → Nat → Nat) (v h l z s x S : Nat) (y : Int32) : Int64 := pv d v h z s (nI x) y * (nI (acc S (c (1 - z)) (n (1 - z)))).toInt64 * lN (12 ^ (l - x))
theorem sv_zero {n : Nat → Nat} {c d : Nat → Nat → Nat} {v h l z s x : Nat} {y : Int32} : sv n c d v h l z s x 0 y = 0 := by
  unfold sv
  rw [acc_zero, show (nI 0).toInt64 = 0 from rfl, Int64.mul_zero, Int64.zero_mul]
/-- what it has unsettled -/
def ev (n : Nat → Nat) (c d : Nat → Nat → Nat) (v h l w z s S : Nat) : Int64 := pv d v h z s (nI (l + 1)) (nI w) * (nI (acc S (c (1 - z)) (n (1 - z)))).toInt64
theorem ev_zero {n : Nat → Nat} {c d : Nat → Nat → Nat} {v h l w z s : Nat} : ev n c d v h l w z s 0 = 0 := by
  unfold ev
  rw [acc_zero, show (nI 0).toInt64 = 0 from rfl, Int64.mul_zero]
/-- a day and set judged: U if no judge comes -/
def jv (n : Nat → Nat) (c d : Nat → Nat → Nat) (v h l z s x S tw jw : Nat) (U : Int64) : Int64 := (nI tw).toInt64 * sv n c d v h l z s x S (nI jw) + (12 - nI tw).toInt64 * U
theorem jv_zero {n : Nat → Nat} {c d : Nat → Nat → Nat} {v h l z s x tw jw : Nat} : jv n c d v h l z s x 0 tw jw 0 = 0 := by
  unfold jv
  rw [sv_zero, Int64.mul_zero, Int64.mul_zero]; rfl
def Tb (K l x k : Nat) (M N : sd_Mem) : Prop := ∀ y S, y ≤ l + 1 → S < K → (x < y ∨ (y = x ∧ S < k)) → M.2 (64 + 1 + y) S = N.2 117 (8 * y + S)
def Tz (l x k : Nat) (M : sd_Mem) : Prop := ∀ y, y ≤ l + 1 → (x < y ∨ (y = x ∧ 0 < k)) → M.2 (64 + 1 + y) 0 = 0
def Of (a K l x k : Nat) (M N : sd_Mem) : Prop := ∀ y S, a ≤ y → y ≤ l → S < K → (x < y ∨ (y = x ∧ S < k)) → ∃ g : Nat, g ≤ 12 ∧ M.1 (77 + 1 + y) S = nI g ∧ N.1 118 (8 * y + S) = nI g
theorem Tb.put {K l x k : Nat} {M N : sd_Mem} (h : Tb K l x k M N) (hK : K ≤ 8) (hk : k < K) (V : Int64) : Tb K l x (k + 1) (sd_setL M (64 + 1 + x) k V) (sd_setL N 117 (8 * x + k) V) := by
  intro y S h1 h2 h3
  rw [gL, gL]
  by_cases e : y = x ∧ S = k
  · obtain ⟨rfl, rfl⟩ := e
    rw [if_pos ⟨rfl, rfl⟩, if_pos ⟨rfl, rfl⟩]
  · rw [if_neg (by omega), if_neg (by omega)]
    exact h y S h1 h2 (by omega)
theorem Tb.next {K l x : Nat} {M N : sd_Mem} (h : Tb K l (x + 1) K M N) : Tb K l x 0 M N := fun y S h1 h2 h3 => h y S h1 h2 (by omega)
theorem Tz.put {l x k : Nat} {M : sd_Mem} (h : Tz l x k M) {V : Int64} (hV : k = 0 → V = 0) : Tz l x (k + 1) (sd_setL M (64 + 1 + x) k V) := by
  intro y h1 h2
  rw [gL]
  by_cases e : y = x ∧ k = 0
  · obtain ⟨rfl, rfl⟩ := e
    rw [if_pos ⟨rfl, rfl⟩]; exact hV rfl
  · rw [if_neg (by omega)]
    exact h y h1 (by omega)
theorem Tz.next {l x K : Nat} {M : sd_Mem} (hK : 0 < K) (h : Tz l (x + 1) K M) : Tz l x 0 M := fun y h1 h2 => h y h1 (by omega)
theorem Of.next {a K l x : Nat} {M N : sd_Mem} (h : Of a K l (x + 1) K M N) : Of a K l x 0 M N := fun y S h0 h1 h2 h3 => h y S h0 h1 h2 (by omega)
theorem Of.put {a K l x k g : Nat} {M N : sd_Mem} (h : Of a K l x k M N) (hK : K ≤ 8) (hk : k < K) (hg : g ≤ 12) {V V' : Int64} : Of a K l x (k + 1) (sd_setL (sd_setI M (77 + 1 + x) k (nI g)) (64 + 1 + x) k V) (sd_setL (sd_setI N 118 (8 * x + k) (nI g)) 117 (8 * x + k) V') := by
  intro y S h0 h1 h2 h3
  rw [gL1, gL1]
  by_cases e : y = x ∧ S = k
  · obtain ⟨rfl, rfl⟩ := e
    exact ⟨g, hg, gIs _ _ _ _, gIs _ _ _ _⟩
  · obtain ⟨g', a1, a2, a3⟩ := h y S h0 h1 h2 (by omega)
    exact ⟨g', a1, (gIn (by omega)).trans a2, (gIn (by omega)).trans a3⟩
theorem Of.skip {a K l x k : Nat} {M N : sd_Mem} (h : Of a K l x k M N) (hK : K ≤ 8) (hk : k < K) (hx : x < a) {V V' : Int64} {g : Int32} : Of a K l x (k + 1) (sd_setL M (64 + 1 + x) k V) (sd_setL (sd_setI N 118 (8 * x + k) g) 117 (8 * x + k) V') := by
  intro y S h0 h1 h2 h3
  rw [gL1, gL1]
  obtain ⟨g', a1, a2, a3⟩ := h y S h0 h1 h2 (by omega)
  exact ⟨g', a1, a2, (gIn (by omega)).trans a3⟩
section TB
variable {n : Nat → Nat} {c d : Nat → Nat → Nat} {v h l w : Nat} {M N : sd_Mem}
theorem setM (q : Qr n c d v h l w M N) {z s x S : Nat} (hz : z < 2) (hs : s < n z) (hx : x ≤ l) (hS : S < 8) (y : Int32) : fn_X0_settled M (nI z) (nI s) (nI x) (nI S) y = some (sv n c d v h l z s x S y) := by
  have hl := q.2.2.2.1.1
  simp only [fn_X0_settled, fn_X0_settled_0, payM q hz hs, Option.bind_some, oth hz, weightM q (show 1 - z < 2 by omega) hS, q.2.2.2.1.2.1, sub1 hx, powM (l - x) (by omega)]
  rfl
theorem juM (q : Qr n c d v h l w M N) {a tw jw : Nat} (lw : Lw a tw jw M N) {z s x S : Nat} (hz : z < 2) (hs : s < n z) (hx : x ≤ l) (hS : S < 8) (U : Int64) : fn_X0_judged M (nI z) (nI s) (nI x) (nI S) U = some (jv n c d v h l z s x S tw jw U) := by
  simp only [fn_X0_judged, fn_X0_judged_0, lw.2.2.2.1, lw.2.1.2.1, setM q hz hs hx hS, Option.bind_some]
  rfl
theorem juN (q : Qr n c d v h l w M N) {a tw jw : Nat} (lw : Lw a tw jw M N) {z s x S : Nat} (hz : z < 2) (hs : s < n z) (hx : x ≤ l) (hS : S < 8) : fn_X11_byJudge N (nI z) (nI s) (nI x) (nI S) = some ((nI tw).toInt64 * sv n c d v h l z s x S (nI jw)) := by
  have hl := q.2.2.2.1.1
  simp only [fn_X11_byJudge, fn_X11_byJudge_0, lw.2.2.2.2, lw.2.1.2.2, payN q hz hs, Option.bind_some, oneSub hz, chancesN q (show 1 - z < 2 by omega) hS, lastN q, sub1 hx, powN (l - x) (by omega)]
  unfold sv
  rw [Int64.mul_assoc, Int64.mul_assoc, Int64.mul_assoc]
theorem g34 : ¬ ((3 : Int32) < 0 ∨ 4 ≤ (3 : Int32).toNatClampNeg) := by decide
theorem k3 : (3 : Int32).toNatClampNeg = 3 := rfl
theorem endM {M0 : sd_Mem} (q0 : Qr n c d v h l w M0 N) {z s : Nat} (hz : z < 2) (hs : s < n z) : ∀ (f i : Nat) (M : sd_Mem), i ≤ 8 → 8 - i < f → keepM [9] M0 M → (∀ S, S < i → M.2 (64 + 1 + (l + 1)) S = ev n c d v h l w z s S) → ∃ M' : sd_Mem, fn_X0_endUnsettled_2 f M (nI z) (nI s) (nI i) = some M' ∧ keepM [9] M0 M' ∧ ∀ S, S < 8 → M'.2 (64 + 1 + (l + 1)) S = ev n c d v h l w z s S := by
  have hl := q0.2.2.2.1.1
  intro f
  induction f with
  | zero => intro i M h1 h2; omega
  | succ f ih =>
    intro i M h1 h2 hk hv
    have q := q0.keep hk keepN.rf (show 4 ∉ [9] by decide)
    unfold fn_X0_endUnsettled_2
    by_cases hi : i = 8
    · subst hi
      exact ⟨M, by rw [if_pos (by decide)], hk, hv⟩
    · rw [if_neg (show ¬ (8 : Int32) ≤ nI i from nI_ge (b := 8) (by omega) (by decide)), q.2.2.2.1.2.1, q.2.2.2.2.2.1, nI_1 l, payM q hz hs, Option.bind_some, oth hz, Option.bind_some, weightM q (show 1 - z < 2 by omega) (show i < 8 by omega), Option.bind_some, keepIn (by omega) (by omega) (by omega), Option.bind_some, nI_1 i]
      refine ih (i + 1) _ (by omega) (by omega) (keepM.L (by rw [rg_sum _ (by omega)]; decide) hk) (fun S hS => ?_)
      rw [gL]
      by_cases e : S = i
      · subst e; rw [if_pos ⟨rfl, rfl⟩]; rfl
      · rw [if_neg (fun z => e z.2)]; exact hv S (by omega)
theorem endN0 {N0 : sd_Mem} (q0 : Qr n c d v h l w M N0) {s : Nat} (hs : s < n 0) {x1 : Int32} : ∀ (f i : Nat) (N : sd_Mem), i ≤ 8 → 8 - i < f → keepN [9] N0 N → (∀ S, S < i → N.2 117 (8 * (l + 1) + S) = ev n c d v h l w 0 s S) → ∃ N' : sd_Mem, fn_X11_setBestOfMen_2 f N x1 (nI s) (nI i) = fn_X11_setBestOfMen_61 sd_FU N' x1 (nI s) (nI l) ∧ keepN [9] N0 N' ∧ ∀ S, S < 8 → N'.2 117 (8 * (l + 1) + S) = ev n c d v h l w 0 s S := by
  have hl := q0.2.2.2.1.1
  intro f
  induction f with
  | zero => intro i N h1 h2; omega
  | succ f ih =>
    intro i N h1 h2 hk hv
    have q := q0.keep keepM.rf hk (show 4 ∉ [9] by decide)
    unfold fn_X11_setBestOfMen_2
    by_cases hi : i = 8
    · subst hi
      exact ⟨N, by rw [if_pos (by decide), lastN q, Option.bind_some], hk, hv⟩
    · have e1 : ∀ D y, fn_X11_worthOf N 0 (nI s) D y = some (pv d v h 0 s D y) := fun D y => payN q (z := 0) (by decide) hs D y
      have e2 : fn_X11_chances N 1 (nI i) = some (nI (acc i (c 1) (n 1))) := chancesN q (z := 1) (by decide) (by omega)
      rw [if_neg (show ¬ (8 : Int32) ≤ nI i from nI_ge (b := 8) (by omega) (by decide)), lastN q, Option.bind_some, Option.bind_some, if_neg g34, k3, q.2.2.2.2.2.2, nI_1 l, e1, Option.bind_some, e2, Option.bind_some, ix8, if_neg (bnd (show 8 * (l + 1) + i < 96 by omega) (by decide)), clm (show 8 * (l + 1) + i < 2 ^ 31 by omega), nI_1 i]
      refine ih (i + 1) _ (by omega) (by omega) (keepN.L (by rw [rgN_o (by decide)]; decide) hk) (fun S hS => ?_)
      rw [gL]
      by_cases e : S = i
      · subst e; rw [if_pos ⟨rfl, rfl⟩]; rfl
      · rw [if_neg (by omega)]; exact hv S (by omega)
theorem endN1 {N0 : sd_Mem} (q0 : Qr n c d v h l w M N0) {s : Nat} (hs : s < n 1) {x1 : Int32} : ∀ (f i : Nat) (N : sd_Mem), i ≤ 8 → 8 - i < f → keepN [9] N0 N → (∀ S, S < i → N.2 117 (8 * (l + 1) + S) = ev n c d v h l w 1 s S) → ∃ N' : sd_Mem, fn_X11_setBestOfOwners_2 f N x1 (nI s) (nI i) = fn_X11_setBestOfOwners_61 sd_FU N' x1 (nI s) (nI l) ∧ keepN [9] N0 N' ∧ ∀ S, S < 8 → N'.2 117 (8 * (l + 1) + S) = ev n c d v h l w 1 s S := by
  have hl := q0.2.2.2.1.1
  intro f
  induction f with
  | zero => intro i N h1 h2; omega
  | succ f ih =>
    intro i N h1 h2 hk hv
    have q := q0.keep keepM.rf hk (show 4 ∉ [9] by decide)
    unfold fn_X11_setBestOfOwners_2
    by_cases hi : i = 8
    · subst hi
      exact ⟨N, by rw [if_pos (by decide), lastN q, Option.bind_some], hk, hv⟩
    · have e1 : ∀ D y, fn_X11_worthOf N 1 (nI s) D y = some (pv d v h 1 s D y) := fun D y => payN q (z := 1) (by decide) hs D y
      have e2 : fn_X11_chances N 0 (nI i) = some (nI (acc i (c 0) (n 0))) := chancesN q (z := 0) (by decide) (by omega)
      rw [if_neg (show ¬ (8 : Int32) ≤ nI i from nI_ge (b := 8) (by omega) (by decide)), lastN q, Option.bind_some, Option.bind_some, if_neg g34, k3, q.2.2.2.2.2.2, nI_1 l, e1, Option.bind_some, e2, Option.bind_some, ix8, if_neg (bnd (show 8 * (l + 1) + i < 96 by omega) (by decide)), clm (show 8 * (l + 1) + i < 2 ^ 31 by omega), nI_1 i]
      refine ih (i + 1) _ (by omega) (by omega) (keepN.L (by rw [rgN_o (by decide)]; decide) hk) (fun S hS => ?_)
      rw [gL]
      by_cases e : S = i
      · subst e; rw [if_pos ⟨rfl, rfl⟩]; rfl
      · rw [if_neg (by omega)]; exact hv S (by omega)
end TB
