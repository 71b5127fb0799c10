/-- CHANCES of the SORTS of a set -/
def acc (S : Nat) (c : Nat → Nat) : Nat → Nat
  | 0 => 0
  | k + 1 => acc S c k + if S.testBit k then c k else 0
theorem acc_le {S : Nat} {c : Nat → Nat} : ∀ {k : Nat}, k ≤ 3 → (∀ s, s < k → c s ≤ 9) → acc S c k ≤ 9 * k
  | 0, _, _ => Nat.le_refl _
  | k + 1, hk, h => by
    have h1 := acc_le (S := S) (k := k) (by omega) (fun s hs => h s (by omega))
    have h2 := h k (by omega)
    rw [acc]
    split <;> omega
theorem acc_all {c : Nat → Nat} : ∀ {k n : Nat}, k ≤ n → n ≤ 3 → acc (2 ^ n - 1) c k = sum1 c k
  | 0, _, _, _ => rfl
  | k + 1, n, h, hn => by
    rw [acc, sum1, acc_all (k := k) (by omega) hn]
    have : (2 ^ n - 1).testBit k = true := (show ∀ n, n ≤ 3 → ∀ k, k < n → (2 ^ n - 1).testBit k = true by decide) n hn k (by omega)
    rw [this]; rfl
theorem bit {S s : Nat} (hS : S < 8) (hs : s < 3) : ((nI S >>> (nI s &&& 31)) &&& 1 = 1) ↔ S.testBit s = true :=
  (show ∀ S, S < 8 → ∀ s, s < 3 → (((nI S >>> (nI s &&& 31)) &&& 1 = 1) ↔ S.testBit s = true) by decide) S hS s hs
theorem conM {S s : Nat} (hS : S < 8) (hs : s < 3) : fn_X10_contains (nI S) (nI s) = some (if S.testBit s then 1 else 0) := by
  unfold fn_X10_contains fn_X10_contains_0
  by_cases h : S.testBit s = true
  · rw [if_pos ((bit hS hs).mpr h), if_pos h]
  · rw [if_neg (fun q => h ((bit hS hs).mp q)), if_neg h]
theorem isIn_eq {S s : Nat} (hS : S < 8) (hs : s < 3) : fn_X11_isIn (nI S) (nI s) = some (if S.testBit s then 1 else 0) := by
  unfold fn_X11_isIn fn_X11_isIn_0
  by_cases h : S.testBit s = true
  · rw [if_pos ((bit hS hs).mpr h), if_pos h]
  · rw [if_neg (fun q => h ((bit hS hs).mp q)), if_neg h]
theorem all_eq : ∀ n, n ≤ 3 → ((1 : Int32) <<< (nI n &&& 31)) - 1 = nI (2 ^ n - 1) := by decide
theorem FU_eq : sd_FU = 1000 := rfl
section QRS
variable {n : Nat → Nat} {c d : Nat → Nat → Nat} {v h l w : Nat} {M N : sd_Mem}
theorem weight_loop (q : Qr n c d v h l w M N) {z S : Nat} (hz : z < 2) (hS : S < 8) : ∀ (f i : Nat), i ≤ n z → n z - i < f → fn_X5_weight_5 M 40 f (nI z) (nI S) (nI (acc S (c z) i)) (nI i) = some (nI (acc S (c z) (n z))) := by
  have hn := (q.1 z hz).1
  intro f
  induction f with
  | zero => intro i h1 h2; omega
  | succ f ih =>
    intro i h1 h2
    unfold fn_X5_weight_5
    rw [srtM hz, Option.bind_some, show (40 + 1) = 41 from rfl, (q.1 z hz).2.1]
    by_cases hi : i = n z
    · rw [← hi, if_pos (nI_le (Nat.le_refl _) (by omega))]
    · have hi3 : i < 3 := by omega
      have step := ih (i + 1) (by omega) (by omega)
      rw [acc] at step
      rw [if_neg (nI_ge (by omega) (by omega)), conM hS hi3, Option.bind_some, nI_1]
      by_cases hb : S.testBit i = true
      · obtain ⟨-, -, g3, -⟩ := (q.1 z hz).2.2.2.2 i (by omega)
        rw [if_pos hb, if_neg I1ne, clm (show z < 2 ^ 31 by omega), clm (show i < 2 ^ 31 by omega), if_neg (bd2 hz (by decide)), if_neg (bd2 hi3 (by decide)), g3, nI_add]
        rw [if_pos hb] at step
        exact step
      · rw [if_neg hb, if_pos rfl, Int32.add_zero]
        rw [if_neg hb, Nat.add_zero] at step
        exact step
theorem weightM (q : Qr n c d v h l w M N) {z S : Nat} (hz : z < 2) (hS : S < 8) : fn_X5_weight M 40 (nI z) (nI S) = some (nI (acc S (c z) (n z))) := by
  have hn := (q.1 z hz).1
  exact weight_loop q hz hS sd_FU 0 (Nat.zero_le _) (by rw [FU_eq]; omega)
theorem chances_loop (q : Qr n c d v h l w M N) {z S : Nat} (hz : z < 2) (hS : S < 8) : ∀ (f i : Nat), i ≤ n z → n z - i < f → fn_X11_chances_5 N f (nI z) (nI S) (nI (acc S (c z) i)) (nI i) = some (nI (acc S (c z) (n z))) := by
  have hn := (q.1 z hz).1
  intro f
  induction f with
  | zero => intro i h1 h2; omega
  | succ f ih =>
    intro i h1 h2
    unfold fn_X11_chances_5
    rw [clm (show z < 2 ^ 31 by omega), if_neg (bd2 hz (by decide)), (q.1 z hz).2.2.1]
    by_cases hi : i = n z
    · rw [← hi, if_pos (nI_le (Nat.le_refl _) (by omega))]
    · have hi3 : i < 3 := by omega
      have step := ih (i + 1) (by omega) (by omega)
      rw [acc] at step
      rw [if_neg (nI_ge (by omega) (by omega)), isIn_eq hS hi3, Option.bind_some, nI_1]
      by_cases hb : S.testBit i = true
      · obtain ⟨-, -, -, g4, -⟩ := (q.1 z hz).2.2.2.2 i (by omega)
        rw [if_pos hb, if_neg I1ne, ix (a := 3) (A := 3) rfl, clm (show 3 * z + i < 2 ^ 31 by omega), if_neg (bd2 (show 3 * z + i < 6 by omega) (by decide)), g4, nI_add]
        rw [if_pos hb] at step
        exact step
      · rw [if_neg hb, if_pos rfl, Int32.add_zero]
        rw [if_neg hb, Nat.add_zero] at step
        exact step
theorem chancesN (q : Qr n c d v h l w M N) {z S : Nat} (hz : z < 2) (hS : S < 8) : fn_X11_chances N (nI z) (nI S) = some (nI (acc S (c z) (n z))) := by
  have hn := (q.1 z hz).1
  exact chances_loop q hz hS sd_FU 0 (Nat.zero_le _) (by rw [FU_eq]; omega)
theorem whoAllN (q : Qr n c d v h l w M N) {z : Nat} (hz : z < 2) : fn_X11_whoAll N (nI z) = some (nI (2 ^ n z - 1)) := by
  have hn := (q.1 z hz).1
  simp only [fn_X11_whoAll, fn_X11_whoAll_0, clm (show z < 2 ^ 31 by omega), if_neg (bd2 hz (show 2 < 2 ^ 31 by decide)), (q.1 z hz).2.2.1, all_eq _ hn.2]
theorem everyM (q : Qr n c d v h l w M N) {z : Nat} (hz : z < 2) : fn_X5_everySort M 40 (nI z) = some (nI (2 ^ n z - 1)) := by
  have hn := (q.1 z hz).1
  simp only [fn_X5_everySort, fn_X5_everySort_0, srtM hz, Option.bind_some, show (40 + 1) = 41 from rfl, (q.1 z hz).2.1, all_eq _ hn.2]
theorem pow_lt8 {k : Nat} (h : k ≤ 3) : 2 ^ k - 1 < 8 := (show ∀ k, k ≤ 3 → 2 ^ k - 1 < 8 by decide) k h
theorem totN (q : Qr n c d v h l w M N) {z : Nat} (hz : z < 2) : fn_X11_chances N (nI z) (nI (2 ^ n z - 1)) = some (nI (sum1 (c z) (n z))) := by
  have hn := (q.1 z hz).1
  rw [chancesN q hz (pow_lt8 hn.2), acc_all (Nat.le_refl _) hn.2]
theorem totM (q : Qr n c d v h l w M N) {z : Nat} (hz : z < 2) : fn_X5_total M 40 (nI z) = some (nI (sum1 (c z) (n z))) := by
  have b := bd2 hz (show 2 < 2 ^ 31 by decide)
  have e := (q.1 z hz).2.2.2.1
  rcases (show z = 0 ∨ z = 1 by omega) with rfl | rfl
  · unfold fn_X5_total fn_X5_total_0
    rw [if_pos (by decide), clm (by decide), if_neg b]
    exact congrArg some e
  · unfold fn_X5_total fn_X5_total_0
    rw [if_neg (by decide), if_pos (by decide), clm (by decide), if_neg b]
    exact congrArg some e
theorem sum1_le {c : Nat → Nat} : ∀ {k : Nat}, (∀ s, s < k → c s ≤ 9) → sum1 c k ≤ 9 * k
  | 0, _ => Nat.le_refl _
  | k + 1, hh => by have := sum1_le (k := k) (fun s hs => hh s (by omega)); have := hh k (by omega); rw [sum1]; omega
theorem sum1_pos {c : Nat → Nat} : ∀ {k : Nat}, 1 ≤ k → (∀ s, s < k → 1 ≤ c s) → 1 ≤ sum1 c k
  | 0, h, _ => absurd h (by decide)
  | k + 1, _, hh => by have := hh k (by omega); rw [sum1]; omega
theorem lastM (q : Qr n c d v h l w M N) : fn_X5_last M 40 = some (nI l) := by rw [← q.2.2.2.1.2.1]; rfl
theorem lastN (q : Qr n c d v h l w M N) : fn_X11_last N = some (nI l) := by rw [← q.2.2.2.1.2.2]; rfl
/-! whether MEN take -/
def vs (c : Nat → Nat) (p : Nat → Prop) [DecidablePred p] : Nat → Nat
  | 0 => 0
  | k + 1 => vs c p k + if p k then c k else 0
theorem vs_le {c : Nat → Nat} {p : Nat → Prop} [DecidablePred p] : ∀ {k : Nat}, (∀ s, s < k → c s ≤ 9) → vs c p k ≤ 9 * k
  | 0, _ => Nat.le_refl _
  | k + 1, hh => by have := vs_le (p := p) (k := k) (fun s hs => hh s (by omega)); have := hh k (by omega); rw [vs]; split <;> omega
/-- is the wage y of day x taken by SORT m -/
def tk (n : Nat → Nat) (c : Nat → Nat → Nat) (kd : Nat) (T : Nat → Nat → Nat) (m x y : Nat) : Prop := if kd = 2 then T m x ≤ y else sum1 (c 0) (n 0) < 2 * vs (c 0) (fun s => T s x ≤ y) (n 0)
variable {o t kd : Nat} {O T : Nat → Nat → Nat}
theorem nmM (p : Pr o t kd O T M N) {s x : Nat} (hs : s < 3) (h1 : 1 ≤ x) (h2 : x ≤ 10) : fn_X9_number M (23 + 1 + 2 * o) (nI s) (nI x) = some (nI (O s x)) ∧ fn_X9_number M (23 + 1 + 2 * t) (nI s) (nI x) = some (nI (T s x)) ∧ fn_X11_number N (nI o) (nI s) (nI x) = some (nI (O s x)) ∧ fn_X11_number N (nI t) (nI s) (nI x) = some (nI (T s x)) := by
  obtain ⟨ho, ht, -, -, -, -, -, pn⟩ := p
  obtain ⟨⟨-, o1, o2⟩, ⟨-, t1, t2⟩⟩ := pn s hs x h1 h2
  have hp := plc1 hs h1 h2
  exact ⟨by rw [numM hs h1 h2 hp, o1], by rw [numM hs h1 h2 hp, t1], by rw [numN ho hs h1 h2, o2], by rw [numN ht hs h1 h2, t2]⟩
theorem voteM (q : Qr n c d v h l w M N) (p : Pr o t kd O T M N) {hh x y : Nat} (h1 : 1 ≤ x) (h2 : x ≤ 10) (hy : y ≤ 12) : ∀ (f i : Nat), i ≤ n 0 → n 0 - i < f → fn_X7_isTaken_30 M hh (23 + 1 + 2 * t) f (nI x) (nI y) (nI (vs (c 0) (fun s => T s x ≤ y) i)) (nI i) = fn_X7_isTaken_80 M hh (23 + 1 + 2 * t) (nI (vs (c 0) (fun s => T s x ≤ y) (n 0))) := by
  have hn := (q.1 0 (by decide)).1
  intro f
  induction f with
  | zero => intro i h1 h2; omega
  | succ f ih =>
    intro i hi1 hi2
    unfold fn_X7_isTaken_30
    rw [srt0, Option.bind_some, show (40 + 1) = 41 from rfl, (q.1 0 (by decide)).2.1]
    by_cases hi : i = n 0
    · rw [← hi, if_pos (nI_le (Nat.le_refl _) (by omega))]
    · have hi3 : i < 3 := by omega
      have step := ih (i + 1) (by omega) (by omega)
      rw [vs] at step
      rw [if_neg (nI_ge (by omega) (by omega)), (nmM p hi3 h1 h2).2.1, Option.bind_some, nI_1]
      have hT : T i x ≤ 13 := (p.2.2.2.2.2.2.2 i hi3 x h1 h2).2.1
      by_cases hb : T i x ≤ y
      · have hs := hasIn (M := M) (h := 40) (z := 0) (s := i) (by decide) hn.2 (q.1 0 (by decide)).2.1 (by omega)
        obtain ⟨-, -, g3, -⟩ := (q.1 0 (by decide)).2.2.2.2 i (by omega)
        have hch := chaM (by decide) hi3 hs
        rw [show nI 0 = 0 from rfl] at hch
        rw [if_neg (nI_nlt hb (by omega)), hch, Option.bind_some, g3, nI_add]
        rw [if_pos hb] at step
        exact step
      · rw [if_pos (nI_lt (by omega) (by omega)), Int32.add_zero]
        rw [if_neg hb, Nat.add_zero] at step
        exact step
theorem voteN (q : Qr n c d v h l w M N) (p : Pr o t kd O T M N) {x y : Nat} (h1 : 1 ≤ x) (h2 : x ≤ 10) (hy : y ≤ 12) : ∀ (f i : Nat), i ≤ n 0 → n 0 - i < f → fn_X11_takes_34 N f (nI t) (nI x) (nI y) (nI (vs (c 0) (fun s => T s x ≤ y) i)) (nI i) = fn_X11_takes_80 N (nI (vs (c 0) (fun s => T s x ≤ y) (n 0))) := by
  have hn := (q.1 0 (by decide)).1
  intro f
  induction f with
  | zero => intro i h1 h2; omega
  | succ f ih =>
    intro i hi1 hi2
    unfold fn_X11_takes_34
    rw [if_neg (by decide), show (0 : Int32).toNatClampNeg = 0 from rfl, (q.1 0 (by decide)).2.2.1]
    by_cases hi : i = n 0
    · rw [← hi, if_pos (nI_le (Nat.le_refl _) (by omega))]
    · have hi3 : i < 3 := by omega
      have step := ih (i + 1) (by omega) (by omega)
      rw [vs] at step
      rw [if_neg (nI_ge (by omega) (by omega)), (nmM p hi3 h1 h2).2.2.2, Option.bind_some, nI_1]
      have hT : T i x ≤ 13 := (p.2.2.2.2.2.2.2 i hi3 x h1 h2).2.1
      by_cases hb : T i x ≤ y
      · obtain ⟨-, -, -, g4, -⟩ := (q.1 0 (by decide)).2.2.2.2 i (by omega)
        rw [show 3 * 0 + i = i by omega] at g4
        rw [if_neg (nI_nlt hb (by omega)), clm (show i < 2 ^ 31 by omega), if_neg (bd2 (show i < 6 by omega) (by decide)), g4, nI_add]
        rw [if_pos hb] at step
        exact step
      · rw [if_pos (nI_lt (by omega) (by omega)), Int32.add_zero]
        rw [if_neg hb, Nat.add_zero] at step
        exact step
theorem tk_dec (n : Nat → Nat) (c : Nat → Nat → Nat) (kd : Nat) (T : Nat → Nat → Nat) (m x y : Nat) : tk n c kd T m x y ∨ ¬ tk n c kd T m x y := Classical.em _
theorem taken (q : Qr n c d v h l w M N) (p : Pr o t kd O T M N) {hh m x y : Nat} (hm : m < 3) (h1 : 1 ≤ x) (h2 : x ≤ 10) (hy : y ≤ 12) : (tk n c kd T m x y ∧ fn_X7_isTaken M hh (23 + 1 + 2 * t) (nI m) (nI x) (nI y) = some 1 ∧ fn_X11_takes N (nI t) (nI m) (nI x) (nI y) = some 1) ∨ (¬ tk n c kd T m x y ∧ fn_X7_isTaken M hh (23 + 1 + 2 * t) (nI m) (nI x) (nI y) = some 0 ∧ fn_X11_takes N (nI t) (nI m) (nI x) (nI y) = some 0) := by
  have hk4 : kd ≤ 4 := by rcases p.2.2.1 with z | z <;> omega
  have pl := plain hk4 p.2.2.2.2.2.1
  have ht8 := p.2.1
  have hT : T m x ≤ 13 := (p.2.2.2.2.2.2.2 m hm x h1 h2).2.1
  have hn := (q.1 0 (by decide)).1
  have eM : fn_X7_isTaken M hh (23 + 1 + 2 * t) (nI m) (nI x) (nI y) = if kd = 2 then (if nI y < nI (T m x) then some 0 else some 1) else fn_X7_isTaken_80 M hh (23 + 1 + 2 * t) (nI (vs (c 0) (fun s => T s x ≤ y) (n 0))) := by
    unfold fn_X7_isTaken fn_X7_isTaken_0
    rw [pl, Option.bind_some]
    by_cases e : kd = 2
    · rw [if_pos e, if_neg I1ne, if_pos e, (nmM p hm h1 h2).2.1]; rfl
    · rw [if_neg e, if_pos rfl, if_neg e]
      exact voteM q p h1 h2 hy sd_FU 0 (Nat.zero_le _) (by rw [FU_eq]; omega)
  have eN : fn_X11_takes N (nI t) (nI m) (nI x) (nI y) = if kd = 2 then (if nI y < nI (T m x) then some 0 else some 1) else fn_X11_takes_80 N (nI (vs (c 0) (fun s => T s x ≤ y) (n 0))) := by
    unfold fn_X11_takes fn_X11_takes_0
    rw [clm (show t < 2 ^ 31 by omega), if_neg (bd2 ht8 (by decide)), p.2.2.2.2.2.2.1]
    by_cases e : kd = 2
    · rw [if_pos (show nI kd = 2 by rw [e]; rfl), if_pos e, (nmM p hm h1 h2).2.2.2]; rfl
    · rw [if_neg (show ¬ nI kd = 2 from fun z => e ((nI_eq (a := kd) (b := 2) (by omega) (by decide)).mp z)), if_neg e]
      exact voteN q p h1 h2 hy sd_FU 0 (Nat.zero_le _) (by rw [FU_eq]; omega)
  rw [eM, eN]
  unfold tk
  by_cases e : kd = 2
  · simp only [if_pos e]
    by_cases g : T m x ≤ y
    · exact Or.inl ⟨g, by rw [if_neg (nI_nlt g (by omega))], by rw [if_neg (nI_nlt g (by omega))]⟩
    · exact Or.inr ⟨g, by rw [if_pos (nI_lt (by omega) (by omega))], by rw [if_pos (nI_lt (by omega) (by omega))]⟩
  · simp only [if_neg e]
    have hv := vs_le (c := c 0) (p := fun s => T s x ≤ y) (k := n 0) (fun s hs => ((q.1 0 (by decide)).2.2.2.2 s hs).1.2)
    have hs := sum1_le (c := c 0) (k := n 0) (fun s hs => ((q.1 0 (by decide)).2.2.2.2 s hs).1.2)
    generalize hV : vs (c 0) (fun s => T s x ≤ y) (n 0) = V at *
    generalize hZ : sum1 (c 0) (n 0) = Z at *
    have t1 := totM q (z := 0) (by decide)
    have t2 := totN q (z := 0) (by decide)
    have t3 := whoAllN q (z := 0) (by decide)
    rw [hZ, show nI 0 = 0 from rfl] at t1
    rw [hZ, show nI 0 = 0 from rfl] at t2
    rw [show nI 0 = 0 from rfl] at t3
    have m2 : (2 : Int32) * nI V = nI (2 * V) := by rw [show (2 : Int32) = nI 2 from rfl, pk_mul]
    by_cases g : Z < 2 * V
    · refine Or.inl ⟨g, ?_, ?_⟩
      · simp only [fn_X7_isTaken_80, fn_X5_carries, fn_X5_carries_0, t1, Option.bind_some, m2, if_neg (nI_ge g (show 2 * V < 2 ^ 31 by omega)), if_neg I11]
      · simp only [fn_X11_takes_80, t2, t3, Option.bind_some, m2, if_neg (nI_ge g (show 2 * V < 2 ^ 31 by omega))]
    · refine Or.inr ⟨g, ?_, ?_⟩
      · simp only [fn_X7_isTaken_80, fn_X5_carries, fn_X5_carries_0, t1, Option.bind_some, m2, if_pos (nI_le (show 2 * V ≤ Z by omega) (show Z < 2 ^ 31 by omega)), if_neg I00]
      · simp only [fn_X11_takes_80, t2, t3, Option.bind_some, m2, if_pos (nI_le (show 2 * V ≤ Z by omega) (show Z < 2 ^ 31 by omega))]
/-- the day of SETTLING: the same on both sides; D says which -/
def Dy (n : Nat → Nat) (c : Nat → Nat → Nat) (kd : Nat) (O T : Nat → Nat → Nat) (a l ow m D : Nat) : Prop := (a ≤ D ∨ D = l + 1) ∧ 1 ≤ D ∧ D ≤ l + 1 ∧ (∀ x, a ≤ x → x < D → x ≤ l → ¬ tk n c kd T m x (O ow x)) ∧ (D ≤ l → tk n c kd T m D (O ow D))
theorem settle_loop (q : Qr n c d v h l w M N) (p : Pr o t kd O T M N) {hh a ow m : Nat} (ha : 1 ≤ a) (how : ow < 3) (hm : m < 3) : ∀ (f x : Nat), a ≤ x → (x ≤ l + 1 ∨ x = a) → x ≤ 11 → l + 1 - x < f → (∀ y, a ≤ y → y < x → y ≤ l → ¬ tk n c kd T m y (O ow y)) → ∃ D : Nat, Dy n c kd O T a l ow m D ∧ fn_X7_settlingDay_9 M hh (23 + 1 + 2 * o) (23 + 1 + 2 * t) f (nI ow) (nI m) (nI x) = some (nI D) ∧ fn_X11_dayOf_6 N f (nI o) (nI t) (nI ow) (nI m) (nI x) = some (nI D) := by
  have hl := q.2.2.2.1.1
  intro f
  induction f with
  | zero => intro x h1 h2 h3 h4; omega
  | succ f ih =>
    intro x h1 h2 h3 h4 hno
    unfold fn_X7_settlingDay_9 fn_X11_dayOf_6
    rw [lastN q, Option.bind_some, q.2.2.2.1.2.1]
    by_cases hx : l < x
    · refine ⟨l + 1, ⟨Or.inr rfl, by omega, Nat.le_refl _, fun y g1 g2 g3 => hno y g1 (by omega) g3, fun z => by omega⟩, ?_, ?_⟩
      · rw [if_pos (nI_lt hx (by omega)), fn_X7_settlingDay_49, q.2.2.2.1.2.1, nI_1]
      · rw [if_pos (nI_lt hx (by omega)), fn_X11_dayOf_44, lastN q, Option.bind_some, nI_1]
    · rw [if_neg (nI_nlt (by omega) (by omega)), if_neg (nI_nlt (by omega) (by omega))]
      obtain ⟨n1, -, n3, -⟩ := nmM p how (show 1 ≤ x by omega) (show x ≤ 10 by omega)
      have hO : O ow x ≤ 12 := (p.2.2.2.2.2.2.2 ow how x (by omega) (by omega)).1.1
      rw [n1, n3, Option.bind_some, Option.bind_some]
      rcases taken q p (hh := hh) hm (show 1 ≤ x by omega) (show x ≤ 10 by omega) hO with ⟨g, g1, g2⟩ | ⟨g, g1, g2⟩
      · rw [g1, g2, Option.bind_some, Option.bind_some, if_neg I1ne, if_neg I1ne]
        exact ⟨x, ⟨Or.inl h1, by omega, by omega, fun y u1 u2 u3 => hno y u1 u2 u3, fun _ => g⟩, rfl, rfl⟩
      · rw [g1, g2, Option.bind_some, Option.bind_some, if_pos rfl, if_pos rfl, nI_1]
        refine ih (x + 1) (by omega) (Or.inl (by omega)) (by omega) (by omega) (fun y u1 u2 u3 => ?_)
        by_cases e : y = x
        · subst e; exact g
        · exact hno y u1 (by omega) u3
theorem settle (q : Qr n c d v h l w M N) (p : Pr o t kd O T M N) {hh a ow m : Nat} (hla : M.1 (hh - 3) 0 = nI a) (hna : N.1 100 14 = nI a) (ha : 1 ≤ a ∧ a ≤ 10) (how : ow < 3) (hm : m < 3) : ∃ D : Nat, Dy n c kd O T a l ow m D ∧ fn_X7_settlingDay M hh (23 + 1 + 2 * o) (23 + 1 + 2 * t) (nI ow) (nI m) = some (nI D) ∧ fn_X11_dayOf N (nI o) (nI t) (nI ow) (nI m) = some (nI D) := by
  have hl := q.2.2.2.1.1
  obtain ⟨D, h1, h2, h3⟩ := settle_loop q p (hh := hh) ha.1 how hm sd_FU a (Nat.le_refl _) (Or.inr rfl) (by omega) (by rw [FU_eq]; omega) (fun y u1 u2 => by omega)
  refine ⟨D, h1, ?_, ?_⟩
  · unfold fn_X7_settlingDay fn_X7_settlingDay_0; rw [hla]; exact h2
  · unfold fn_X11_dayOf fn_X11_dayOf_0; rw [hna]; exact h3
/-- only one such day -/
theorem Dy.one {a ow m D D' : Nat} (h1 : Dy n c kd O T a l ow m D) (h2 : Dy n c kd O T a l ow m D') : D = D' := by
  obtain ⟨a1, b1, c1, d1, e1⟩ := h1
  obtain ⟨a2, b2, c2, d2, e2⟩ := h2
  rcases Nat.lt_trichotomy D D' with g | g | g
  · exact absurd (e1 (by omega)) (d2 D (by omega) g (by omega))
  · exact g
  · exact absurd (e2 (by omega)) (d1 D' (by omega) g (by omega))
theorem wage (q : Qr n c d v h l w M N) (p : Pr o t kd O T M N) {hh ow D : Nat} (how : ow < 3) (h1 : 1 ≤ D) (h2 : D ≤ l + 1) : fn_X7_wageOn M hh (23 + 1 + 2 * o) (nI ow) (nI D) = some (nI (if D ≤ l then O ow D else w)) ∧ fn_X11_wageOn N (nI o) (nI ow) (nI D) = some (nI (if D ≤ l then O ow D else w)) := by
  have hl := q.2.2.2.1.1
  unfold fn_X7_wageOn fn_X7_wageOn_0 fn_X11_wageOn fn_X11_wageOn_0
  rw [lastN q, Option.bind_some, q.2.2.2.1.2.1]
  by_cases g : D ≤ l
  · obtain ⟨n1, -, n3, -⟩ := nmM p how h1 (show D ≤ 10 by omega)
    rw [if_pos (nI_le g (by omega)), if_pos (nI_le g (by omega)), if_pos g, n1, n3]
    exact ⟨rfl, rfl⟩
  · rw [if_neg (nI_ge (by omega) (by omega)), if_neg (nI_ge (by omega) (by omega)), if_neg g, q.2.2.2.2.2.1]
    refine ⟨rfl, ?_⟩
    rw [← q.2.2.2.2.2.2]
    rfl
end QRS
theorem st_19 : sd_St19 Rel := by
  intro M N hR x1 x2 x3 x4
  obtain ⟨n, c, d, v, h, l, w, q⟩ := hR 4
  have z1 : ∀ y, (fn_X5_hasSort M 40 1 y = some 0 ∧ fn_X11_isSort N 1 y = some 0) ∨ ((fn_X5_hasSort M 40 1 y = some 1 ∧ fn_X11_isSort N 1 y = some 1) ∧ ∃ s : Nat, s < n 1 ∧ y = nI s) := by
    intro y
    rcases srt q.n 1 y with e | ⟨e, z, s, hz, hs, hz1, rfl⟩
    · exact Or.inl e
    · have : z = 1 := ((nI_eq (a := 1) (b := z) (by decide) (by omega)).mp hz1).symm
      subst this
      exact Or.inr ⟨e, s, hs, rfl⟩
  have z0' : ∀ y, (fn_X5_hasSort M 40 0 y = some 0 ∧ fn_X11_isSort N 0 y = some 0) ∨ ((fn_X5_hasSort M 40 0 y = some 1 ∧ fn_X11_isSort N 0 y = some 1) ∧ ∃ s : Nat, s < n 0 ∧ y = nI s) := by
    intro y
    rcases srt q.n 0 y with e | ⟨e, z, s, hz, hs, hz1, rfl⟩
    · exact Or.inl e
    · have : z = 0 := ((nI_eq (a := 0) (b := z) (by decide) (by omega)).mp hz1).symm
      subst this
      exact Or.inr ⟨e, s, hs, rfl⟩
  rcases z1 x3 with ⟨e1, e2⟩ | ⟨⟨e1, e2⟩, ow, how, rfl⟩
  · exact ⟨(-1, M), (-1, N), by simp [fn_X10_run, fn_X10_run_0, e1], by simp [fn_X11_run, fn_X11_run_0, e2], rfl, hR⟩
  rcases z0' x4 with ⟨f1, f2⟩ | ⟨⟨f1, f2⟩, m, hm, rfl⟩
  · exact ⟨(-1, M), (-1, N), by simp [fn_X10_run, fn_X10_run_0, e1, f1], by simp [fn_X11_run, fn_X11_run_0, e2, f2], rfl, hR⟩
  rcases ref hR x1 x2 1 with ⟨r, M', N', hr0, hr1, g1, g2, hR'⟩ | ⟨g1, g2, o, t, kd, O, T, rfl, rfl, p, -⟩
  · refine ⟨(r, M'), (r, N'), ?_, ?_, rfl, hR'⟩
    · simp only [fn_X10_run, fn_X10_run_0, e1, f1, g1, Option.bind_some, if_neg I1ne, if_neg hr0]
    · simp only [fn_X11_run, fn_X11_run_0, e2, f2, g2, Option.bind_some, if_neg I1ne, if_neg hr1]
  obtain ⟨a, tw, jw, ⟨ha, ha1, ha2⟩, -⟩ := hR 5
  have hn1 := (q.1 1 (by decide)).1
  have hn0 := (q.1 0 (by decide)).1
  obtain ⟨D, hD, d1, d2⟩ := settle q p (hh := 61) ha1 ha2 ha (show ow < 3 by omega) (show m < 3 by omega)
  obtain ⟨w1, w2⟩ := wage q p (hh := 61) (show ow < 3 by omega) hD.2.1 hD.2.2.1
  have c1 := clm (show o < 2 ^ 31 by have := p.1; omega)
  have c2 := clm (show t < 2 ^ 31 by have := p.2.1; omega)
  have b1 := bd2 p.1 (show 8 < 2 ^ 31 by decide)
  have b2 := bd2 p.2.1 (show 8 < 2 ^ 31 by decide)
  refine ⟨(nI D, sd_setI M 0 13 (nI (if D ≤ l then O ow D else w))), (nI D, sd_setI N 100 2 (nI (if D ≤ l then O ow D else w))), ?_, ?_, rfl, hR.ask _⟩
  · simp only [fn_X10_run, fn_X10_run_0, e1, f1, g1, Option.bind_some, if_neg I1ne, if_true, c1, c2, if_neg b1, if_neg b2, d1, w1]
  · simp only [fn_X11_run, fn_X11_run_0, e2, f2, g2, Option.bind_some, if_neg I1ne, if_pos z0, d2, w2, fn_X11_ask, fn_X11_ask_0]
