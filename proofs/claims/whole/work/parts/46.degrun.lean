/-! THE RULE OF DEGREES: its runs are the sets with the right degrees -/
def lfX (w : Nat) (X : Nat → Bool) (q : Nat) : Bool := decide (0 < q % w) && X (2 * q - 1)
def upX (w : Nat) (X : Nat → Bool) (q : Nat) : Bool := decide (w ≤ q) && X (2 * (q - w))
def degX (w : Nat) (X : Nat → Bool) (q : Nat) : Nat := bs2 (b2 (lfX w X q) (upX w X q)) + bs2 (b2 (X (2 * q)) (X (2 * q + 1)))
/-- the edges over the frontier before place p, in the order of the code's bits -/
def fsX (w : Nat) (X : Nat → Bool) (p j : Nat) : Bool := if j < p % w then X (2 * (p - p % w + j)) else if j = p % w then lfX w X p else decide (w ≤ p) && X (2 * (p - w + (j - 1 - p % w)))
def stX (w : Nat) (X : Nat → Bool) (p j : Nat) : Bool := if p % w = 0 then decide (j < w) && fsX w X p (j + 1) else decide (j ≤ w) && fsX w X p j
def shN (c n : Nat) : Nat := if c = 0 then 2 * n else n
def nxN (c n z : Nat) : Nat := shN c n - shN c n / 2 ^ c % 4 * 2 ^ c + z * 2 ^ c
def nxT (c n z : Nat) : Bool := (List.range 8).all (fun j => (nxN c n z).testBit j == (if j = c then z.testBit 0 else if j = c + 1 then z.testBit 1 else (shN c n).testBit j)) && decide (nxN c n z < 256) && decide (shN c n / 2 ^ c % 4 = b2 ((shN c n).testBit c) ((shN c n).testBit (c + 1))) && (List.range 8).all (fun j => (shN c n).testBit j == (if c = 0 then decide (0 < j) && n.testBit (j - 1) else n.testBit j))
set_option maxRecDepth 100000 in
theorem nxN_bit : ∀ c, c < 5 → ∀ z, z < 4 → ∀ n, n < 64 → (∀ j, j < 8 → (nxN c n z).testBit j = if j = c then z.testBit 0 else if j = c + 1 then z.testBit 1 else (shN c n).testBit j) ∧ nxN c n z < 256 ∧ shN c n / 2 ^ c % 4 = b2 ((shN c n).testBit c) ((shN c n).testBit (c + 1)) ∧ (∀ j, j < 8 → (shN c n).testBit j = if c = 0 then decide (0 < j) && n.testBit (j - 1) else n.testBit j) := by
  have key : (List.range 5).all (fun c => (List.range 4).all (fun z => (List.range 64).all (fun n => nxT c n z))) = true := by decide +kernel
  intro c h2 z h3 n h4
  have k := List.all_eq_true.mp (List.all_eq_true.mp (List.all_eq_true.mp key c (List.mem_range.mpr h2)) z (List.mem_range.mpr h3)) n (List.mem_range.mpr h4)
  unfold nxT at k
  rw [Bool.and_eq_true, Bool.and_eq_true, Bool.and_eq_true] at k
  obtain ⟨⟨⟨k1, k2⟩, k3⟩, k4⟩ := k
  exact ⟨fun j hj => beq_iff_eq.mp (List.all_eq_true.mp k1 j (List.mem_range.mpr hj)), of_decide_eq_true k2, of_decide_eq_true k3, fun j hj => beq_iff_eq.mp (List.all_eq_true.mp k4 j (List.mem_range.mpr hj))⟩
theorem fsX_lt {w p j : Nat} {X : Nat → Bool} (h : j < p % w) : fsX w X p j = X (2 * (p - p % w + j)) := by unfold fsX; rw [if_pos h]
theorem fsX_c {w p : Nat} {X : Nat → Bool} : fsX w X p (p % w) = lfX w X p := by unfold fsX; rw [if_neg (Nat.lt_irrefl _), if_pos rfl]
theorem fsX_gt {w p j : Nat} {X : Nat → Bool} (h : p % w < j) : fsX w X p j = (decide (w ≤ p) && X (2 * (p - w + (j - 1 - p % w)))) := by unfold fsX; rw [if_neg (by omega), if_neg (by omega)]
theorem tb_lt {n k : Nat} (hk : k ≤ 8) (hn : n < 256) (h : ∀ j, k ≤ j → j < 8 → n.testBit j = false) : n < 2 ^ k := by
  rcases Nat.lt_or_ge n (2 ^ k) with z | z
  · exact z
  · exfalso
    obtain ⟨i, hi, ht⟩ := Nat.exists_ge_and_testBit_of_ge_two_pow z
    have h8 : i < 8 := by
      rcases Nat.lt_or_ge i 8 with y | y
      · exact y
      · have := Nat.testBit_lt_two_pow (show n < 2 ^ i from Nat.lt_of_lt_of_le hn (show 2 ^ 8 ≤ 2 ^ i from Nat.pow_le_pow_right (by decide) y))
        rw [this] at ht; exact absurd ht (by decide)
    rw [h i hi h8] at ht
    exact absurd ht (by decide)
/-- a code n tells the frontier before place p -/
def DI (w : Nat) (X : Nat → Bool) (p n : Nat) : Prop := n < 64 ∧ ∀ j, j < 8 → n.testBit j = stX w X p j
theorem DI_sh {w p n : Nat} {X : Nat → Bool} (hw : 0 < w) (hw5 : w ≤ 5) (h : DI w X p n) : ∀ j, j < 8 → (shN (p % w) n).testBit j = (decide (j ≤ w) && fsX w X p j) := by
  intro j hj
  have hc : p % w < w := Nat.mod_lt _ hw
  have hb := (nxN_bit (p % w) (by omega) 0 (by decide) n h.1).2.2.2 j hj
  rw [hb]
  by_cases z : p % w = 0
  · rw [if_pos z]
    by_cases y : 0 < j
    · rw [decide_eq_true y, Bool.true_and, h.2 (j - 1) (by omega)]
      unfold stX
      rw [if_pos z, show j - 1 + 1 = j by omega]
      by_cases x : j ≤ w
      · rw [decide_eq_true x, decide_eq_true (show j - 1 < w by omega)]
      · rw [decide_eq_false x, decide_eq_false (show ¬ j - 1 < w by omega)]
    · have j0 : j = 0 := by omega
      rw [decide_eq_false y, Bool.false_and, j0]
      unfold fsX lfX
      rw [z]
      simp
  · rw [if_neg z, h.2 j hj]
    unfold stX
    rw [if_neg z]
theorem DI_step {w p n : Nat} {X : Nat → Bool} (hw : 0 < w) (hw5 : w ≤ 5) (h : DI w X p n) (hr : p % w + 1 = w → X (2 * p + 1) = false) : DI w X (p + 1) (nxN (p % w) n (b2 (X (2 * p)) (X (2 * p + 1)))) ∧ shN (p % w) n / 2 ^ (p % w) % 4 = b2 (lfX w X p) (upX w X p) := by
  have hc : p % w < w := Nat.mod_lt _ hw
  have hb := nxN_bit (p % w) (by omega) (b2 (X (2 * p)) (X (2 * p + 1))) (b2_lt _ _) n h.1
  have hs := DI_sh hw hw5 h
  have hmod : (p + 1) % w = if p % w + 1 = w then 0 else p % w + 1 := by
    have hd := Nat.div_add_mod p w
    by_cases z : p % w + 1 = w
    · rw [if_pos z]
      have : p + 1 = w * (p / w + 1) := by rw [Nat.mul_succ]; omega
      rw [this, Nat.mul_mod_right]
    · rw [if_neg z]
      have : p + 1 = w * (p / w) + (p % w + 1) := by omega
      rw [this, Nat.mul_add_mod, Nat.mod_eq_of_lt (by omega)]
  have hpc : p % w ≤ p := Nat.mod_le p w
  have hbits : ∀ j, j < 8 → (nxN (p % w) n (b2 (X (2 * p)) (X (2 * p + 1)))).testBit j = stX w X (p + 1) j := by
    intro j hj
    rw [hb.1 j hj, b2_t0, b2_t1, hs j hj]
    by_cases z : p % w + 1 = w
    · have hwp : w ≤ p + 1 := by omega
      have hm0 : (p + 1) % w = 0 := by rw [hmod, if_pos z]
      have hR : stX w X (p + 1) j = (decide (j < w) && X (2 * (p - p % w + j))) := by
        unfold stX
        rw [if_pos hm0, fsX_gt (by omega), decide_eq_true hwp, Bool.true_and, hm0, show p + 1 - w + (j + 1 - 1 - 0) = p - p % w + j by omega]
      rw [hR]
      by_cases y : j = p % w
      · rw [if_pos y, decide_eq_true (show j < w by omega), show p - p % w + j = p by omega, Bool.true_and]
      · rw [if_neg y]
        by_cases x : j = p % w + 1
        · rw [if_pos x, hr z, decide_eq_false (show ¬ j < w by omega), Bool.false_and]
        · rw [if_neg x]
          by_cases u : j < p % w
          · rw [fsX_lt u, decide_eq_true (show j ≤ w by omega), decide_eq_true (show j < w by omega)]
          · rw [decide_eq_false (show ¬ j ≤ w by omega), decide_eq_false (show ¬ j < w by omega), Bool.false_and, Bool.false_and]
    · have hm1 : (p + 1) % w = p % w + 1 := by rw [hmod, if_neg z]
      have hR : stX w X (p + 1) j = (decide (j ≤ w) && fsX w X (p + 1) j) := by unfold stX; rw [if_neg (by omega)]
      rw [hR]
      by_cases y : j = p % w
      · rw [if_pos y, fsX_lt (show j < (p + 1) % w by omega), decide_eq_true (show j ≤ w by omega), hm1, show p + 1 - (p % w + 1) + j = p by omega, Bool.true_and]
      · rw [if_neg y]
        by_cases x : j = p % w + 1
        · rw [if_pos x, decide_eq_true (show j ≤ w by omega), x, ← hm1, fsX_c]
          unfold lfX
          rw [decide_eq_true (show 0 < (p + 1) % w by omega), show 2 * (p + 1) - 1 = 2 * p + 1 by omega, Bool.true_and, Bool.true_and]
        · rw [if_neg x]
          by_cases u : j < p % w
          · rw [fsX_lt u, fsX_lt (show j < (p + 1) % w by omega), hm1, show p + 1 - (p % w + 1) + j = p - p % w + j by omega]
          · rw [fsX_gt (show p % w < j by omega), fsX_gt (show (p + 1) % w < j by omega), hm1]
            by_cases v : w ≤ p
            · rw [decide_eq_true v, decide_eq_true (show w ≤ p + 1 by omega), show p + 1 - w + (j - 1 - (p % w + 1)) = p - w + (j - 1 - p % w) by omega]
            · have : p % w = p := Nat.mod_eq_of_lt (by omega)
              rw [decide_eq_false v, decide_eq_false (show ¬ w ≤ p + 1 by omega), Bool.false_and, Bool.false_and]
  refine ⟨⟨?_, hbits⟩, ?_⟩
  · have h64 : nxN (p % w) n (b2 (X (2 * p)) (X (2 * p + 1))) < 2 ^ 6 := by
      refine tb_lt (by decide) hb.2.1 (fun j h1 h2 => ?_)
      rw [hbits j h2]
      unfold stX
      by_cases y : (p + 1) % w = 0
      · rw [if_pos y, decide_eq_false (show ¬ j < w by omega)]; rfl
      · rw [if_neg y, decide_eq_false (show ¬ j ≤ w by omega)]; rfl
    exact h64
  · rw [hb.2.2.1, hs _ (by omega), hs _ (by omega), decide_eq_true (show p % w ≤ w by omega), decide_eq_true (show p % w + 1 ≤ w by omega), Bool.true_and, Bool.true_and]
    have e1 : fsX w X p (p % w) = lfX w X p := fsX_c
    have e2 : fsX w X p (p % w + 1) = upX w X p := by
      unfold upX
      rw [fsX_gt (by omega), show p - w + (p % w + 1 - 1 - p % w) = p - w by omega]
    rw [e1, e2]
theorem DI_0 {w : Nat} {X : Nat → Bool} (hw : 0 < w) : DI w X 0 0 := by
  refine ⟨by decide, fun j hj => ?_⟩
  rw [Nat.zero_testBit]
  unfold stX fsX
  rw [Nat.zero_mod, if_pos rfl, if_neg (Nat.not_lt_zero _), if_neg (by omega), decide_eq_false (show ¬ w ≤ 0 by omega), Bool.false_and, Bool.and_false]
abbrev nxD (w P : Nat) (ho : Int32) (op : Int64) (dg : Nat) : Nat → Int32 → Nat → Int32 := nxA (fun p => cafDK (nI P) ho (nI dg) p (p % w)) (fun p => openChoicesF op (nI p))
def dueD (P : Nat) (ho : Int32) (dg q : Nat) : Nat := if plB P ho q = true then dg else 0
theorem nxD_eq {w P : Nat} {ho : Int32} {op : Int64} {dg p n z : Nat} (hw : 0 < w) (hw5 : w ≤ 5) (hP : P ≤ 25) (hp : p < P) (hd : dg < 3) (hn : n < 64) (hz : z < 4) : nxD w P ho op dg p (nI n) z = if nI z &&& (openChoicesF op (nI p) ^^^ -1) = 0 then (if bs2 (shN (p % w) n / 2 ^ (p % w) % 4) + bs2 z = dueD P ho dg p then nI (nxN (p % w) n z) else -1) else -1 := by
  have hc : p % w < w := Nat.mod_lt _ hw
  show (if nI z &&& (openChoicesF op (nI p) ^^^ -1) = 0 then cafD (nI P) ho (nI dg) (nI n) (nI p) (nI (p % w)) (nI z) else -1) = _
  by_cases y : nI z &&& (openChoicesF op (nI p) ^^^ -1) = 0
  · rw [if_pos y, if_pos y]
    have h1 : cafD (nI P) ho (nI dg) (nI n) (nI p) (nI (p % w)) (nI z) = cafDd (if isPlaceF (nI P) ho (nI p) = true then nI dg else 0) (nI n) (nI (p % w)) (nI z) := rfl
    rw [h1, isPlaceF_nI hP (by omega)]
    have h2 : (if plB P ho p = true then nI dg else 0) = nI (dueD P ho dg p) := by
      unfold dueD
      by_cases x : plB P ho p = true
      · rw [if_pos x, if_pos x]
      · rw [if_neg x, if_neg x]; rfl
    rw [h2, cafDd_N _ (by unfold dueD; by_cases x : plB P ho p = true; (rw [if_pos x]; exact hd); (rw [if_neg x]; decide)) _ (by omega) _ hz _ hn]
    rfl
  · rw [if_neg y, if_neg y]
theorem nI_n1 {n : Nat} (hn : n < 2 ^ 31) : nI n ≠ -1 := fun h => absurd (show nI n < 0 by rw [h]; decide) (nI_pos hn)
theorem runD {w h : Nat} {ho : Int32} {op inn out : Int64} {dg : Nat} {X : Nat → Bool} (hw : 0 < w) (hw5 : w ≤ 5) (hP : w * h ≤ 25) (hd : dg < 3) (hop : ∀ s, s < 64 → gB op s = opB w (w * h) (plB (w * h) ho) s) : ∀ (k p n : Nat), p + k = w * h → DI w X p n → (∀ j, j / 2 < p → X j = true → gB op j = true) →
    (RO (nxD w (w * h) ho op dg) isWayDG (alF inn out) (sqX X p k) p (nI n) ↔ ∀ q, p ≤ q → q < w * h → okX op inn out X q ∧ degX w X q = dueD (w * h) ho dg q)
  | 0, p, n, hk, hD, hX => by
    constructor
    · intro _ q h1 h2; omega
    · intro _
      show isWayDG (nI n) = true
      have hn0 : n = 0 := by
        have h0 : n < 2 ^ 0 := by
          refine tb_lt (by decide) (by have := hD.1; omega) (fun j _ hj => ?_)
          rw [hD.2 j hj]
          have hpm : p % w = 0 := by rw [show p = w * h by omega, Nat.mul_mod_right]
          unfold stX
          rw [if_pos hpm]
          by_cases y : j < w
          · unfold fsX
            rw [hpm, if_neg (Nat.not_lt_zero _), if_neg (by omega)]
            by_cases x : w ≤ p
            · cases hx : X (2 * (p - w + (j + 1 - 1 - 0))) with
              | false => simp
              | true =>
                exfalso
                have h1 := hX _ (by omega) hx
                rw [hop _ (by omega)] at h1
                unfold opB at h1
                rw [if_neg (by omega)] at h1
                have h2 := (Bool.and_eq_true _ _ ▸ h1).2
                unfold plB at h2
                rw [decide_eq_false (by omega)] at h2
                exact absurd h2 (by simp)
            · rw [decide_eq_false x]; simp
          · rw [decide_eq_false y]; rfl
        omega
      rw [hn0]
      rfl
  | k + 1, p, n, hk, hD, hX => by
    have hp : p < w * h := by omega
    have hz := b2_lt (X (2 * p)) (X (2 * p + 1))
    have hok := okX_iff (op := op) (inn := inn) (out := out) (X := X) (q := p) (by omega)
    have hclose : (nI (b2 (X (2 * p)) (X (2 * p + 1))) &&& (openChoicesF op (nI p) ^^^ -1) = 0) → ∀ j, j / 2 = p → X j = true → gB op j = true := by
      intro h1 j hj hx
      have h2 := (opn_ok (by omega) hz).mp h1
      rw [b2_t0, b2_t1] at h2
      rcases (show j = 2 * p ∨ j = 2 * p + 1 by omega) with z | z
      · rw [z] at hx ⊢; exact h2.1 hx
      · rw [z] at hx ⊢; exact h2.2 hx
    have hright : (nI (b2 (X (2 * p)) (X (2 * p + 1))) &&& (openChoicesF op (nI p) ^^^ -1) = 0) → p % w + 1 = w → X (2 * p + 1) = false := by
      intro h1 h2
      cases hx : X (2 * p + 1) with
      | false => rfl
      | true =>
        exfalso
        have h3 := hclose h1 (2 * p + 1) (by omega) hx
        rw [hop _ (by omega)] at h3
        unfold opB at h3
        rw [if_pos (by omega), show (2 * p + 1) / 2 = p by omega, decide_eq_false (show ¬ p % w + 1 < w by omega)] at h3
        simp at h3
    show ((b2 _ _) < 4 ∧ alF inn out p (b2 (X (2 * p)) (X (2 * p + 1))) = true ∧ nxD w (w * h) ho op dg p (nI n) (b2 (X (2 * p)) (X (2 * p + 1))) ≠ -1 ∧ RO _ _ _ (sqX X (p + 1) k) (p + 1) (nxD w (w * h) ho op dg p (nI n) (b2 (X (2 * p)) (X (2 * p + 1))))) ↔ _
    rw [nxD_eq hw hw5 hP hp hd hD.1 hz]
    constructor
    · rintro ⟨_, h1, h2, h3⟩
      by_cases y : nI (b2 (X (2 * p)) (X (2 * p + 1))) &&& (openChoicesF op (nI p) ^^^ -1) = 0
      · rw [if_pos y] at h2 h3
        obtain ⟨hD2, hsym⟩ := DI_step hw hw5 hD (hright y)
        by_cases x : bs2 (shN (p % w) n / 2 ^ (p % w) % 4) + bs2 (b2 (X (2 * p)) (X (2 * p + 1))) = dueD (w * h) ho dg p
        · rw [if_pos x] at h3
          have ih := (runD (inn := inn) (out := out) hw hw5 hP hd hop k (p + 1) _ (by omega) hD2 (fun j hj hx => by
            rcases Nat.lt_or_ge (j / 2) p with u | u
            · exact hX j u hx
            · exact hclose y j (by omega) hx)).mp h3
          intro q h4 h5
          rcases Nat.lt_or_ge p q with u | u
          · exact ih q u h5
          · rw [show q = p by omega]
            refine ⟨hok.mpr ⟨y, h1⟩, ?_⟩
            unfold degX
            rw [← hsym]
            exact x
        · rw [if_neg x] at h2; exact absurd rfl h2
      · rw [if_neg y] at h2; exact absurd rfl h2
    · intro hall
      have hpp := hall p (Nat.le_refl _) hp
      have h1 := hok.mp hpp.1
      obtain ⟨hD2, hsym⟩ := DI_step hw hw5 hD (hright h1.1)
      have hdeg := hpp.2
      unfold degX at hdeg
      rw [← hsym] at hdeg
      rw [if_pos h1.1, if_pos hdeg]
      refine ⟨hz, h1.2, nI_n1 (by have := hD2.1; omega), ?_⟩
      refine (runD (inn := inn) (out := out) hw hw5 hP hd hop k (p + 1) _ (by omega) hD2 (fun j hj hx => by
            rcases Nat.lt_or_ge (j / 2) p with u | u
            · exact hX j u hx
            · exact hclose h1.1 j (by omega) hx)).mpr (fun q h4 h5 => hall q (by omega) h5)
