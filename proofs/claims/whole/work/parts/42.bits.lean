/-! BITS OF HOLES AND SLOTS, AND THE SLOTS THAT ARE OPEN -/
def gI (x : Int32) (i : Nat) : Bool := x.toBitVec.getLsbD i
theorem gI_ext {a b : Int32} (h : ∀ i, i < 32 → gI a i = gI b i) : a = b := Int32.toBitVec_inj.mp (BitVec.eq_of_getLsbD_eq h)
theorem gI_xor (a b : Int32) (i : Nat) : gI (a ^^^ b) i = (gI a i ^^ gI b i) := by
  show ((a.toBitVec) ^^^ (b.toBitVec)).getLsbD i = _
  rw [BitVec.getLsbD_xor]; rfl
theorem gI_0 (i : Nat) : gI 0 i = false := by show (0 : Int32).toBitVec.getLsbD i = false; simp
theorem gB_jl {x : Int64} {k i : Nat} (hk : k < 64) : gB (jlushr x (nI k)) i = gB x (k + i) := by
  show (x.toBitVec >>> (((nI k).toInt64.toUInt64 &&& Int64.toUInt64 63).mod 64).toBitVec.toNat).getLsbD i = _
  have h : ∀ k, k < 64 → (((nI k).toInt64.toUInt64 &&& Int64.toUInt64 63).mod 64).toBitVec.toNat = k := by decide +kernel
  rw [h k hk, BitVec.getLsbD_ushiftRight]
  rfl
theorem hasF_gB {x : Int64} {s : Nat} (hs : s < 64) : hasF x (nI s) = gB x s := by
  unfold hasF
  have h1 : (jlushr x (nI s) &&& 1 = 0) ↔ gB x s = false := by
    constructor
    · intro h
      have h2 : gB (jlushr x (nI s) &&& 1) 0 = false := by rw [h, gB_0]
      rw [gB_and, gB_1, decide_eq_true rfl, Bool.and_true, gB_jl hs] at h2
      exact h2
    · intro h
      apply gB_ext
      intro i hi
      rw [gB_and, gB_1, gB_0]
      by_cases z : i = 0
      · rw [z, gB_jl hs, Nat.add_zero, h]; rfl
      · rw [decide_eq_false z, Bool.and_false]
  cases hg : gB x s with
  | true =>
    rw [decide_eq_false (show ¬ lg_cmp (jlushr x (nI s) &&& 1) 0 = 0 from fun z => by rw [lg0] at z; rw [h1.mp z] at hg; exact absurd hg (by decide))]
    rfl
  | false =>
    rw [decide_eq_true (show lg_cmp (jlushr x (nI s) &&& 1) 0 = 0 from lg0.mpr (h1.mpr hg))]
    rfl
theorem gI_ju {x : Int32} {k i : Nat} (hk : k < 32) : gI (jushr x (nI k)) i = gI x (k + i) := by
  show (x.toBitVec >>> (((nI k).toUInt32 &&& Int32.toUInt32 31).mod 32).toBitVec.toNat).getLsbD i = _
  have h : ∀ k, k < 32 → (((nI k).toUInt32 &&& Int32.toUInt32 31).mod 32).toBitVec.toNat = k := by decide +kernel
  rw [h k hk, BitVec.getLsbD_ushiftRight]
  rfl
theorem gI_and (a b : Int32) (i : Nat) : gI (a &&& b) i = (gI a i && gI b i) := by
  show ((a.toBitVec) &&& (b.toBitVec)).getLsbD i = _
  rw [BitVec.getLsbD_and]; rfl
theorem gI_1 (i : Nat) : gI 1 i = decide (i = 0) := by
  show (1 : Int32).toBitVec.getLsbD i = _
  rw [show (1 : Int32).toBitVec = 1#32 from rfl]
  simp
theorem ju1 {x : Int32} {k : Nat} (hk : k < 32) : (jushr x (nI k) &&& 1 = 0) ↔ gI x k = false := by
  constructor
  · intro h
    have h2 : gI (jushr x (nI k) &&& 1) 0 = false := by rw [h, gI_0]
    rw [gI_and, gI_1, decide_eq_true rfl, Bool.and_true, gI_ju hk] at h2
    exact h2
  · intro h
    apply gI_ext
    intro i hi
    rw [gI_and, gI_1, gI_0]
    by_cases z : i = 0
    · rw [z, gI_ju hk, Nat.add_zero, h]; rfl
    · rw [decide_eq_false z, Bool.and_false]
def plB (P : Nat) (ho : Int32) (p : Nat) : Bool := decide (p < P) && !gI ho p
theorem insideF_nI {P p : Nat} (hP : P < 2 ^ 31) (hp : p < 2 ^ 31) : insideF (nI P) (nI p) = decide (p < P) := by
  unfold insideF
  rw [decide_eq_false (nI_pos hp)]
  by_cases z : p < P
  · rw [decide_eq_true z, decide_eq_false (fun q => absurd ((nI_leI hP hp).mp q) (by omega))]; rfl
  · rw [decide_eq_false z, decide_eq_true (nI_le (by omega) hp)]; rfl
theorem isPlaceF_nI {P p : Nat} {ho : Int32} (hP : P ≤ 25) (hp : p < 2 ^ 31) : isPlaceF (nI P) ho (nI p) = plB P ho p := by
  unfold isPlaceF plB
  rw [insideF_nI (by omega) hp]
  by_cases z : p < P
  · rw [decide_eq_true z, Bool.true_and, Bool.true_and]
    cases hg : gI ho p with
    | true => rw [decide_eq_false (fun q => by rw [(ju1 (show p < 32 by omega)).mp q] at hg; exact absurd hg (by decide))]; rfl
    | false => rw [decide_eq_true ((ju1 (show p < 32 by omega)).mpr hg)]; rfl
  · rw [decide_eq_false z, Bool.false_and, Bool.false_and]
def opB (w P : Nat) (pl : Nat → Bool) (s : Nat) : Bool := if s % 2 = 1 then pl (s / 2) && decide (s / 2 % w + 1 < w) && pl (s / 2 + 1) else pl (s / 2) && pl (s / 2 + w)
def lpB (pl : Nat → Bool) : Nat → Int32
  | 0 => -1
  | p + 1 => if pl p = true then nI p else lpB pl p
theorem itn_flat {σ : Type} (w : Nat) (g : Nat → σ → σ) : ∀ (h : Nat) (s : σ), itn (fun j s => itn (fun i => g (i + w * j)) w s) h s = itn g (w * h) s
  | 0, s => rfl
  | h + 1, s => by
    show itn (fun i => g (i + w * h)) w (itn _ h s) = itn g (w * (h + 1)) s
    rw [itn_flat w g h s]
    have key : ∀ n, itn (fun i => g (i + w * h)) n (itn g (w * h) s) = itn g (w * h + n) s := by
      intro n
      induction n with
      | zero => rfl
      | succ n ih =>
        show g (n + w * h) (itn _ n _) = g (w * h + n) (itn g (w * h + n) s)
        rw [ih, Nat.add_comm]
    rw [key w, Nat.mul_succ]
theorem fos_flat {w h : Nat} {pl ho : Int32} (hw : 0 < w) : fosF w h pl ho = itn (fun p => oslotF (nI w) pl ho (nI p) (decide (p % w + 1 < w))) (w * h) (0, -1) := by
  unfold fosF
  rw [← itn_flat]
  refine itn_congr (fun j _ s => ?_)
  unfold fosRow
  refine itn_congr (fun i hi s => ?_)
  unfold fosStep
  rw [pk_mul, nI_add, show (i + w * j) % w = i by rw [Nat.add_mul_mod_self_left, Nat.mod_eq_of_lt hi]]
theorem fos_ok {w h : Nat} {ho : Int32} (hw : 0 < w) (hw5 : w ≤ 5) (hP : w * h ≤ 25) : (∀ s, s < 64 → gB (fosF w h (nI (w * h)) ho).1 s = opB w (w * h) (plB (w * h) ho) s) ∧ (fosF w h (nI (w * h)) ho).2 = lpB (plB (w * h) ho) (w * h) := by
  rw [fos_flat hw]
  have key : ∀ n, n ≤ w * h → (∀ s, s < 64 → gB (itn (fun p => oslotF (nI w) (nI (w * h)) ho (nI p) (decide (p % w + 1 < w))) n (0, -1)).1 s = (decide (s / 2 < n) && opB w (w * h) (plB (w * h) ho) s)) ∧ (itn (fun p => oslotF (nI w) (nI (w * h)) ho (nI p) (decide (p % w + 1 < w))) n (0, -1)).2 = lpB (plB (w * h) ho) n := by
    intro n
    induction n with
    | zero =>
      intro _
      refine ⟨fun s hs => ?_, rfl⟩
      show gB 0 s = _
      rw [gB_0, decide_eq_false (Nat.not_lt_zero _), Bool.false_and]
    | succ n ih =>
      intro hn
      obtain ⟨h1, h2⟩ := ih (by omega)
      generalize hst : itn (fun p => oslotF (nI w) (nI (w * h)) ho (nI p) (decide (p % w + 1 < w))) n (0, -1) = st at h1 h2
      show (∀ s, s < 64 → gB (oslotF (nI w) (nI (w * h)) ho (nI n) (decide (n % w + 1 < w)) (itn _ n (0, -1))).1 s = _) ∧ (oslotF (nI w) (nI (w * h)) ho (nI n) (decide (n % w + 1 < w)) (itn _ n (0, -1))).2 = _
      rw [hst]
      have e1 : isPlaceF (nI (w * h)) ho (nI n) = plB (w * h) ho n := isPlaceF_nI hP (by omega)
      have e2 : isPlaceF (nI (w * h)) ho (nI n + nI w) = plB (w * h) ho (n + w) := by rw [nI_add]; exact isPlaceF_nI hP (by omega)
      have e3 : isPlaceF (nI (w * h)) ho (nI n + 1) = plB (w * h) ho (n + 1) := by rw [nI_1]; exact isPlaceF_nI hP (by omega)
      have b1 : (1 : Int64) <<< ((2 * nI n + 1).toInt64 &&& 63) = bitL (2 * n + 1) := by rw [show (2 : Int32) * nI n = nI (2 * n) from pk_mul 2 n, nI_1]; rfl
      have b2 : (1 : Int64) <<< ((2 * nI n).toInt64 &&& 63) = bitL (2 * n) := by rw [show (2 : Int32) * nI n = nI (2 * n) from pk_mul 2 n]; rfl
      unfold oslotF
      rw [e1, e2, e3, b1, b2]
      constructor
      · intro s hs
        have hs1 := h1 s hs
        have o1 : opB w (w * h) (plB (w * h) ho) (2 * n + 1) = (plB (w * h) ho n && decide (n % w + 1 < w) && plB (w * h) ho (n + 1)) := by
          unfold opB; rw [if_pos (by omega), show (2 * n + 1) / 2 = n by omega]
        have o2 : opB w (w * h) (plB (w * h) ho) (2 * n) = (plB (w * h) ho n && plB (w * h) ho (n + w)) := by
          unfold opB; rw [if_neg (by omega), show (2 * n) / 2 = n by omega]
        have g1 := gB_bitL (e := 2 * n + 1) (i := s) (by omega)
        have g2 := gB_bitL (e := 2 * n) (i := s) (by omega)
        rcases (show s / 2 < n ∨ s = 2 * n ∨ s = 2 * n + 1 ∨ n < s / 2 by omega) with z | z | z | z
        · rw [decide_eq_true z] at hs1
          rw [decide_eq_true (show s / 2 < n + 1 by omega)]
          rw [decide_eq_false (show ¬ s = 2 * n + 1 by omega)] at g1
          rw [decide_eq_false (show ¬ s = 2 * n by omega)] at g2
          cases plB (w * h) ho n <;> cases plB (w * h) ho (n + w) <;> cases (decide (n % w + 1 < w) && plB (w * h) ho (n + 1)) <;> simp [gB_or, hs1, g1, g2]
        · rw [decide_eq_false (show ¬ s / 2 < n by omega), Bool.false_and] at hs1
          rw [decide_eq_true (show s / 2 < n + 1 by omega), z, o2]
          rw [decide_eq_false (show ¬ s = 2 * n + 1 by omega), z] at g1
          rw [decide_eq_true z, z] at g2
          rw [z] at hs1
          cases plB (w * h) ho n <;> cases plB (w * h) ho (n + w) <;> cases (decide (n % w + 1 < w) && plB (w * h) ho (n + 1)) <;> simp [gB_or, hs1, g1, g2]
        · rw [decide_eq_false (show ¬ s / 2 < n by omega), Bool.false_and] at hs1
          rw [decide_eq_true (show s / 2 < n + 1 by omega), z, o1, Bool.and_assoc]
          rw [decide_eq_true z, z] at g1
          rw [decide_eq_false (show ¬ s = 2 * n by omega), z] at g2
          rw [z] at hs1
          cases plB (w * h) ho n <;> cases plB (w * h) ho (n + w) <;> cases (decide (n % w + 1 < w) && plB (w * h) ho (n + 1)) <;> simp [gB_or, hs1, g1, g2]
        · rw [decide_eq_false (show ¬ s / 2 < n by omega), Bool.false_and] at hs1
          rw [decide_eq_false (show ¬ s / 2 < n + 1 by omega), Bool.false_and]
          rw [decide_eq_false (show ¬ s = 2 * n + 1 by omega)] at g1
          rw [decide_eq_false (show ¬ s = 2 * n by omega)] at g2
          cases plB (w * h) ho n <;> cases plB (w * h) ho (n + w) <;> cases (decide (n % w + 1 < w) && plB (w * h) ho (n + 1)) <;> simp [gB_or, hs1, g1, g2]
      · show _ = if plB (w * h) ho n = true then nI n else lpB (plB (w * h) ho) n
        cases plB (w * h) ho n with
        | true => rw [if_pos rfl, if_pos rfl]
        | false => rw [if_neg (by decide), if_neg (by decide)]; exact h2
  obtain ⟨k1, k2⟩ := key (w * h) (Nat.le_refl _)
  refine ⟨fun s hs => ?_, k2⟩
  rw [k1 s hs]
  by_cases z : s / 2 < w * h
  · rw [decide_eq_true z, Bool.true_and]
  · rw [decide_eq_false z, Bool.false_and]
    have : plB (w * h) ho (s / 2) = false := by unfold plB; rw [decide_eq_false z, Bool.false_and]
    unfold opB
    rw [this]
    by_cases y : s % 2 = 1
    · rw [if_pos y]; rfl
    · rw [if_neg y]; rfl
