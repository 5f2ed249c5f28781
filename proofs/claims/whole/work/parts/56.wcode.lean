/-! LINES: the code of a word, shifted, with an end, and its step -/
theorem mod_succ {w p : Nat} (hw : 0 < w) : (p + 1) % w = if p % w + 1 = w then 0 else p % w + 1 := by
  have hd := Nat.div_add_mod p w
  have hl := Nat.mod_lt p hw
  by_cases z : p % w + 1 = w
  · rw [if_pos z]
    have : p + 1 = w * (p / w + 1) := by rw [Nat.mul_succ]; omega
    rw [this, Nat.mul_mod_right]
  · rw [if_neg z]
    have : p + 1 = w * (p / w) + (p % w + 1) := by omega
    rw [this, Nat.mul_add_mod, Nat.mod_eq_of_lt (by omega)]
def shL (c n : Nat) : Nat := if c = 0 then 4 * n else n
set_option maxRecDepth 1000000 in
theorem shl2_chk : (List.range 1024).all (fun n => decide (nI n <<< ((2 : Int32) &&& 31) = nI (4 * n))) = true := by decide +kernel
theorem gw_top : ∀ {k d e n : Nat}, n < 4 ^ k → gw (k + 1) d e n = gw k d e n
  | 0, d, e, n, h => by
    have : n = 0 := by rw [Nat.pow_zero] at h; omega
    subst this; rfl
  | k + 1, d, e, n, h => by
    have h4 : n / 4 < 4 ^ k := by rw [Nat.pow_succ] at h; omega
    have e1 : ∀ d e, gw (k + 1) d e (n / 4) = gw k d e (n / 4) := fun d e => gw_top h4
    show (if n % 4 = 0 then gw (k + 1) d e (n / 4) else if n % 4 = 1 then gw (k + 1) (d + 1) e (n / 4) else if n % 4 = 2 then (match d with | 0 => false | d' + 1 => gw (k + 1) d' e (n / 4)) else (match e with | 0 => false | e' + 1 => gw (k + 1) d e' (n / 4))) = (if n % 4 = 0 then gw k d e (n / 4) else if n % 4 = 1 then gw k (d + 1) e (n / 4) else if n % 4 = 2 then (match d with | 0 => false | d' + 1 => gw k d' e (n / 4)) else (match e with | 0 => false | e' + 1 => gw k d e' (n / 4)))
    cases d <;> cases e <;> simp only [e1]
theorem sy5 {n : Nat} (hn : n < 4096) (h : sy n 5 = 0) : n < 1024 := by
  unfold sy at h
  rw [show 4 ^ 5 = 1024 by decide] at h
  omega
theorem fw_shift (s : Nat → Nat) (v : Nat → Bool) (F : List Bool → Bool) : ∀ (k j : Nat), fw s v k (j + 1) F = fw (fun i => s (i + 1)) (fun i => v (i + 1)) k j F
  | 0, _ => rfl
  | k + 1, j => by
    show f1 (s (j + 1)) (v (j + 1)) (fw s v k (j + 1 + 1) F) = f1 (s (j + 1)) (v (j + 1)) (fw (fun i => s (i + 1)) (fun i => v (i + 1)) k (j + 1) F)
    rw [fw_shift s v F k (j + 1)]
theorem sy_4 (n j : Nat) : sy (4 * n) (j + 1) = sy n j := by
  unfold sy
  rw [Nat.pow_succ, Nat.mul_comm (4 ^ j) 4, ← Nat.div_div_eq_div_mul, show 4 * n / 4 = n by omega]
theorem sy_40 (n : Nat) : sy (4 * n) 0 = 0 := by unfold sy; rw [Nat.pow_zero, Nat.div_one]; omega
theorem sh_R {c n e : Nat} (hc : c < 5) (hg : gw 6 0 e n = true) (h5 : c = 0 → sy n 5 = 0) : gw 6 0 e (shL c n) = true ∧ (∀ j, j < 6 → sy (shL c n) j = if c = 0 then (if j = 0 then 0 else sy n (j - 1)) else sy n j) ∧ (if nI c = 0 then nI n <<< ((2 : Int32) &&& 31) else nI n) = nI (shL c n) ∧ ∀ v, Rsp (shL c n) v = if c = 0 then Rsp n (fun j => v (j + 1)) else Rsp n v := by
  have hn : n < 4096 := gw_lt hg
  unfold shL
  by_cases z : c = 0
  · have hn5 := sy5 hn (h5 z)
    rw [if_pos z, if_pos (show nI c = 0 by rw [z]; rfl)]
    refine ⟨?_, fun j hj => ?_, of_decide_eq_true (List.all_eq_true.mp shl2_chk n (List.mem_range.mpr hn5)), fun v => ?_⟩
    · have : gw 6 0 e (4 * n) = gw 5 0 e n := by
        show (if 4 * n % 4 = 0 then gw 5 0 e (4 * n / 4) else _) = _
        rw [if_pos (by omega), show 4 * n / 4 = n by omega]
      rw [this, ← gw_top (k := 5) (by omega)]; exact hg
    · rw [if_pos z]
      cases j with
      | zero => rw [if_pos rfl]; exact sy_40 n
      | succ j => rw [if_neg (by omega), sy_4]; rfl
    · rw [if_pos z, Rsp_fw, Rsp_fw]
      show f1 (sy (4 * n) 0) (v 0) (fw (sy (4 * n)) v 5 1 List.isEmpty) [] = _
      rw [sy_40, f1_0 _ _ (by decide) (by decide), fw_shift, show 6 = 5 + 1 by rfl, fw_add]
      have e1 : fw (sy n) (fun j => v (j + 1)) 1 (0 + 5) List.isEmpty = List.isEmpty := by
        show f1 (sy n 5) _ List.isEmpty = _
        rw [h5 z, f1_0 _ _ (by decide) (by decide)]
      rw [e1]
      exact congrFun (fw_congr rfl (fun i _ _ => ⟨sy_4 n i, fun _ => rfl⟩)) []
  · rw [if_neg z, if_neg (show ¬nI c = 0 from fun q => z ((nI_eq (show c < 2 ^ 31 by omega) (show 0 < 2 ^ 31 by decide)).mp q))]
    refine ⟨hg, fun j hj => by rw [if_neg z], rfl, fun v => by rw [if_neg z]⟩
def ecn (EN : Nat → Bool) : Nat → Nat
  | 0 => 0
  | p + 1 => ecn EN p + (if EN p = true then 1 else 0)
def weN (en : Bool) (c m : Nat) : Nat := if en = true then (if sy m c = 0 then m + 3 * 4 ^ c else m + 3 * 4 ^ (c + 1)) else m
theorem f1_congr2 {s s' : Nat} {x : Bool} {F F' : List Bool → Bool} (hs : s = s' ∨ (s ≠ 1 ∧ s ≠ 2 ∧ s' ≠ 1 ∧ s' ≠ 2)) (hF : F = F') : f1 s x F = f1 s' x F' := by
  subst hF
  rcases hs with z | z
  · rw [z]
  · rw [f1_0 x F z.1 z.2.1, f1_0 x F z.2.2.1 z.2.2.2]
theorem fw_congr2 {s s' : Nat → Nat} {v : Nat → Bool} {F : List Bool → Bool} : ∀ {k j : Nat}, (∀ i, j ≤ i → i < j + k → s i = s' i ∨ (s i ≠ 1 ∧ s i ≠ 2 ∧ s' i ≠ 1 ∧ s' i ≠ 2)) → fw s v k j F = fw s' v k j F
  | 0, _, _ => rfl
  | k + 1, j, h => f1_congr2 (h j (Nat.le_refl _) (by omega)) (fw_congr2 (fun i h1 h2 => h i (by omega) (by omega)))
theorem Rsp_end {m j0 : Nat} {v : Nat → Bool} (hm : m < 4096) (hj : j0 < 6) (h : sy m j0 = 0) : Rsp (m + 3 * 4 ^ j0) v = Rsp m v := by
  rw [Rsp_fw, Rsp_fw]
  refine congrFun (fw_congr2 (fun i _ hi => ?_)) []
  rw [sy_add hm (by decide) j0 hj h i (by omega)]
  by_cases z : i = j0
  · rw [if_pos z, z, h]; exact Or.inr (by decide)
  · rw [if_neg z]; exact Or.inl rfl
def b1 (x : Bool) : Nat := if x = true then 1 else 0
theorem nz_0 : nz 0 = 0 := rfl
theorem nz_ne {n : Nat} (h : n ≠ 0) : nz n = 1 := if_neg h
/-- a word to which an end came -/
def WeR (en : Bool) (e c m m2 : Nat) : Prop := gw 6 0 (e + b1 en) m2 = true ∧ (∀ j, j < 6 → j ≠ c → j ≠ c + 1 → sy m2 j = sy m j) ∧ nz (sy m2 c) + nz (sy m2 (c + 1)) = nz (sy m c) + nz (sy m (c + 1)) + b1 en ∧ (sy m c ≠ 0 → sy m2 c = sy m c) ∧ (sy m (c + 1) ≠ 0 → sy m2 (c + 1) = sy m (c + 1)) ∧ (sy m2 c = sy m c ∨ sy m2 c = 3) ∧ (sy m2 (c + 1) = sy m (c + 1) ∨ sy m2 (c + 1) = 3) ∧ ∀ v, Rsp m2 v = Rsp m v
theorem we_R {en : Bool} {e c m : Nat} (hc : c < 5) (he : e + b1 en < 3) (hg : gw 6 0 e m = true) (hb : en = true → sy m c = 0 ∨ sy m (c + 1) = 0) : WeR en e c m (weN en c m) ∧ (if en = true then withEndF (nI m) (nI (2 * c)) else nI m) = nI (weN en c m) := by
  have hm : m < 4096 := gw_lt hg
  unfold weN
  by_cases z : en = true
  · rw [if_pos z, if_pos z]
    subst z
    have hw := wend_R (c := c) (e := e) hc (by unfold b1 at he; rw [if_pos rfl] at he; omega) hg
    by_cases y : sy m c = 0
    · rw [if_pos y, if_pos y] at hw
      rw [if_pos y]
      have hs := sy_add (a := 3) hm (by decide) c (by omega) y
      refine ⟨⟨hw.2, fun j hj h1 h2 => by rw [hs j hj, if_neg h1], ?_, fun q => absurd y q, fun _ => by rw [hs (c + 1) (by omega), if_neg (by omega)], Or.inr (by rw [hs c (by omega), if_pos rfl]), Or.inl (by rw [hs (c + 1) (by omega), if_neg (by omega)]), fun v => Rsp_end hm (by omega) y⟩, hw.1⟩
      rw [hs c (by omega), if_pos rfl, hs (c + 1) (by omega), if_neg (by omega), y, nz_0, nz_ne (by decide)]
      unfold b1; rw [if_pos rfl]; omega
    · have y2 : sy m (c + 1) = 0 := by rcases hb rfl with q | q; (exact absurd q y); (exact q)
      rw [if_neg y, if_neg y, if_pos y2, if_pos y2] at hw
      rw [if_neg y]
      have hs := sy_add (a := 3) hm (by decide) (c + 1) (by omega) y2
      refine ⟨⟨hw.2, fun j hj h1 h2 => by rw [hs j hj, if_neg h2], ?_, fun _ => by rw [hs c (by omega), if_neg (by omega)], fun q => absurd y2 q, Or.inl (by rw [hs c (by omega), if_neg (by omega)]), Or.inr (by rw [hs (c + 1) (by omega), if_pos rfl]), fun v => Rsp_end hm (by omega) y2⟩, hw.1⟩
      rw [hs c (by omega), if_neg (by omega), hs (c + 1) (by omega), if_pos rfl, y2, nz_0, nz_ne (show 3 ≠ 0 by decide)]
      unfold b1; rw [if_pos rfl]
  · rw [if_neg z, if_neg z]
    have : b1 en = 0 := by unfold b1; rw [if_neg z]
    unfold WeR
    rw [this]
    exact ⟨⟨hg, fun _ _ _ _ => rfl, rfl, fun _ => rfl, fun _ => rfl, Or.inl rfl, Or.inl rfl, fun _ => rfl⟩, rfl⟩
theorem we_dead {c e m : Nat} (hc : c < 5) (he : e < 2) (hg : gw 6 0 e m = true) (h1 : sy m c ≠ 0) (h2 : sy m (c + 1) ≠ 0) : withEndF (nI m) (nI (2 * c)) = -1 := by
  have hw := (wend_R (c := c) (e := e) hc he hg).1
  rw [if_neg h1, if_neg h2] at hw
  exact hw
/-- the class's step at a word -/
theorem cafL_w {lp c n e z : Nat} {en0 : Bool} (hlp : lp < 2) (hc : c < 5) (hz : z < 4) (hg : gw 6 0 e n = true) (h5 : c = 0 → sy n 5 = 0) (he : e + b1 (decide (lp = 0) && en0) < 3) :
    ((decide (lp = 0) && en0) = true ∧ sy (shL c n) c ≠ 0 ∧ sy (shL c n) (c + 1) ≠ 0 → cafL (nI lp) en0 (nI n) (nI (2 * c)) (nI c) (nI z) = -1) ∧
    (((decide (lp = 0) && en0) = true → sy (shL c n) c = 0 ∨ sy (shL c n) (c + 1) = 0) → cafL (nI lp) en0 (nI n) (nI (2 * c)) (nI c) (nI z) = lnR lp c (weN (decide (lp = 0) && en0) c (shL c n)) z ∧ WeR (decide (lp = 0) && en0) e c (shL c n) (weN (decide (lp = 0) && en0) c (shL c n))) := by
  have hn : n < 4096 := gw_lt hg
  have hs := sh_R hc hg h5
  have h4 : nI n ≠ 4096 := fun q => by
    have := (nI_eq (show n < 2 ^ 31 by omega) (show 4096 < 2 ^ 31 by decide)).mp q
    omega
  have e0 : cafL (nI lp) en0 (nI n) (nI (2 * c)) (nI c) (nI z) = caf2 (nI lp) (nI z) (nI (2 * c)) (caf1 (nI lp) en0 (nI (2 * c)) (nI (shL c n))) := by
    unfold cafL
    rw [if_neg h4, hs.2.2.1]
  have e1 : caf1 (nI lp) en0 (nI (2 * c)) (nI (shL c n)) = if (decide (lp = 0) && en0) = true then withEndF (nI (shL c n)) (nI (2 * c)) else nI (shL c n) := by
    unfold caf1
    rcases (by omega : lp = 0 ∨ lp = 1) with y | y <;> subst y
    · rw [if_pos (show nI 0 = 0 from rfl)]; cases en0 <;> rfl
    · rw [if_neg (by decide)]; cases en0 <;> rfl
  rw [e0, e1]
  constructor
  · rintro ⟨h1, h2, h3⟩
    rw [if_pos h1, we_dead hc (by rw [h1] at he; unfold b1 at he; rw [if_pos rfl] at he; omega) hs.1 h2 h3]
    rfl
  · intro hb
    have hw := we_R hc he hs.1 hb
    rw [hw.2]
    exact ⟨caf2_R hlp hc hz he hw.1.1, hw.1⟩
