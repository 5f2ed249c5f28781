/-! TREES: labels, and what a code says of them -/
def mg (pa : Nat → Nat) (a b : Nat) : Nat → Nat := fun z => if pa z = pa b then pa a else pa z
def mSl (w : Nat) (X : Nat → Bool) (s : Nat) (pa : Nat → Nat) : Option (Nat → Nat) := if X s = true then (if pa (s / 2) = pa (enS w s).2 then none else some (mg pa (s / 2) (enS w s).2)) else some pa
def pX (w : Nat) (X : Nat → Bool) : Nat → Option (Nat → Nat)
  | 0 => some (fun q => q)
  | p + 1 => ((pX w X p).bind (mSl w X (2 * p + 1))).bind (mSl w X (2 * p))
def GoodT (w P : Nat) (pl : Nat → Bool) (X : Nat → Bool) : Prop := ∃ pa, pX w X P = some pa ∧ ∀ q q', pl q = true → pl q' = true → pa q = pa q'
def win (w p j : Nat) : Nat := if p % w ≤ j then p - p % w + j else p - p % w + j + w
theorem win_c {w p : Nat} : win w p (p % w) = p := by
  have := Nat.mod_le p w
  unfold win; rw [if_pos (Nat.le_refl _)]; omega
theorem win_b {w p j : Nat} (hw : 0 < w) (hj : j < w) : p ≤ win w p j ∧ win w p j < p + w := by
  have := Nat.mod_le p w
  have := Nat.mod_lt p hw
  unfold win
  by_cases z : p % w ≤ j
  · rw [if_pos z]; omega
  · rw [if_neg z]; omega
theorem win_s {w p j : Nat} (hw : 0 < w) (hj : j < w) : win w (p + 1) j = if j = p % w then p + w else win w p j := by
  have h1 := Nat.mod_le p w
  have h2 := Nat.mod_lt p hw
  have h3 := mod_succ (p := p) hw
  unfold win
  by_cases z : p % w + 1 = w
  · rw [if_pos z] at h3
    rw [h3, if_pos (Nat.zero_le _)]
    by_cases y : j = p % w
    · rw [if_pos y]; omega
    · rw [if_neg y, if_neg (by omega)]; omega
  · rw [if_neg z] at h3
    rw [h3]
    by_cases y : j = p % w
    · rw [if_pos y, if_neg (by omega)]; omega
    · rw [if_neg y]
      by_cases x : p % w ≤ j
      · rw [if_pos x, if_pos (by omega)]; omega
      · rw [if_neg x, if_neg (by omega)]; omega
theorem win_c1 {w p : Nat} : win w p (p % w + 1) = p + 1 := by
  have := Nat.mod_le p w
  unfold win; rw [if_pos (by omega)]; omega
theorem win_0 {w j : Nat} : win w 0 j = j := by
  unfold win; rw [Nat.zero_mod, if_pos (Nat.zero_le _)]; omega
theorem win_ne {w p j : Nat} (hw : 0 < w) (hj : j < w) (h : j ≠ p % w) : win w p j ≠ p := by
  have h1 := Nat.mod_le p w
  have h2 := Nat.mod_lt p hw
  unfold win
  by_cases z : p % w ≤ j
  · rw [if_pos z]; omega
  · rw [if_neg z]; omega
def T3 (w : Nat) (pl : Nat → Bool) (p : Nat) (pa : Nat → Nat) : Prop := (∀ q, q < p → pl q = true → ∃ j, j < w ∧ pl (win w p j) = true ∧ pa q = pa (win w p j)) ∨ ((∀ q, p ≤ q → pl q = false) ∧ ∀ q q', pl q = true → pl q' = true → pa q = pa q')
def TI (w : Nat) (pl : Nat → Bool) (p n : Nat) (pa : Nat → Nat) : Prop := n ∈ NCL w ∧ (∀ j, j < w → (uN n j = 0 ↔ pl (win w p j) = false)) ∧ (∀ i j, i < w → j < w → pl (win w p i) = true → pl (win w p j) = true → (uN n i = uN n j ↔ pa (win w p i) = pa (win w p j))) ∧ T3 w pl p pa ∧ ∀ q, p + w ≤ q → pa q = q ∧ ∀ x, x ≠ q → pa x ≠ q
/-- the two labellings of a step -/
def pa1 (pa : Nat → Nat) (p : Nat) (r : Bool) : Nat → Nat := if r = true then mg pa p (p + 1) else pa
def pa2 (pa : Nat → Nat) (w p : Nat) (r b : Bool) : Nat → Nat := if b = true then mg (pa1 pa p r) p (p + w) else pa1 pa p r
theorem pa1_at (pa : Nat → Nat) (p : Nat) (r : Bool) (x : Nat) : pa1 pa p r x = if r = true ∧ pa x = pa (p + 1) then pa p else pa x := by
  unfold pa1 mg
  cases r
  · rw [if_neg (by decide), if_neg (fun z => absurd z.1 (by decide))]
  · rw [if_pos rfl]
    by_cases y : pa x = pa (p + 1)
    · rw [if_pos y, if_pos ⟨rfl, y⟩]
    · rw [if_neg y, if_neg (fun z => y z.2)]
theorem pa1_p (pa : Nat → Nat) (p : Nat) (r : Bool) : pa1 pa p r p = pa p := by
  rw [pa1_at]
  by_cases y : r = true ∧ pa p = pa (p + 1)
  · rw [if_pos y]
  · rw [if_neg y]
theorem pa1_fr {pa : Nat → Nat} {p w q : Nat} {r : Bool} (hw : 0 < w) (hq : p + w ≤ q) (hr : r = true → p + 1 < p + w) (h : pa q = q ∧ ∀ x, x ≠ q → pa x ≠ q) : pa1 pa p r q = q ∧ ∀ x, x ≠ q → pa1 pa p r x ≠ q := by
  have hp := h.2 p (by omega)
  constructor
  · rw [pa1_at, if_neg]
    · exact h.1
    · rintro ⟨y, z⟩
      have := h.2 (p + 1) (by have := hr y; omega)
      rw [h.1] at z
      exact this z.symm
  · intro x hx
    rw [pa1_at]
    by_cases y : r = true ∧ pa x = pa (p + 1)
    · rw [if_pos y]; exact hp
    · rw [if_neg y]; exact h.2 x hx
theorem pa2_at {pa : Nat → Nat} {w p : Nat} {r b : Bool} (hw : 0 < w) (hr : r = true → p + 1 < p + w) (h4 : ∀ q, p + w ≤ q → pa q = q ∧ ∀ x, x ≠ q → pa x ≠ q) (x : Nat) : pa2 pa w p r b x = if x = p + w then (if b = true then pa p else p + w) else pa1 pa p r x := by
  have hf := pa1_fr (q := p + w) hw (Nat.le_refl _) hr (h4 _ (Nat.le_refl _))
  cases b
  · show pa1 pa p r x = if x = p + w then (if false = true then pa p else p + w) else pa1 pa p r x
    by_cases y : x = p + w
    · rw [if_pos y, if_neg (show ¬false = true by decide), y]; exact hf.1
    · rw [if_neg y]
  · show mg (pa1 pa p r) p (p + w) x = if x = p + w then (if true = true then pa p else p + w) else pa1 pa p r x
    by_cases y : x = p + w
    · rw [if_pos y, if_pos (show true = true from rfl), y]
      show (if pa1 pa p r (p + w) = pa1 pa p r (p + w) then pa1 pa p r p else _) = _
      rw [if_pos rfl, pa1_p]
    · rw [if_neg y]
      show (if pa1 pa p r x = pa1 pa p r (p + w) then _ else pa1 pa p r x) = _
      rw [hf.1, if_neg (hf.2 x y)]
theorem pX_step {w p : Nat} {X : Nat → Bool} {pa : Nat → Nat} (hw : 0 < w) (hp : pX w X p = some pa) (hr : X (2 * p + 1) = true → p + 1 < p + w) (h4 : ∀ q, p + w ≤ q → pa q = q ∧ ∀ x, x ≠ q → pa x ≠ q) : pX w X (p + 1) = if X (2 * p + 1) = true ∧ pa p = pa (p + 1) then none else some (pa2 pa w p (X (2 * p + 1)) (X (2 * p))) := by
  show ((pX w X p).bind (mSl w X (2 * p + 1))).bind (mSl w X (2 * p)) = _
  rw [hp]
  show (mSl w X (2 * p + 1) pa).bind (mSl w X (2 * p)) = _
  have e1 : (enS w (2 * p + 1)).2 = p + 1 := by unfold enS; dsimp only; rw [if_pos (by omega)]; omega
  have e2 : (enS w (2 * p)).2 = p + w := by unfold enS; dsimp only; rw [if_neg (by omega)]; omega
  have hf := pa1_fr (r := X (2 * p + 1)) (q := p + w) hw (Nat.le_refl _) hr (h4 _ (Nat.le_refl _))
  have hB : ∀ pb : Nat → Nat, pb = pa1 pa p (X (2 * p + 1)) → mSl w X (2 * p) pb = some (pa2 pa w p (X (2 * p + 1)) (X (2 * p))) := by
    intro pb hpb
    subst hpb
    unfold mSl pa2
    rw [e2, show 2 * p / 2 = p by omega]
    cases X (2 * p)
    · rw [if_neg (by decide), if_neg (by decide)]
    · rw [if_pos rfl, if_pos rfl, if_neg]
      rw [hf.1]; exact hf.2 p (by omega)
  by_cases a : X (2 * p + 1) = true
  · have e3 : mSl w X (2 * p + 1) pa = if pa p = pa (p + 1) then none else some (mg pa p (p + 1)) := by
      unfold mSl
      rw [if_pos a, e1, show (2 * p + 1) / 2 = p by omega]
    rw [e3]
    by_cases b : pa p = pa (p + 1)
    · rw [if_pos b, if_pos ⟨a, b⟩]; rfl
    · rw [if_neg b, if_neg (fun z => b z.2)]
      exact hB _ (by unfold pa1; rw [if_pos a])
  · have e3 : mSl w X (2 * p + 1) pa = some pa := by unfold mSl; rw [if_neg a]
    rw [e3, if_neg (fun z => a z.1)]
    exact hB _ (by unfold pa1; rw [if_neg a])
/-- the labels of a step and the pieces of a step are equal alike -/
theorem T_eq {w p n : Nat} {pl : Nat → Bool} {pa : Nat → Nat} {z : Nat} (hw : 0 < w) (hw5 : w ≤ 5) (hI : TI w pl p n pa) (hz1 : z.testBit 1 = true → p % w + 1 < w ∧ pl p = true ∧ pl (p + 1) = true) (hz0 : z.testBit 0 = true → pl p = true ∧ pl (p + w) = true) :
    (∀ j, j < w → (f2N n (p % w) z (pl (p + w)) j = 0 ↔ pl (win w (p + 1) j) = false)) ∧
    (∀ j, j < w → pl (win w (p + 1) j) = true → pl p = true → (f2N n (p % w) z (pl (p + w)) j = uN n (p % w) ↔ pa2 pa w p (z.testBit 1) (z.testBit 0) (win w (p + 1) j) = pa p)) ∧
    ∀ i j, i < w → j < w → pl (win w (p + 1) i) = true → pl (win w (p + 1) j) = true → (f2N n (p % w) z (pl (p + w)) i = f2N n (p % w) z (pl (p + w)) j ↔ pa2 pa w p (z.testBit 1) (z.testBit 0) (win w (p + 1) i) = pa2 pa w p (z.testBit 1) (z.testBit 0) (win w (p + 1) j)) := by
  obtain ⟨i1, i2, i3, i4, i5⟩ := hI
  have hc := Nat.mod_lt p hw
  have hNC := NC_f hw hw5 i1
  have hr : z.testBit 1 = true → p + 1 < p + w := fun q => by have := (hz1 q).1; omega
  have hpa := fun x => pa2_at (b := z.testBit 0) hw hr i5 x
  have hu5 := hNC.2.1
  have hcn : pl p = true → uN n (p % w) ≠ 0 := fun q y => by have := (i2 _ hc).mp y; rw [win_c, q] at this; exact absurd this (by decide)
  -- pieces and labels, column by column
  have fc : f2N n (p % w) z (pl (p + w)) (p % w) = if pl (p + w) = true then (if z.testBit 0 = true then uN n (p % w) else 6) else 0 := by unfold f2N; rw [if_pos rfl]
  have fo : ∀ j, j ≠ p % w → f2N n (p % w) z (pl (p + w)) j = if z.testBit 1 = true ∧ uN n j = uN n (p % w + 1) then uN n (p % w) else uN n j := fun j h => by unfold f2N; rw [if_neg h]
  have wc : win w (p + 1) (p % w) = p + w := by rw [win_s hw hc, if_pos rfl]
  have wo : ∀ j, j < w → j ≠ p % w → win w (p + 1) j = win w p j := fun j h1 h2 => by rw [win_s hw h1, if_neg h2]
  have lc : pa2 pa w p (z.testBit 1) (z.testBit 0) (p + w) = if z.testBit 0 = true then pa p else p + w := by rw [hpa, if_pos rfl]
  have lo : ∀ j, j < w → j ≠ p % w → pa2 pa w p (z.testBit 1) (z.testBit 0) (win w p j) = if z.testBit 1 = true ∧ pa (win w p j) = pa (p + 1) then pa p else pa (win w p j) := fun j h1 h2 => by
    have := (win_b (p := p) hw h1).2
    rw [hpa, if_neg (by omega), pa1_at]
  have lfr : ∀ j, j < w → j ≠ p % w → pa2 pa w p (z.testBit 1) (z.testBit 0) (win w p j) ≠ p + w := fun j h1 h2 => by
    rw [lo j h1 h2]
    have hb := (win_b (p := p) hw h1).2
    by_cases y : z.testBit 1 = true ∧ pa (win w p j) = pa (p + 1)
    · rw [if_pos y]; exact (i5 _ (Nat.le_refl _)).2 p (by omega)
    · rw [if_neg y]; exact (i5 _ (Nat.le_refl _)).2 _ (by omega)
  have e1 : ∀ j, j < w → pl (win w p j) = true → z.testBit 1 = true → (uN n j = uN n (p % w + 1) ↔ pa (win w p j) = pa (p + 1)) := fun j h1 h2 h3 => by
    have := i3 j (p % w + 1) h1 (hz1 h3).1 h2 (by rw [win_c1]; exact (hz1 h3).2.2)
    rw [win_c1] at this; exact this
  have e0 : ∀ j, j < w → pl (win w p j) = true → pl p = true → (uN n j = uN n (p % w) ↔ pa (win w p j) = pa p) := fun j h1 h2 h3 => by
    have := i3 j (p % w) h1 hc h2 (by rw [win_c]; exact h3)
    rw [win_c] at this; exact this
  -- a common name for both
  have key2 : ∀ j, j < w → j ≠ p % w → pl (win w p j) = true → pl p = true → (f2N n (p % w) z (pl (p + w)) j = uN n (p % w) ↔ pa2 pa w p (z.testBit 1) (z.testBit 0) (win w p j) = pa p) := fun j h1 h2 h3 h4 => by
    rw [fo j h2, lo j h1 h2]
    by_cases y : z.testBit 1 = true ∧ uN n j = uN n (p % w + 1)
    · rw [if_pos y, if_pos ⟨y.1, (e1 j h1 h3 y.1).mp y.2⟩]; exact ⟨fun _ => rfl, fun _ => rfl⟩
    · rw [if_neg y, if_neg (fun q => y ⟨q.1, (e1 j h1 h3 q.1).mpr q.2⟩)]; exact e0 j h1 h3 h4
  have keyc : pl (p + w) = true → pl p = true → (f2N n (p % w) z (pl (p + w)) (p % w) = uN n (p % w) ↔ pa2 pa w p (z.testBit 1) (z.testBit 0) (p + w) = pa p) := fun h1 h2 => by
    rw [fc, lc, if_pos h1]
    by_cases y : z.testBit 0 = true
    · rw [if_pos y, if_pos y]; exact ⟨fun _ => rfl, fun _ => rfl⟩
    · rw [if_neg y, if_neg y]
      constructor
      · intro q; have := hu5 (p % w) hc; omega
      · intro q; exact absurd q.symm ((i5 _ (Nat.le_refl _)).2 p (by omega))
  have mix : ∀ j, j < w → j ≠ p % w → pl (win w p j) = true → pl (p + w) = true → (f2N n (p % w) z (pl (p + w)) j = f2N n (p % w) z (pl (p + w)) (p % w) ↔ pa2 pa w p (z.testBit 1) (z.testBit 0) (win w p j) = pa2 pa w p (z.testBit 1) (z.testBit 0) (p + w)) := fun j h1 h2 h3 h4 => by
    rw [fc, lc, if_pos h4]
    by_cases y : z.testBit 0 = true
    · rw [if_pos y, if_pos y]; exact key2 j h1 h2 h3 (hz0 y).1
    · rw [if_neg y, if_neg y]
      constructor
      · intro q
        rw [fo j h2] at q
        have a1 := hu5 j h1
        have a2 := hu5 (p % w) hc
        by_cases u : z.testBit 1 = true ∧ uN n j = uN n (p % w + 1)
        · rw [if_pos u] at q; omega
        · rw [if_neg u] at q; omega
      · intro q; exact absurd q (lfr j h1 h2)
  refine ⟨fun j hj => ?_, fun j hj hpl hpp => ?_, fun i j hi hj hpi hpj => ?_⟩
  · by_cases a : j = p % w
    · rw [a, fc, wc]
      cases hb : pl (p + w)
      · rw [if_neg (by decide)]; decide
      · rw [if_pos rfl]
        by_cases y : z.testBit 0 = true
        · rw [if_pos y]; exact ⟨fun q => absurd q (hcn (hz0 y).1), fun q => absurd q (by decide)⟩
        · rw [if_neg y]; decide
    · rw [fo j a, wo j hj a, ← i2 j hj]
      by_cases y : z.testBit 1 = true ∧ uN n j = uN n (p % w + 1)
      · rw [if_pos y]
        have h1 := hz1 y.1
        have h2 := hcn h1.2.1
        have h3 : uN n (p % w + 1) ≠ 0 := fun q => by have := (i2 _ h1.1).mp q; rw [win_c1, h1.2.2] at this; exact absurd this (by decide)
        constructor
        · intro q; exact absurd q h2
        · intro q; rw [y.2] at q; exact absurd q h3
      · rw [if_neg y]
  · by_cases a : j = p % w
    · rw [a, wc]; rw [a, wc] at hpl; exact keyc hpl hpp
    · rw [wo j hj a]; rw [wo j hj a] at hpl; exact key2 j hj a hpl hpp
  · by_cases a : i = p % w
    · by_cases b : j = p % w
      · rw [a, b]; exact ⟨fun _ => rfl, fun _ => rfl⟩
      · rw [a, wc, wo j hj b]
        rw [a, wc] at hpi
        rw [wo j hj b] at hpj
        have := mix j hj b hpj hpi
        exact ⟨fun q => (this.mp q.symm).symm, fun q => (this.mpr q.symm).symm⟩
    · by_cases b : j = p % w
      · rw [b, wc, wo i hi a]
        rw [b, wc] at hpj
        rw [wo i hi a] at hpi
        exact mix i hi a hpi hpj
      · rw [wo i hi a, wo j hj b]
        rw [wo i hi a] at hpi
        rw [wo j hj b] at hpj
        have m1 := i3 i j hi hj hpi hpj
        by_cases y : z.testBit 1 = true
        · have ppl := (hz1 y).2.1
          have k1 := e1 i hi hpi y
          have k2 := e1 j hj hpj y
          have k3 := e0 i hi hpi ppl
          have k4 := e0 j hj hpj ppl
          rw [fo i a, fo j b, lo i hi a, lo j hj b]
          by_cases u : uN n i = uN n (p % w + 1)
          · by_cases v : uN n j = uN n (p % w + 1)
            · rw [if_pos ⟨y, u⟩, if_pos ⟨y, v⟩, if_pos ⟨y, k1.mp u⟩, if_pos ⟨y, k2.mp v⟩]; exact ⟨fun _ => rfl, fun _ => rfl⟩
            · rw [if_pos ⟨y, u⟩, if_neg (fun q => v q.2), if_pos ⟨y, k1.mp u⟩, if_neg (fun q => v (k2.mpr q.2))]
              exact ⟨fun q => (k4.mp q.symm).symm, fun q => (k4.mpr q.symm).symm⟩
          · by_cases v : uN n j = uN n (p % w + 1)
            · rw [if_neg (fun q => u q.2), if_pos ⟨y, v⟩, if_neg (fun q => u (k1.mpr q.2)), if_pos ⟨y, k2.mp v⟩]; exact k3
            · rw [if_neg (fun q => u q.2), if_neg (fun q => v q.2), if_neg (fun q => u (k1.mpr q.2)), if_neg (fun q => v (k2.mpr q.2))]; exact m1
        · rw [fo i a, fo j b, lo i hi a, lo j hj b, if_neg (fun q => y q.1), if_neg (fun q => y q.1), if_neg (fun q => y q.1), if_neg (fun q => y q.1)]; exact m1
