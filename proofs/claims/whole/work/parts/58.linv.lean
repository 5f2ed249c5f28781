/-! LINES: what a word says of the edges behind it -/
def dueL (w : Nat) (X EN : Nat → Bool) (q : Nat) : Prop := degX w X q + b1 (EN q) = 0 ∨ degX w X q + b1 (EN q) = 2
def GoodC (w P lp : Nat) (X EN : Nat → Bool) : Prop := (lp = 0 → ecn EN P = 2) ∧ (∃ q, q < P ∧ 0 < degX w X q) ∧ ∀ U : Nat → Bool, (∀ s, s / 2 < P → X s = true → U (s / 2) = U (enS w s).2) → ∀ q q', q < P → q' < P → 0 < degX w X q → 0 < degX w X q' → U q = U q'
def LI (w : Nat) (X EN : Nat → Bool) (p n : Nat) : Prop := gw 6 0 (ecn EN p) n = true ∧ (∀ j, j < 6 → (sy n j ≠ 0 ↔ stX w X p j = true)) ∧ (∀ v : Nat → Bool, Rsp n v = true ↔ ∃ U, Con w X p U ∧ ∀ j, j < 6 → stX w X p j = true → v j = U (nrS w p j)) ∧ (∀ U, Con w X p U → (∀ j, j < 6 → stX w X p j = true → U (nrS w p j) = false) → ∀ q, q < p → 0 < degX w X q → U q = false)
def LF (w : Nat) (X EN : Nat → Bool) (p m : Nat) : Prop := gw 6 0 (ecn EN p) m = true ∧ (∀ j, j < 6 → (sy m j ≠ 0 ↔ FS w X p j = true)) ∧ (∀ v : Nat → Bool, Rsp m v = true ↔ ∃ U, Con w X p U ∧ ∀ j, j < 6 → FS w X p j = true → v j = U (nrF w p j)) ∧ (∀ U, Con w X p U → (∀ j, j < 6 → FS w X p j = true → U (nrF w p j) = false) → ∀ q, q < p → 0 < degX w X q → U q = false)
theorem FS_0 {w p : Nat} {X : Nat → Bool} (hw : 0 < w) (h : p % w = 0) : FS w X p 0 = false := by
  have := FS_c (X := X) (p := p) hw
  rw [h] at this
  rw [this]
  unfold lfX
  rw [h]; rfl
theorem sh_all {w p : Nat} {X : Nat → Bool} {Q : Nat → Prop} (hw : 0 < w) (hw5 : w ≤ 5) : (∀ j, j < 6 → stX w X p j = true → Q (if p % w = 0 then j + 1 else j)) ↔ ∀ j, j < 6 → FS w X p j = true → Q j := by
  by_cases z : p % w = 0
  · constructor
    · intro h j hj q
      cases j with
      | zero => rw [FS_0 hw z] at q; exact absurd q (by decide)
      | succ j =>
        have := h j (by omega) (by rw [stX_FS, if_pos z]; exact q)
        rw [if_pos z] at this; exact this
    · intro h j hj q
      rw [stX_FS, if_pos z] at q
      rw [if_pos z]
      have := (FS_near hw q).2.2
      exact h (j + 1) (by omega) q
  · constructor
    · intro h j hj q
      have := h j hj (by rw [stX_FS, if_neg z]; exact q)
      rw [if_neg z] at this; exact this
    · intro h j hj q
      rw [stX_FS, if_neg z] at q
      rw [if_neg z]; exact h j hj q
theorem nrS_if (w p j : Nat) : nrS w p j = nrF w p (if p % w = 0 then j + 1 else j) := by
  unfold nrS
  by_cases z : p % w = 0
  · rw [if_pos z, if_pos z]
  · rw [if_neg z, if_neg z]
theorem LI_5 {w p n : Nat} {X EN : Nat → Bool} (hw5 : w ≤ 5) (h : LI w X EN p n) : p % w = 0 → sy n 5 = 0 := by
  intro z
  rcases Nat.eq_zero_or_pos (sy n 5) with q | q
  · exact q
  · have := (h.2.1 5 (by decide)).mp (by omega)
    rw [stX_hi hw5 (by rw [if_pos z]; exact hw5)] at this
    exact absurd this (by decide)
theorem LI_LF {w p n : Nat} {X EN : Nat → Bool} (hw : 0 < w) (hw5 : w ≤ 5) (h : LI w X EN p n) : LF w X EN p (shL (p % w) n) := by
  have hc := Nat.mod_lt p hw
  have hs := sh_R (by omega) h.1 (LI_5 hw5 h)
  refine ⟨hs.1, fun j hj => ?_, fun v => ?_, fun U hU hf q hq => ?_⟩
  · rw [hs.2.1 j hj]
    by_cases z : p % w = 0
    · rw [if_pos z]
      cases j with
      | zero => rw [if_pos rfl, FS_0 hw z]; decide
      | succ j =>
        rw [if_neg (by omega), show j + 1 - 1 = j by omega, h.2.1 j (by omega), stX_FS, if_pos z]
    · rw [if_neg z, h.2.1 j hj, stX_FS, if_neg z]
  · rw [hs.2.2.2 v]
    have e1 : (if p % w = 0 then Rsp n (fun j => v (j + 1)) else Rsp n v) = Rsp n (fun j => v (if p % w = 0 then j + 1 else j)) := by
      by_cases z : p % w = 0
      · simp only [if_pos z]
      · simp only [if_neg z]
    rw [e1, h.2.2.1]
    constructor
    · rintro ⟨U, h1, h2⟩
      refine ⟨U, h1, (sh_all hw hw5 (Q := fun j => v j = U (nrF w p j))).mp (fun j hj q => ?_)⟩
      have := h2 j hj q
      rw [nrS_if] at this; exact this
    · rintro ⟨U, h1, h2⟩
      refine ⟨U, h1, fun j hj q => ?_⟩
      rw [nrS_if]
      exact (sh_all hw hw5 (Q := fun j => v j = U (nrF w p j))).mpr h2 j hj q
  · refine h.2.2.2 U hU (fun j hj y => ?_) q hq
    rw [nrS_if]
    exact (sh_all hw hw5 (Q := fun j => U (nrF w p j) = false)).mpr hf j hj y
theorem lf_b1 {w p m : Nat} {X EN : Nat → Bool} (hw : 0 < w) (hw5 : w ≤ 5) (h : LF w X EN p m) : nz (sy m (p % w)) = b1 (lfX w X p) ∧ nz (sy m (p % w + 1)) = b1 (upX w X p) := by
  have hc := Nat.mod_lt p hw
  have h1 := h.2.1 (p % w) (by omega)
  have h2 := h.2.1 (p % w + 1) (by omega)
  rw [FS_c hw] at h1
  rw [FS_c1 hw] at h2
  unfold nz b1
  constructor
  · by_cases z : sy m (p % w) = 0
    · rw [if_pos z, if_neg (fun q => (h1.mpr q) z)]
    · rw [if_neg z, if_pos (h1.mp z)]
  · by_cases z : sy m (p % w + 1) = 0
    · rw [if_pos z, if_neg (fun q => (h2.mpr q) z)]
    · rw [if_neg z, if_pos (h2.mp z)]
theorem dg2_deg {w p m m2 : Nat} {X EN : Nat → Bool} (hw : 0 < w) (hw5 : w ≤ 5) (h : LF w X EN p m) (hW : WeR (EN p) (ecn EN p) (p % w) m m2) : dg2 m2 (p % w) (b2 (X (2 * p)) (X (2 * p + 1))) = degX w X p + b1 (EN p) := by
  have := lf_b1 hw hw5 h
  unfold dg2
  rw [hW.2.2.1, this.1, this.2, degX_fs]
  omega
/-- colour 1 at the two places of a step -/
theorem bits_3 : ∀ c, c < 5 → ∀ j, j < 6 → (3 * 2 ^ c).testBit j = decide (j = c ∨ j = c + 1) := by decide +kernel
theorem LF_c {w p m : Nat} {X EN : Nat → Bool} (hw : 0 < w) (hw5 : w ≤ 5) (h : LF w X EN p m) {U : Nat → Bool} {v : Nat → Bool} (hU : Con w X p U) (hl : lfX w X p = true → U (p - 1) = v (p % w)) (hu : upX w X p = true → U (p - w) = v (p % w + 1)) (ho : ∀ j, j < 6 → j ≠ p % w → j ≠ p % w + 1 → FS w X p j = true → v j = U (nrF w p j)) : Rsp m v = true := by
  refine (h.2.2.1 v).mpr ⟨U, hU, fun j hj q => ?_⟩
  by_cases z : j = p % w
  · subst z
    rw [FS_c hw] at q
    rw [nrF_c]; exact (hl q).symm
  · by_cases y : j = p % w + 1
    · subst y
      rw [FS_c1 hw] at q
      rw [nrF_c1]; exact (hu q).symm
    · exact ho j hj z y q
theorem LF_live {w p m m2 n : Nat} {X EN : Nat → Bool} (hw : 0 < w) (hw5 : w ≤ 5) (hr : p % w + 1 = w → X (2 * p + 1) = false) (hcol : ∀ s, s / 2 < p → X s = true → s % 2 = 1 → s / 2 % w + 1 < w) (hF : LF w X EN p m) (hW : WeR (EN p) (ecn EN p) (p % w) m m2) (hd : dg2 m2 (p % w) (b2 (X (2 * p)) (X (2 * p + 1))) = 0 ∨ dg2 m2 (p % w) (b2 (X (2 * p)) (X (2 * p + 1))) = 2) (hL : LvW (ecn EN p + b1 (EN p)) (p % w) m2 (b2 (X (2 * p)) (X (2 * p + 1))) n) : LI w X EN (p + 1) n := by
  have hc := Nat.mod_lt p hw
  obtain ⟨L1, L2, L3, L4⟩ := hL
  rw [b2_t0, b2_t1] at L2 L3
  have hst : ∀ j, j < 6 → stX w X (p + 1) j = if j = p % w then X (2 * p) else if j = p % w + 1 then X (2 * p + 1) else FS w X p j := fun j hj => stX_step hw hw5 hr (by omega)
  have hnr : ∀ j, stX w X (p + 1) j = true → nrS w (p + 1) j = if j = p % w ∨ j = p % w + 1 then p else nrF w p j := fun j q => nrS_step hw hw5 hr q
  have hstc : stX w X (p + 1) (p % w) = X (2 * p) := by rw [hst _ (by omega), if_pos rfl]
  have hstc1 : stX w X (p + 1) (p % w + 1) = X (2 * p + 1) := by rw [hst _ (by omega), if_neg (by omega), if_pos rfl]
  have hsto : ∀ j, j < 6 → j ≠ p % w → j ≠ p % w + 1 → stX w X (p + 1) j = FS w X p j := fun j hj h1 h2 => by rw [hst j hj, if_neg h1, if_neg h2]
  refine ⟨L1, fun j hj => ?_, fun v => ?_, fun U hU hf q hq hdq => ?_⟩
  · have q := L2 j hj
    by_cases z : j = p % w
    · rw [z, hstc]; rw [z, if_pos rfl] at q
      rw [Ne, q, Bool.not_eq_false]
    · rw [if_neg z] at q
      by_cases y : j = p % w + 1
      · rw [y, hstc1]; rw [y, if_pos rfl] at q
        rw [Ne, q, Bool.not_eq_false]
      · rw [if_neg y, hW.2.1 j hj z y] at q
        rw [hsto j hj z y, ← hF.2.1 j hj, Ne, Ne, q]
  · rw [L3 v]
    constructor
    · rintro ⟨x, h1, h2, h3⟩
      rw [hW.2.2.2.2.2.2.2, hF.2.2.1] at h1
      obtain ⟨U, hU, hv⟩ := h1
      refine ⟨fun q => if q = p then x else U q, ?_, fun j hj q => ?_⟩
      · rw [Con_step hw hcol]
        refine ⟨fun s g1 g2 g3 => ?_, fun g => ?_, fun g => ?_⟩
        · dsimp only
          rw [if_neg (by omega), if_neg (by omega)]; exact hU s g1 g2 g3
        · have g0 : FS w X p (p % w) = true := by rw [FS_c hw]; exact g
          have := FS_near hw g0
          rw [nrF_c] at this
          rw [if_neg (by omega), if_pos rfl]
          have q := hv (p % w) (by omega) g0
          rw [st2_c, nrF_c] at q; exact q.symm
        · have g0 : FS w X p (p % w + 1) = true := by rw [FS_c1 hw]; exact g
          have := FS_near hw g0
          rw [nrF_c1] at this
          rw [if_neg (by omega), if_pos rfl]
          have q := hv (p % w + 1) (by omega) g0
          rw [st2_c1, nrF_c1] at q; exact q.symm
      · rw [hnr j q]
        by_cases z : j = p % w
        · rw [z, hstc] at q
          rw [if_pos (Or.inl z)]
          dsimp only
          rw [if_pos rfl, z]; exact h2 q
        · by_cases y : j = p % w + 1
          · rw [y, hstc1] at q
            rw [if_pos (Or.inr y)]
            dsimp only
            rw [if_pos rfl, y]; exact h3 q
          · rw [hsto j hj z y] at q
            have hn := FS_near hw q
            have g := hv j hj q
            rw [st2_ne z y] at g
            rw [if_neg (by omega)]
            dsimp only
            rw [if_neg (by omega)]; exact g
    · rintro ⟨U, hU, hv⟩
      rw [Con_step hw hcol] at hU
      refine ⟨U p, ?_, fun q => ?_, fun q => ?_⟩
      · rw [hW.2.2.2.2.2.2.2]
        refine LF_c hw hw5 hF hU.1 (fun g => by rw [st2_c]; exact hU.2.1 g) (fun g => by rw [st2_c1]; exact hU.2.2 g) (fun j hj z y g => ?_)
        rw [st2_ne z y]
        have q : stX w X (p + 1) j = true := by rw [hsto j hj z y]; exact g
        have := hv j hj q
        rw [hnr j q, if_neg (by omega)] at this
        exact this
      · have g : stX w X (p + 1) (p % w) = true := by rw [hstc]; exact q
        have := hv _ (by omega) g
        rw [hnr _ g, if_pos (Or.inl rfl)] at this
        exact this
      · have g : stX w X (p + 1) (p % w + 1) = true := by rw [hstc1]; exact q
        have := hv _ (by omega) g
        rw [hnr _ g, if_pos (Or.inr rfl)] at this
        exact this
  · rw [Con_step hw hcol] at hU
    have hp0 : 0 < degX w X p → U p = false := by
      intro hdp
      by_cases z0 : X (2 * p) = true
      · have g : stX w X (p + 1) (p % w) = true := by rw [hstc]; exact z0
        have := hf _ (by omega) g
        rw [hnr _ g, if_pos (Or.inl rfl)] at this
        exact this
      by_cases z1 : X (2 * p + 1) = true
      · have g : stX w X (p + 1) (p % w + 1) = true := by rw [hstc1]; exact z1
        have := hf _ (by omega) g
        rw [hnr _ g, if_pos (Or.inr rfl)] at this
        exact this
      rw [Bool.not_eq_true] at z0 z1
      rw [z0, z1] at L4 hd
      have hdeg := dg2_deg hw hw5 hF hW
      rw [z0, z1] at hdeg
      have hb : sy m2 (p % w) ≠ 0 ∧ sy m2 (p % w + 1) ≠ 0 := by
        have h2 : dg2 m2 (p % w) (b2 false false) = 2 := by omega
        unfold dg2 at h2
        rw [show bs2 (b2 false false) = 0 by decide] at h2
        unfold nz at h2
        constructor
        · intro y; rw [if_pos y] at h2; by_cases x : sy m2 (p % w + 1) = 0; (rw [if_pos x] at h2; omega); (rw [if_neg x] at h2; omega)
        · intro y; rw [if_pos y] at h2; by_cases x : sy m2 (p % w) = 0; (rw [if_pos x] at h2; omega); (rw [if_neg x] at h2; omega)
      have hno := L4 rfl hb.1 hb.2
      rcases Bool.eq_false_or_eq_true (U p) with y | y
      · exfalso
        rw [hW.2.2.2.2.2.2.2] at hno
        have := LF_c hw hw5 hF (v := fun j => (3 * 2 ^ (p % w)).testBit j) hU.1 (fun g => by rw [bits_3 _ (by omega) _ (by omega), decide_eq_true (Or.inl rfl), hU.2.1 g, y]) (fun g => by rw [bits_3 _ (by omega) _ (by omega), decide_eq_true (Or.inr rfl), hU.2.2 g, y]) (fun j hj x1 x2 g => by
          rw [bits_3 _ (by omega) _ hj, decide_eq_false (by omega)]
          have q : stX w X (p + 1) j = true := by rw [hsto j hj x1 x2]; exact g
          have := hf j hj q
          rw [hnr j q, if_neg (by omega)] at this
          exact this.symm)
        rw [this] at hno
        exact absurd hno (by decide)
      · exact y
    by_cases hqp : q = p
    · rw [hqp]; rw [hqp] at hdq; exact hp0 hdq
    · refine hF.2.2.2 U hU.1 (fun j hj g => ?_) q (by omega) hdq
      by_cases z : j = p % w
      · subst z
        rw [nrF_c]
        rw [FS_c hw] at g
        rw [hU.2.1 g]
        exact hp0 (by rw [degX_fs, g]; unfold b1; rw [if_pos rfl]; omega)
      · by_cases y : j = p % w + 1
        · subst y
          rw [nrF_c1]
          rw [FS_c1 hw] at g
          rw [hU.2.2 g]
          exact hp0 (by rw [degX_fs, g]; unfold b1; rw [if_pos (show true = true from rfl)]; omega)
        · have q2 : stX w X (p + 1) j = true := by rw [hsto j hj z y]; exact g
          have := hf j hj q2
          rw [hnr j q2, if_neg (by omega)] at this
          exact this
