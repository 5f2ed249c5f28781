/-! LINES: the frontier's places and colours -/
def FS (w : Nat) (X : Nat → Bool) (p j : Nat) : Bool := decide (j ≤ w) && fsX w X p j
def nrF (w p j : Nat) : Nat := if j < p % w then p - p % w + j else if j = p % w then p - 1 else p - w + (j - 1 - p % w)
def nrS (w p j : Nat) : Nat := if p % w = 0 then nrF w p (j + 1) else nrF w p j
theorem stX_FS (w : Nat) (X : Nat → Bool) (p j : Nat) : stX w X p j = if p % w = 0 then FS w X p (j + 1) else FS w X p j := by
  unfold stX FS
  by_cases z : p % w = 0
  · rw [if_pos z, if_pos z]; rfl
  · rw [if_neg z, if_neg z]
theorem stX_hi {w p j : Nat} {X : Nat → Bool} (hw5 : w ≤ 5) (hj : (if p % w = 0 then w else w + 1) ≤ j) : stX w X p j = false := by
  unfold stX
  by_cases z : p % w = 0
  · rw [if_pos z] at hj ⊢; rw [decide_eq_false (by omega), Bool.false_and]
  · rw [if_neg z] at hj ⊢; rw [decide_eq_false (by omega), Bool.false_and]
theorem DI_bv {w p : Nat} {X : Nat → Bool} (hw5 : w ≤ 5) : DI w X p (bv (stX w X p)) := by
  have h := bv_at (stX w X p)
  refine ⟨h.1, fun j hj => ?_⟩
  by_cases z : j < 6
  · exact h.2 j z
  · have h6 : (if p % w = 0 then w else w + 1) ≤ j := by
      by_cases y : p % w = 0
      · rw [if_pos y]; omega
      · rw [if_neg y]; omega
    rw [stX_hi hw5 h6]
    exact Nat.testBit_lt_two_pow (Nat.lt_of_lt_of_le h.1 (show 2 ^ 6 ≤ 2 ^ j from Nat.pow_le_pow_right (by decide) (by omega)))
theorem stX_step {w p : Nat} {X : Nat → Bool} (hw : 0 < w) (hw5 : w ≤ 5) (hr : p % w + 1 = w → X (2 * p + 1) = false) {j : Nat} (hj : j < 8) : stX w X (p + 1) j = if j = p % w then X (2 * p) else if j = p % w + 1 then X (2 * p + 1) else FS w X p j := by
  have hD := DI_bv (w := w) (p := p) (X := X) hw5
  have hc : p % w < w := Nat.mod_lt _ hw
  have h1 := (DI_step hw hw5 hD hr).1.2 j hj
  have h2 := (nxN_bit (p % w) (by omega) (b2 (X (2 * p)) (X (2 * p + 1))) (b2_lt _ _) _ hD.1).1 j hj
  rw [← h1, h2, b2_t0, b2_t1, DI_sh hw hw5 hD j hj]
  rfl
theorem FS_c {w p : Nat} {X : Nat → Bool} (hw : 0 < w) : FS w X p (p % w) = lfX w X p := by
  unfold FS
  have := Nat.mod_lt p hw
  rw [decide_eq_true (show p % w ≤ w by omega), Bool.true_and, fsX_c]
theorem FS_c1 {w p : Nat} {X : Nat → Bool} (hw : 0 < w) : FS w X p (p % w + 1) = upX w X p := by
  unfold FS
  have := Nat.mod_lt p hw
  rw [decide_eq_true (show p % w + 1 ≤ w by omega), Bool.true_and, fsX_gt (by omega), show p - w + (p % w + 1 - 1 - p % w) = p - w by omega]
  rfl
theorem nrF_c {w p : Nat} : nrF w p (p % w) = p - 1 := by unfold nrF; rw [if_neg (Nat.lt_irrefl _), if_pos rfl]
theorem nrF_c1 {w p : Nat} : nrF w p (p % w + 1) = p - w := by unfold nrF; rw [if_neg (by omega), if_neg (by omega)]; omega
/-- the near end of an edge of the frontier -/
theorem FS_near {w p j : Nat} {X : Nat → Bool} (hw : 0 < w) (h : FS w X p j = true) : nrF w p j < p ∧ 0 < degX w X (nrF w p j) ∧ j ≤ w := by
  have hc := Nat.mod_lt p hw
  have hcp := Nat.mod_le p w
  unfold FS at h
  rw [Bool.and_eq_true, decide_eq_true_iff] at h
  obtain ⟨hj, h⟩ := h
  have hd0 : ∀ q, X (2 * q) = true → 0 < degX w X q := by
    intro q hq
    unfold degX
    rw [hq, bs2_b2, bs2_b2, if_pos rfl]; omega
  have hd1 : ∀ q, X (2 * q + 1) = true → 0 < degX w X q := by
    intro q hq
    unfold degX
    rw [hq, bs2_b2, bs2_b2, if_pos (show true = true from rfl)]; omega
  unfold nrF
  by_cases z : j < p % w
  · rw [fsX_lt z] at h
    rw [if_pos z]
    exact ⟨by omega, hd0 _ h, hj⟩
  · rw [if_neg z]
    by_cases y : j = p % w
    · rw [y, fsX_c] at h
      unfold lfX at h
      rw [Bool.and_eq_true, decide_eq_true_iff] at h
      rw [if_pos y]
      refine ⟨by omega, hd1 _ ?_, hj⟩
      rw [show 2 * (p - 1) + 1 = 2 * p - 1 by omega]; exact h.2
    · rw [fsX_gt (by omega), Bool.and_eq_true, decide_eq_true_iff] at h
      rw [if_neg y]
      exact ⟨by omega, hd0 _ h.2, hj⟩
theorem nrS_step {w p j : Nat} {X : Nat → Bool} (hw : 0 < w) (hw5 : w ≤ 5) (hr : p % w + 1 = w → X (2 * p + 1) = false) (h : stX w X (p + 1) j = true) : nrS w (p + 1) j = if j = p % w ∨ j = p % w + 1 then p else nrF w p j := by
  have hc := Nat.mod_lt p hw
  have hcp := Nat.mod_le p w
  have hm := mod_succ (p := p) hw
  have hj : j < 8 := by
    rcases Nat.lt_or_ge j 8 with q | q
    · exact q
    · rw [stX_hi hw5 (by by_cases y : (p + 1) % w = 0; (rw [if_pos y]; omega); (rw [if_neg y]; omega))] at h; exact absurd h (by decide)
  have hs := stX_step (X := X) hw hw5 hr hj
  by_cases z : p % w + 1 = w
  · rw [if_pos z] at hm
    have hj2 : j < w := by
      rcases Nat.lt_or_ge j w with q | q
      · exact q
      · rw [stX_hi hw5 (by rw [hm, if_pos rfl]; exact q)] at h; exact absurd h (by decide)
    unfold nrS nrF
    rw [hm, if_pos rfl, if_neg (by omega), if_neg (by omega)]
    by_cases y : j = p % w
    · rw [if_pos (Or.inl y)]; omega
    · rw [if_neg (by omega), if_pos (by omega)]; omega
  · rw [if_neg z] at hm
    unfold nrS
    rw [hm, if_neg (by omega)]
    unfold nrF
    rw [hm]
    by_cases y : j < p % w
    · rw [if_pos (by omega), if_neg (by omega), if_pos y]; omega
    · by_cases x : j = p % w
      · rw [if_pos (by omega), if_pos (Or.inl x)]; omega
      · by_cases u : j = p % w + 1
        · rw [if_neg (by omega), if_pos u, if_pos (Or.inr u)]; omega
        · rw [if_neg (by omega), if_neg u, if_neg (by omega), if_neg y, if_neg x]
          rw [hs, if_neg x, if_neg u] at h
          have hn := FS_near hw h
          unfold FS at h
          rw [Bool.and_eq_true, fsX_gt (by omega), Bool.and_eq_true, decide_eq_true_iff] at h
          have := h.2.1
          rw [decide_eq_true_iff] at this
          omega
theorem mod_pred {w p : Nat} (hw : 0 < w) (hp : 0 < p) (h : (p - 1) % w + 1 < w) : p % w = (p - 1) % w + 1 := by
  have := mod_succ (p := p - 1) hw
  rw [if_neg (by omega), show p - 1 + 1 = p by omega] at this
  exact this
/-- an edge from a place that is done to one that isn't is at the frontier -/
theorem cover {w p s : Nat} {X : Nat → Bool} (hw : 0 < w) (hX : X s = true) (hcol : s % 2 = 1 → s / 2 % w + 1 < w) (h1 : s / 2 < p) (h2 : p ≤ (enS w s).2) : ∃ j, j ≤ w ∧ FS w X p j = true ∧ nrF w p j = s / 2 ∧ (j = p % w ∨ j = p % w + 1 ↔ (enS w s).2 = p) := by
  have hc := Nat.mod_lt p hw
  have hcp := Nat.mod_le p w
  unfold enS at h2 ⊢
  dsimp only at h2 ⊢
  by_cases z : s % 2 = 1
  · rw [if_pos z] at h2 ⊢
    have hp : s / 2 + 1 = p := by omega
    have hm := mod_pred (p := p) hw (by omega) (by rw [show p - 1 = s / 2 by omega]; exact hcol z)
    refine ⟨p % w, by omega, ?_, by rw [nrF_c]; omega, ⟨fun _ => hp, fun _ => Or.inl rfl⟩⟩
    rw [FS_c hw]
    unfold lfX
    rw [decide_eq_true (by omega), Bool.true_and, show 2 * p - 1 = s by omega]; exact hX
  · rw [if_neg z] at h2 ⊢
    by_cases y : p - p % w ≤ s / 2
    · refine ⟨s / 2 - (p - p % w), by omega, ?_, ?_, ?_⟩
      · unfold FS
        rw [decide_eq_true (by omega), Bool.true_and, fsX_lt (by omega), show 2 * (p - p % w + (s / 2 - (p - p % w))) = s by omega]; exact hX
      · unfold nrF; rw [if_pos (by omega)]; omega
      · constructor <;> intro q <;> omega
    · have hwp : w ≤ p := by
        rcases Nat.lt_or_ge p w with q | q
        · rw [Nat.mod_eq_of_lt q] at y; omega
        · exact q
      refine ⟨s / 2 + w + p % w - p + 1, by omega, ?_, ?_, ?_⟩
      · unfold FS
        rw [decide_eq_true (by omega), Bool.true_and, fsX_gt (by omega), decide_eq_true (by omega), Bool.true_and, show 2 * (p - w + (s / 2 + w + p % w - p + 1 - 1 - p % w)) = s by omega]; exact hX
      · unfold nrF; rw [if_neg (by omega), if_neg (by omega)]; omega
      · constructor <;> intro q <;> omega
/-- colours that agree along the edges between places that are done -/
def Con (w : Nat) (X : Nat → Bool) (p : Nat) (U : Nat → Bool) : Prop := ∀ s, X s = true → s / 2 < p → (enS w s).2 < p → U (s / 2) = U (enS w s).2
theorem far_gt {w s : Nat} (hw : 0 < w) : s / 2 < (enS w s).2 := by
  unfold enS; dsimp only
  by_cases z : s % 2 = 1
  · rw [if_pos z]; omega
  · rw [if_neg z]; omega
theorem Con_step {w p : Nat} {X U : Nat → Bool} (hw : 0 < w) (hcol : ∀ s, s / 2 < p → X s = true → s % 2 = 1 → s / 2 % w + 1 < w) : Con w X (p + 1) U ↔ Con w X p U ∧ (lfX w X p = true → U (p - 1) = U p) ∧ (upX w X p = true → U (p - w) = U p) := by
  constructor
  · intro h
    refine ⟨fun s h1 h2 h3 => h s h1 (by omega) (by omega), fun q => ?_, fun q => ?_⟩
    · unfold lfX at q
      rw [Bool.and_eq_true, decide_eq_true_iff] at q
      have hp : 0 < p := by
        rcases Nat.eq_zero_or_pos p with y | y
        · rw [y, Nat.zero_mod] at q; omega
        · exact y
      have e1 : (enS w (2 * p - 1)).2 = p := by unfold enS; dsimp only; rw [if_pos (by omega)]; omega
      have := h _ q.2 (by omega) (by rw [e1]; omega)
      rw [e1, show (2 * p - 1) / 2 = p - 1 by omega] at this
      exact this
    · unfold upX at q
      rw [Bool.and_eq_true, decide_eq_true_iff] at q
      have e1 : (enS w (2 * (p - w))).2 = p := by unfold enS; dsimp only; rw [if_neg (by omega)]; omega
      have := h _ q.2 (by omega) (by rw [e1]; omega)
      rw [e1, show 2 * (p - w) / 2 = p - w by omega] at this
      exact this
  · rintro ⟨h, hl, hu⟩ s h1 h2 h3
    have hf := far_gt (s := s) hw
    by_cases z : (enS w s).2 < p
    · exact h s h1 (by omega) z
    · have e1 : (enS w s).2 = p := by omega
      have e2 := e1
      rw [e1]
      unfold enS at e2
      dsimp only at e2
      by_cases y : s % 2 = 1
      · rw [if_pos y] at e2
        have hm := mod_pred (p := p) hw (by omega) (by rw [show p - 1 = s / 2 by omega]; exact hcol s (by omega) h1 y)
        rw [show s / 2 = p - 1 by omega]
        refine hl ?_
        unfold lfX
        rw [decide_eq_true (by omega), Bool.true_and, show 2 * p - 1 = s by omega]; exact h1
      · rw [if_neg y] at e2
        rw [show s / 2 = p - w by omega]
        refine hu ?_
        unfold upX
        rw [decide_eq_true (by omega), Bool.true_and, show 2 * (p - w) = s by omega]; exact h1
theorem degX_fs {w p : Nat} {X : Nat → Bool} : degX w X p = b1 (lfX w X p) + b1 (upX w X p) + bs2 (b2 (X (2 * p)) (X (2 * p + 1))) := by
  unfold degX b1
  rw [bs2_b2]
