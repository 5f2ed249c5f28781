/-! LINES: closing, and the runs -/
def LD (w lp : Nat) (X EN : Nat → Bool) (p : Nat) : Prop := (∀ j, j < 6 → stX w X p j = false) ∧ (∃ q, q < p ∧ 0 < degX w X q) ∧ (∀ U, Con w X p U → ∀ q q', q < p → q' < p → 0 < degX w X q → 0 < degX w X q' → U q = U q') ∧ (lp = 0 → ecn EN p = 2)
theorem sy_all0 {m : Nat} (hm : m < 4096) (h : ∀ j, j < 6 → sy m j = 0) : m = 0 := by
  have h0 := h 0 (by decide)
  have h1 := h 1 (by decide)
  have h2 := h 2 (by decide)
  have h3 := h 3 (by decide)
  have h4 := h 4 (by decide)
  have h5 := h 5 (by decide)
  simp only [sy, Nat.reducePow] at h0 h1 h2 h3 h4 h5
  omega
theorem rst_sy {m c : Nat} (hm : m < 4096) (hc : c < 5) : rstN m c = 0 ↔ ∀ j, j < 6 → j ≠ c → j ≠ c + 1 → sy m j = 0 := by
  have hs := sy_rst (a := 0) (b := 0) hm (by decide) (by decide) c hc
  rw [Nat.mul_zero, Nat.zero_add, Nat.zero_mul, Nat.add_zero] at hs
  constructor
  · intro h j hj h1 h2
    have := hs j hj
    rw [if_neg h1, if_neg h2, h] at this
    rw [← this]
    unfold sy; rw [Nat.zero_div]
  · intro h
    refine sy_all0 (Nat.lt_of_le_of_lt (Nat.sub_le _ _) hm) (fun j hj => ?_)
    rw [hs j hj]
    by_cases z : j = c
    · rw [if_pos z]
    · rw [if_neg z]
      by_cases y : j = c + 1
      · rw [if_pos y]
      · rw [if_neg y]; exact h j hj z y
theorem clo_e : ∀ c, c < 5 → ∀ e, e < 3 → (gw 6 0 e (15 * 4 ^ c) = true → e = 2) ∧ (gw 6 0 e (9 * 4 ^ c) = true → e = 0) := by decide +kernel
theorem clo_m {m c : Nat} (hm : m < 4096) (hc : c < 5) (hr : rstN m c = 0) : (sy m c = 3 → sy m (c + 1) = 3 → m = 15 * 4 ^ c) ∧ (sy m c = 1 → sy m (c + 1) = 2 → m = 9 * 4 ^ c) := by
  have h := rst_1 hc hm
  rw [hr, Nat.zero_add] at h
  constructor
  · intro h1 h2; rw [h1, h2] at h; exact h
  · intro h1 h2; rw [h1, h2] at h; exact h
theorem Con_not {w p : Nat} {X U : Nat → Bool} (h : Con w X p U) : Con w X p (fun q => !U q) := fun s h1 h2 h3 => by dsimp only; rw [h s h1 h2 h3]
/-- a step that closes the one line -/
theorem LF_close {w lp p m m2 : Nat} {X EN : Nat → Bool} (hw : 0 < w) (hw5 : w ≤ 5) (hec : ecn EN p + b1 (EN p) < 3) (hcol : ∀ s, s / 2 < p → X s = true → s % 2 = 1 → s / 2 % w + 1 < w) (hF : LF w X EN p m) (hW : WeR (EN p) (ecn EN p) (p % w) m m2) (hz0 : X (2 * p) = false) (hz1 : X (2 * p + 1) = false) (hcl : clo m2 (p % w)) (hrs : rstN m2 (p % w) = 0) (hmt : sy m2 (p % w) = 1 ↔ lp = 1) (hdp : 0 < degX w X p) : LD w lp X EN (p + 1) := by
  have hc := Nat.mod_lt p hw
  have hm2 : m2 < 4096 := gw_lt hW.1
  have hrs' := (rst_sy hm2 (by omega)).mp hrs
  have hFS : ∀ j, j < 6 → j ≠ p % w → j ≠ p % w + 1 → FS w X p j = false := by
    intro j hj h1 h2
    have := hrs' j hj h1 h2
    rw [hW.2.1 j hj h1 h2] at this
    rcases Bool.eq_false_or_eq_true (FS w X p j) with y | y
    · exact absurd this ((hF.2.1 j hj).mpr y)
    · exact y
  refine ⟨fun j hj => ?_, ⟨p, by omega, hdp⟩, fun U hU => ?_, fun h0 => ?_⟩
  · rw [stX_step hw hw5 (fun _ => hz1) (by omega)]
    by_cases z : j = p % w
    · rw [if_pos z]; exact hz0
    · rw [if_neg z]
      by_cases y : j = p % w + 1
      · rw [if_pos y]; exact hz1
      · rw [if_neg y]; exact hFS j hj z y
  · rw [Con_step hw hcol] at hU
    have key : ∀ V : Nat → Bool, Con w X p V → (lfX w X p = true → V (p - 1) = V p) → (upX w X p = true → V (p - w) = V p) → V p = false → ∀ q, q < p + 1 → 0 < degX w X q → V q = false := by
      intro V h1 h2 h3 h4 q hq hdq
      by_cases z : q = p
      · rw [z]; exact h4
      · refine hF.2.2.2 V h1 (fun j hj g => ?_) q (by omega) hdq
        by_cases z : j = p % w
        · subst z
          rw [nrF_c]
          rw [FS_c hw] at g
          rw [h2 g]; exact h4
        · by_cases y : j = p % w + 1
          · subst y
            rw [nrF_c1]
            rw [FS_c1 hw] at g
            rw [h3 g]; exact h4
          · rw [hFS j hj z y] at g; exact absurd g (by decide)
    have one : ∀ q, q < p + 1 → 0 < degX w X q → U q = U p := by
      intro q hq hdq
      rcases Bool.eq_false_or_eq_true (U p) with y | y
      · have := key (fun q => !U q) (Con_not hU.1) (fun g => by rw [hU.2.1 g]) (fun g => by rw [hU.2.2 g]) (by rw [y]; rfl) q hq hdq
        rw [y]
        rcases Bool.eq_false_or_eq_true (U q) with x | x
        · exact x
        · rw [x] at this; exact absurd this (by decide)
      · rw [y]; exact key U hU.1 hU.2.1 hU.2.2 y q hq hdq
    intro q q' h1 h2 h3 h4
    rw [one q h1 h3, one q' h2 h4]
  · show ecn EN p + b1 (EN p) = 2
    have hn1 : sy m2 (p % w) ≠ 1 := fun q => by have := hmt.mp q; omega
    rcases hcl with q | q
    · exact absurd q.1 hn1
    · have hg := hW.1
      rw [(clo_m hm2 (by omega) hrs).1 q.1 q.2] at hg
      exact (clo_e (p % w) (by omega) _ hec).1 hg
/-- all slots of the set are such that an edge can be there -/
def VaX (w P : Nat) (X : Nat → Bool) : Prop := ∀ s, s / 2 < P → X s = true → (s % 2 = 1 → s / 2 % w + 1 < w) ∧ (enS w s).2 < P
theorem LF_clash {w lp P p m m2 : Nat} {X EN : Nat → Bool} (hw : 0 < w) (hw5 : w ≤ 5) (hp : p < P) (hV : VaX w P X) (hF : LF w X EN p m) (hW : WeR (EN p) (ecn EN p) (p % w) m m2) (hz0 : X (2 * p) = false) (hz1 : X (2 * p + 1) = false) (hR : Rsp m2 (fun j => (3 * 2 ^ (p % w)).testBit j) = true) (hrs : rstN m2 (p % w) ≠ 0) (hdp : 0 < degX w X p) (hG : GoodC w P lp X EN) : False := by
  have hc := Nat.mod_lt p hw
  have hm2 : m2 < 4096 := gw_lt hW.1
  have hex : ∃ j, j < 6 ∧ j ≠ p % w ∧ j ≠ p % w + 1 ∧ sy m2 j ≠ 0 := by
    rcases Classical.em (∃ j, j < 6 ∧ j ≠ p % w ∧ j ≠ p % w + 1 ∧ sy m2 j ≠ 0) with y | y
    · exact y
    · exfalso
      refine hrs ((rst_sy hm2 (by omega)).mpr (fun j hj h1 h2 => ?_))
      rcases Nat.eq_zero_or_pos (sy m2 j) with q | q
      · exact q
      · exact absurd ⟨j, hj, h1, h2, by omega⟩ y
  obtain ⟨j, hj, j1, j2, j3⟩ := hex
  rw [hW.2.1 j hj j1 j2] at j3
  have hfs := (hF.2.1 j hj).mp j3
  have hnear := FS_near hw hfs
  rw [hW.2.2.2.2.2.2.2, hF.2.2.1] at hR
  obtain ⟨U, hU, hv⟩ := hR
  have e1 : U (nrF w p j) = false := by
    have := hv j hj hfs
    rw [bits_3 _ (by omega) _ hj, decide_eq_false (by omega)] at this
    exact this.symm
  have hcon : ∀ s, s / 2 < P → X s = true → (fun q => if q < p then U q else decide (q = p)) (s / 2) = (fun q => if q < p then U q else decide (q = p)) (enS w s).2 := by
    intro s hs hx
    have hva := hV s hs hx
    have hfar := far_gt (s := s) hw
    dsimp only
    by_cases y1 : (enS w s).2 < p
    · rw [if_pos (by omega), if_pos y1]; exact hU s hx (by omega) y1
    · rw [if_neg y1]
      by_cases y2 : s / 2 < p
      · rw [if_pos y2]
        obtain ⟨i, i1, i2, i3, i4⟩ := cover hw hx hva.1 y2 (by omega)
        have hi := hv i (by omega) i2
        rw [i3, bits_3 _ (by omega) _ (by omega)] at hi
        by_cases y3 : i = p % w ∨ i = p % w + 1
        · rw [decide_eq_true y3] at hi
          rw [← hi, i4.mp y3, decide_eq_true rfl]
        · rw [decide_eq_false y3] at hi
          rw [← hi]
          have : (enS w s).2 ≠ p := by
            intro q
            exact y3 (i4.mpr q)
          rw [decide_eq_false this]
      · rw [if_neg y2]
        by_cases y3 : s / 2 = p
        · exfalso
          rcases (by omega : s = 2 * p ∨ s = 2 * p + 1) with q | q
          · rw [q, hz0] at hx; exact absurd hx (by decide)
          · rw [q, hz1] at hx; exact absurd hx (by decide)
        · rw [decide_eq_false y3, decide_eq_false (by omega)]
  have := hG.2.2 (fun q => if q < p then U q else decide (q = p)) hcon p (nrF w p j) hp (by omega) hdp hnear.2.1
  rw [if_neg (Nat.lt_irrefl _), if_pos hnear.1, e1, decide_eq_true rfl] at this
  exact absurd this (by decide)
/-- nothing crosses: what is behind and what is ahead are apart -/
theorem apart {w lp P p : Nat} {X EN : Nat → Bool} (hw : 0 < w) (hw5 : w ≤ 5) (hV : VaX w P X) (hst : ∀ j, j ≤ w → FS w X p j = false) {q q' : Nat} (hq : q < p) (hq' : p ≤ q') (h1 : q < P) (h2 : q' < P) (h3 : 0 < degX w X q) (h4 : 0 < degX w X q') (hG : GoodC w P lp X EN) : False := by
  have := hG.2.2 (fun x => decide (x < p)) (fun s hs hx => by
    have hva := hV s hs hx
    have hfar := far_gt (s := s) hw
    by_cases y1 : (enS w s).2 < p
    · rw [decide_eq_true y1, decide_eq_true (by omega)]
    · by_cases y2 : s / 2 < p
      · exfalso
        obtain ⟨i, i1, i2, _⟩ := cover hw hx hva.1 y2 (by omega)
        rw [hst i i1] at i2; exact absurd i2 (by decide)
      · rw [decide_eq_false y1, decide_eq_false y2]) q q' h1 h2 h3 h4
  rw [decide_eq_true hq, decide_eq_false (by omega)] at this
  exact absurd this (by decide)
theorem st_FS {w p : Nat} {X : Nat → Bool} (hw : 0 < w) (hw5 : w ≤ 5) (h : ∀ j, j < 6 → stX w X p j = false) : ∀ j, j ≤ w → FS w X p j = false := by
  intro j hj
  rcases Bool.eq_false_or_eq_true (FS w X p j) with y | y
  · exact absurd y ((sh_all (X := X) (p := p) hw hw5 (Q := fun j => FS w X p j ≠ true)).mp (fun i hi q => by rw [h i hi] at q; exact absurd q (by decide)) j (by omega) y)
  · exact y
theorem LI_0 {w : Nat} {X EN : Nat → Bool} (hw : 0 < w) (hw5 : w ≤ 5) : LI w X EN 0 0 := by
  have hD := DI_0 (X := X) hw
  have hs : ∀ j, j < 6 → stX w X 0 j = false := fun j hj => by rw [← hD.2 j (by omega)]; exact Nat.zero_testBit j
  refine ⟨rfl, fun j hj => ?_, fun v => ?_, fun U _ _ q hq => absurd hq (Nat.not_lt_zero _)⟩
  · rw [hs j hj]
    have : sy 0 j = 0 := by unfold sy; rw [Nat.zero_div]
    rw [this]; decide
  · constructor
    · intro _; exact ⟨fun _ => false, fun s _ h => absurd h (Nat.not_lt_zero _), fun j hj q => by rw [hs j hj] at q; exact absurd q (by decide)⟩
    · intro _; rfl
