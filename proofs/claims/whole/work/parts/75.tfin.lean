/-! TREES: runs, room and bound -/
abbrev nxTr (w P : Nat) (ho : Int32) (op : Int64) : Nat → Int32 → Nat → Int32 := nxA (fun p => cafTK w (nI P) ho (lpB (plB P ho) P) p (p % w)) (fun p => openChoicesF op (nI p))
theorem plB_hi {P q : Nat} {ho : Int32} (h : P ≤ q) : plB P ho q = false := by unfold plB; rw [decide_eq_false (by omega), Bool.false_and]
theorem nxT_eq {w h p z : Nat} {ho : Int32} {op : Int64} {code : Int32} (g : GrB w h ho op) (hp : p < w * h) (y : nI z &&& (openChoicesF op (nI p) ^^^ -1) = 0) : nxTr w (w * h) ho op p code z = cafT w (plB (w * h) ho (p + w)) (decide (nI p = lpB (plB (w * h) ho) (w * h))) code (p % w) (nI z) := by
  have hP := g.P
  have hw5 := g.1.2
  show (if nI z &&& (openChoicesF op (nI p) ^^^ -1) = 0 then cafT w (isPlaceF (nI (w * h)) ho (nI p + nI w)) (decide (nI p = lpB (plB (w * h) ho) (w * h))) code (p % w) (nI z) else -1) = _
  rw [if_pos y, nI_add, isPlaceF_nI hP (by omega)]
theorem opn_pl {w h p z : Nat} {ho : Int32} {op : Int64} (g : GrB w h ho op) (hp : p < w * h) (hz : z < 4) (y : nI z &&& (openChoicesF op (nI p) ^^^ -1) = 0) : (z.testBit 1 = true → p % w + 1 < w ∧ plB (w * h) ho p = true ∧ plB (w * h) ho (p + 1) = true) ∧ (z.testBit 0 = true → plB (w * h) ho p = true ∧ plB (w * h) ho (p + w) = true) := by
  have hP := g.P
  have ho := (opn_ok (by omega) hz).mp y
  constructor
  · intro q
    have := g.opP (by omega) (ho.2 q)
    rw [show (2 * p + 1) / 2 = p by omega] at this
    refine ⟨this.2.2 (by omega), this.1, ?_⟩
    have h2 := this.2.1
    unfold enS at h2
    dsimp only at h2
    rw [if_pos (by omega), show (2 * p + 1) / 2 = p by omega] at h2; exact h2
  · intro q
    have := g.opP (by omega) (ho.1 q)
    rw [show 2 * p / 2 = p by omega] at this
    refine ⟨this.1, ?_⟩
    have h2 := this.2.1
    unfold enS at h2
    dsimp only at h2
    rw [if_neg (by omega), show 2 * p / 2 = p by omega] at h2; exact h2
theorem runT {w h : Nat} {ho : Int32} {op inn out : Int64} {X : Nat → Bool} (g : GrB w h ho op) : ∀ (k p n : Nat) (pa : Nat → Nat), p + k = w * h → pX w X p = some pa → TI w (plB (w * h) ho) p n pa →
    (RO (nxTr w (w * h) ho op) isWayTR (alF inn out) (sqX X p k) p (nI n) ↔ (∀ q, p ≤ q → q < w * h → okX op inn out X q) ∧ GoodT w (w * h) (plB (w * h) ho) X)
  | 0, p, n, pa, hk, hX, hI => by
    have hw := g.1.1
    have hpe : p = w * h := by omega
    subst hpe
    constructor
    · intro _
      refine ⟨fun q h1 h2 => by omega, pa, hX, fun q q' h1 h2 => ?_⟩
      rcases hI.2.2.2.1 with y | y
      · obtain ⟨j, j1, j2, _⟩ := y q (plB_lt h1) h1
        rw [plB_hi (win_b hw j1).1] at j2; exact absurd j2 (by decide)
      · exact y.2 q q' h1 h2
    · intro _
      have hn0 : n = 0 := (NC_f hw g.1.2 hI.1).2.2 (fun j hj => (hI.2.1 j hj).mpr (plB_hi (win_b hw hj).1))
      rw [hn0]; rfl
  | k + 1, p, n, pa, hk, hX, hI => by
    have hw := g.1.1
    have hw5 := g.1.2
    have hP := g.P
    have hp : p < w * h := by omega
    have hz := b2_lt (X (2 * p)) (X (2 * p + 1))
    have hok := okX_iff (op := op) (inn := inn) (out := out) (X := X) (q := p) (by omega)
    have hva : (∀ q, p ≤ q → q < w * h → okX op inn out X q) → ∀ s, p < s / 2 → s / 2 < w * h → X s = true → plB (w * h) ho (s / 2) = true ∧ plB (w * h) ho (enS w s).2 = true := fun H s h1 h2 hx => by
      have := g.opP (by omega) ((H (s / 2) (by omega) h2).1 s rfl hx).1
      exact ⟨this.1, this.2.1⟩
    have comb : ∀ (Q : Prop), okX op inn out X p → (((∀ q, p + 1 ≤ q → q < w * h → okX op inn out X q) ∧ Q) ↔ ((∀ q, p ≤ q → q < w * h → okX op inn out X q) ∧ Q)) := by
      intro Q h0
      refine and_congr_left (fun _ => ⟨fun H q h1 h2 => ?_, fun H q h1 h2 => H q (by omega) h2⟩)
      by_cases z : q = p
      · rw [z]; exact h0
      · exact H q (by omega) h2
    show ((b2 _ _) < 4 ∧ alF inn out p (b2 (X (2 * p)) (X (2 * p + 1))) = true ∧ nxTr w (w * h) ho op p (nI n) (b2 (X (2 * p)) (X (2 * p + 1))) ≠ -1 ∧ RO _ _ _ (sqX X (p + 1) k) (p + 1) (nxTr w (w * h) ho op p (nI n) (b2 (X (2 * p)) (X (2 * p + 1))))) ↔ _
    by_cases y : nI (b2 (X (2 * p)) (X (2 * p + 1))) &&& (openChoicesF op (nI p) ^^^ -1) = 0
    · have hpl := opn_pl g hp hz y
      rw [b2_t0, b2_t1] at hpl
      rw [nxT_eq g hp y]
      rcases stepT (last := decide (nI p = lpB (plB (w * h) ho) (w * h))) hw hw5 (by omega) hp (fun q hq => plB_hi hq) (by rw [decide_eq_true_iff]; exact last_iff (by omega) hp) hX hI hpl.1 hpl.2 with ⟨h1, h2⟩ | ⟨m, qa, h1, h2, h3⟩
      · rw [h1]
        constructor
        · rintro ⟨_, _, q, _⟩; exact absurd rfl q
        · rintro ⟨q1, q2⟩; exact (h2 (hva q1) q2).elim
      · rw [h1, runT (inn := inn) (out := out) g k (p + 1) m qa (by omega) h2 h3]
        constructor
        · rintro ⟨_, a, _, b⟩; exact (comb _ (hok.mpr ⟨y, a⟩)).mp b
        · intro b
          have b0 := b.1 p (Nat.le_refl _) hp
          exact ⟨hz, (hok.mp b0).2, nI_n1 (by have := (NC_f hw hw5 h3.1).1; omega), (comb _ b0).mpr b⟩
    · have e1 : nxTr w (w * h) ho op p (nI n) (b2 (X (2 * p)) (X (2 * p + 1))) = -1 := if_neg y
      rw [e1]
      constructor
      · rintro ⟨_, _, q, _⟩; exact absurd rfl q
      · rintro ⟨q1, _⟩; exact absurd (hok.mp (q1 p (Nat.le_refl _) hp)).1 y
theorem bv_32 {v : Nat → Bool} (h5 : v 5 = false) : bv v < 32 := by
  unfold bv
  rcases Bool.eq_false_or_eq_true (v 0) with h0 | h0 <;> rcases Bool.eq_false_or_eq_true (v 1) with h1 | h1 <;> rcases Bool.eq_false_or_eq_true (v 2) with h2 | h2 <;> rcases Bool.eq_false_or_eq_true (v 3) with h3 | h3 <;> rcases Bool.eq_false_or_eq_true (v 4) with h4 | h4 <;> rw [h0, h1, h2, h3, h4, h5] <;> decide
/-- the first code -/
def fxN (pl : Nat → Bool) : Nat := (if pl 0 = true then 1 else 0) + (if pl 1 = true then 16 else 0) + (if pl 2 = true then 192 else 0) + (if pl 3 = true then 2048 else 0) + (if pl 4 = true then 20480 else 0)
theorem fx_at (pl : Nat → Bool) {q : Nat} (hq : q < 5) : uN (fxN pl) q = if pl q = true then q + 1 else 0 := by
  unfold fxN
  cases h0 : pl 0 <;> cases h1 : pl 1 <;> cases h2 : pl 2 <;> cases h3 : pl 3 <;> cases h4 : pl 4 <;> rcases (by omega : q = 0 ∨ q = 1 ∨ q = 2 ∨ q = 3 ∨ q = 4) with y | y | y | y | y <;> subst y <;> simp only [h0, h1, h2, h3, h4] <;> decide
theorem first_T {w h : Nat} {ho : Int32} {op : Int64} (g : GrB w h ho op) : ∃ n, codeF (fstT w (nI (w * h)) ho) w = nI n ∧ TI w (plB (w * h) ho) 0 n (fun q => q) := by
  have hw := g.1.1
  have hw5 := g.1.2
  have hP := g.P
  have hbv := bv_at (fun j => decide (j < 5) && plB (w * h) ho j)
  have hlt : bv (fun j => decide (j < 5) && plB (w * h) ho j) < 32 := bv_32 rfl
  have hA := List.all_eq_true.mp fchA w (List.mem_range.mpr (by omega))
  rw [if_neg (by omega)] at hA
  have hf := List.all_eq_true.mp hA _ (List.mem_range.mpr hlt)
  unfold fchk at hf
  rw [hbv.2 0 (by decide), hbv.2 1 (by decide), hbv.2 2 (by decide), hbv.2 3 (by decide), hbv.2 4 (by decide)] at hf
  have he : ((if (decide (0 < 5) && plB (w * h) ho 0) = true then 1 else 0) + (if (decide (1 < 5) && plB (w * h) ho 1) = true then 16 else 0) + (if (decide (2 < 5) && plB (w * h) ho 2) = true then 192 else 0) + (if (decide (3 < 5) && plB (w * h) ho 3) = true then 2048 else 0) + (if (decide (4 < 5) && plB (w * h) ho 4) = true then 20480 else 0)) = fxN (plB (w * h) ho) := rfl
  rw [he, force_eq, force_eq] at hf
  have hk := k_R0 hf
  refine ⟨_, ?_, hk.2.1, fun j hj => ?_, fun i j hi hj hpi hpj => ?_, Or.inl (fun q hq => absurd hq (Nat.not_lt_zero _)), fun q _ => ⟨rfl, fun x hx => hx⟩⟩
  · rw [← hk.1]
    unfold cdI
    refine codeF_congr (fun q hq => ?_)
    unfold fstT
    rw [isPlaceF_nI hP (by omega), fx_at _ (by omega)]
    by_cases z : plB (w * h) ho q = true
    · rw [if_pos z, if_pos z]; exact nI_add q 1
    · rw [if_neg z, if_neg z]; rfl
  · rw [hk.2.2.1 j hj, fx_at _ (by omega), win_0]
    by_cases z : plB (w * h) ho j = true
    · rw [if_pos z, z]; exact ⟨fun q => by omega, fun q => absurd q (by decide)⟩
    · rw [if_neg z]; rw [Bool.not_eq_true] at z; exact ⟨fun _ => z, fun _ => rfl⟩
  · rw [win_0] at hpi
    rw [win_0] at hpj
    rw [hk.2.2.2 i j hi hj, fx_at _ (by omega), fx_at _ (by omega), if_pos hpi, if_pos hpj, win_0, win_0]
    show i + 1 = j + 1 ↔ i = j
    omega
/-- codes with their holes where the grid has them -/
def SST (w : Nat) (pl : Nat → Bool) (p : Nat) : List Int32 := ((NCL w).filter (fun n => (List.range w).all (fun j => (uN n j == 0) == !pl (win w p j)))).map nI
theorem mem_SST {w p : Nat} {pl : Nat → Bool} {x : Int32} : x ∈ SST w pl p ↔ ∃ n, x = nI n ∧ n ∈ NCL w ∧ ∀ j, j < w → (uN n j = 0 ↔ pl (win w p j) = false) := by
  unfold SST
  rw [List.mem_map]
  have key : ∀ n, ((List.range w).all (fun j => (uN n j == 0) == !pl (win w p j)) = true ↔ ∀ j, j < w → (uN n j = 0 ↔ pl (win w p j) = false)) := by
    intro n
    rw [List.all_eq_true]
    constructor
    · intro H j hj
      have := H j (List.mem_range.mpr hj)
      rw [beq_iff_eq, Bool.eq_iff_iff, beq_iff_eq, Bool.not_eq_true'] at this
      exact this
    · intro H j hj
      rw [beq_iff_eq, Bool.eq_iff_iff, beq_iff_eq, Bool.not_eq_true']
      exact H j (List.mem_range.mp hj)
  constructor
  · rintro ⟨n, h1, h2⟩
    rw [List.mem_filter] at h1
    exact ⟨n, h2.symm, h1.1, (key n).mp h1.2⟩
  · rintro ⟨n, h1, h2, h3⟩
    exact ⟨n, List.mem_filter.mpr ⟨h2, (key n).mpr h3⟩, h1.symm⟩
theorem SST_len {w p : Nat} {pl : Nat → Bool} (hw : 0 < w) (hw5 : w ≤ 5) : (SST w pl p).length ≤ 42 := by
  unfold SST
  rw [List.length_map]
  have hbv := bv_at (fun j => decide (j < 5) && pl (win w p j))
  have hlt : bv (fun j => decide (j < 5) && pl (win w p j)) < 32 := bv_32 rfl
  have hA := of_decide_eq_true (List.all_eq_true.mp (List.all_eq_true.mp pat42 w (List.mem_range.mpr (by omega))) _ (List.mem_range.mpr hlt))
  rcases hA with hA | hA
  · have : (NCL w).filter (fun n => (List.range w).all (fun j => (uN n j == 0) == !pl (win w p j))) = (NCL w).filter (pat w (bv (fun j => decide (j < 5) && pl (win w p j)))) := by
      apply List.filter_congr
      intro n _
      unfold pat
      rw [Bool.eq_iff_iff, List.all_eq_true, List.all_eq_true]
      constructor
      · intro H j hj
        have := H j hj
        have hj' := List.mem_range.mp hj
        rw [hbv.2 j (by omega), decide_eq_true (show j < 5 by omega), Bool.true_and]; exact this
      · intro H j hj
        have := H j hj
        have hj' := List.mem_range.mp hj
        rw [hbv.2 j (by omega), decide_eq_true (show j < 5 by omega), Bool.true_and] at this; exact this
    rw [this]; exact hA
  · omega
/-- one step of the table, seen by codes alone -/
theorem nxT_code {w h p n z : Nat} {ho : Int32} {op : Int64} (g : GrB w h ho op) (hp : p < w * h) (hz : z < 4) (i1 : n ∈ NCL w) (i2 : ∀ j, j < w → (uN n j = 0 ↔ plB (w * h) ho (win w p j) = false)) (hne : nxTr w (w * h) ho op p (nI n) z ≠ -1) : nxTr w (w * h) ho op p (nI n) z = nI (cnN w (g2N n (p % w) z (plB (w * h) ho (p + w)))) ∧ cnN w (g2N n (p % w) z (plB (w * h) ho (p + w))) ∈ NCL w ∧ (∀ j, j < w → (uN (cnN w (g2N n (p % w) z (plB (w * h) ho (p + w)))) j = 0 ↔ plB (w * h) ho (win w (p + 1) j) = false)) ∧ zOK w n (p % w) z (plB (w * h) ho (p + w)) = true ∧ (cutN w n (p % w) z (plB (w * h) ho (p + w)) = false ∨ cnN w (g2N n (p % w) z (plB (w * h) ho (p + w))) = 0) := by
  have hw := g.1.1
  have hw5 := g.1.2
  have hP := g.P
  have hc := Nat.mod_lt p hw
  by_cases y : nI z &&& (openChoicesF op (nI p) ^^^ -1) = 0
  · have hpl := opn_pl g hp hz y
    rw [nxT_eq g hp y] at hne ⊢
    have hnq : z.testBit 1 = true → uN n (p % w) ≠ uN n (p % w + 1) := fun q u => hne (cafT_d hw5 i1 hc hz q u)
    have hcaf := cafT_w (pb := plB (w * h) ho (p + w)) (last := decide (nI p = lpB (plB (w * h) ho) (w * h))) hw hw5 i1 hc hz (fun q => ⟨(hpl.1 q).1, hnq q⟩)
    have hOK := z_ok hw i2 hpl.1 hpl.2 hnq
    have hR := tch_R hw hw5 i1 hc hz hOK
    have hzr : ∀ j, j < w → (uN (cnN w (g2N n (p % w) z (plB (w * h) ho (p + w)))) j = 0 ↔ plB (w * h) ho (win w (p + 1) j) = false) := fun j hj => by rw [hR.2.2.1 j hj]; exact T_z hw hw5 i1 i2 hpl.1 hpl.2 j hj
    by_cases hcut : cutN w n (p % w) z (plB (w * h) ho (p + w)) = true ∧ decide (nI p = lpB (plB (w * h) ho) (w * h)) = false
    · rw [if_pos hcut] at hcaf; exact absurd hcaf hne
    · rw [if_neg hcut, hR.1] at hcaf
      refine ⟨hcaf, hR.2.1, hzr, hOK, ?_⟩
      rcases Bool.eq_false_or_eq_true (cutN w n (p % w) z (plB (w * h) ho (p + w))) with u | u
      · right
        have hl : nI p = lpB (plB (w * h) ho) (w * h) := by
          rcases Classical.em (nI p = lpB (plB (w * h) ho) (w * h)) with v | v
          · exact v
          · exact absurd ⟨u, decide_eq_false v⟩ hcut
        have hla := (last_iff (by omega) hp).mp hl
        refine (NC_f hw hw5 hR.2.1).2.2 (fun j hj => (hzr j hj).mpr ?_)
        have hb := (win_b (p := p + 1) hw hj).1
        rcases Nat.lt_or_ge (win w (p + 1) j) (w * h) with v | v
        · exact hla.2 _ (by omega) v
        · exact plB_hi v
      · exact Or.inl u
  · exact absurd (show nxTr w (w * h) ho op p (nI n) z = -1 from if_neg y) hne
theorem capT {w h : Nat} {ho : Int32} {op : Int64} (g : GrB w h ho op) : Cap (w * h) 42 (fun p => cafTK w (nI (w * h)) ho (lpB (plB (w * h) ho) (w * h)) p (p % w)) (fun p => openChoicesF op (nI p)) (codeF (fstT w (nI (w * h)) ho) w) (SST w (plB (w * h) ho)) := by
  refine ⟨by decide, by decide, ?_, fun p _ => SST_len g.1.1 g.1.2, fun p hp x hx c hc hne => ?_⟩
  · obtain ⟨n, h1, h2⟩ := first_T g
    exact mem_SST.mpr ⟨n, h1, h2.1, h2.2.1⟩
  · obtain ⟨n, rfl, h2, h3⟩ := mem_SST.mp hx
    have := nxT_code g hp hc h2 h3 hne
    exact mem_SST.mpr ⟨_, this.1, this.2.1, this.2.2.1⟩
theorem TB_ok {w : Nat} (h0 : 0 < w) (h5 : w ≤ 5) : tbc w = true := by
  rcases (by omega : w = 1 ∨ w = 2 ∨ w = 3 ∨ w = 4 ∨ w = 5) with z | z | z | z | z <;> subst z
  · exact tbc1
  · exact tbc2
  · exact tbc3
  · exact tbc4
  · exact tbc5
theorem len_T {w h : Nat} {ho : Int32} {op inn out : Int64} (g : GrB w h ho op) : ∀ (k p n : Nat), p + k = w * h → n ∈ NCL w → (∀ j, j < w → (uN n j = 0 ↔ plB (w * h) ho (win w p j) = false)) → (AL (nxTr w (w * h) ho op) isWayTR (alF inn out) k p (nI n)).length ≤ TBv w (p + w * (5 - h)) n
  | 0, p, n, hk, i1, i2 => by
    have hc := TB_ok g.1.1 g.1.2
    unfold tbc at hc
    rw [Bool.and_eq_true, Bool.and_eq_true] at hc
    have e5 : p + w * (5 - h) = 5 * w := by
      have := g.2.1.2
      rw [show p = w * h by omega, ← Nat.mul_add, show h + (5 - h) = 5 by omega, Nat.mul_comm]
    exact Nat.le_trans (AL_len _ _ _ 0 p _) (of_decide_eq_true (List.all_eq_true.mp (List.all_eq_true.mp hc.2 (p + w * (5 - h)) (List.mem_range.mpr (by omega))) n i1))
  | k + 1, p, n, hk, i1, i2 => by
    have hw := g.1.1
    have hw5 := g.1.2
    have hh := g.2.1.2
    have hp : p < w * h := by omega
    have hc := TB_ok hw hw5
    unfold tbc at hc
    rw [Bool.and_eq_true, Bool.and_eq_true] at hc
    have hpm : (p + w * (5 - h)) % w = p % w := Nat.add_mul_mod_self_left _ _ _
    have e5 : w * h + w * (5 - h) = 5 * w := by
      rw [← Nat.mul_add, show h + (5 - h) = 5 by omega, Nat.mul_comm]
    have hq := List.all_eq_true.mp (List.all_eq_true.mp hc.1.1 (p + w * (5 - h)) (List.mem_range.mpr (by omega))) n i1
    rw [Bool.and_eq_true, Bool.or_eq_true, decide_eq_true_iff, decide_eq_true_iff, decide_eq_true_iff] at hq
    have main : ∀ z, z < 4 → (AL1 (nxTr w (w * h) ho op) isWayTR (alF inn out) k p (nI n) z).length ≤ tlz w (p + w * (5 - h)) n (plB (w * h) ho (p + w)) z := by
      intro z hz
      refine AL1_le (fun hne => ?_)
      have hcd := nxT_code g hp hz i1 i2 hne
      rw [hcd.1]
      unfold tlz
      rw [hpm, if_pos ⟨hcd.2.2.2.1, hcd.2.2.2.2⟩]
      have ih := len_T (inn := inn) (out := out) g k (p + 1) _ (by omega) hcd.2.1 hcd.2.2.1
      rw [show p + w * (5 - h) + 1 = p + 1 + w * (5 - h) by omega]
      exact ih
    have tot : tlz w (p + w * (5 - h)) n (plB (w * h) ho (p + w)) 0 + tlz w (p + w * (5 - h)) n (plB (w * h) ho (p + w)) 1 + tlz w (p + w * (5 - h)) n (plB (w * h) ho (p + w)) 2 + tlz w (p + w * (5 - h)) n (plB (w * h) ho (p + w)) 3 ≤ TBv w (p + w * (5 - h)) n := by
      cases hb : plB (w * h) ho (p + w) with
      | false => exact hq.1
      | true =>
        rcases hq.2 with u | u
        · have := plB_lt hb; omega
        · exact u
    rw [AL_s]
    simp only [List.length_append]
    have m0 := main 0 (by decide)
    have m1 := main 1 (by decide)
    have m2 := main 2 (by decide)
    have m3 := main 3 (by decide)
    omega
theorem len_TA {w h : Nat} {ho : Int32} {op inn out : Int64} (g : GrB w h ho op) : (AL (nxTr w (w * h) ho op) isWayTR (alF inn out) (w * h) 0 (codeF (fstT w (nI (w * h)) ho) w)).length < 2147483647 := by
  obtain ⟨n, h1, h2⟩ := first_T g
  rw [h1]
  refine Nat.lt_of_le_of_lt (len_T g (w * h) 0 n (by omega) h2.1 h2.2.1) ?_
  have hc := TB_ok g.1.1 g.1.2
  unfold tbc at hc
  rw [Bool.and_eq_true, Bool.and_eq_true] at hc
  rw [Nat.zero_add]
  exact of_decide_eq_true (List.all_eq_true.mp (List.all_eq_true.mp hc.1.2 n h2.1) (5 - h) (List.mem_range.mpr (by omega)))
