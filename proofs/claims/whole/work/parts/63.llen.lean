/-! LINES: the number of runs -/
theorem tn_nI {n : Nat} (hn : n < 2 ^ 31) : (nI n).toNatClampNeg = n := by
  unfold Int32.toNatClampNeg
  rw [nI_toInt hn]; rfl
theorem lxL_irr : ∀ {s : List Nat}, ¬lxL s s
  | [], h => h
  | a :: s, h => by
    rcases h with q | q
    · exact Nat.lt_irrefl _ q
    · exact lxL_irr q.2
theorem AL_nodup (nx : Nat → Int32 → Nat → Int32) (isw : Int32 → Bool) (ok : Nat → Nat → Bool) (k p : Nat) (code : Int32) : (AL nx isw ok k p code).Nodup := (AL_lex nx isw ok k p code).imp (fun h e => by subst e; exact lxL_irr h)
def nxM (w : Nat) (EN : Nat → Bool) (op : Int64) (p : Nat) (code : Int32) (z : Nat) : Int32 :=
  if nI z &&& (openChoicesF op (nI p) ^^^ -1) = 0 then (if bs2 (shN (p % w) code.toNatClampNeg / 2 ^ (p % w) % 4) + bs2 z + b1 (EN p) = 0 ∨ bs2 (shN (p % w) code.toNatClampNeg / 2 ^ (p % w) % 4) + bs2 z + b1 (EN p) = 2 then nI (nxN (p % w) code.toNatClampNeg z) else -1) else -1
theorem runM {w h : Nat} {ho : Int32} {op inn out : Int64} {X EN : Nat → Bool} (g : GrB w h ho op) : ∀ (k p n : Nat), p + k = w * h → DI w X p n → (∀ q, p ≤ q → q < w * h → okX op inn out X q ∧ dueL w X EN q) → RO (nxM w EN op) (fun _ => true) (alF inn out) (sqX X p k) p (nI n)
  | 0, p, n, hk, hD, _ => rfl
  | k + 1, p, n, hk, hD, hall => by
    have hw := g.1.1
    have hw5 := g.1.2
    have hP := g.P
    have hp : p < w * h := by omega
    have hz := b2_lt (X (2 * p)) (X (2 * p + 1))
    have hpp := hall p (Nat.le_refl _) hp
    have hok := (okX_iff (op := op) (inn := inn) (out := out) (X := X) (q := p) (by omega)).mp hpp.1
    have hright : p % w + 1 = w → X (2 * p + 1) = false := by
      intro h2
      cases hx : X (2 * p + 1) with
      | false => rfl
      | true =>
        exfalso
        have h3 := (g.opP (by omega) (hpp.1.1 (2 * p + 1) (by omega) hx).1).2.2 (by omega)
        rw [show (2 * p + 1) / 2 = p by omega] at h3
        omega
    obtain ⟨hD2, hsym⟩ := DI_step hw hw5 hD hright
    have hdue := hpp.2
    unfold dueL degX at hdue
    rw [← hsym] at hdue
    have e1 : nxM w EN op p (nI n) (b2 (X (2 * p)) (X (2 * p + 1))) = nI (nxN (p % w) n (b2 (X (2 * p)) (X (2 * p + 1)))) := by
      unfold nxM
      rw [if_pos hok.1, tn_nI (by have := hD.1; omega), if_pos hdue]
    refine ⟨hz, hok.2, ?_, ?_⟩
    · rw [e1]; exact nI_n1 (by have := hD2.1; omega)
    · rw [e1]
      exact runM g k (p + 1) _ (by omega) hD2 (fun q h4 h5 => hall q (by omega) h5)
def limT (w c z n : Nat) : Bool := !decide (n < 2 ^ (if c = 0 then w else w + 1)) || (decide (c + 1 = w) && z.testBit 1) || decide (nxN c n z < 2 ^ (if c + 1 = w then w else w + 1))
theorem nxN_limT : (List.range 6).all (fun w => (List.range w).all (fun c => (List.range 4).all (fun z => (List.range 64).all (fun n => limT w c z n)))) = true := by decide +kernel
theorem nxN_lim {w c z n : Nat} (h1 : w < 6) (h2 : c < w) (h3 : z < 4) (h4 : n < 64) (h5 : n < 2 ^ (if c = 0 then w else w + 1)) (h6 : c + 1 = w → z.testBit 1 = false) : nxN c n z < 2 ^ (if c + 1 = w then w else w + 1) := by
  have := List.all_eq_true.mp (List.all_eq_true.mp (List.all_eq_true.mp (List.all_eq_true.mp nxN_limT w (List.mem_range.mpr h1)) c (List.mem_range.mpr h2)) z (List.mem_range.mpr h3)) n (List.mem_range.mpr h4)
  unfold limT at this
  rw [decide_eq_true h5, Bool.not_true, Bool.false_or, Bool.or_eq_true, Bool.and_eq_true, decide_eq_true_iff, decide_eq_true_iff] at this
  rcases this with q | q
  · rw [h6 q.1] at q; exact absurd q.2 (by decide)
  · exact q
theorem CB_ok {w : Nat} (h0 : 0 < w) (h5 : w ≤ 5) : cchk w = true := by
  rcases (by omega : w = 1 ∨ w = 2 ∨ w = 3 ∨ w = 4 ∨ w = 5) with z | z | z | z | z <;> subst z
  · exact cchk1
  · exact cchk2
  · exact cchk3
  · exact cchk4
  · exact cchk5
theorem limW_s {w p : Nat} (hw : 0 < w) : limW w (p + 1) = if p % w + 1 = w then w else w + 1 := by
  unfold limW
  rw [mod_succ hw]
  by_cases z : p % w + 1 = w
  · rw [if_pos z, if_pos z, if_pos rfl]
  · rw [if_neg z, if_neg z, if_neg (by omega)]
theorem len_M {w h : Nat} {ho : Int32} {op inn out : Int64} {EN : Nat → Bool} (g : GrB w h ho op) : ∀ (k p n : Nat), p + k = w * h → n < 2 ^ limW w p → (AL (nxM w EN op) (fun _ => true) (alF inn out) k p (nI n)).length ≤ CB w (p + w * (5 - h)) n
  | 0, p, n, hk, hn => by
    have hc := CB_ok g.1.1 g.1.2
    unfold cchk at hc
    rw [Bool.and_eq_true, Bool.and_eq_true] at hc
    have hpm : (p + w * (5 - h)) % w = p % w := Nat.add_mul_mod_self_left _ _ _
    have e5 : p + w * (5 - h) = 5 * w := by
      have := g.2.1.2
      rw [show p = w * h by omega, ← Nat.mul_add, show h + (5 - h) = 5 by omega, Nat.mul_comm]
    have := of_decide_eq_true (List.all_eq_true.mp (List.all_eq_true.mp hc.1.2 (p + w * (5 - h)) (List.mem_range.mpr (by omega))) n (List.mem_range.mpr (by unfold limW at hn ⊢; rw [hpm]; exact hn)))
    exact Nat.le_trans (AL_len _ _ _ 0 p _) this
  | k + 1, p, n, hk, hn => by
    have hw := g.1.1
    have hw5 := g.1.2
    have hP := g.P
    have hh := g.2.1.2
    have hp : p < w * h := by omega
    have hcw : p % w < w := Nat.mod_lt _ hw
    have hc := CB_ok hw hw5
    unfold cchk at hc
    rw [Bool.and_eq_true, Bool.and_eq_true] at hc
    have hpm : (p + w * (5 - h)) % w = p % w := Nat.add_mul_mod_self_left _ _ _
    have e5 : w * h + w * (5 - h) = 5 * w := by
      rw [← Nat.mul_add, show h + (5 - h) = 5 by omega, Nat.mul_comm]
    have hn64 : n < 64 := by
      have : 2 ^ limW w p ≤ 2 ^ 6 := Nat.pow_le_pow_right (by decide) (by unfold limW; by_cases y : p % w = 0; (rw [if_pos y]; omega); (rw [if_neg y]; omega))
      omega
    have hb2 : b1 (EN p) < 2 := by unfold b1; cases EN p <;> decide
    have hq := of_decide_eq_true (List.all_eq_true.mp (List.all_eq_true.mp (List.all_eq_true.mp hc.1.1 (p + w * (5 - h)) (List.mem_range.mpr (by omega))) n (List.mem_range.mpr (by unfold limW at hn ⊢; rw [hpm]; exact hn))) (b1 (EN p)) (List.mem_range.mpr hb2))
    have main : ∀ z, z < 4 → (AL1 (nxM w EN op) (fun _ => true) (alF inn out) k p (nI n) z).length ≤ czt w (p + w * (5 - h)) n (b1 (EN p)) z := by
      intro z hz
      refine AL1_le (fun hne => ?_)
      by_cases y : nI z &&& (openChoicesF op (nI p) ^^^ -1) = 0
      · by_cases x : bs2 (shN (p % w) n / 2 ^ (p % w) % 4) + bs2 z + b1 (EN p) = 0 ∨ bs2 (shN (p % w) n / 2 ^ (p % w) % 4) + bs2 z + b1 (EN p) = 2
        · have e1 : nxM w EN op p (nI n) z = nI (nxN (p % w) n z) := by
            unfold nxM
            rw [if_pos y, tn_nI (by omega), if_pos x]
          have ho := (opn_ok (by omega) hz).mp y
          have hz1 : z.testBit 1 = true → p % w + 1 < w := by
            intro u
            have := (g.opP (by omega) (ho.2 u)).2.2 (by omega)
            rw [show (2 * p + 1) / 2 = p by omega] at this; exact this
          have hz0 : z.testBit 0 = true → p + w * (5 - h) + w < 5 * w := by
            intro u
            have h4 := plB_lt (g.opP (by omega) (ho.1 u)).2.1
            unfold enS at h4
            dsimp only at h4
            rw [if_neg (by omega), show 2 * p / 2 = p by omega] at h4
            omega
          have hl : lgz w (p + w * (5 - h)) n (b1 (EN p)) z = true := by
            unfold lgz
            rw [hpm, Bool.and_eq_true, Bool.and_eq_true]
            refine ⟨⟨?_, ?_⟩, ?_⟩
            · rcases Bool.eq_false_or_eq_true (z.testBit 1) with u | u
              · rw [decide_eq_true (hz1 u), Bool.or_true]
              · rw [u]; rfl
            · rcases Bool.eq_false_or_eq_true (z.testBit 0) with u | u
              · rw [decide_eq_true (hz0 u), Bool.or_true]
              · rw [u]; rfl
            · rw [Bool.or_eq_true, beq_iff_eq, beq_iff_eq]; exact x
          rw [e1]
          unfold czt
          rw [if_pos hl, hpm]
          have hlim : nxN (p % w) n z < 2 ^ limW w (p + 1) := by
            rw [limW_s hw]
            refine nxN_lim (by omega) hcw hz hn64 hn (fun q => ?_)
            rcases Bool.eq_false_or_eq_true (z.testBit 1) with u | u
            · have := hz1 u; omega
            · exact u
          have ih := len_M (inn := inn) (out := out) (EN := EN) g k (p + 1) _ (by omega) hlim
          rw [show p + w * (5 - h) + 1 = p + 1 + w * (5 - h) by omega]
          exact ih
        · exact absurd (by unfold nxM; rw [if_pos y, tn_nI (by omega), if_neg x]) hne
      · exact absurd (by unfold nxM; rw [if_neg y]) hne
    rw [AL_s]
    simp only [List.length_append]
    have m0 := main 0 (by decide)
    have m1 := main 1 (by decide)
    have m2 := main 2 (by decide)
    have m3 := main 3 (by decide)
    omega
theorem len_L {w h lp : Nat} {ho ea eb : Int32} {op inn out : Int64} (g : GrB w h ho op) (hlp : lp < 2) (hec : ∀ p, p ≤ w * h → ecn (enL lp ea eb) p ≤ 2) : (AL (nxL w lp ea eb op) isWayLN (alF inn out) (w * h) 0 0).length ≤ 40000 := by
  have hw := g.1.1
  have hw5 := g.1.2
  have hsub : ∀ s, s ∈ AL (nxL w lp ea eb op) isWayLN (alF inn out) (w * h) 0 0 → s ∈ AL (nxM w (enL lp ea eb) op) (fun _ => true) (alF inn out) (w * h) 0 0 := by
    intro s hs
    have h1 := mem_AL.mp hs
    have h2 : sqX (XS s) 0 (w * h) = s := by rw [← h1.1]; exact sqX_XS (fun q c hq => (RO_lt h1.2 q c hq).1)
    have h3 := ((runL (inn := inn) (out := out) (X := XS s) g hlp hec (w * h) 0 (by omega) (fun j hj => absurd hj (Nat.not_lt_zero _))).1 0 (by decide) (LI_0 hw hw5)).mp (by rw [h2]; exact h1.2)
    have h4 := runM (EN := enL lp ea eb) (inn := inn) (out := out) (X := XS s) g (w * h) 0 0 (by omega) (DI_0 hw) h3.1
    rw [h2] at h4
    exact mem_AL.mpr ⟨h1.1, h4⟩
  refine Nat.le_trans (nodup_len (AL_nodup _ _ _ _ _ _) hsub) (Nat.le_trans (len_M (EN := enL lp ea eb) g (w * h) 0 0 (by omega) (Nat.pow_pos (by decide))) ?_)
  have hc := CB_ok hw hw5
  unfold cchk at hc
  rw [Bool.and_eq_true, Bool.and_eq_true] at hc
  have := of_decide_eq_true (List.all_eq_true.mp hc.2 (5 - h) (List.mem_range.mpr (by have := g.2.1.1; omega)))
  rw [Nat.zero_add]; exact this
