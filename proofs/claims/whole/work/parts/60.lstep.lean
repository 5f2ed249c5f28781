/-! LINES: a step of the table and the runs -/
theorem ecn_ex {EN : Nat → Bool} {p : Nat} : ∀ {P : Nat}, ecn EN p < ecn EN P → ∃ q, p ≤ q ∧ q < P ∧ EN q = true
  | 0, h => absurd h (Nat.not_lt_zero _)
  | P + 1, h => by
    by_cases z : EN P = true
    · by_cases y : p ≤ P
      · exact ⟨P, y, Nat.lt_succ_self P, z⟩
      · exfalso
        have : ∀ a b, ecn EN a ≤ ecn EN (a + b) := by
          intro a b
          induction b with
          | zero => exact Nat.le_refl _
          | succ b ih => exact Nat.le_trans ih (Nat.le_add_right _ _)
        have := this (P + 1) (p - (P + 1))
        rw [show P + 1 + (p - (P + 1)) = p by omega] at this
        omega
    · have : ecn EN (P + 1) = ecn EN P := by
        show ecn EN P + (if EN P = true then 1 else 0) = _
        rw [if_neg z]; omega
      rw [this] at h
      obtain ⟨q, h1, h2, h3⟩ := ecn_ex h
      exact ⟨q, h1, by omega, h3⟩
theorem ecn_0 {EN : Nat → Bool} (h : ∀ q, EN q = false) : ∀ p, ecn EN p = 0
  | 0 => rfl
  | p + 1 => by
    show ecn EN p + (if EN p = true then 1 else 0) = 0
    rw [ecn_0 h p, h p]; rfl
def enL (lp : Nat) (ea eb : Int32) (p : Nat) : Bool := decide (lp = 0) && isEndF ea eb (nI p)
theorem stepL {w P lp p n : Nat} {X : Nat → Bool} {ea eb : Int32} (hw : 0 < w) (hw5 : w ≤ 5) (hlp : lp < 2) (hp : p < P) (hec : ecn (enL lp ea eb) (p + 1) ≤ 2) (hr : p % w + 1 = w → X (2 * p + 1) = false) (hcol : ∀ s, s / 2 < p → X s = true → s % 2 = 1 → s / 2 % w + 1 < w) (hI : LI w X (enL lp ea eb) p n) :
    (cafLK (nI lp) ea eb p (p % w) (nI n) (nI (b2 (X (2 * p)) (X (2 * p + 1)))) = -1 ∧ (dueL w X (enL lp ea eb) p → (∀ q, p < q → q < P → dueL w X (enL lp ea eb) q) → VaX w P X → GoodC w P lp X (enL lp ea eb) → False)) ∨
    (cafLK (nI lp) ea eb p (p % w) (nI n) (nI (b2 (X (2 * p)) (X (2 * p + 1)))) = 4096 ∧ LD w lp X (enL lp ea eb) (p + 1) ∧ dueL w X (enL lp ea eb) p) ∨
    (∃ n2, cafLK (nI lp) ea eb p (p % w) (nI n) (nI (b2 (X (2 * p)) (X (2 * p + 1)))) = nI n2 ∧ n2 < 4096 ∧ LI w X (enL lp ea eb) (p + 1) n2 ∧ dueL w X (enL lp ea eb) p) := by
  have hc := Nat.mod_lt p hw
  have hz := b2_lt (X (2 * p)) (X (2 * p + 1))
  have hec3 : ecn (enL lp ea eb) p + b1 (enL lp ea eb p) < 3 := Nat.lt_succ_of_le hec
  have hF := LI_LF hw hw5 hI
  have hcl := cafL_w (en0 := isEndF ea eb (nI p)) hlp (show p % w < 5 by omega) hz hI.1 (LI_5 hw5 hI) hec3
  have hb1 := lf_b1 hw hw5 hF
  by_cases hA : enL lp ea eb p = true ∧ sy (shL (p % w) n) (p % w) ≠ 0 ∧ sy (shL (p % w) n) (p % w + 1) ≠ 0
  · left
    refine ⟨hcl.1 hA, fun hd _ _ _ => ?_⟩
    rw [nz_ne hA.2.1, nz_ne hA.2.2] at hb1
    unfold dueL at hd
    rw [degX_fs, ← hb1.1, ← hb1.2, hA.1] at hd
    unfold b1 at hd
    rw [if_pos rfl] at hd
    omega
  · have hB : enL lp ea eb p = true → sy (shL (p % w) n) (p % w) = 0 ∨ sy (shL (p % w) n) (p % w + 1) = 0 := by
      intro h1
      rcases Nat.eq_zero_or_pos (sy (shL (p % w) n) (p % w)) with y | y
      · exact Or.inl y
      · rcases Nat.eq_zero_or_pos (sy (shL (p % w) n) (p % w + 1)) with x | x
        · exact Or.inr x
        · exact absurd ⟨h1, by omega, by omega⟩ hA
    obtain ⟨hcf, hW⟩ := hcl.2 hB
    change WeR (enL lp ea eb p) (ecn (enL lp ea eb) p) (p % w) (shL (p % w) n) (weN (enL lp ea eb p) (p % w) (shL (p % w) n)) at hW
    change cafLK (nI lp) ea eb p (p % w) (nI n) (nI (b2 (X (2 * p)) (X (2 * p + 1)))) = lnR lp (p % w) (weN (enL lp ea eb p) (p % w) (shL (p % w) n)) (b2 (X (2 * p)) (X (2 * p + 1))) at hcf
    generalize weN (enL lp ea eb p) (p % w) (shL (p % w) n) = m2 at hcf hW
    rw [hcf]
    have hdeg := dg2_deg hw hw5 hF hW
    by_cases hd : dueL w X (enL lp ea eb) p
    · have hd2 := hd
      unfold dueL at hd2
      rw [← hdeg] at hd2
      by_cases hcz : b2 (X (2 * p)) (X (2 * p + 1)) = 0 ∧ clo m2 (p % w)
      · have hz0 : X (2 * p) = false := by rw [← b2_t0 (X (2 * p)) (X (2 * p + 1)), hcz.1]; rfl
        have hz1 : X (2 * p + 1) = false := by rw [← b2_t1 (X (2 * p)) (X (2 * p + 1)), hcz.1]; rfl
        have hlc := lnR_clo hlp (show p % w < 5 by omega) hec3 hW.1 hcz.2
        have hm2 : m2 < 4096 := gw_lt hW.1
        have hnzs : sy m2 (p % w) ≠ 0 ∧ sy m2 (p % w + 1) ≠ 0 := by rcases hcz.2 with q | q <;> omega
        have hdp : 0 < degX w X p := by
          have h2 : dg2 m2 (p % w) 0 = 2 := by unfold dg2; rw [nz_ne hnzs.1, nz_ne hnzs.2]; rfl
          rw [hcz.1] at hdeg
          have : b1 (enL lp ea eb p) ≤ 1 := by unfold b1; cases enL lp ea eb p <;> decide
          omega
        rw [hcz.1, hlc.1]
        by_cases hok : rstN m2 (p % w) = 0 ∧ (sy m2 (p % w) = 1 ↔ lp = 1)
        · right; left
          rw [if_pos hok]
          exact ⟨rfl, LF_close hw hw5 hec3 hcol hF hW hz0 hz1 hcz.2 hok.1 hok.2 hdp, hd⟩
        · left
          rw [if_neg hok]
          refine ⟨rfl, fun _ hdq hV hG => ?_⟩
          by_cases hrs : rstN m2 (p % w) = 0
          · have hmis : ¬(sy m2 (p % w) = 1 ↔ lp = 1) := fun q => hok ⟨hrs, q⟩
            have hrs' := (rst_sy hm2 (by omega)).mp hrs
            rcases hcz.2 with q | q
            · have hl0 : lp = 0 := by
                rcases (by omega : lp = 0 ∨ lp = 1) with y | y
                · exact y
                · exact absurd ⟨fun _ => y, fun _ => q.1⟩ hmis
              have hg := hW.1
              rw [(clo_m hm2 (by omega) hrs).2 q.1 q.2] at hg
              have he0 : ecn (enL lp ea eb) (p + 1) = 0 := (clo_e (p % w) (by omega) _ hec3).2 hg
              obtain ⟨r, r1, r2, r3⟩ := ecn_ex (EN := enL lp ea eb) (p := p + 1) (P := P) (by rw [he0, hG.1 hl0]; decide)
              have hdr := hdq r (by omega) r2
              unfold dueL at hdr
              rw [r3] at hdr
              unfold b1 at hdr
              rw [if_pos rfl] at hdr
              have hst : ∀ j, j < 6 → stX w X (p + 1) j = false := by
                intro j hj
                rw [stX_step hw hw5 hr (by omega)]
                by_cases z : j = p % w
                · rw [if_pos z]; exact hz0
                · rw [if_neg z]
                  by_cases y : j = p % w + 1
                  · rw [if_pos y]; exact hz1
                  · rw [if_neg y]
                    have h0 := hrs' j hj z y
                    rw [hW.2.1 j hj z y] at h0
                    rcases Bool.eq_false_or_eq_true (FS w X p j) with x | x
                    · exact absurd h0 ((hF.2.1 j hj).mpr x)
                    · exact x
              exact apart (p := p + 1) hw hw5 hV (st_FS hw hw5 hst) (show p < p + 1 by omega) r1 hp r2 hdp (by omega) hG
            · have hl1 : lp = 1 := by
                rcases (by omega : lp = 0 ∨ lp = 1) with y | y
                · exact absurd ⟨fun x => by omega, fun x => by omega⟩ hmis
                · exact y
              have hg := hW.1
              rw [(clo_m hm2 (by omega) hrs).1 q.1 q.2] at hg
              have he0 : ecn (enL lp ea eb) (p + 1) = 2 := (clo_e (p % w) (by omega) _ hec3).1 hg
              rw [ecn_0 (fun q => by unfold enL; rw [hl1]; rfl)] at he0
              exact absurd he0 (by decide)
          · exact LF_clash hw hw5 hp hV hF hW hz0 hz1 hlc.2 hrs hdp hG
      · right; right
        obtain ⟨n2, h1, h2⟩ := lnR_live (lp := lp) (z := b2 (X (2 * p)) (X (2 * p + 1))) hlp (show p % w < 5 by omega) hz hec3 hW.1 hd2 (fun q y => hcz ⟨q, y⟩)
        exact ⟨n2, h1, gw_lt h2.1, LF_live hw hw5 hr hcol hF hW hd2 h2, hd⟩
    · left
      refine ⟨?_, fun q => absurd q hd⟩
      unfold dueL at hd
      rw [← hdeg] at hd
      exact lnR_dead (fun q => hd (Or.inl q)) (fun q => hd (Or.inr q))
theorem stepLD {w P lp p : Nat} {X EN : Nat → Bool} (hw : 0 < w) (hw5 : w ≤ 5) (hp : p < P) (hlp : lp = 0 ∨ ∀ q, EN q = false) (hec : ecn EN (p + 1) ≤ 2) (hr : p % w + 1 = w → X (2 * p + 1) = false) (hcol : ∀ s, s / 2 < p → X s = true → s % 2 = 1 → s / 2 % w + 1 < w) (hD : LD w lp X EN p) :
    (b2 (X (2 * p)) (X (2 * p + 1)) = 0 → LD w lp X EN (p + 1) ∧ dueL w X EN p) ∧ (b2 (X (2 * p)) (X (2 * p + 1)) ≠ 0 → VaX w P X → GoodC w P lp X EN → False) := by
  have hc := Nat.mod_lt p hw
  have hFS := st_FS hw hw5 hD.1
  have hl : lfX w X p = false := by rw [← FS_c hw]; exact hFS _ (by omega)
  have hu : upX w X p = false := by rw [← FS_c1 hw]; exact hFS _ (by omega)
  constructor
  · intro h0
    have hz0 : X (2 * p) = false := by rw [← b2_t0 (X (2 * p)) (X (2 * p + 1)), h0]; rfl
    have hz1 : X (2 * p + 1) = false := by rw [← b2_t1 (X (2 * p)) (X (2 * p + 1)), h0]; rfl
    have hdp : degX w X p = 0 := by rw [degX_fs, hl, hu, h0]; rfl
    have hen : EN p = false := by
      rcases hlp with y | y
      · have h2 := hD.2.2.2 y
        rcases Bool.eq_false_or_eq_true (EN p) with x | x
        · exfalso
          have : ecn EN (p + 1) = ecn EN p + (if EN p = true then 1 else 0) := rfl
          rw [x, if_pos rfl] at this
          omega
        · exact x
      · exact y p
    refine ⟨⟨fun j hj => ?_, ?_, fun U hU q q' h1 h2 h3 h4 => ?_, fun y => ?_⟩, Or.inl (by rw [hdp, hen]; rfl)⟩
    · rw [stX_step hw hw5 hr (by omega)]
      by_cases z : j = p % w
      · rw [if_pos z]; exact hz0
      · rw [if_neg z]
        by_cases y : j = p % w + 1
        · rw [if_pos y]; exact hz1
        · rw [if_neg y]
          by_cases x : j ≤ w
          · exact hFS j x
          · unfold FS; rw [decide_eq_false x]; rfl
    · obtain ⟨q, h1, h2⟩ := hD.2.1
      exact ⟨q, by omega, h2⟩
    · have hq : q ≠ p := fun z => by rw [z, hdp] at h3; omega
      have hq' : q' ≠ p := fun z => by rw [z, hdp] at h4; omega
      exact hD.2.2.1 U ((Con_step hw hcol).mp hU).1 q q' (by omega) (by omega) h3 h4
    · show ecn EN p + (if EN p = true then 1 else 0) = 2
      rw [hen, hD.2.2.2 y]; rfl
  · intro h0 hV hG
    have hdp : 0 < degX w X p := by
      rw [degX_fs, bs2_b2]
      rcases Bool.eq_false_or_eq_true (X (2 * p)) with y | y
      · rw [y, if_pos rfl]; omega
      · rcases Bool.eq_false_or_eq_true (X (2 * p + 1)) with x | x
        · rw [x, if_pos (show true = true from rfl)]; omega
        · rw [y, x] at h0; exact absurd rfl h0
    obtain ⟨q, h1, h2⟩ := hD.2.1
    exact apart hw hw5 hV hFS h1 (Nat.le_refl p) (by omega) hp h2 hdp hG
abbrev nxL (w lp : Nat) (ea eb : Int32) (op : Int64) : Nat → Int32 → Nat → Int32 := nxA (fun p => cafLK (nI lp) ea eb p (p % w)) (fun p => openChoicesF op (nI p))
theorem runL {w h lp : Nat} {ho ea eb : Int32} {op inn out : Int64} {X : Nat → Bool} (g : GrB w h ho op) (hlp : lp < 2) (hec : ∀ p, p ≤ w * h → ecn (enL lp ea eb) p ≤ 2) : ∀ (k p : Nat), p + k = w * h → (∀ j, j / 2 < p → X j = true → gB op j = true) →
    (∀ n, n < 4096 → LI w X (enL lp ea eb) p n → (RO (nxL w lp ea eb op) isWayLN (alF inn out) (sqX X p k) p (nI n) ↔ (∀ q, p ≤ q → q < w * h → okX op inn out X q ∧ dueL w X (enL lp ea eb) q) ∧ GoodC w (w * h) lp X (enL lp ea eb))) ∧
    (LD w lp X (enL lp ea eb) p → (RO (nxL w lp ea eb op) isWayLN (alF inn out) (sqX X p k) p 4096 ↔ (∀ q, p ≤ q → q < w * h → okX op inn out X q ∧ dueL w X (enL lp ea eb) q) ∧ GoodC w (w * h) lp X (enL lp ea eb)))
  | 0, p, hk, hX => by
    have hw := g.1.1
    have hw5 := g.1.2
    have hP := g.P
    have hpe : p = w * h := by omega
    subst hpe
    constructor
    · intro n hn hI
      constructor
      · intro hr
        exfalso
        have : nI n = 4096 := of_decide_eq_true hr
        have := (nI_eq (show n < 2 ^ 31 by omega) (show 4096 < 2 ^ 31 by decide)).mp this
        omega
      · rintro ⟨_, hG⟩
        exfalso
        obtain ⟨q, h1, h2⟩ := hG.2.1
        have := hI.2.2.2 (fun _ => true) (fun _ _ _ _ => rfl) (fun j hj y => by
          exfalso
          rw [stX_FS, if_pos (Nat.mul_mod_right w h)] at y
          unfold FS at y
          rw [Bool.and_eq_true, fsX_gt (by rw [Nat.mul_mod_right]; omega), Bool.and_eq_true, decide_eq_true_iff, decide_eq_true_iff, Nat.mul_mod_right] at y
          have h3 := hX _ (by omega) y.2.2
          have h4 := (g.opP (by omega) h3).2.1
          have h5 := plB_lt h4
          unfold enS at h5
          dsimp only at h5
          rw [if_neg (by omega)] at h5
          omega) q h1 h2
        exact absurd this (by decide)
    · intro hD
      constructor
      · intro _
        refine ⟨fun q h1 h2 => by omega, hD.2.2.2, hD.2.1, fun U hU => hD.2.2.1 U (fun s h1 h2 h3 => hU s h2 h1)⟩
      · intro _; rfl
  | k + 1, p, hk, hX => by
    have hw := g.1.1
    have hw5 := g.1.2
    have hP := g.P
    have hp : p < w * h := by omega
    have hz := b2_lt (X (2 * p)) (X (2 * p + 1))
    have hok := okX_iff (op := op) (inn := inn) (out := out) (X := X) (q := p) (by omega)
    have hclose : (nI (b2 (X (2 * p)) (X (2 * p + 1))) &&& (openChoicesF op (nI p) ^^^ -1) = 0) → ∀ j, j / 2 = p → X j = true → gB op j = true := by
      intro h1 j hj hx
      have h2 := (opn_ok (by omega) hz).mp h1
      rw [b2_t0, b2_t1] at h2
      rcases (show j = 2 * p ∨ j = 2 * p + 1 by omega) with z | z
      · rw [z] at hx ⊢; exact h2.1 hx
      · rw [z] at hx ⊢; exact h2.2 hx
    have hright : (nI (b2 (X (2 * p)) (X (2 * p + 1))) &&& (openChoicesF op (nI p) ^^^ -1) = 0) → p % w + 1 = w → X (2 * p + 1) = false := by
      intro h1 h2
      cases hx : X (2 * p + 1) with
      | false => rfl
      | true =>
        exfalso
        have h3 := (g.opP (by omega) (hclose h1 (2 * p + 1) (by omega) hx)).2.2 (by omega)
        rw [show (2 * p + 1) / 2 = p by omega] at h3
        omega
    have hcol : ∀ s, s / 2 < p → X s = true → s % 2 = 1 → s / 2 % w + 1 < w := fun s hs hx => (g.opP (by omega) (hX s hs hx)).2.2
    have hX2 : (nI (b2 (X (2 * p)) (X (2 * p + 1))) &&& (openChoicesF op (nI p) ^^^ -1) = 0) → ∀ j, j / 2 < p + 1 → X j = true → gB op j = true := by
      intro y j hj hx
      rcases Nat.lt_or_ge (j / 2) p with u | u
      · exact hX j u hx
      · exact hclose y j (by omega) hx
    have hVa : (∀ q, p ≤ q → q < w * h → okX op inn out X q ∧ dueL w X (enL lp ea eb) q) → VaX w (w * h) X := by
      intro hall s hs hx
      have ho : gB op s = true := by
        rcases Nat.lt_or_ge (s / 2) p with u | u
        · exact hX s u hx
        · exact ((hall (s / 2) u hs).1.1 s rfl hx).1
      have := g.opP (by omega) ho
      exact ⟨this.2.2, plB_lt this.2.1⟩
    have comb : ∀ (Q : Prop), (okX op inn out X p ∧ dueL w X (enL lp ea eb) p) → (((∀ q, p + 1 ≤ q → q < w * h → okX op inn out X q ∧ dueL w X (enL lp ea eb) q) ∧ Q) ↔ ((∀ q, p ≤ q → q < w * h → okX op inn out X q ∧ dueL w X (enL lp ea eb) q) ∧ Q)) := by
      intro Q h0
      refine and_congr_left (fun _ => ⟨fun H q h1 h2 => ?_, fun H q h1 h2 => H q (by omega) h2⟩)
      by_cases z : q = p
      · rw [z]; exact h0
      · exact H q (by omega) h2
    constructor
    · intro n hn hI
      show ((b2 _ _) < 4 ∧ alF inn out p (b2 (X (2 * p)) (X (2 * p + 1))) = true ∧ nxL w lp ea eb op p (nI n) (b2 (X (2 * p)) (X (2 * p + 1))) ≠ -1 ∧ RO _ _ _ (sqX X (p + 1) k) (p + 1) (nxL w lp ea eb op p (nI n) (b2 (X (2 * p)) (X (2 * p + 1))))) ↔ _
      by_cases y : nI (b2 (X (2 * p)) (X (2 * p + 1))) &&& (openChoicesF op (nI p) ^^^ -1) = 0
      · have e1 : nxL w lp ea eb op p (nI n) (b2 (X (2 * p)) (X (2 * p + 1))) = cafLK (nI lp) ea eb p (p % w) (nI n) (nI (b2 (X (2 * p)) (X (2 * p + 1)))) := if_pos y
        rw [e1]
        have ih := runL (inn := inn) (out := out) (X := X) g hlp hec k (p + 1) (by omega) (hX2 y)
        rcases stepL (P := w * h) hw hw5 hlp hp (hec (p + 1) (by omega)) (hright y) hcol hI with ⟨h1, h2⟩ | ⟨h1, h2, h3⟩ | ⟨n2, h1, h2, h3, h4⟩
        · rw [h1]
          constructor
          · rintro ⟨_, _, q, _⟩; exact absurd rfl q
          · rintro ⟨q1, q2⟩
            exact (h2 (q1 p (Nat.le_refl _) hp).2 (fun q a b => (q1 q (by omega) b).2) (hVa q1) q2).elim
        · rw [h1, ih.2 h2]
          constructor
          · rintro ⟨_, a, _, b⟩
            exact (comb _ ⟨hok.mpr ⟨y, a⟩, h3⟩).mp b
          · intro b
            have b0 := b.1 p (Nat.le_refl _) hp
            exact ⟨hz, (hok.mp b0.1).2, by decide, (comb _ b0).mpr b⟩
        · rw [h1, ih.1 n2 h2 h3]
          constructor
          · rintro ⟨_, a, _, b⟩
            exact (comb _ ⟨hok.mpr ⟨y, a⟩, h4⟩).mp b
          · intro b
            have b0 := b.1 p (Nat.le_refl _) hp
            exact ⟨hz, (hok.mp b0.1).2, nI_n1 (by omega), (comb _ b0).mpr b⟩
      · have e1 : nxL w lp ea eb op p (nI n) (b2 (X (2 * p)) (X (2 * p + 1))) = -1 := if_neg y
        rw [e1]
        constructor
        · rintro ⟨_, _, q, _⟩; exact absurd rfl q
        · rintro ⟨q1, _⟩; exact absurd (hok.mp (q1 p (Nat.le_refl _) hp).1).1 y
    · intro hD
      show ((b2 _ _) < 4 ∧ alF inn out p (b2 (X (2 * p)) (X (2 * p + 1))) = true ∧ nxL w lp ea eb op p 4096 (b2 (X (2 * p)) (X (2 * p + 1))) ≠ -1 ∧ RO _ _ _ (sqX X (p + 1) k) (p + 1) (nxL w lp ea eb op p 4096 (b2 (X (2 * p)) (X (2 * p + 1))))) ↔ _
      by_cases y : nI (b2 (X (2 * p)) (X (2 * p + 1))) &&& (openChoicesF op (nI p) ^^^ -1) = 0
      · have e1 : nxL w lp ea eb op p 4096 (b2 (X (2 * p)) (X (2 * p + 1))) = if nI (b2 (X (2 * p)) (X (2 * p + 1))) = 0 then 4096 else -1 := if_pos y
        rw [e1]
        have ih := runL (inn := inn) (out := out) (X := X) g hlp hec k (p + 1) (by omega) (hX2 y)
        have hs := stepLD (P := w * h) hw hw5 hp (show lp = 0 ∨ ∀ q, enL lp ea eb q = false by
          rcases (by omega : lp = 0 ∨ lp = 1) with u | u
          · exact Or.inl u
          · exact Or.inr (fun q => by unfold enL; rw [u]; rfl)) (hec (p + 1) (by omega)) (hright y) hcol hD
        by_cases z : b2 (X (2 * p)) (X (2 * p + 1)) = 0
        · rw [if_pos (show nI (b2 (X (2 * p)) (X (2 * p + 1))) = 0 by rw [z]; rfl), ih.2 (hs.1 z).1]
          constructor
          · rintro ⟨_, a, _, b⟩
            exact (comb _ ⟨hok.mpr ⟨y, a⟩, (hs.1 z).2⟩).mp b
          · intro b
            have b0 := b.1 p (Nat.le_refl _) hp
            exact ⟨hz, (hok.mp b0.1).2, by decide, (comb _ b0).mpr b⟩
        · rw [if_neg (show ¬nI (b2 (X (2 * p)) (X (2 * p + 1))) = 0 from fun q => z ((nI_eq (show b2 (X (2 * p)) (X (2 * p + 1)) < 2 ^ 31 by omega) (show 0 < 2 ^ 31 by decide)).mp q))]
          constructor
          · rintro ⟨_, _, q, _⟩; exact absurd rfl q
          · rintro ⟨q1, q2⟩; exact (hs.2 z (hVa q1) q2).elim
      · have e1 : nxL w lp ea eb op p 4096 (b2 (X (2 * p)) (X (2 * p + 1))) = -1 := if_neg y
        rw [e1]
        constructor
        · rintro ⟨_, _, q, _⟩; exact absurd rfl q
        · rintro ⟨q1, _⟩; exact absurd (hok.mp (q1 p (Nat.le_refl _) hp).1).1 y
