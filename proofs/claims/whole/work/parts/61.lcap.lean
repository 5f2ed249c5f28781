/-! LINES: room for the codes -/
def limW (w p : Nat) : Nat := if p % w = 0 then w else w + 1
def wlim (w p n : Nat) : Bool := (List.range 6).all (fun j => decide (limW w p ≤ j → sy n j = 0))
def SSL (w : Nat) (EN : Nat → Bool) (p : Nat) : List Int32 := ((gwd 6 0 (ecn EN p)).filter (wlim w p)).map nI ++ [4096]
theorem wlim_iff {w p n : Nat} : wlim w p n = true ↔ ∀ j, j < 6 → limW w p ≤ j → sy n j = 0 := by
  unfold wlim
  rw [List.all_eq_true]
  constructor
  · intro h j hj; exact of_decide_eq_true (h j (List.mem_range.mpr hj))
  · intro h j hj; exact decide_eq_true (h j (List.mem_range.mp hj))
theorem mem_SSL {w p : Nat} {EN : Nat → Bool} {x : Int32} : x ∈ SSL w EN p ↔ x = 4096 ∨ ∃ n, x = nI n ∧ gw 6 0 (ecn EN p) n = true ∧ ∀ j, j < 6 → limW w p ≤ j → sy n j = 0 := by
  unfold SSL
  rw [List.mem_append, List.mem_singleton, List.mem_map]
  constructor
  · rintro (⟨n, h1, h2⟩ | h)
    · rw [List.mem_filter, mem_gwd, wlim_iff] at h1
      exact Or.inr ⟨n, h2.symm, h1.1, h1.2⟩
    · exact Or.inl h
  · rintro (h | ⟨n, h1, h2, h3⟩)
    · exact Or.inr h
    · exact Or.inl ⟨n, by rw [List.mem_filter, mem_gwd, wlim_iff]; exact ⟨h2, h3⟩, h1.symm⟩
theorem lim_step {w p n n2 m2 z e : Nat} {en : Bool} (hw : 0 < w) (hw5 : w ≤ 5) (hg : gw 6 0 e n = true) (hl : ∀ j, j < 6 → limW w p ≤ j → sy n j = 0) (hW : WeR en e (p % w) (shL (p % w) n) m2) (hL : LvW (e + b1 en) (p % w) m2 z n2) (hz : p % w + 1 = w → z.testBit 1 = false) : ∀ j, j < 6 → limW w (p + 1) ≤ j → sy n2 j = 0 := by
  intro j hj hlim
  have hc := Nat.mod_lt p hw
  have hs := (sh_R (show p % w < 5 by omega) hg (fun q => hl 5 (by decide) (by unfold limW; rw [if_pos q]; exact hw5))).2.1 j hj
  rw [hL.2.1 j hj]
  have hms := mod_succ (p := p) hw
  unfold limW at hlim hl
  have far : j ≠ p % w → j ≠ p % w + 1 → w < j → sy m2 j = 0 := by
    intro h1 h2 h3
    rw [hW.2.1 j hj h1 h2, hs]
    by_cases y : p % w = 0
    · rw [if_pos y, if_neg (by omega)]; exact hl (j - 1) (by omega) (by rw [if_pos y]; omega)
    · rw [if_neg y]; exact hl j hj (by rw [if_neg y]; omega)
  by_cases q : p % w + 1 = w
  · rw [if_pos q] at hms
    rw [hms, if_pos rfl] at hlim
    rw [if_neg (by omega)]
    by_cases y : j = p % w + 1
    · rw [if_pos y]; exact hz q
    · rw [if_neg y]; exact far (by omega) y (by omega)
  · rw [if_neg q] at hms
    rw [hms, if_neg (by omega)] at hlim
    rw [if_neg (by omega), if_neg (by omega)]; exact far (by omega) (by omega) (by omega)
theorem capL {w h lp : Nat} {ho ea eb : Int32} {op : Int64} (g : GrB w h ho op) (hlp : lp < 2) (hec : ∀ p, p ≤ w * h → ecn (enL lp ea eb) p ≤ 2) : Cap (w * h) 136 (fun p => cafLK (nI lp) ea eb p (p % w)) (fun p => openChoicesF op (nI p)) 0 (SSL w (enL lp ea eb)) := by
  have hw := g.1.1
  have hw5 := g.1.2
  have hP := g.P
  refine ⟨by decide, by decide, ?_, ?_, ?_⟩
  · exact mem_SSL.mpr (Or.inr ⟨0, rfl, rfl, fun j _ _ => by unfold sy; rw [Nat.zero_div]⟩)
  · intro p hp
    unfold SSL
    rw [List.length_append, List.length_map]
    have h1 : ((gwd 6 0 (ecn (enL lp ea eb) p)).filter (wlim w p)).length ≤ (gwd 6 0 (ecn (enL lp ea eb) p)).length := List.length_filter_le _ _
    have h2 : (gwd 6 0 (ecn (enL lp ea eb) p)).length ≤ 135 := by
      have := hec p hp
      have hl := gwd_len
      rcases (by omega : ecn (enL lp ea eb) p = 0 ∨ ecn (enL lp ea eb) p = 1 ∨ ecn (enL lp ea eb) p = 2) with z | z | z <;> rw [z]
      · exact hl.1
      · exact hl.2.1
      · exact hl.2.2
    have : ([4096] : List Int32).length = 1 := rfl
    omega
  · intro p hp x hx z hz hne
    have hc := Nat.mod_lt p hw
    by_cases y : nI z &&& (openChoicesF op (nI p) ^^^ -1) = 0
    · have e1 : nxL w lp ea eb op p x z = cafLK (nI lp) ea eb p (p % w) x (nI z) := if_pos y
      change nxL w lp ea eb op p x z ≠ -1 at hne
      change nxL w lp ea eb op p x z ∈ SSL w (enL lp ea eb) (p + 1)
      rw [e1] at hne ⊢
      rcases mem_SSL.mp hx with h4 | ⟨n, rfl, hg, hl⟩
      · have e2 : cafLK (nI lp) ea eb p (p % w) x (nI z) = if nI z = 0 then 4096 else -1 := if_pos h4
        rw [e2] at hne ⊢
        by_cases u : nI z = 0
        · rw [if_pos u]; exact mem_SSL.mpr (Or.inl rfl)
        · rw [if_neg u] at hne; exact absurd rfl hne
      · have hec3 : ecn (enL lp ea eb) p + b1 (enL lp ea eb p) < 3 := Nat.lt_succ_of_le (hec (p + 1) (by omega))
        have hcl := cafL_w (z := z) (en0 := isEndF ea eb (nI p)) hlp (show p % w < 5 by omega) hz hg (fun q => hl 5 (by decide) (by unfold limW; rw [if_pos q]; exact hw5)) hec3
        have hz1 : p % w + 1 = w → z.testBit 1 = false := by
          intro q
          rcases Bool.eq_false_or_eq_true (z.testBit 1) with u | u
          · exfalso
            have h2 := ((opn_ok (by omega) hz).mp y).2 u
            have h3 := (g.opP (by omega) h2).2.2 (by omega)
            rw [show (2 * p + 1) / 2 = p by omega] at h3
            omega
          · exact u
        by_cases hA : enL lp ea eb p = true ∧ sy (shL (p % w) n) (p % w) ≠ 0 ∧ sy (shL (p % w) n) (p % w + 1) ≠ 0
        · exact absurd (hcl.1 hA) hne
        · have hB : enL lp ea eb p = true → sy (shL (p % w) n) (p % w) = 0 ∨ sy (shL (p % w) n) (p % w + 1) = 0 := by
            intro h1
            rcases Nat.eq_zero_or_pos (sy (shL (p % w) n) (p % w)) with y | y
            · exact Or.inl y
            · rcases Nat.eq_zero_or_pos (sy (shL (p % w) n) (p % w + 1)) with x | x
              · exact Or.inr x
              · exact absurd ⟨h1, by omega, by omega⟩ hA
          obtain ⟨hcf, hW⟩ := hcl.2 hB
          change WeR (enL lp ea eb p) (ecn (enL lp ea eb) p) (p % w) (shL (p % w) n) (weN (enL lp ea eb p) (p % w) (shL (p % w) n)) at hW
          change cafLK (nI lp) ea eb p (p % w) (nI n) (nI z) = lnR lp (p % w) (weN (enL lp ea eb p) (p % w) (shL (p % w) n)) z at hcf
          generalize weN (enL lp ea eb p) (p % w) (shL (p % w) n) = m2 at hcf hW
          rw [hcf] at hne ⊢
          by_cases hd : dg2 m2 (p % w) z = 0 ∨ dg2 m2 (p % w) z = 2
          · by_cases hcz : z = 0 ∧ clo m2 (p % w)
            · have hlc := (lnR_clo hlp (show p % w < 5 by omega) hec3 hW.1 hcz.2).1
              rw [hcz.1, hlc] at hne ⊢
              by_cases u : rstN m2 (p % w) = 0 ∧ (sy m2 (p % w) = 1 ↔ lp = 1)
              · rw [if_pos u]; exact mem_SSL.mpr (Or.inl rfl)
              · rw [if_neg u] at hne; exact absurd rfl hne
            · obtain ⟨n2, h1, h2⟩ := lnR_live (lp := lp) (z := z) hlp (show p % w < 5 by omega) hz hec3 hW.1 hd (fun q y => hcz ⟨q, y⟩)
              rw [h1]
              exact mem_SSL.mpr (Or.inr ⟨n2, rfl, h2.1, lim_step hw hw5 hg hl hW h2 hz1⟩)
          · exact absurd (lnR_dead (fun q => hd (Or.inl q)) (fun q => hd (Or.inr q))) hne
    · exact absurd (show nxL w lp ea eb op p x z = -1 from if_neg y) hne
