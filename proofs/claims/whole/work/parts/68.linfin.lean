/-! LINES: the whole of the kinds PATH and LOOP -/
abbrev elG (w P : Nat) (op gone : Int64) : List (Nat × Nat) := (SL (efB op gone) P).map (enS w)
theorem el_at {w P : Nat} {op gone : Int64} {i a b : Nat} (h : (elG w P op gone)[i]? = some (a, b)) : ∃ s, (SL (efB op gone) P)[i]? = some s ∧ s / 2 = a ∧ (enS w s).2 = b := by
  rw [List.getElem?_map] at h
  obtain ⟨s, hs, e⟩ := Option.map_eq_some_iff.mp h
  exact ⟨s, hs, congrArg Prod.fst e, congrArg Prod.snd e⟩
theorem GrB.E25 {w h : Nat} {ho : Int32} {op gone : Int64} (g : GrB w h ho op) : El25 (elG w (w * h) op gone) := by
  have hP := g.P
  refine ⟨fun i a b q => ?_, by rw [List.length_map]; exact g.len, fun i a b q => ?_⟩
  · obtain ⟨s, _, h1, h2⟩ := el_at q
    have := far_gt (s := s) g.1.1
    omega
  · rcases q with q | q
    · have := plB_lt (g.elp q).1; omega
    · have := plB_lt (g.elp q).2; omega
theorem GrB.ED {w h : Nat} {ho : Int32} {op gone : Int64} (g : GrB w h ho op) : ElD (elG w (w * h) op gone) := by
  have key : ∀ i j a b : Nat, (elG w (w * h) op gone)[i]? = some (a, b) → (elG w (w * h) op gone)[j]? = some (a, b) → i = j := by
    intro i j a b h1 h2
    obtain ⟨s, hs, s1, s2⟩ := el_at h1
    obtain ⟨t, ht, t1, t2⟩ := el_at h2
    have hms := mem_SL.mp (List.mem_of_getElem? hs)
    have hmt := mem_SL.mp (List.mem_of_getElem? ht)
    have fs := (g.ef hms.1 hms.2).2.2
    have ft := (g.ef hmt.1 hmt.2).2.2
    unfold enS at s2 t2
    dsimp only at s2 t2
    have hst : s = t := by
      by_cases z : s % 2 = 1
      · rw [if_pos z] at s2
        by_cases y : t % 2 = 1
        · omega
        · rw [if_neg y] at t2
          have := fs z
          have hw1 : w = 1 := by omega
          rw [hw1] at this; omega
      · rw [if_neg z] at s2
        by_cases y : t % 2 = 1
        · rw [if_pos y] at t2
          have := ft y
          have hw1 : w = 1 := by omega
          rw [hw1] at this; omega
        · omega
    subst hst
    exact SL_inj hs ht
  have flip : ∀ i j a b : Nat, (elG w (w * h) op gone)[i]? = some (a, b) → (elG w (w * h) op gone)[j]? = some (b, a) → False := by
    intro i j a b h1 h2
    obtain ⟨s, _, s1, s2⟩ := el_at h1
    obtain ⟨t, _, t1, t2⟩ := el_at h2
    have := far_gt (s := s) g.1.1
    have := far_gt (s := t) g.1.1
    omega
  intro i j a b h1 h2
  rcases h1 with h1 | h1 <;> rcases h2 with h2 | h2
  · exact key i j a b h1 h2
  · exact (flip i j a b h1 h2).elim
  · exact (flip j i a b h2 h1).elim
  · exact key i j b a h1 h2
theorem GrB.colf {w h : Nat} {ho : Int32} {op gone : Int64} (g : GrB w h ho op) : ∀ s, efB op gone s = true → s % 2 = 1 → s / 2 % w + 1 < w := by
  intro s q y
  unfold efB at q
  rw [Bool.and_eq_true] at q
  exact (g.opP (gB_lt q.1) q.1).2.2 y
theorem GrB.dYX {w h : Nat} {ho : Int32} {op gone S : Int64} (g : GrB w h ho op) (v : Nat) : dY (elG w (w * h) op gone) (gB S) v = degX w (xOf (SL (efB op gone) (w * h)) S) v := dgS_degX (P := w * h) (S := S) (p := v) g.1.1 g.colf
theorem GrB.CYX {w h : Nat} {ho : Int32} {op gone S : Int64} {U : Nat → Bool} (_ : GrB w h ho op) : CY (elG w (w * h) op gone) (gB S) U ↔ ∀ s, s / 2 < w * h → xOf (SL (efB op gone) (w * h)) S s = true → U (s / 2) = U (enS w s).2 := by
  constructor
  · intro H s _ hx
    obtain ⟨e, he, hg⟩ := xOf_iff.mp hx
    refine H e _ _ hg (Or.inl ?_)
    rw [List.getElem?_map, he]; rfl
  · intro H i p q hi hJ
    rcases hJ with hJ | hJ
    · obtain ⟨s, hs, s1, s2⟩ := el_at hJ
      have := H s (mem_SL.mp (List.mem_of_getElem? hs)).1 (by rw [xOf_at hs]; exact hi)
      rw [s1, s2] at this; exact this
    · obtain ⟨s, hs, s1, s2⟩ := el_at hJ
      have := H s (mem_SL.mp (List.mem_of_getElem? hs)).1 (by rw [xOf_at hs]; exact hi)
      rw [s1, s2] at this; exact this.symm
theorem GrB.dYP {w h : Nat} {ho : Int32} {op gone S : Int64} (g : GrB w h ho op) {v : Nat} (hv : 0 < dY (elG w (w * h) op gone) (gB S) v) : plB (w * h) ho v = true := by
  obtain ⟨i, q, _, hJ⟩ := dY_pos.mp hv
  rcases hJ with hJ | hJ
  · exact (g.elp hJ).1
  · exact (g.elp hJ).2
theorem hi_iff {w P : Nat} {op gone S : Int64} : hiS (elG w P op gone) S ↔ ∀ i, (SL (efB op gone) P).length ≤ i → i < 64 → gB S i = false := by
  unfold hiS
  rw [List.length_map]
  constructor
  · exact fun H i h1 _ => H i h1
  · intro H i h1
    rcases Nat.lt_or_ge i 64 with y | y
    · exact H i h1 y
    · exact gB_hi y
def GoodL (w P lp : Nat) (EN X : Nat → Bool) : Prop := (∀ q, q < P → dueL w X EN q) ∧ GoodC w P lp X EN
theorem runL_A {w h lp : Nat} {ho ea eb : Int32} {op : Int64} (g : GrB w h ho op) (hlp : lp < 2) (hec : ∀ p, p ≤ w * h → ecn (enL lp ea eb) p ≤ 2) (tin out : Int64) (X : Nat → Bool) : RO (nxL w lp ea eb op) isWayLN (alF tin out) (sqX X 0 (w * h)) 0 0 ↔ (∀ q, q < w * h → okX op tin out X q) ∧ GoodL w (w * h) lp (enL lp ea eb) X := by
  have := (runL (inn := tin) (out := out) (X := X) g hlp hec (w * h) 0 (by omega) (fun j hj => absurd hj (Nat.not_lt_zero _))).1 0 (by decide) (LI_0 g.1.1 g.1.2)
  refine Iff.trans this ?_
  constructor
  · exact fun H => ⟨fun q hq => (H.1 q (Nat.zero_le _) hq).1, fun q hq => (H.1 q (Nat.zero_le _) hq).2, H.2⟩
  · exact fun H => ⟨fun q _ hq => ⟨H.1 q hq, H.2.1 q hq⟩, H.2.2⟩
/-- from what the reference's sets are to count, way and bound -/
theorem lin_fin {w h lp : Nat} {ho ea eb : Int32} {op gone tin tout : Int64} {fto : Nat → Int32} {T : List Int64} (g : GrB w h ho op) (hlp : lp < 2) (hec : ∀ p, p ≤ w * h → ecn (enL lp ea eb) p ≤ 2) (hT : ToldR (SL (efB op gone) (w * h)) tin tout fto) (hN : T.Nodup) (hR : ∀ S, S ∈ T ↔ hiS (elG w (w * h) op gone) S ∧ GoodL w (w * h) lp (enL lp ea eb) (xOf (SL (efB op gone) (w * h)) S)) :
    T.length ≤ 40000 ∧
    cntI (w * h) 136 (layF 136 (fun p => cafLK (nI lp) ea eb p (p % w)) (fun p => openChoicesF op (nI p)) 0) (pakF 136 (fun p => cafLK (nI lp) ea eb p (p % w)) (fun p => openChoicesF op (nI p)) 0) isWayLN tin (tout ||| gone) (w * h) 0 = lN (T.filter (fun S => alAll fto S (SL (efB op gone) (w * h)).length)).length ∧
    ∀ (r : Nat) (W : Int64) (L : List Int64), L.Perm T → L.Pairwise (fun a b => leS a b = true) → (L.filter (fun S => alAll fto S (SL (efB op gone) (w * h)).length))[r]? = some W → ∀ (e s : Nat), (SL (efB op gone) (w * h))[e]? = some s → gB (wyI (w * h) 136 (layF 136 (fun p => cafLK (nI lp) ea eb p (p % w)) (fun p => openChoicesF op (nI p)) 0) (pakF 136 (fun p => cafLK (nI lp) ea eb p (p % w)) (fun p => openChoicesF op (nI p)) 0) isWayLN tin (tout ||| gone) (lN r)) s = gB W e := by
  have hP := g.P
  have hC := capL (lp := lp) (ea := ea) (eb := eb) g hlp hec
  have hopP : ∀ s, s < 64 → gB op s = true → s / 2 < w * h := fun s hs q => plB_lt (g.opP hs q).1
  have hR2 : ∀ S, S ∈ T ↔ (∀ i, (SL (efB op gone) (w * h)).length ≤ i → i < 64 → gB S i = false) ∧ GoodL w (w * h) lp (enL lp ea eb) (xOf (SL (efB op gone) (w * h)) S) := fun S => by rw [hR S, hi_iff]
  refine ⟨?_, fin_list hC hP hopP hT hN hR2 (runL_A g hlp hec _ _)⟩
  rw [fin_len hC hP hopP hN hR2 (runL_A g hlp hec _ _)]
  exact len_L g hlp hec
theorem min_ex {Q : Nat → Prop} : ∀ (n : Nat), Q n → ∃ p, Q p ∧ p ≤ n ∧ ∀ v, v < p → ¬Q v := by
  intro n
  induction n using Nat.strongRecOn with
  | _ n ih =>
    intro h
    rcases Classical.em (∃ m, m < n ∧ Q m) with ⟨m, h1, h2⟩ | y
    · obtain ⟨p, a, b, c⟩ := ih m h1 h2
      exact ⟨p, a, by omega, c⟩
    · exact ⟨n, h, Nat.le_refl _, fun v hv q => y ⟨v, hv, q⟩⟩
theorem enL_1 (ea eb : Int32) (q : Nat) : enL 1 ea eb q = false := rfl
theorem loop_fin {w h : Nat} {ho ea eb sc : Int32} {op gone tin tout : Int64} {fto : Nat → Int32} (g : GrB w h ho op) (hT : ToldR (SL (efB op gone) (w * h)) tin tout fto) :
    (fmN (lpAll (elG w (w * h) op gone) sc) (w * h)).length ≤ 40000 ∧
    cntI (w * h) 136 (layF 136 (fun p => cafLK (nI 1) ea eb p (p % w)) (fun p => openChoicesF op (nI p)) 0) (pakF 136 (fun p => cafLK (nI 1) ea eb p (p % w)) (fun p => openChoicesF op (nI p)) 0) isWayLN tin (tout ||| gone) (w * h) 0 = lN ((fmN (lpAll (elG w (w * h) op gone) sc) (w * h)).filter (fun S => alAll fto S (SL (efB op gone) (w * h)).length)).length ∧
    ∀ (r : Nat) (W : Int64) (L : List Int64), L.Perm (fmN (lpAll (elG w (w * h) op gone) sc) (w * h)) → L.Pairwise (fun a b => leS a b = true) → (L.filter (fun S => alAll fto S (SL (efB op gone) (w * h)).length))[r]? = some W → ∀ (e s : Nat), (SL (efB op gone) (w * h))[e]? = some s → gB (wyI (w * h) 136 (layF 136 (fun p => cafLK (nI 1) ea eb p (p % w)) (fun p => openChoicesF op (nI p)) 0) (pakF 136 (fun p => cafLK (nI 1) ea eb p (p % w)) (fun p => openChoicesF op (nI p)) 0) isWayLN tin (tout ||| gone) (lN r)) s = gB W e := by
  have hE : El25 (elG w (w * h) op gone) := g.E25
  have hD : ElD (elG w (w * h) op gone) := g.ED
  refine lin_fin g (by decide) (fun p _ => by rw [ecn_0 (enL_1 ea eb)]; decide) hT (fmN_nd (fun p => lp_nd hE) (fun p q S h1 h2 => Lo_uniq ((mem_lp hE hD).mp h1).2 ((mem_lp hE hD).mp h2).2) _) (fun S => ?_)
  rw [mem_fmN]
  constructor
  · rintro ⟨p, hp, h1⟩
    obtain ⟨h2, l1, l2, l3, l4⟩ := (mem_lp hE hD).mp h1
    refine ⟨h2, fun q hq => ?_, fun z => absurd z (by decide), ⟨p, hp, by rw [← g.dYX, l2]; decide⟩, fun U hU q q' _ _ d1 d2 => ?_⟩
    · unfold dueL
      rw [enL_1, ← g.dYX]
      exact l1 q
    · rw [← g.dYX] at d1 d2
      rw [l4 U (g.CYX.mpr hU) q d1, l4 U (g.CYX.mpr hU) q' d2]
  · rintro ⟨h2, d, _, ⟨q, hq, hdq⟩, hc⟩
    obtain ⟨p, p1, p2, p3⟩ := min_ex (Q := fun v => 0 < dY (elG w (w * h) op gone) (gB S) v) q (by rw [g.dYX]; exact hdq)
    have hp : p < w * h := plB_lt (g.dYP p1)
    have l1 : ∀ v, dY (elG w (w * h) op gone) (gB S) v = 0 ∨ dY (elG w (w * h) op gone) (gB S) v = 2 := by
      intro v
      rcases Nat.eq_zero_or_pos (dY (elG w (w * h) op gone) (gB S) v) with y | y
      · exact Or.inl y
      · have := d v (plB_lt (g.dYP y))
        unfold dueL at this
        rw [enL_1, ← g.dYX] at this
        exact this
    refine ⟨p, hp, (mem_lp hE hD).mpr ⟨h2, l1, by have := l1 p; omega, fun v hv => by have := p3 v hv; omega, fun U hU v hv => ?_⟩⟩
    exact hc U (g.CYX.mp hU) v p (plB_lt (g.dYP hv)) hp (by rw [← g.dYX]; exact hv) (by rw [← g.dYX]; exact p1)
theorem ecn_two {EN : Nat → Bool} {a b : Nat} (hab : a ≠ b) : ∀ {p : Nat}, (∀ q, q < p → (EN q = true ↔ q = a ∨ q = b)) → ecn EN p = (if a < p then 1 else 0) + (if b < p then 1 else 0)
  | 0, _ => rfl
  | p + 1, h => by
    show ecn EN p + (if EN p = true then 1 else 0) = _
    rw [ecn_two hab (fun q hq => h q (by omega))]
    have hp := h p (Nat.lt_succ_self p)
    by_cases z : EN p = true
    · rw [if_pos z]
      rcases hp.mp z with y | y
      · subst y
        rw [if_neg (Nat.lt_irrefl p), if_pos (Nat.lt_succ_self p)]
        by_cases x : b < p
        · rw [if_pos x, if_pos (by omega)]
        · rw [if_neg x, if_neg (by omega)]
      · subst y
        rw [if_neg (Nat.lt_irrefl p), if_pos (Nat.lt_succ_self p)]
        by_cases x : a < p
        · rw [if_pos x, if_pos (by omega)]
        · rw [if_neg x, if_neg (by omega)]
    · rw [if_neg z]
      have ha : p ≠ a := fun y => z (hp.mpr (Or.inl y))
      have hb : p ≠ b := fun y => z (hp.mpr (Or.inr y))
      have e1 : (if a < p then 1 else 0) = if a < p + 1 then 1 else 0 := by
        by_cases x : a < p
        · rw [if_pos x, if_pos (by omega)]
        · rw [if_neg x, if_neg (by omega)]
      have e2 : (if b < p then 1 else 0) = if b < p + 1 then 1 else 0 := by
        by_cases x : b < p
        · rw [if_pos x, if_pos (by omega)]
        · rw [if_neg x, if_neg (by omega)]
      rw [e1, e2, Nat.add_zero]
theorem enL_0 {a b q : Nat} (ha : a < 25) (hb : b < 25) (hq : q < 25) : enL 0 (nI a) (nI b) q = true ↔ q = a ∨ q = b := by
  unfold enL isEndF
  rw [decide_eq_true (show (0 : Nat) = 0 from rfl), Bool.true_and, Bool.or_eq_true, decide_eq_true_iff, decide_eq_true_iff, nI_eq (by omega) (by omega), nI_eq (by omega) (by omega)]
theorem enL_no {q : Nat} (hq : q < 25) : enL 0 (-1) (-1) q = false := by
  unfold enL isEndF
  rw [decide_eq_false (nI_n1 (by omega))]; rfl
theorem ecn_00 {EN : Nat → Bool} : ∀ {p : Nat}, (∀ q, q < p → EN q = false) → ecn EN p = 0
  | 0, _ => rfl
  | p + 1, h => by
    show ecn EN p + (if EN p = true then 1 else 0) = 0
    rw [ecn_00 (fun q hq => h q (by omega)), h p (Nat.lt_succ_self p)]; rfl
theorem path_fin {w h : Nat} {ho fi sc : Int32} {op gone tin tout : Int64} {fto : Nat → Int32} {hb : Nat → Bool} (g : GrB w h ho op) (hhb : ∀ p, p < w * h → hb p = !plB (w * h) ho p) (hT : ToldR (SL (efB op gone) (w * h)) tin tout fto) (hfs : (fi = -1 ∧ sc = -1) ∨ ∃ a b : Nat, a < w * h ∧ b < w * h ∧ a ≠ b ∧ fi = nI a ∧ sc = nI b) :
    (lsAll w h 1 fi sc (elG w (w * h) op gone) hb).length ≤ 40000 ∧
    cntI (w * h) 136 (layF 136 (fun p => cafLK (nI 0) fi sc p (p % w)) (fun p => openChoicesF op (nI p)) 0) (pakF 136 (fun p => cafLK (nI 0) fi sc p (p % w)) (fun p => openChoicesF op (nI p)) 0) isWayLN tin (tout ||| gone) (w * h) 0 = lN ((lsAll w h 1 fi sc (elG w (w * h) op gone) hb).filter (fun S => alAll fto S (SL (efB op gone) (w * h)).length)).length ∧
    ∀ (r : Nat) (W : Int64) (L : List Int64), L.Perm (lsAll w h 1 fi sc (elG w (w * h) op gone) hb) → L.Pairwise (fun a b => leS a b = true) → (L.filter (fun S => alAll fto S (SL (efB op gone) (w * h)).length))[r]? = some W → ∀ (e s : Nat), (SL (efB op gone) (w * h))[e]? = some s → gB (wyI (w * h) 136 (layF 136 (fun p => cafLK (nI 0) fi sc p (p % w)) (fun p => openChoicesF op (nI p)) 0) (pakF 136 (fun p => cafLK (nI 0) fi sc p (p % w)) (fun p => openChoicesF op (nI p)) 0) isWayLN tin (tout ||| gone) (lN r)) s = gB W e := by
  have hE : El25 (elG w (w * h) op gone) := g.E25
  have hP := g.P
  have hl1 : lsAll w h 1 fi sc (elG w (w * h) op gone) hb = (if fi < 0 then [] else if hb fi.toNatClampNeg = true then [] else if hb sc.toNatClampNeg = true then [] else dW (elG w (w * h) op gone) fi.toNatClampNeg 0 false sc 26 [fi.toNatClampNeg] fi.toNatClampNeg 0 0) := if_pos rfl
  rcases hfs with ⟨hf, hs⟩ | ⟨a, b, ha, hbb, hab, hf, hs⟩
  · subst hf; subst hs
    have hec0 : ∀ p, p ≤ w * h → ecn (enL 0 (-1) (-1)) p = 0 := fun p hp => ecn_00 (fun q hq => enL_no (by omega))
    rw [hl1, if_pos (by decide)]
    refine lin_fin g (by decide) (fun p hp => by rw [hec0 p hp]; decide) hT List.Pairwise.nil (fun S => ⟨fun z => absurd z List.not_mem_nil, fun z => ?_⟩)
    have := z.2.2.1 rfl
    rw [hec0 _ (Nat.le_refl _)] at this
    exact absurd this (by decide)
  · subst hf; subst hs
    have hEN : ∀ q, q < w * h → (enL 0 (nI a) (nI b) q = true ↔ q = a ∨ q = b) := fun q hq => enL_0 (by omega) (by omega) (by omega)
    have hec : ∀ p, p ≤ w * h → ecn (enL 0 (nI a) (nI b)) p ≤ 2 := by
      intro p hp
      rw [ecn_two hab (fun q hq => hEN q (by omega))]
      by_cases x : a < p
      · rw [if_pos x]; by_cases y : b < p; (rw [if_pos y]; exact Nat.le_refl _); (rw [if_neg y]; decide)
      · rw [if_neg x]; by_cases y : b < p; (rw [if_pos y]; decide); (rw [if_neg y]; decide)
    rw [hl1, if_neg (nI_pos (by omega)), tn_nI (by omega), tn_nI (by omega)]
    have hend : ∀ S, GoodL w (w * h) 0 (enL 0 (nI a) (nI b)) (xOf (SL (efB op gone) (w * h)) S) → ∀ c, c < w * h → (c = a ∨ c = b) → dY (elG w (w * h) op gone) (gB S) c = 1 ∧ hb c = false := by
      intro S hG c hc hcab
      have := hG.1 c hc
      unfold dueL at this
      rw [(hEN c hc).mpr hcab, ← g.dYX] at this
      unfold b1 at this
      rw [if_pos rfl] at this
      have h1 : dY (elG w (w * h) op gone) (gB S) c = 1 := by omega
      refine ⟨h1, ?_⟩
      rw [hhb c hc, g.dYP (by rw [h1]; decide)]; rfl
    by_cases ya : hb a = true
    · rw [if_pos ya]
      refine lin_fin g (by decide) hec hT List.Pairwise.nil (fun S => ⟨fun z => absurd z List.not_mem_nil, fun z => ?_⟩)
      have := (hend S z.2 a ha (Or.inl rfl)).2
      rw [ya] at this; exact absurd this (by decide)
    rw [if_neg ya]
    by_cases yb : hb b = true
    · rw [if_pos yb]
      refine lin_fin g (by decide) hec hT List.Pairwise.nil (fun S => ⟨fun z => absurd z List.not_mem_nil, fun z => ?_⟩)
      have := (hend S z.2 b hbb (Or.inr rfl)).2
      rw [yb] at this; exact absurd this (by decide)
    rw [if_neg yb]
    have hW0 : WSt (elG w (w * h) op gone) [a] a 0 := ⟨List.pairwise_singleton _ _, fun v hv => by rw [List.mem_singleton.mp hv]; omega, List.mem_singleton.mpr rfl, fun i hi => by rw [gB_0] at hi; exact absurd hi (by decide), fun i _ _ hi => by rw [gB_0] at hi; exact absurd hi (by decide)⟩
    have htv : a ≠ b → b ∉ [a] := fun _ z => hab (List.mem_singleton.mp z).symm
    refine lin_fin g (by decide) hec hT (path_nd hE (t := b) (by omega) rfl 26 [a] a 0 (Nat.le_refl 27) hW0 htv (List.mem_singleton.mpr rfl)) (fun S => ?_)
    rw [mem_path hE (t := b) (by omega) rfl 26 [a] a 0 S (Nat.le_refl 27) hW0 htv, dif_0]
    constructor
    · rintro ⟨_, h2, _, h4⟩
      obtain ⟨_, g2, g3, g4, _, g6⟩ := h4 hab
      refine ⟨h2, fun q hq => ?_, fun _ => ?_, ⟨a, ha, by rw [← g.dYX, g2]; decide⟩, fun U hU q q' _ _ d1 d2 => ?_⟩
      · unfold dueL
        rw [← g.dYX]
        by_cases y : q = a ∨ q = b
        · rw [(hEN q hq).mpr y]
          right
          rcases y with z | z <;> rw [z]
          · rw [g2]; rfl
          · rw [g3]; rfl
        · have hf : enL 0 (nI a) (nI b) q = false := by
            rcases Bool.eq_false_or_eq_true (enL 0 (nI a) (nI b) q) with z | z
            · exact absurd ((hEN q hq).mp z) y
            · exact z
          rw [hf]
          exact g4 q (fun z => y (Or.inl z)) (fun z => y (Or.inr z))
      · rw [ecn_two hab hEN, if_pos ha, if_pos hbb]
      · rw [← g.dYX] at d1 d2
        rw [g6 U (g.CYX.mpr hU) q d1, g6 U (g.CYX.mpr hU) q' d2]
    · rintro ⟨h2, hG⟩
      refine ⟨fun i hi => by rw [gB_0] at hi; exact absurd hi (by decide), h2, fun z => absurd z hab, fun _ => ⟨hab, (hend S hG a ha (Or.inl rfl)).1, (hend S hG b hbb (Or.inr rfl)).1, fun v h1 h3 => ?_, fun v hv h1 _ => absurd (List.mem_singleton.mp hv) h1, fun U hU v hv => ?_⟩⟩
      · rcases Nat.eq_zero_or_pos (dY (elG w (w * h) op gone) (gB S) v) with y | y
        · exact Or.inl y
        · have hvP := plB_lt (g.dYP y)
          have := hG.1 v hvP
          unfold dueL at this
          have hf : enL 0 (nI a) (nI b) v = false := by
            rcases Bool.eq_false_or_eq_true (enL 0 (nI a) (nI b) v) with z | z
            · rcases (hEN v hvP).mp z with u | u
              · exact absurd u h1
              · exact absurd u h3
            · exact z
          rw [hf, ← g.dYX] at this
          exact this
      · exact hG.2.2.2 U (g.CYX.mp hU) v a (plB_lt (g.dYP hv)) ha (by rw [← g.dYX]; exact hv) (by rw [← g.dYX, (hend S hG a ha (Or.inl rfl)).1]; decide)
