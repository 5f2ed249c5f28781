/-! DEGREES: the whole of the kinds PAIRS and LOOPS -/
def slN (w P p : Nat) : Nat := (if p % w + 1 < w then 1 else 0) + (if p + w < P then 1 else 0)
theorem slN_40 : ∀ w, w < 6 → ∀ h, h < 6 → sumN (slN w (w * h)) (w * h) ≤ 40 := by decide +kernel
theorem opB_fact {w P s : Nat} {ho : Int32} (h : opB w P (plB P ho) s = true) : plB P ho (s / 2) = true ∧ plB P ho (enS w s).2 = true ∧ (s % 2 = 1 → s / 2 % w + 1 < w) := by
  unfold opB at h
  unfold enS
  by_cases z : s % 2 = 1
  · rw [if_pos z, Bool.and_eq_true, Bool.and_eq_true, decide_eq_true_iff] at h
    refine ⟨h.1.1, ?_, fun _ => h.1.2⟩
    show plB P ho (if s % 2 = 1 then s / 2 + 1 else s / 2 + w) = true
    rw [if_pos z]; exact h.2
  · rw [if_neg z, Bool.and_eq_true] at h
    refine ⟨h.1, ?_, fun y => absurd y z⟩
    show plB P ho (if s % 2 = 1 then s / 2 + 1 else s / 2 + w) = true
    rw [if_neg z]; exact h.2
theorem plB_lt {P p : Nat} {ho : Int32} (h : plB P ho p = true) : p < P := by
  unfold plB at h
  rw [Bool.and_eq_true, decide_eq_true_iff] at h
  exact h.1
/-- the grid's open slots, as the class keeps them -/
def GrB (w h : Nat) (ho : Int32) (op : Int64) : Prop := (0 < w ∧ w ≤ 5) ∧ (0 < h ∧ h ≤ 5) ∧ ∀ s, s < 64 → gB op s = opB w (w * h) (plB (w * h) ho) s
theorem GrB.P {w h : Nat} {ho : Int32} {op : Int64} (g : GrB w h ho op) : w * h ≤ 25 := Nat.mul_le_mul g.1.2 g.2.1.2
theorem GrB.opP {w h : Nat} {ho : Int32} {op : Int64} (g : GrB w h ho op) {s : Nat} (hs : s < 64) (q : gB op s = true) : plB (w * h) ho (s / 2) = true ∧ plB (w * h) ho (enS w s).2 = true ∧ (s % 2 = 1 → s / 2 % w + 1 < w) := by
  rw [g.2.2 s hs] at q
  exact opB_fact q
theorem GrB.ef {w h : Nat} {ho : Int32} {op gone : Int64} (g : GrB w h ho op) {s : Nat} (hs : s / 2 < w * h) (q : efB op gone s = true) : plB (w * h) ho (s / 2) = true ∧ plB (w * h) ho (enS w s).2 = true ∧ (s % 2 = 1 → s / 2 % w + 1 < w) := by
  have := g.P
  unfold efB at q
  rw [Bool.and_eq_true] at q
  exact g.opP (by omega) q.1
theorem SL_sum {ef : Nat → Bool} {f : Nat → Nat} : ∀ {P : Nat}, (∀ p, p < P → (SLp ef p).length ≤ f p) → (SL ef P).length ≤ sumN f P
  | 0, _ => Nat.le_refl _
  | P + 1, h => by
    show (SL ef P ++ SLp ef P).length ≤ sumN f P + f P
    rw [List.length_append]
    have := SL_sum (P := P) (fun p hp => h p (by omega))
    have := h P (by omega)
    omega
theorem GrB.len {w h : Nat} {ho : Int32} {op gone : Int64} (g : GrB w h ho op) : (SL (efB op gone) (w * h)).length ≤ 40 := by
  refine Nat.le_trans (SL_sum (f := slN w (w * h)) (fun p hp => ?_)) (slN_40 w (by have := g.1.2; omega) h (by have := g.2.1.2; omega))
  unfold SLp slN
  rw [List.length_append]
  have e1 : (if efB op gone (2 * p + 1) = true then [2 * p + 1] else []).length ≤ if p % w + 1 < w then 1 else 0 := by
    by_cases z : efB op gone (2 * p + 1) = true
    · rw [if_pos z]
      have := (g.ef (by omega) z).2.2 (by omega)
      rw [show (2 * p + 1) / 2 = p by omega] at this
      rw [if_pos this]; exact Nat.le_refl _
    · rw [if_neg z]; exact Nat.zero_le _
  have e2 : (if efB op gone (2 * p) = true then [2 * p] else []).length ≤ if p + w < w * h then 1 else 0 := by
    by_cases z : efB op gone (2 * p) = true
    · rw [if_pos z]
      have q := (g.ef (by omega) z).2.1
      unfold enS at q
      dsimp only at q
      rw [if_neg (by omega), show 2 * p / 2 = p by omega] at q
      rw [if_pos (plB_lt q)]; exact Nat.le_refl _
    · rw [if_neg z]; exact Nat.zero_le _
  omega
theorem GrB.elp {w h : Nat} {ho : Int32} {op gone : Int64} (g : GrB w h ho op) {i a b : Nat} (q : ((SL (efB op gone) (w * h)).map (enS w))[i]? = some (a, b)) : plB (w * h) ho a = true ∧ plB (w * h) ho b = true := by
  rw [List.getElem?_map] at q
  obtain ⟨s, hs, e⟩ := Option.map_eq_some_iff.mp q
  have hm := mem_SL.mp (List.mem_of_getElem? hs)
  have := g.ef hm.1 hm.2
  rw [e] at this
  have e1 : s / 2 = a := congrArg Prod.fst e
  rw [e1] at this
  exact ⟨this.1, this.2.1⟩
/-- a hole has no edges -/
theorem deg_hole {w P : Nat} {ho : Int32} {X : Nat → Bool} (hw : 0 < w) (hX : ∀ j, X j = true → plB P ho (j / 2) = true ∧ plB P ho (enS w j).2 = true ∧ (j % 2 = 1 → j / 2 % w + 1 < w)) {q : Nat} (hq : plB P ho q = false) : degX w X q = 0 := by
  have e1 : X (2 * q) = false := by
    rcases Bool.eq_false_or_eq_true (X (2 * q)) with z | z
    · have := (hX _ z).1; rw [show 2 * q / 2 = q by omega, hq] at this; exact absurd this (by decide)
    · exact z
  have e2 : X (2 * q + 1) = false := by
    rcases Bool.eq_false_or_eq_true (X (2 * q + 1)) with z | z
    · have := (hX _ z).1; rw [show (2 * q + 1) / 2 = q by omega, hq] at this; exact absurd this (by decide)
    · exact z
  have e3 : lfX w X q = false := by
    rcases Bool.eq_false_or_eq_true (lfX w X q) with z | z
    · unfold lfX at z
      rw [Bool.and_eq_true, decide_eq_true_iff] at z
      have hq0 : 0 < q := by
        rcases Nat.eq_zero_or_pos q with y | y
        · rw [y, Nat.zero_mod] at z; omega
        · exact y
      have := (hX _ z.2).2.1
      unfold enS at this
      dsimp only at this
      rw [if_pos (by omega), show (2 * q - 1) / 2 + 1 = q by omega, hq] at this; exact absurd this (by decide)
    · exact z
  have e4 : upX w X q = false := by
    rcases Bool.eq_false_or_eq_true (upX w X q) with z | z
    · unfold upX at z
      rw [Bool.and_eq_true, decide_eq_true_iff] at z
      have := (hX _ z.2).2.1
      unfold enS at this
      dsimp only at this
      rw [if_neg (by omega), show 2 * (q - w) / 2 + w = q by omega, hq] at this; exact absurd this (by decide)
    · exact z
  unfold degX
  rw [e1, e2, e3, e4]; rfl
theorem GrB.xO {w h : Nat} {ho : Int32} {op gone S : Int64} (g : GrB w h ho op) {j : Nat} (q : xOf (SL (efB op gone) (w * h)) S j = true) : plB (w * h) ho (j / 2) = true ∧ plB (w * h) ho (enS w j).2 = true ∧ (j % 2 = 1 → j / 2 % w + 1 < w) := by
  have := xOf_ef q
  exact g.ef this.1 this.2
theorem deg_fin {w h : Nat} {ho : Int32} {op gone tin tout : Int64} {fto : Nat → Int32} {hb : Nat → Bool} {dg : Nat} (g : GrB w h ho op) (hd : dg = 1 ∨ dg = 2) (hhb : ∀ p, p < w * h → hb p = !plB (w * h) ho p) (hT : ToldR (SL (efB op gone) (w * h)) tin tout fto) :
    (ldAll ((SL (efB op gone) (w * h)).map (enS w)) hb (w * h) dg).length ≤ 40000 ∧
    cntI (w * h) 64 (layF 64 (fun p => cafDK (nI (w * h)) ho (nI dg) p (p % w)) (fun p => openChoicesF op (nI p)) 0) (pakF 64 (fun p => cafDK (nI (w * h)) ho (nI dg) p (p % w)) (fun p => openChoicesF op (nI p)) 0) isWayDG tin (tout ||| gone) (w * h) 0 = lN ((ldAll ((SL (efB op gone) (w * h)).map (enS w)) hb (w * h) dg).filter (fun S => alAll fto S (SL (efB op gone) (w * h)).length)).length ∧
    ∀ (r : Nat) (W : Int64) (L : List Int64), L.Perm (ldAll ((SL (efB op gone) (w * h)).map (enS w)) hb (w * h) dg) → L.Pairwise (fun a b => leS a b = true) → (L.filter (fun S => alAll fto S (SL (efB op gone) (w * h)).length))[r]? = some W → ∀ (e s : Nat), (SL (efB op gone) (w * h))[e]? = some s → gB (wyI (w * h) 64 (layF 64 (fun p => cafDK (nI (w * h)) ho (nI dg) p (p % w)) (fun p => openChoicesF op (nI p)) 0) (pakF 64 (fun p => cafDK (nI (w * h)) ho (nI dg) p (p % w)) (fun p => openChoicesF op (nI p)) 0) isWayDG tin (tout ||| gone) (lN r)) s = gB W e := by
  have hP := g.P
  have hC := capD (dg := dg) g.1.1 g.1.2 hP (by omega) g.2.2
  have hopP : ∀ s, s < 64 → gB op s = true → s / 2 < w * h := fun s hs q => plB_lt (g.opP hs q).1
  have hlen : ((SL (efB op gone) (w * h)).map (enS w)).length ≤ 40 := by rw [List.length_map]; exact g.len
  have hN := ldAll_nodup (hb := hb) (n := w * h) (due := dg) hlen
  have hcol : ∀ s, efB op gone s = true → s % 2 = 1 → s / 2 % w + 1 < w := by
    intro s q y
    unfold efB at q
    rw [Bool.and_eq_true] at q
    by_cases hs : s < 64
    · exact (g.opP hs q.1).2.2 y
    · exfalso
      have := q.1
      unfold gB at this
      rw [BitVec.getLsbD_of_ge _ _ (by omega)] at this
      exact absurd this (by decide)
  have hR : ∀ S, S ∈ ldAll ((SL (efB op gone) (w * h)).map (enS w)) hb (w * h) dg ↔ (∀ i, (SL (efB op gone) (w * h)).length ≤ i → i < 64 → gB S i = false) ∧ (fun X => ∀ q, q < w * h → degX w X q = dueD (w * h) ho dg q) (xOf (SL (efB op gone) (w * h)) S) := by
    intro S
    rw [mem_ldAll hlen (by omega) (fun i a b q => by
      have := g.elp q
      have p1 := plB_lt this.1
      have p2 := plB_lt this.2
      exact ⟨⟨p1, by rw [hhb a p1, this.1]; rfl⟩, ⟨p2, by rw [hhb b p2, this.2]; rfl⟩⟩)]
    rw [List.length_map]
    refine and_congr_right (fun _ => ?_)
    dsimp only
    constructor
    · intro H q hq
      unfold dueD
      by_cases z : plB (w * h) ho q = true
      · rw [if_pos z, ← dgS_degX g.1.1 hcol, List.length_map]
        exact H q hq (by rw [hhb q hq, z]; rfl)
      · rw [if_neg z]
        exact deg_hole g.1.1 (fun j hj => g.xO hj) (by rw [Bool.not_eq_true] at z; exact z)
    · intro H q hq hh
      have z : plB (w * h) ho q = true := by
        rw [hhb q hq] at hh
        rcases Bool.eq_false_or_eq_true (plB (w * h) ho q) with y | y
        · exact y
        · rw [y] at hh; exact absurd hh (by decide)
      have h1 := H q hq
      unfold dueD at h1
      rw [if_pos z, ← dgS_degX g.1.1 hcol, List.length_map] at h1
      exact h1
  have hA : ∀ (tin out : Int64) (X : Nat → Bool), RO (nxD w (w * h) ho op dg) isWayDG (alF tin out) (sqX X 0 (w * h)) 0 0 ↔ (∀ q, q < w * h → okX op tin out X q) ∧ (fun X => ∀ q, q < w * h → degX w X q = dueD (w * h) ho dg q) X := by
    intro tin out X
    have := runD (inn := tin) (out := out) (X := X) g.1.1 g.1.2 hP (show dg < 3 by omega) g.2.2 (w * h) 0 0 (by omega) (DI_0 g.1.1) (fun j hj => absurd hj (Nat.not_lt_zero _))
    refine Iff.trans this ?_
    constructor
    · exact fun H => ⟨fun q hq => (H q (Nat.zero_le _) hq).1, fun q hq => (H q (Nat.zero_le _) hq).2⟩
    · exact fun H q _ hq => ⟨H.1 q hq, H.2 q hq⟩
  refine ⟨?_, fin_list hC hP hopP hT hN hR (hA _ _)⟩
  rw [fin_len hC hP hopP hN hR (hA _ _)]
  have h0m : nI 0 ∈ (List.range (if 0 % w = 0 then 2 ^ w else 2 ^ (w + 1))).map nI := List.mem_map.mpr ⟨0, List.mem_range.mpr (by rw [if_pos (Nat.zero_mod _)]; exact Nat.pow_pos (by decide)), rfl⟩
  rcases hd with y | y
  · subst y
    refine Nat.le_trans (len_pairs g.1.1 g.1.2 hP g.2.2 (w * h) 0 0 (by omega) (by decide) h0m) (Nat.le_trans (Nat.pow_le_pow_right (by decide) (show (w * h + 6 - bs8 0) / 2 ≤ 15 by omega)) (by decide))
  · subst y
    refine Nat.le_trans (len_loops g.1.1 g.1.2 hP g.2.2 (w * h) 0 0 (by omega) (by decide) h0m (fun _ => rfl)) (Nat.le_trans (Nat.pow_le_pow_right (by decide) (brS_15 w (by have := g.1.2; omega) h (by have := g.2.1.2; omega) hP)) (by decide))
