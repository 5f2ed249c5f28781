/-! FROM SETS OF EDGES TO SETS OF SLOTS; WHAT LISTS AND TABLE HAVE IN COMMON -/
def xOf (sl : List Nat) (S : Int64) (j : Nat) : Bool := (List.range sl.length).any (fun e => decide (sl[e]? = some j) && gB S e)
theorem xOf_iff {sl : List Nat} {S : Int64} {j : Nat} : xOf sl S j = true ↔ ∃ e : Nat, sl[e]? = some j ∧ gB S e = true := by
  unfold xOf
  rw [List.any_eq_true]
  constructor
  · rintro ⟨e, _, he⟩
    rw [Bool.and_eq_true, decide_eq_true_iff] at he
    exact ⟨e, he⟩
  · rintro ⟨e, h1, h2⟩
    exact ⟨e, List.mem_range.mpr (List.getElem?_eq_some_iff.mp h1).1, by rw [h2, decide_eq_true h1]; rfl⟩
theorem SL_inj {ef : Nat → Bool} {P i k s : Nat} (h1 : (SL ef P)[i]? = some s) (h2 : (SL ef P)[k]? = some s) : i = k := by
  have hs := SL_sorted ef P
  have l1 := (List.getElem?_eq_some_iff.mp h1).1
  have l2 := (List.getElem?_eq_some_iff.mp h2).1
  rcases Nat.lt_trichotomy i k with z | z | z
  · have := List.pairwise_iff_getElem.mp hs i k l1 l2 z
    rw [(List.getElem?_eq_some_iff.mp h1).2, (List.getElem?_eq_some_iff.mp h2).2] at this
    exact absurd this (Nat.lt_irrefl _)
  · exact z
  · have := List.pairwise_iff_getElem.mp hs k i l2 l1 z
    rw [(List.getElem?_eq_some_iff.mp h1).2, (List.getElem?_eq_some_iff.mp h2).2] at this
    exact absurd this (Nat.lt_irrefl _)
theorem xOf_at {ef : Nat → Bool} {P : Nat} {S : Int64} {e s : Nat} (h : (SL ef P)[e]? = some s) : xOf (SL ef P) S s = gB S e := by
  cases hg : gB S e with
  | true => exact xOf_iff.mpr ⟨e, h, hg⟩
  | false =>
    rw [Bool.eq_false_iff]
    intro z
    obtain ⟨k, h1, h2⟩ := xOf_iff.mp z
    rw [SL_inj h1 h, hg] at h2
    exact absurd h2 (by decide)
theorem xOf_ef {ef : Nat → Bool} {P : Nat} {S : Int64} {j : Nat} (h : xOf (SL ef P) S j = true) : j / 2 < P ∧ ef j = true := by
  obtain ⟨e, h1, _⟩ := xOf_iff.mp h
  exact mem_SL.mp (List.mem_of_getElem? h1)
theorem phS_xOf {ef : Nat → Bool} {P : Nat} {S : Int64} (hP : P ≤ 25) (hS : ∀ i, (SL ef P).length ≤ i → i < 64 → gB S i = false) : phS (SL ef P) (xOf (SL ef P) S) = S := by
  have hl := SL_len ef P
  apply gB_ext
  intro i hi
  rw [gB_phS (by omega)]
  rcases Nat.lt_or_ge i (SL ef P).length with z | z
  · obtain ⟨s, hs⟩ : ∃ s, (SL ef P)[i]? = some s := ⟨_, List.getElem?_eq_getElem z⟩
    rw [hs]
    exact xOf_at hs
  · rw [List.getElem?_eq_none z, hS i z hi]
theorem phS_hi {ef : Nat → Bool} {P : Nat} {X : Nat → Bool} (hP : P ≤ 25) : ∀ i, (SL ef P).length ≤ i → i < 64 → gB (phS (SL ef P) X) i = false := by
  intro i h1 h2
  have hl := SL_len ef P
  rw [gB_phS (by omega), List.getElem?_eq_none h1]
theorem xOf_phS {ef : Nat → Bool} {P : Nat} {X : Nat → Bool} (hP : P ≤ 25) (hX : ∀ j, X j = true → j / 2 < P ∧ ef j = true) : xOf (SL ef P) (phS (SL ef P) X) = X := by
  have hl := SL_len ef P
  funext j
  by_cases z : j ∈ SL ef P
  · obtain ⟨e, he⟩ := List.getElem?_of_mem z
    rw [xOf_at he, gB_phS (by omega), he]
  · have h1 : xOf (SL ef P) (phS (SL ef P) X) j = false := by
      rw [Bool.eq_false_iff]
      intro y
      exact z (mem_SL.mpr (xOf_ef y))
    have h2 : X j = false := by
      rw [Bool.eq_false_iff]
      intro y
      exact z (mem_SL.mpr (hX j y))
    rw [h1, h2]
/-- what is told of edges, on both sides -/
def ToldR (sl : List Nat) (tin tout : Int64) (fto : Nat → Int32) : Prop := (∀ (e s : Nat), sl[e]? = some s → gB tin s = decide (fto e = 1) ∧ gB tout s = decide (fto e = 2)) ∧ (∀ s, s < 64 → gB tin s = true → s ∈ sl)
theorem al_iff {fto : Nat → Int32} {S : Int64} : ∀ {n : Nat}, alAll fto S n = true ↔ ∀ i, i < n → alOne fto S i = true
  | 0 => ⟨fun _ i hi => absurd hi (Nat.not_lt_zero _), fun _ => rfl⟩
  | n + 1 => by
    show (alAll fto S n && alOne fto S n) = true ↔ _
    rw [Bool.and_eq_true, al_iff]
    constructor
    · rintro ⟨h1, h2⟩ i hi
      by_cases z : i = n
      · rw [z]; exact h2
      · exact h1 i (by omega)
    · intro h
      exact ⟨fun i hi => h i (by omega), h n (Nat.lt_succ_self n)⟩
theorem al_one {fto : Nat → Int32} {S : Int64} {i : Nat} (hi : i < 64) : alOne fto S i = true ↔ (fto i = 1 → gB S i = true) ∧ (fto i = 2 → gB S i = false) := by
  unfold alOne
  rw [mBit_gB hi]
  by_cases z1 : fto i = 1
  · by_cases z2 : fto i = 2
    · rw [z1] at z2; exact absurd z2 (by decide)
    · cases gB S i <;> simp [z1]
  · by_cases z2 : fto i = 2
    · cases gB S i <;> simp [z2]
    · simp [z1, z2]
/-- the table's runs and the listed sets, when both are the sets with one property -/
theorem kind_M {nx : Nat → Int32 → Nat → Int32} {isw : Int32 → Bool} {first : Int32} {op gone tin tout : Int64} {fto : Nat → Int32} {P : Nat} {T : List Int64} {Good : (Nat → Bool) → Prop} (hP : P ≤ 25) (hopP : ∀ s, s < 64 → gB op s = true → s / 2 < P)
    (hT : ToldR (SL (efB op gone) P) tin tout fto)
    (hR : ∀ S, S ∈ T ↔ (∀ i, (SL (efB op gone) P).length ≤ i → i < 64 → gB S i = false) ∧ Good (xOf (SL (efB op gone) P) S))
    (hC : ∀ X : Nat → Bool, RO nx isw (alF tin (tout ||| gone)) (sqX X 0 P) 0 first ↔ (∀ q, q < P → okX op tin (tout ||| gone) X q) ∧ Good X) :
    (∀ s, s ∈ AL nx isw (alF tin (tout ||| gone)) P 0 first → ∀ j, j / 2 < P → XS s j = true → efB op gone j = true) ∧
    (∀ S : Int64, (S ∈ T ∧ alAll fto S (SL (efB op gone) P).length = true) ↔ ∃ s, s ∈ AL nx isw (alF tin (tout ||| gone)) P 0 first ∧ phS (SL (efB op gone) P) (XS s) = S) := by
  have hl := SL_len (efB op gone) P
  have hef : ∀ s, s ∈ AL nx isw (alF tin (tout ||| gone)) P 0 first → (∀ q, q < P → okX op tin (tout ||| gone) (XS s) q) ∧ Good (XS s) := by
    intro s hs
    have h1 := mem_AL.mp hs
    have h2 : sqX (XS s) 0 P = s := by rw [← h1.1]; exact sqX_XS (fun q c hq => (RO_lt h1.2 q c hq).1)
    exact (hC (XS s)).mp (by rw [h2]; exact h1.2)
  have hXe : ∀ s, s ∈ AL nx isw (alF tin (tout ||| gone)) P 0 first → ∀ j, j / 2 < P → XS s j = true → efB op gone j = true := by
    intro s hs j hj hx
    have h1 := ((hef s hs).1 (j / 2) hj).1 j rfl hx
    rw [gB_or, Bool.or_eq_false_iff] at h1
    unfold efB
    rw [h1.1, h1.2.2]
    rfl
  refine ⟨hXe, fun S => ?_⟩
  constructor
  · rintro ⟨h1, h2⟩
    obtain ⟨h3, h4⟩ := (hR S).mp h1
    refine ⟨sqX (xOf (SL (efB op gone) P) S) 0 P, ?_, ?_⟩
    · refine mem_AL.mpr ⟨sqX_len _ _ _, (hC _).mpr ⟨fun q hq => ⟨?_, ?_⟩, h4⟩⟩
      · intro j hj hx
        obtain ⟨e, he1, he2⟩ := xOf_iff.mp hx
        have h5 := (xOf_ef hx).2
        unfold efB at h5
        rw [Bool.and_eq_true] at h5
        refine ⟨h5.1, ?_⟩
        have hel := (List.getElem?_eq_some_iff.mp he1).1
        have h6 := (al_one (by omega)).mp (al_iff.mp h2 e hel)
        have h7 := (hT.1 e j he1).2
        rw [gB_or, h7]
        have h8 : gB gone j = false := by have := h5.2; rw [Bool.not_eq_true'] at this; exact this
        rw [h8, Bool.or_false, decide_eq_false_iff_not]
        intro z
        rw [h6.2 z] at he2
        exact absurd he2 (by decide)
      · intro j hj hin
        have hj2 : j < 64 := by omega
        obtain ⟨e, he⟩ := List.getElem?_of_mem (hT.2 j hj2 hin)
        have hel := (List.getElem?_eq_some_iff.mp he).1
        have h7 := (hT.1 e j he).1
        rw [hin] at h7
        have h6 := (al_one (by omega)).mp (al_iff.mp h2 e hel)
        exact xOf_iff.mpr ⟨e, he, h6.1 (of_decide_eq_true h7.symm)⟩
    · have h5 : XS (sqX (xOf (SL (efB op gone) P) S) 0 P) = xOf (SL (efB op gone) P) S := by
        funext j
        by_cases z : j / 2 < P
        · exact XS_sqX z
        · have e1 : XS (sqX (xOf (SL (efB op gone) P) S) 0 P) j = false := by
            unfold XS
            rw [List.getElem?_eq_none (by rw [sqX_len]; omega)]
            exact Nat.zero_testBit _
          have e2 : xOf (SL (efB op gone) P) S j = false := by
            rw [Bool.eq_false_iff]
            intro y
            exact z (xOf_ef y).1
          rw [e1, e2]
      rw [h5]
      exact phS_xOf hP h3
  · rintro ⟨s, hs, rfl⟩
    obtain ⟨h1, h2⟩ := hef s hs
    have hsl := (mem_AL.mp hs).1
    have hX : ∀ j, XS s j = true → j / 2 < P ∧ efB op gone j = true := by
      intro j hj
      have hjP : j / 2 < P := by
        rcases Nat.lt_or_ge (j / 2) P with z | z
        · exact z
        · exfalso
          unfold XS at hj
          rw [List.getElem?_eq_none (by omega)] at hj
          rw [show (none : Option Nat).getD 0 = 0 from rfl, Nat.zero_testBit] at hj
          exact absurd hj (by decide)
      exact ⟨hjP, hXe s hs j hjP hj⟩
    refine ⟨(hR _).mpr ⟨phS_hi hP, by rw [xOf_phS hP hX]; exact h2⟩, al_iff.mpr (fun i hi => (al_one (by omega)).mpr ?_)⟩
    obtain ⟨t, ht⟩ : ∃ t, (SL (efB op gone) P)[i]? = some t := ⟨_, List.getElem?_eq_getElem hi⟩
    have htm := mem_SL.mp (List.mem_of_getElem? ht)
    have h7 := hT.1 i t ht
    have hg : gB (phS (SL (efB op gone) P) (XS s)) i = XS s t := by rw [gB_phS (by omega), ht]
    rw [hg]
    constructor
    · intro z
      rw [z, decide_eq_true rfl] at h7
      exact (h1 (t / 2) htm.1).2 t rfl h7.1
    · intro z
      rw [z, decide_eq_true rfl] at h7
      cases hx : XS s t with
      | false => rfl
      | true =>
        have := ((h1 (t / 2) htm.1).1 t rfl hx).2
        rw [gB_or, h7.2] at this
        exact absurd this (by simp)
