/-! LISTED KINDS: count and drawn way are the same -/
theorem gB_chc : ∀ c, c < 4 → ∀ p, p < 25 → ∀ j, j < 64 → gB ((nI c).toInt64 <<< ((2 * nI p).toInt64 &&& 63)) j = (decide (j / 2 = p) && c.testBit (j % 2)) := by
  have key : (List.range 4).all (fun c => (List.range 25).all (fun p => (List.range 64).all (fun j => gB ((nI c).toInt64 <<< ((2 * nI p).toInt64 &&& 63)) j == (decide (j / 2 = p) && c.testBit (j % 2))))) = true := by decide +kernel
  intro c h1 p h2 j h3
  exact beq_iff_eq.mp (List.all_eq_true.mp (List.all_eq_true.mp (List.all_eq_true.mp key c (List.mem_range.mpr h1)) p (List.mem_range.mpr h2)) j (List.mem_range.mpr h3))
theorem gB_slW : ∀ (s : List Nat) (p : Nat), (∀ (q c : Nat), s[q]? = some c → c < 4) → p + s.length ≤ 25 → ∀ j, j < 64 → gB (slW s p) j = (decide (p ≤ j / 2) && ((s[j / 2 - p]?).getD 0).testBit (j % 2))
  | [], p, _, _, j, _ => by
    show gB 0 j = _
    rw [gB_0]
    simp
  | c :: s, p, h4, hl, j, hj => by
    rw [List.length_cons] at hl
    have ih := gB_slW s (p + 1) (fun q c hq => h4 (q + 1) c (by rw [List.getElem?_cons_succ]; exact hq)) (by omega) j hj
    show gB (((nI c).toInt64 <<< ((2 * nI p).toInt64 &&& 63)) ||| slW s (p + 1)) j = _
    rw [gB_or, gB_chc c (h4 0 c rfl) p (by omega) j hj, ih]
    rcases Nat.lt_trichotomy (j / 2) p with z | z | z
    · rw [decide_eq_false (show ¬ j / 2 = p by omega), decide_eq_false (show ¬ p + 1 ≤ j / 2 by omega), decide_eq_false (show ¬ p ≤ j / 2 by omega)]; rfl
    · rw [decide_eq_true z, decide_eq_false (show ¬ p + 1 ≤ j / 2 by omega), decide_eq_true (show p ≤ j / 2 by omega), show j / 2 - p = 0 by omega]
      simp
    · rw [decide_eq_false (show ¬ j / 2 = p by omega), decide_eq_true (show p + 1 ≤ j / 2 by omega), decide_eq_true (show p ≤ j / 2 by omega), show j / 2 - p = (j / 2 - (p + 1)) + 1 by omega, List.getElem?_cons_succ]
      simp
theorem slW_XS {s : List Nat} (h4 : ∀ (q c : Nat), s[q]? = some c → c < 4) (hl : s.length ≤ 25) {j : Nat} (hj : j < 64) : gB (slW s 0) j = XS s j := by
  rw [gB_slW s 0 h4 (by omega) j hj, decide_eq_true (Nat.zero_le _), Nat.sub_zero, Bool.true_and]
  rfl
theorem first_at {mo : Nat} {caf : Nat → Int32 → Int32 → Int32} {op : Nat → Int32} {first : Int32} : (layF mo caf op first 0)[0]? = some first := rfl
theorem or_0l (x : Int64) : (0 : Int64) ||| x = x := by
  apply gB_ext
  intro i hi
  rw [gB_or, gB_0, Bool.false_or]
/-- count and way of the table, by its runs -/
theorem tab_count {P mo : Nat} {caf : Nat → Int32 → Int32 → Int32} {op : Nat → Int32} {first : Int32} {SS : Nat → List Int32} {isw : Int32 → Bool} {inn out : Int64} (hC : Cap P mo caf op first SS) : cntI P mo (layF mo caf op first) (pakF mo caf op first) isw inn out P 0 = lN (AL (nxA caf op) isw (alF inn out) P 0 first).length := by
  have := Wt_ok (isw := isw) (inn := inn) (out := out) hC P (Nat.le_refl _) 0 first (by rw [Nat.sub_self]; exact first_at)
  rw [Nat.sub_self] at this
  exact this
theorem tab_way {P mo : Nat} {caf : Nat → Int32 → Int32 → Int32} {op : Nat → Int32} {first : Int32} {SS : Nat → List Int32} {isw : Int32 → Bool} {inn out : Int64} (hC : Cap P mo caf op first SS) (hP : P ≤ 25) {r : Nat} {s : List Nat} (hs : (AL (nxA caf op) isw (alF inn out) P 0 first)[r]? = some s) : wyI P mo (layF mo caf op first) (pakF mo caf op first) isw inn out (lN r) = slW s 0 := by
  have := wy_ok (isw := isw) (inn := inn) (out := out) hC hP P (Nat.le_refl _) 0 first (by rw [Nat.sub_self]; exact first_at) r s (by rw [Nat.sub_self]; exact hs) 0
  rw [Nat.sub_self, or_0l] at this
  exact this
/-- what is to be shown of a listed kind -/
theorem fin_list {P mo : Nat} {caf : Nat → Int32 → Int32 → Int32} {opn : Nat → Int32} {first : Int32} {SS : Nat → List Int32} {isw : Int32 → Bool} {op gone tin tout : Int64} {fto : Nat → Int32} {T : List Int64} {Good : (Nat → Bool) → Prop} (hC : Cap P mo caf opn first SS) (hP : P ≤ 25) (hopP : ∀ s, s < 64 → gB op s = true → s / 2 < P)
    (hT : ToldR (SL (efB op gone) P) tin tout fto) (hN : T.Nodup)
    (hR : ∀ S, S ∈ T ↔ (∀ i, (SL (efB op gone) P).length ≤ i → i < 64 → gB S i = false) ∧ Good (xOf (SL (efB op gone) P) S))
    (hA : ∀ X : Nat → Bool, RO (nxA caf opn) isw (alF tin (tout ||| gone)) (sqX X 0 P) 0 first ↔ (∀ q, q < P → okX op tin (tout ||| gone) X q) ∧ Good X) :
    cntI P mo (layF mo caf opn first) (pakF mo caf opn first) isw tin (tout ||| gone) P 0 = lN (T.filter (fun S => alAll fto S (SL (efB op gone) P).length)).length ∧
    ∀ (r : Nat) (W : Int64) (L : List Int64), L.Perm T → L.Pairwise (fun a b => leS a b = true) → (L.filter (fun S => alAll fto S (SL (efB op gone) P).length))[r]? = some W → ∀ (e s : Nat), (SL (efB op gone) P)[e]? = some s → gB (wyI P mo (layF mo caf opn first) (pakF mo caf opn first) isw tin (tout ||| gone) (lN r)) s = gB W e := by
  have hM := kind_M hP hopP hT hR hA
  have hl := SL_len (efB op gone) P
  have hlist : ∀ L : List Int64, L.Perm T → L.Pairwise (fun a b => leS a b = true) → L.filter (fun S => alAll fto S (SL (efB op gone) P).length) = (AL (nxA caf opn) isw (alF tin (tout ||| gone)) P 0 first).map (fun s => phS (SL (efB op gone) P) (XS s)) := fun L h1 h2 => list_is hP hM.1 hN h1 h2 hM.2
  have hsort : ∃ L : List Int64, L.Perm T ∧ L.Pairwise (fun a b => leS a b = true) := ⟨T.mergeSort leS, List.mergeSort_perm T leS, List.pairwise_mergeSort leS_tr leS_tot T⟩
  constructor
  · obtain ⟨L, h1, h2⟩ := hsort
    rw [tab_count hC, ← (h1.filter _).length_eq, hlist L h1 h2, List.length_map]
  · intro r W L h1 h2 h3 e s hs
    rw [hlist L h1 h2, List.getElem?_map] at h3
    obtain ⟨q, hq, hqe⟩ := Option.map_eq_some_iff.mp h3
    have hm := mem_AL.mp (List.mem_of_getElem? hq)
    have hsl := mem_SL.mp (List.mem_of_getElem? hs)
    rw [tab_way hC hP hq, slW_XS (fun x c hx => (RO_lt hm.2 x c hx).1) (by omega) (show s < 64 by omega), ← hqe, gB_phS (by omega), hs]
theorem no_told {sl : List Nat} : ToldR sl 0 0 (fun _ => 0) := ⟨fun e s _ => ⟨by rw [gB_0]; rfl, by rw [gB_0]; rfl⟩, fun s _ h => by rw [gB_0] at h; exact absurd h (by decide)⟩
/-- how many sets a listed kind has -/
theorem fin_len {P mo : Nat} {caf : Nat → Int32 → Int32 → Int32} {opn : Nat → Int32} {first : Int32} {SS : Nat → List Int32} {isw : Int32 → Bool} {op gone : Int64} {T : List Int64} {Good : (Nat → Bool) → Prop} (hC : Cap P mo caf opn first SS) (hP : P ≤ 25) (hopP : ∀ s, s < 64 → gB op s = true → s / 2 < P) (hN : T.Nodup)
    (hR : ∀ S, S ∈ T ↔ (∀ i, (SL (efB op gone) P).length ≤ i → i < 64 → gB S i = false) ∧ Good (xOf (SL (efB op gone) P) S))
    (hA : ∀ X : Nat → Bool, RO (nxA caf opn) isw (alF 0 (0 ||| gone)) (sqX X 0 P) 0 first ↔ (∀ q, q < P → okX op 0 (0 ||| gone) X q) ∧ Good X) : T.length = (AL (nxA caf opn) isw (alF 0 (0 ||| gone)) P 0 first).length := by
  have hM := kind_M hP hopP no_told hR hA
  have hl := SL_len (efB op gone) P
  have hsort : ∃ L : List Int64, L.Perm T ∧ L.Pairwise (fun a b => leS a b = true) := ⟨T.mergeSort leS, List.mergeSort_perm T leS, List.pairwise_mergeSort leS_tr leS_tot T⟩
  obtain ⟨L, h1, h2⟩ := hsort
  have h3 := list_is hP hM.1 hN h1 h2 hM.2
  have h4 : L.filter (fun S => alAll (fun _ => 0) S (SL (efB op gone) P).length) = L := by
    rw [List.filter_eq_self]
    intro S _
    exact al_iff.mpr (fun i hi => (al_one (by omega)).mpr ⟨fun z => absurd z (by decide), fun z => absurd z (by decide)⟩)
  rw [h4] at h3
  rw [← h1.length_eq, h3, List.length_map]
