/-! THE REFERENCE'S ORDER OF SETS: by the lowest edge in which they differ -/
def gB (a : Int64) (i : Nat) : Bool := a.toBitVec.getLsbD i
theorem gB_ext {a b : Int64} (h : ∀ i, i < 64 → gB a i = gB b i) : a = b := Int64.toBitVec_inj.mp (BitVec.eq_of_getLsbD_eq h)
theorem gB_xor (a b : Int64) (i : Nat) : gB (a ^^^ b) i = (gB a i ^^ gB b i) := by
  show ((a.toBitVec) ^^^ (b.toBitVec)).getLsbD i = _
  rw [BitVec.getLsbD_xor]; rfl
theorem gB_and (a b : Int64) (i : Nat) : gB (a &&& b) i = (gB a i && gB b i) := by
  show ((a.toBitVec) &&& (b.toBitVec)).getLsbD i = _
  rw [BitVec.getLsbD_and]; rfl
theorem gB_or (a b : Int64) (i : Nat) : gB (a ||| b) i = (gB a i || gB b i) := by
  show ((a.toBitVec) ||| (b.toBitVec)).getLsbD i = _
  rw [BitVec.getLsbD_or]; rfl
theorem gB_0 (i : Nat) : gB 0 i = false := by show (0 : Int64).toBitVec.getLsbD i = false; simp
theorem gB_low (x : Int64) {i : Nat} (hi : i < 64) : gB (x &&& -x) i = true ↔ gB x i = true ∧ ∀ j, j < i → gB x j = false := by
  rw [gB_and]
  have h : gB (-x) i = (gB x i ^^ (decide (i < 64) && decide (∃ j, j < i ∧ gB x j = true))) := by
    show (-x.toBitVec).getLsbD i = _
    rw [BitVec.getLsbD_neg]
    rfl
  rw [h, decide_eq_true hi, Bool.true_and]
  constructor
  · intro q
    simp only [Bool.and_eq_true] at q
    refine ⟨q.1, fun j hj => ?_⟩
    cases hx : gB x j with
    | false => rfl
    | true =>
      have h2 : (∃ j, j < i ∧ gB x j = true) := ⟨j, hj, hx⟩
      have h3 := q.2
      rw [q.1, decide_eq_true h2] at h3
      exact absurd h3 (by decide)
  · rintro ⟨q1, q2⟩
    have h2 : ¬ (∃ j, j < i ∧ gB x j = true) := fun ⟨j, hj, hx⟩ => by rw [q2 j hj] at hx; exact absurd hx (by decide)
    rw [q1, decide_eq_false h2]; rfl
theorem lg0 {a b : Int64} : (lg_cmp a b = 0) ↔ a = b := by
  unfold lg_cmp
  by_cases h : b < a
  · rw [if_pos h]
    exact ⟨fun z => absurd z (by decide), fun z => by rw [z] at h; exact absurd h (Int64.lt_irrefl)⟩
  · rw [if_neg h]
    by_cases e : a = b
    · rw [if_pos e]; exact ⟨fun _ => e, fun _ => rfl⟩
    · rw [if_neg e]; exact ⟨fun z => absurd z (by decide), fun z => absurd z e⟩
/-- the lowest place where two sets differ -/
theorem low_ex {a b : Int64} (h : a ≠ b) : ∃ k, k < 64 ∧ gB a k ≠ gB b k ∧ ∀ j, j < k → gB a j = gB b j := by
  have h1 : ∃ k, k < 64 ∧ gB a k ≠ gB b k := by
    refine Classical.byContradiction (fun q => h (gB_ext (fun i hi => ?_)))
    exact Classical.byContradiction (fun z => q ⟨i, hi, z⟩)
  obtain ⟨k, hk, hne⟩ := h1
  induction k using Nat.strongRecOn with
  | ind k ih =>
    by_cases z : ∃ j, j < k ∧ gB a j ≠ gB b j
    · obtain ⟨j, hj, hjn⟩ := z
      exact ih j hj (by omega) hjn
    · exact ⟨k, hk, hne, fun j hj => Classical.byContradiction (fun y => z ⟨j, hj, y⟩)⟩
theorem mLess_iff {a b : Int64} : mLess a b = true ↔ ∃ k, k < 64 ∧ gB a k = false ∧ gB b k = true ∧ ∀ j, j < k → gB a j = gB b j := by
  have hx0 : ∀ {a b : Int64}, (a ^^^ b = 0) → a = b := fun {a b} h => gB_ext (fun i hi => by
    have := gB_xor a b i
    rw [h, gB_0] at this
    cases ha : gB a i <;> cases hb : gB b i <;> rw [ha, hb] at this <;> first | rfl | exact absurd this (by decide))
  unfold mLess
  constructor
  · intro h
    simp only [Bool.and_eq_true, Bool.not_eq_true', decide_eq_true_iff, decide_eq_false_iff_not, lg0] at h
    have hab : a ≠ b := fun z => h.2 (gB_ext (fun i hi => by rw [gB_xor, z, gB_0, Bool.xor_self]))
    obtain ⟨k, hk, hne, hlo⟩ := low_ex hab
    have hl : gB ((a ^^^ b) &&& -(a ^^^ b)) k = true := (gB_low _ hk).mpr ⟨by rw [gB_xor]; cases ha : gB a k <;> cases hb : gB b k <;> rw [ha, hb] at hne <;> first | rfl | exact absurd rfl hne, fun j hj => by rw [gB_xor, hlo j hj, Bool.xor_self]⟩
    have h2 : gB (a &&& ((a ^^^ b) &&& -(a ^^^ b))) k = false := by rw [h.1, gB_0]
    rw [gB_and, hl, Bool.and_true] at h2
    refine ⟨k, hk, h2, ?_, hlo⟩
    cases hb : gB b k with
    | true => rfl
    | false => rw [h2, hb] at hne; exact absurd rfl hne
  · rintro ⟨k, hk, ha, hb, hlo⟩
    simp only [Bool.and_eq_true, Bool.not_eq_true', decide_eq_true_iff, decide_eq_false_iff_not, lg0]
    constructor
    · refine gB_ext (fun i hi => ?_)
      rw [gB_0, gB_and]
      rcases Nat.lt_trichotomy i k with q | q | q
      · have : gB ((a ^^^ b) &&& -(a ^^^ b)) i = false := by
          rw [gB_and, gB_xor, hlo i q, Bool.xor_self, Bool.false_and]
        rw [this, Bool.and_false]
      · rw [q, ha, Bool.false_and]
      · have : gB ((a ^^^ b) &&& -(a ^^^ b)) i = false := by
          rw [Bool.eq_false_iff]
          intro z
          have := ((gB_low _ hi).mp z).2 k q
          rw [gB_xor, ha, hb] at this
          exact absurd this (by decide)
        rw [this, Bool.and_false]
    · intro z
      have := hx0 z
      rw [this, hb] at ha
      exact absurd ha (by decide)
def leS (a b : Int64) : Bool := !mLess b a
theorem mLess_tri (a b : Int64) : mLess a b = true ∨ a = b ∨ mLess b a = true := by
  by_cases h : a = b
  · exact Or.inr (Or.inl h)
  · obtain ⟨k, hk, hne, hlo⟩ := low_ex h
    cases ha : gB a k with
    | false =>
      refine Or.inl (mLess_iff.mpr ⟨k, hk, ha, ?_, hlo⟩)
      cases hb : gB b k with
      | true => rfl
      | false => rw [ha, hb] at hne; exact absurd rfl hne
    | true =>
      refine Or.inr (Or.inr (mLess_iff.mpr ⟨k, hk, ?_, ha, fun j hj => (hlo j hj).symm⟩))
      cases hb : gB b k with
      | false => rfl
      | true => rw [ha, hb] at hne; exact absurd rfl hne
theorem mLess_tr {a b c : Int64} (h1 : mLess a b = true) (h2 : mLess b c = true) : mLess a c = true := by
  obtain ⟨k, hk, p1, p2, p3⟩ := mLess_iff.mp h1
  obtain ⟨m, hm, q1, q2, q3⟩ := mLess_iff.mp h2
  rcases Nat.lt_trichotomy k m with z | z | z
  · exact mLess_iff.mpr ⟨k, hk, p1, by rw [← q3 k z]; exact p2, fun j hj => (p3 j hj).trans (q3 j (by omega))⟩
  · subst z; rw [p2] at q1; exact absurd q1 (by decide)
  · exact mLess_iff.mpr ⟨m, hm, by rw [p3 m z]; exact q1, q2, fun j hj => (p3 j (by omega)).trans (q3 j hj)⟩
theorem mLess_ir (a : Int64) : mLess a a = false := by
  rw [Bool.eq_false_iff]
  intro h
  obtain ⟨k, hk, p1, p2, _⟩ := mLess_iff.mp h
  rw [p1] at p2; exact absurd p2 (by decide)
theorem leS_tr (a b c : Int64) (h1 : leS a b = true) (h2 : leS b c = true) : leS a c = true := by
  unfold leS at *
  simp only [Bool.not_eq_true'] at *
  rw [Bool.eq_false_iff]
  intro h
  rcases mLess_tri a b with z | z | z
  · have := mLess_tr h z
    rw [h2] at this; exact absurd this (by decide)
  · rw [z] at h; rw [h2] at h; exact absurd h (by decide)
  · rw [h1] at z; exact absurd z (by decide)
theorem leS_tot (a b : Int64) : (leS a b || leS b a) = true := by
  unfold leS
  cases h1 : mLess a b with
  | false => simp
  | true =>
    have : mLess b a = false := by
      rw [Bool.eq_false_iff]
      intro z
      have := mLess_tr h1 z
      rw [mLess_ir] at this; exact absurd this (by decide)
    rw [this]; rfl
def slc (L : List Int64) (i j : Nat) : List Int64 := (L.drop i).take (j - i)
theorem slc_nil {L : List Int64} {i j : Nat} (h : j ≤ i) : slc L i j = [] := by unfold slc; rw [show j - i = 0 by omega, List.take_zero]
theorem slc_cons {L : List Int64} {i j : Nat} {v : Int64} (h : i < j) (hv : L[i]? = some v) : slc L i j = v :: slc L (i + 1) j := by
  unfold slc
  have hi := (List.getElem?_eq_some_iff.mp hv).1
  have hg := (List.getElem?_eq_some_iff.mp hv).2
  rw [show j - i = (j - (i + 1)) + 1 by omega, List.drop_eq_getElem_cons hi, List.take_succ_cons, hg]
def BS (s : Nat) (L : List Int64) : Prop := ∀ q, ((L.drop (q * s)).take s).Pairwise (fun a b => leS a b = true)
theorem BS_one {L : List Int64} : BS 1 L := by
  intro q
  match L.drop (q * 1) with
  | [] => exact List.Pairwise.nil
  | a :: _ => exact List.pairwise_singleton _ _
theorem BS_all {s : Nat} {L : List Int64} (h : BS s L) (hs : L.length ≤ s) : L.Pairwise (fun a b => leS a b = true) := by
  have := h 0
  rw [Nat.zero_mul, List.drop_zero, List.take_of_length_le hs] at this
  exact this
theorem BS_app {s t : Nat} {O M : List Int64} (hs : 0 < s) (h : BS s O) (hO : O.length = t * s) (hM : M.Pairwise (fun a b => leS a b = true)) (hl : M.length ≤ s) : BS s (O ++ M) := by
  intro q
  rcases Nat.lt_or_ge q t with z | z
  · have h1 : q * s + s ≤ t * s := by
      have := Nat.mul_le_mul_right s (show q + 1 ≤ t from z)
      rw [Nat.succ_mul] at this
      exact this
    rw [List.drop_append, List.take_append, show s - (O.drop (q * s)).length = 0 by rw [List.length_drop]; omega, List.take_zero, List.append_nil]
    exact h q
  · have h1 : t * s ≤ q * s := Nat.mul_le_mul_right s z
    rw [List.drop_append, List.drop_eq_nil_of_le (by omega), List.nil_append]
    exact (hM.sublist (List.drop_sublist _ _)).sublist (List.take_sublist _ _)
theorem slc_sorted {s q : Nat} {L : List Int64} {i j : Nat} (h : BS s L) (hi : i = q * s) (hj : j ≤ i + s) : (slc L i j).Pairwise (fun a b => leS a b = true) := by
  unfold slc
  subst hi
  have h1 := h q
  have h2 : (L.drop (q * s)).take (j - q * s) = ((L.drop (q * s)).take s).take (j - q * s) := by rw [List.take_take, Nat.min_eq_left (by omega)]
  rw [h2]
  exact h1.sublist (List.take_sublist _ _)
theorem slc_len {L : List Int64} {i j : Nat} (h : j ≤ L.length) : (slc L i j).length = j - i := by
  unfold slc; rw [List.length_take, List.length_drop]; omega
theorem slc_take {L : List Int64} {i j : Nat} (h : i ≤ j) : L.take i ++ slc L i j = L.take j := by
  unfold slc
  rw [show j = i + (j - i) by omega, List.take_add, Nat.add_sub_cancel_left]
theorem slc_app {L : List Int64} {i j k : Nat} (h1 : i ≤ j) (h2 : j ≤ k) : slc L i j ++ slc L j k = slc L i k := by
  have h3 := slc_take (L := L) h1
  have h4 := slc_take (L := L) h2
  have h5 := slc_take (L := L) (Nat.le_trans h1 h2)
  rw [← h3, List.append_assoc, ← h5] at h4
  exact List.append_cancel_left h4
