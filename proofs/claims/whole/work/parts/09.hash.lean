/-! THE TABLE OF CODES OF ONE LAYER: open addressing over 512 buckets, said over natural numbers -/
theorem pigeon : ∀ (n m : Nat) (f : Nat → Nat), (∀ i, i < n → f i < m) → (∀ i j, i < n → j < n → f i = f j → i = j) → n ≤ m
  | 0, _, _, _, _ => Nat.zero_le _
  | n + 1, m, f, hb, hi => by
    have hm : 0 < m := Nat.lt_of_le_of_lt (Nat.zero_le _) (hb n (Nat.lt_succ_self n))
    have h := pigeon n (m - 1) (fun i => if f i < f n then f i else f i - 1) (fun i hin => by
      have h1 := hb i (by omega)
      have h2 := hb n (by omega)
      have h3 : f i ≠ f n := fun q => by have := hi i n (by omega) (by omega) q; omega
      show (if f i < f n then f i else f i - 1) < m - 1
      by_cases c : f i < f n
      · rw [if_pos c]; omega
      · rw [if_neg c]; omega) (fun i j hin hjn h => by
      have h3 : f i ≠ f n := fun q => by have := hi i n (by omega) (by omega) q; omega
      have h4 : f j ≠ f n := fun q => by have := hi j n (by omega) (by omega) q; omega
      have h' : (if f i < f n then f i else f i - 1) = (if f j < f n then f j else f j - 1) := h
      refine hi i j (by omega) (by omega) ?_
      by_cases c : f i < f n
      · rw [if_pos c] at h'
        by_cases d : f j < f n
        · rw [if_pos d] at h'; exact h'
        · rw [if_neg d] at h'; omega
      · rw [if_neg c] at h'
        by_cases d : f j < f n
        · rw [if_pos d] at h'; omega
        · rw [if_neg d] at h'; omega)
    omega
/-- the place of a code in a list, or its length -/
def ixOf (x : Int32) : List Int32 → Nat
  | [] => 0
  | a :: l => if a = x then 0 else ixOf x l + 1
theorem ixOf_le (x : Int32) : ∀ l : List Int32, ixOf x l ≤ l.length
  | [] => Nat.le_refl _
  | a :: l => by
    unfold ixOf
    by_cases c : a = x
    · rw [if_pos c]; exact Nat.zero_le _
    · rw [if_neg c]; exact Nat.succ_le_succ (ixOf_le x l)
theorem ixOf_get {x : Int32} : ∀ {l : List Int32}, ixOf x l < l.length → l[ixOf x l]? = some x
  | [], h => absurd h (Nat.lt_irrefl _)
  | a :: l, h => by
    unfold ixOf at h ⊢
    by_cases c : a = x
    · rw [if_pos c, c]; rfl
    · rw [if_neg c] at h ⊢
      rw [List.getElem?_cons_succ]
      exact ixOf_get (Nat.lt_of_succ_lt_succ h)
theorem ixOf_none {x : Int32} : ∀ {l : List Int32}, (∀ i : Nat, l[i]? ≠ some x) → ixOf x l = l.length
  | [], _ => rfl
  | a :: l, h => by
    unfold ixOf
    rw [if_neg (fun q => h 0 (by rw [q]; rfl)), ixOf_none (fun i => by have := h (i + 1); rwa [List.getElem?_cons_succ] at this)]
    rfl
def ndup (l : List Int32) : Prop := ∀ (i j : Nat) (x : Int32), l[i]? = some x → l[j]? = some x → i = j
theorem ixOf_eq {x : Int32} {l : List Int32} (hn : ndup l) {i : Nat} (h : l[i]? = some x) : ixOf x l = i := by
  have h1 : ixOf x l < l.length := by
    rcases Nat.lt_or_ge (ixOf x l) l.length with q | q
    · exact q
    · exfalso
      have h2 : ∀ (l : List Int32) (i : Nat), l[i]? = some x → ixOf x l < l.length := by
        intro l
        induction l with
        | nil => intro i h; simp at h
        | cons a l ih =>
          intro i h
          unfold ixOf
          by_cases c : a = x
          · rw [if_pos c]; exact Nat.succ_pos _
          · rw [if_neg c]
            cases i with
            | zero => rw [List.getElem?_cons_zero] at h; exact absurd (Option.some.inj h) c
            | succ i => rw [List.getElem?_cons_succ] at h; exact Nat.succ_lt_succ (ih i h)
      have := h2 l i h
      omega
  exact hn _ _ x (ixOf_get h1) h
def insF (mo : Nat) (cs : List Int32) (x : Int32) : Nat × List Int32 := if ixOf x cs < cs.length then (ixOf x cs, cs) else if cs.length < mo then (cs.length, cs ++ [x]) else (255, cs)
def hB (x : Int32) : Nat := (x * (-1640531535)).toBitVec.toNat / 2 ^ 23
theorem hB_lt (x : Int32) : hB x < 512 := by
  unfold hB
  have h := (x * (-1640531535)).toBitVec.isLt
  exact (Nat.div_lt_iff_lt_mul (by decide)).mpr (Nat.lt_of_lt_of_le h (by decide))
theorem jushr_hB (x : Int32) : jushr (x * (-1640531535)) 23 = nI (hB x) := by
  have h := pk_ushr (x * (-1640531535)) 23 23 (by decide)
  have h2 : (jushr (x * (-1640531535)) 23).toBitVec.toNat = hB x := h
  apply Int32.toBitVec_inj.mp
  apply BitVec.eq_of_toNat_eq
  rw [h2, pk_tn (Nat.lt_trans (hB_lt x) (by decide))]
theorem jushr8 {k : Nat} (h : k < 2 ^ 32) : jushr (nI k) 8 = nI (k / 256) := pk_ushrN h 8 8 (by decide)
theorem and255 {k : Nat} (h : k < 2 ^ 32) : nI k &&& 255 = nI (k % 256) := pk_andN h 8 (by decide)
/-- a layer L's buckets kv and its codes cs -/
def HInv (L : Nat) (kv : Nat → Nat) (cs : List Int32) : Prop :=
  (∀ b, b < 512 → kv b < 256 * (L + 1)) ∧ (∀ b, b < 512 → kv b / 256 = L → kv b % 256 < cs.length) ∧ (∀ b b', b < 512 → b' < 512 → kv b / 256 = L → kv b = kv b' → b = b') ∧
  (∀ (i : Nat) (x : Int32), cs[i]? = some x → ∃ d, d < 512 ∧ kv ((hB x + d) % 512) = 256 * L + i ∧ ∀ t, t < d → kv ((hB x + t) % 512) / 256 = L) ∧ ndup cs
/-- the search, so far: tagged buckets alone, of other codes -/
def HSeen (L : Nat) (kv : Nat → Nat) (cs : List Int32) (x : Int32) (t : Nat) : Prop := ∀ u, u < t → kv ((hB x + u) % 512) / 256 = L ∧ cs[kv ((hB x + u) % 512) % 256]? ≠ some x
theorem HInv.absent {L : Nat} {kv : Nat → Nat} {cs : List Int32} {x : Int32} {t : Nat} (h : HInv L kv cs) (hs : HSeen L kv cs x t) (hl : cs.length ≤ 255) (ht : kv ((hB x + t) % 512) / 256 ≠ L) : ∀ i : Nat, cs[i]? ≠ some x := by
  intro i hi
  obtain ⟨d, hd, h1, h2⟩ := h.2.2.2.1 i x hi
  have hil : i < cs.length := (List.getElem?_eq_some_iff.mp hi).1
  rcases Nat.lt_trichotomy t d with q | q | q
  · exact ht (h2 t q)
  · subst q
    exact ht (by rw [h1]; omega)
  · obtain ⟨-, h4⟩ := hs d q
    rw [h1] at h4
    have e : (256 * L + i) % 256 = i := by omega
    rw [e] at h4
    exact h4 hi
theorem HInv.full {L : Nat} {kv : Nat → Nat} {cs : List Int32} {x : Int32} (h : HInv L kv cs) (hs : HSeen L kv cs x 512) (hl : cs.length ≤ 255) : False := by
  have h0 : ∀ b, b < 512 → kv b / 256 = L := by
    intro b hb
    have hx := hB_lt x
    obtain ⟨u, hu, e⟩ : ∃ u, u < 512 ∧ (hB x + u) % 512 = b := by
      rcases Nat.lt_or_ge b (hB x) with q | q
      · exact ⟨b + 512 - hB x, by omega, by omega⟩
      · exact ⟨b - hB x, by omega, by omega⟩
    rw [← e]
    exact (hs u hu).1
  have h1 := pigeon 512 cs.length (fun b => kv b % 256) (fun b hb => h.2.1 b hb (h0 b hb)) (fun i j hi hj e => by
    have e' : kv i % 256 = kv j % 256 := e
    refine h.2.2.1 i j hi hj (h0 i hi) ?_
    have h3 := h0 i hi
    have h4 := h0 j hj
    omega)
  omega
theorem HInv.add {L : Nat} {kv : Nat → Nat} {cs : List Int32} {x : Int32} {t : Nat} (h : HInv L kv cs) (hs : HSeen L kv cs x t) (ht5 : t < 512) (hl : cs.length < 255) (ht : kv ((hB x + t) % 512) / 256 ≠ L) :
    HInv L (fun b => if b = (hB x + t) % 512 then 256 * L + cs.length else kv b) (cs ++ [x]) := by
  have hab := h.absent hs (by omega) ht
  obtain ⟨h1, h2, h3, h4, h5⟩ := h
  refine ⟨fun b hb => ?_, fun b hb e => ?_, fun b b' hb hb' e e2 => ?_, fun i y hi => ?_, fun i j y hi hj => ?_⟩
  · show (if b = (hB x + t) % 512 then 256 * L + cs.length else kv b) < _
    by_cases c : b = (hB x + t) % 512
    · rw [if_pos c]; omega
    · rw [if_neg c]; exact h1 b hb
  · have e' : (if b = (hB x + t) % 512 then 256 * L + cs.length else kv b) / 256 = L := e
    show (if b = (hB x + t) % 512 then 256 * L + cs.length else kv b) % 256 < _
    rw [List.length_append, List.length_singleton]
    by_cases c : b = (hB x + t) % 512
    · rw [if_pos c]; omega
    · rw [if_neg c] at e' ⊢
      have := h2 b hb e'
      omega
  · have e' : (if b = (hB x + t) % 512 then 256 * L + cs.length else kv b) / 256 = L := e
    have e2' : (if b = (hB x + t) % 512 then 256 * L + cs.length else kv b) = (if b' = (hB x + t) % 512 then 256 * L + cs.length else kv b') := e2
    by_cases c : b = (hB x + t) % 512
    · by_cases c' : b' = (hB x + t) % 512
      · rw [c, c']
      · rw [if_pos c, if_neg c'] at e2'
        have h6 : kv b' / 256 = L := by rw [← e2']; omega
        have := h2 b' hb' h6
        rw [← e2'] at this
        omega
    · rw [if_neg c] at e' e2'
      by_cases c' : b' = (hB x + t) % 512
      · rw [if_pos c'] at e2'
        have := h2 b hb e'
        rw [e2'] at this
        omega
      · rw [if_neg c'] at e2'
        exact h3 b b' hb hb' e' e2'
  · rcases Nat.lt_trichotomy i cs.length with q | q | q
    · rw [List.getElem?_append_left q] at hi
      obtain ⟨d, hd, g1, g2⟩ := h4 i y hi
      have hne : ∀ u, kv ((hB y + u) % 512) / 256 = L → (hB y + u) % 512 ≠ (hB x + t) % 512 := fun u hu z => ht (by rw [← z]; exact hu)
      have gd : kv ((hB y + d) % 512) / 256 = L := by rw [g1]; omega
      refine ⟨d, hd, ?_, fun u hu => ?_⟩
      · show (if (hB y + d) % 512 = (hB x + t) % 512 then 256 * L + cs.length else kv ((hB y + d) % 512)) = _
        rw [if_neg (hne d gd)]; exact g1
      · show (if (hB y + u) % 512 = (hB x + t) % 512 then 256 * L + cs.length else kv ((hB y + u) % 512)) / 256 = L
        rw [if_neg (hne u (g2 u hu))]; exact g2 u hu
    · subst q
      rw [List.getElem?_append_right (Nat.le_refl _), Nat.sub_self] at hi
      have e : x = y := Option.some.inj hi
      subst e
      refine ⟨t, ht5, if_pos rfl, fun u hu => ?_⟩
      show (if (hB x + u) % 512 = (hB x + t) % 512 then 256 * L + cs.length else kv ((hB x + u) % 512)) / 256 = L
      by_cases c : (hB x + u) % 512 = (hB x + t) % 512
      · rw [if_pos c]; omega
      · rw [if_neg c]; exact (hs u hu).1
    · rw [List.getElem?_append_right (by omega)] at hi
      have : i - cs.length < 1 := (List.getElem?_eq_some_iff.mp hi).1
      omega
  · have key : ∀ i : Nat, (cs ++ [x])[i]? = some y → (i < cs.length ∧ cs[i]? = some y) ∨ (i = cs.length ∧ x = y) := by
      intro i hi
      rcases Nat.lt_trichotomy i cs.length with q | q | q
      · rw [List.getElem?_append_left q] at hi; exact Or.inl ⟨q, hi⟩
      · subst q
        rw [List.getElem?_append_right (Nat.le_refl _), Nat.sub_self] at hi
        exact Or.inr ⟨rfl, Option.some.inj hi⟩
      · rw [List.getElem?_append_right (by omega)] at hi
        have : i - cs.length < 1 := (List.getElem?_eq_some_iff.mp hi).1
        omega
    rcases key i hi with ⟨-, q1⟩ | ⟨q1, q2⟩ <;> rcases key j hj with ⟨-, p1⟩ | ⟨p1, p2⟩
    · exact h5 i j y q1 p1
    · exact absurd (by rw [p2]; exact q1) (hab i)
    · exact absurd (by rw [q2]; exact p1) (hab j)
    · omega
theorem HInv.new {L : Nat} {kv : Nat → Nat} (h : ∀ b, b < 512 → kv b < 256 * L) : HInv L kv [] := by
  refine ⟨fun b hb => by have := h b hb; omega, fun b hb e => ?_, fun b b' hb _ e => ?_, fun i x hi => by simp at hi, fun i j x hi => by simp at hi⟩
  · have := h b hb; omega
  · have := h b hb; omega
