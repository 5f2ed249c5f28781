/-! RUNS AS SETS OF EDGES, AND THEIR ORDER -/
def XS (s : List Nat) (j : Nat) : Bool := ((s[j / 2]?).getD 0).testBit (j % 2)
def RO (nx : Nat → Int32 → Nat → Int32) (isw : Int32 → Bool) (ok : Nat → Nat → Bool) : List Nat → Nat → Int32 → Prop
  | [], _, code => isw code = true
  | c :: s, p, code => c < 4 ∧ ok p c = true ∧ nx p code c ≠ -1 ∧ RO nx isw ok s (p + 1) (nx p code c)
theorem mem_AL {nx : Nat → Int32 → Nat → Int32} {isw : Int32 → Bool} {ok : Nat → Nat → Bool} : ∀ {k p : Nat} {code : Int32} {s : List Nat}, s ∈ AL nx isw ok k p code ↔ s.length = k ∧ RO nx isw ok s p code
  | 0, p, code, s => by
    unfold AL
    by_cases z : isw code = true
    · rw [if_pos z, List.mem_singleton]
      constructor
      · intro h; rw [h]; exact ⟨rfl, z⟩
      · rintro ⟨h, _⟩; exact List.length_eq_zero_iff.mp h
    · rw [if_neg z]
      constructor
      · intro h; exact absurd h List.not_mem_nil
      · rintro ⟨h, h2⟩
        rw [List.length_eq_zero_iff.mp h] at h2
        exact absurd h2 z
  | k + 1, p, code, s => by
    have key : ∀ c, s ∈ AL1 nx isw ok k p code c ↔ ∃ t, s = c :: t ∧ ok p c = true ∧ nx p code c ≠ -1 ∧ t.length = k ∧ RO nx isw ok t (p + 1) (nx p code c) := by
      intro c
      unfold AL1
      by_cases z : ok p c = true ∧ nx p code c ≠ -1
      · rw [if_pos z, List.mem_map]
        constructor
        · rintro ⟨t, ht, he⟩
          have := mem_AL.mp ht
          exact ⟨t, he.symm, z.1, z.2, this.1, this.2⟩
        · rintro ⟨t, he, _, _, h1, h2⟩
          exact ⟨t, mem_AL.mpr ⟨h1, h2⟩, he.symm⟩
      · rw [if_neg z]
        constructor
        · intro h; exact absurd h List.not_mem_nil
        · rintro ⟨t, _, h1, h2, _⟩; exact absurd ⟨h1, h2⟩ z
    rw [AL_s, List.mem_append, List.mem_append, List.mem_append, key, key, key, key]
    constructor
    · intro h
      have h2 : ∃ c, c < 4 ∧ ∃ t, s = c :: t ∧ ok p c = true ∧ nx p code c ≠ -1 ∧ t.length = k ∧ RO nx isw ok t (p + 1) (nx p code c) := by
        rcases h with h | h | h | h
        · exact ⟨0, by decide, h⟩
        · exact ⟨1, by decide, h⟩
        · exact ⟨2, by decide, h⟩
        · exact ⟨3, by decide, h⟩
      obtain ⟨c, hc, t, he, h3, h4, h5, h6⟩ := h2
      rw [he]
      exact ⟨by rw [List.length_cons, h5], hc, h3, h4, h6⟩
    · rintro ⟨h1, h2⟩
      cases s with
      | nil => exact absurd h1 (by simp)
      | cons c t =>
        obtain ⟨hc, h3, h4, h5⟩ := h2
        have h6 : t.length = k := by rw [List.length_cons] at h1; omega
        rcases (show c = 0 ∨ c = 1 ∨ c = 2 ∨ c = 3 by omega) with z | z | z | z
        · subst z; exact Or.inl ⟨t, rfl, h3, h4, h6, h5⟩
        · subst z; exact Or.inr (Or.inl ⟨t, rfl, h3, h4, h6, h5⟩)
        · subst z; exact Or.inr (Or.inr (Or.inl ⟨t, rfl, h3, h4, h6, h5⟩))
        · subst z; exact Or.inr (Or.inr (Or.inr ⟨t, rfl, h3, h4, h6, h5⟩))
theorem RO_lt {nx : Nat → Int32 → Nat → Int32} {isw : Int32 → Bool} {ok : Nat → Nat → Bool} : ∀ {s : List Nat} {p : Nat} {code : Int32}, RO nx isw ok s p code → ∀ (q c : Nat), s[q]? = some c → c < 4 ∧ ok (p + q) c = true
  | [], _, _, _, q, c, h => by simp at h
  | a :: s, p, code, hr, q, c, h => by
    cases q with
    | zero =>
      rw [List.getElem?_cons_zero] at h
      rw [← Option.some.inj h]
      exact ⟨hr.1, hr.2.1⟩
    | succ q =>
      rw [List.getElem?_cons_succ] at h
      have := RO_lt hr.2.2.2 q c h
      rw [show p + (q + 1) = p + 1 + q by omega]
      exact this
def lxL : List Nat → List Nat → Prop
  | a :: s, b :: t => a < b ∨ (a = b ∧ lxL s t)
  | _, _ => False
theorem AL_lex (nx : Nat → Int32 → Nat → Int32) (isw : Int32 → Bool) (ok : Nat → Nat → Bool) : ∀ (k p : Nat) (code : Int32), (AL nx isw ok k p code).Pairwise lxL
  | 0, p, code => by
    unfold AL
    by_cases z : isw code = true
    · rw [if_pos z]; exact List.pairwise_singleton _ _
    · rw [if_neg z]; exact List.Pairwise.nil
  | k + 1, p, code => by
    have h1 : ∀ c, (AL1 nx isw ok k p code c).Pairwise lxL := by
      intro c
      unfold AL1
      by_cases z : ok p c = true ∧ nx p code c ≠ -1
      · rw [if_pos z, List.pairwise_map]
        exact (AL_lex nx isw ok k _ _).imp (fun h => Or.inr ⟨rfl, h⟩)
      · rw [if_neg z]; exact List.Pairwise.nil
    have h2 : ∀ c s, s ∈ AL1 nx isw ok k p code c → ∃ t, s = c :: t := by
      intro c s hs
      unfold AL1 at hs
      by_cases z : ok p c = true ∧ nx p code c ≠ -1
      · rw [if_pos z, List.mem_map] at hs
        obtain ⟨t, _, he⟩ := hs
        exact ⟨t, he.symm⟩
      · rw [if_neg z] at hs; exact absurd hs List.not_mem_nil
    have h3 : ∀ c d, c < d → ∀ s, s ∈ AL1 nx isw ok k p code c → ∀ t, t ∈ AL1 nx isw ok k p code d → lxL s t := by
      intro c d hcd s hs t ht
      obtain ⟨u, hu⟩ := h2 c s hs
      obtain ⟨v, hv⟩ := h2 d t ht
      rw [hu, hv]
      exact Or.inl hcd
    rw [AL_s, List.pairwise_append, List.pairwise_append, List.pairwise_append]
    refine ⟨h1 0, ⟨h1 1, ⟨h1 2, h1 3, h3 2 3 (by decide)⟩, ?_⟩, ?_⟩
    · intro s hs t ht
      rcases List.mem_append.mp ht with q | q
      · exact h3 1 2 (by decide) s hs t q
      · exact h3 1 3 (by decide) s hs t q
    · intro s hs t ht
      rcases List.mem_append.mp ht with q | q
      · exact h3 0 1 (by decide) s hs t q
      · rcases List.mem_append.mp q with q | q
        · exact h3 0 2 (by decide) s hs t q
        · exact h3 0 3 (by decide) s hs t q
theorem lx_first : ∀ {s t : List Nat}, lxL s t → ∃ (p a b : Nat), s[p]? = some a ∧ t[p]? = some b ∧ a < b ∧ ∀ q, q < p → s[q]? = t[q]?
  | a :: s, b :: t, h => by
    rcases h with h | ⟨h1, h2⟩
    · exact ⟨0, a, b, rfl, rfl, h, fun q hq => absurd hq (Nat.not_lt_zero _)⟩
    · obtain ⟨p, x, y, e1, e2, e3, e4⟩ := lx_first h2
      refine ⟨p + 1, x, y, e1, e2, e3, fun q hq => ?_⟩
      cases q with
      | zero => rw [List.getElem?_cons_zero, List.getElem?_cons_zero, h1]
      | succ q => rw [List.getElem?_cons_succ, List.getElem?_cons_succ]; exact e4 q (by omega)
  | [], [], h => absurd h (fun z => z)
  | [], _ :: _, h => absurd h (fun z => z)
  | _ :: _, [], h => absurd h (fun z => z)
/-- a set of slots as a set of edges' numbers -/
def phR (X : Nat → Bool) : List Nat → Nat → Int64
  | [], _ => 0
  | s :: l, e => (if X s = true then bitL e else 0) ||| phR X l (e + 1)
def phS (sl : List Nat) (X : Nat → Bool) : Int64 := phR X sl 0
theorem gB_phR {X : Nat → Bool} : ∀ {l : List Nat} {e i : Nat}, e + l.length ≤ 64 → gB (phR X l e) i = (decide (e ≤ i) && (match l[i - e]? with | some s => X s | none => false))
  | [], e, i, _ => by
    show gB 0 i = _
    rw [gB_0]
    simp
  | s :: l, e, i, h => by
    rw [List.length_cons] at h
    have ih := gB_phR (X := X) (l := l) (e := e + 1) (i := i) (by omega)
    show gB ((if X s = true then bitL e else 0) ||| phR X l (e + 1)) i = _
    have h1 : gB (if X s = true then bitL e else 0) i = (decide (i = e) && X s) := by
      by_cases z : X s = true
      · rw [if_pos z, gB_bitL (by omega), z, Bool.and_true]
      · rw [if_neg z, gB_0, Bool.eq_false_iff.mpr z, Bool.and_false]
    rw [gB_or, h1, ih]
    rcases Nat.lt_trichotomy i e with z | z | z
    · rw [decide_eq_false (show ¬ i = e by omega), decide_eq_false (show ¬ e + 1 ≤ i by omega), decide_eq_false (show ¬ e ≤ i by omega)]; rfl
    · rw [decide_eq_true z, decide_eq_false (show ¬ e + 1 ≤ i by omega), decide_eq_true (show e ≤ i by omega), show i - e = 0 by omega]
      simp
    · rw [decide_eq_false (show ¬ i = e by omega), decide_eq_true (show e + 1 ≤ i by omega), decide_eq_true (show e ≤ i by omega), show i - e = (i - (e + 1)) + 1 by omega, List.getElem?_cons_succ]
      simp
theorem gB_phS {X : Nat → Bool} {sl : List Nat} (h : sl.length ≤ 64) (i : Nat) : gB (phS sl X) i = (match sl[i]? with | some s => X s | none => false) := by
  unfold phS
  rw [gB_phR (by omega), decide_eq_true (Nat.zero_le _), Nat.sub_zero, Bool.true_and]
theorem lex_less {ef : Nat → Bool} {P : Nat} {s t : List Nat} (hP : P ≤ 25) (ht4 : ∀ (q c : Nat), t[q]? = some c → c < 4) (htl : t.length = P) (hef : ∀ j, j / 2 < P → XS t j = true → ef j = true) (h : lxL s t) : mLess (phS (SL ef P) (XS s)) (phS (SL ef P) (XS t)) = true := by
  obtain ⟨p, a, b, e1, e2, e3, e4⟩ := lx_first h
  have hb4 := ht4 p b e2
  have hpP : p < P := by have := (List.getElem?_eq_some_iff.mp e2).1; omega
  have hl := SL_len ef P
  have hl2 : (SL ef P).length ≤ 64 := by omega
  have hbit : (a.testBit 1 = false ∧ b.testBit 1 = true) ∨ (a.testBit 1 = b.testBit 1 ∧ a.testBit 0 = false ∧ b.testBit 0 = true) := by
    have key : ∀ b, b < 4 → ∀ a, a < b → (a.testBit 1 = false ∧ b.testBit 1 = true) ∨ (a.testBit 1 = b.testBit 1 ∧ a.testBit 0 = false ∧ b.testBit 0 = true) := by decide
    exact key b hb4 a e3
  have hX : ∀ j, j / 2 < p → XS s j = XS t j := by
    intro j hj
    unfold XS
    rw [e4 _ hj]
  have hXs : ∀ j, j / 2 = p → XS s j = a.testBit (j % 2) := by intro j hj; unfold XS; rw [hj, e1]; rfl
  have hXt : ∀ j, j / 2 = p → XS t j = b.testBit (j % 2) := by intro j hj; unfold XS; rw [hj, e2]; rfl
  have main : ∀ j, j / 2 = p → XS s j = false → XS t j = true → (∀ i, i / 2 = p → rkS i < rkS j → XS s i = XS t i) → mLess (phS (SL ef P) (XS s)) (phS (SL ef P) (XS t)) = true := by
    intro j hj hs1 ht1 hlow
    have hm : j ∈ SL ef P := mem_SL.mpr ⟨by omega, hef j (by omega) ht1⟩
    obtain ⟨e, he⟩ := List.getElem?_of_mem hm
    have hel := (List.getElem?_eq_some_iff.mp he).1
    refine mLess_iff.mpr ⟨e, by omega, ?_, ?_, ?_⟩
    · rw [gB_phS hl2, he]; exact hs1
    · rw [gB_phS hl2, he]; exact ht1
    · intro i hi
      rw [gB_phS hl2, gB_phS hl2]
      obtain ⟨x, hx⟩ : ∃ x, (SL ef P)[i]? = some x := ⟨_, List.getElem?_eq_getElem (show i < (SL ef P).length by omega)⟩
      rw [hx]
      have hord : rkS x < rkS j := by
        have h1 := List.pairwise_iff_getElem.mp (SL_sorted ef P) i e (by omega) hel hi
        rw [(List.getElem?_eq_some_iff.mp hx).2, (List.getElem?_eq_some_iff.mp he).2] at h1
        exact h1
      show XS s x = XS t x
      by_cases z : x / 2 = p
      · exact hlow x z hord
      · exact hX x (by unfold rkS at hord; omega)
  rcases hbit with ⟨z1, z2⟩ | ⟨z1, z2, z3⟩
  · refine main (2 * p + 1) (by omega) ?_ ?_ ?_
    · rw [hXs _ (by omega), show (2 * p + 1) % 2 = 1 by omega, z1]
    · rw [hXt _ (by omega), show (2 * p + 1) % 2 = 1 by omega, z2]
    · intro i hi hr; unfold rkS at hr; omega
  · refine main (2 * p) (by omega) ?_ ?_ ?_
    · rw [hXs _ (by omega), show (2 * p) % 2 = 0 by omega, z2]
    · rw [hXt _ (by omega), show (2 * p) % 2 = 0 by omega, z3]
    · intro i hi hr
      have : i = 2 * p + 1 := by unfold rkS at hr; omega
      rw [hXs i hi, hXt i hi, this, show (2 * p + 1) % 2 = 1 by omega, z1]
theorem srt_eq : ∀ {L M : List Int64}, L.Pairwise (fun a b => mLess a b = true) → M.Pairwise (fun a b => mLess a b = true) → (∀ x, x ∈ L ↔ x ∈ M) → L = M
  | [], [], _, _, _ => rfl
  | [], b :: M, _, _, h => absurd ((h b).mpr List.mem_cons_self) List.not_mem_nil
  | a :: L, [], _, _, h => absurd ((h a).mp List.mem_cons_self) List.not_mem_nil
  | a :: L, b :: M, hL, hM, h => by
    have hL2 := List.pairwise_cons.mp hL
    have hM2 := List.pairwise_cons.mp hM
    have nn : ∀ x y : Int64, mLess x y = true → mLess y x = true → False := fun x y h1 h2 => by
      have := mLess_tr h1 h2
      rw [mLess_ir] at this
      exact absurd this (by decide)
    have hab : a = b := by
      rcases List.mem_cons.mp ((h a).mp List.mem_cons_self) with q | q
      · exact q
      · rcases List.mem_cons.mp ((h b).mpr List.mem_cons_self) with r | r
        · exact r.symm
        · exact absurd (hL2.1 b r) (fun z => nn a b z (hM2.1 a q))
    subst hab
    have hLM : L = M := srt_eq hL2.2 hM2.2 (fun x => by
      constructor
      · intro hx
        rcases List.mem_cons.mp ((h x).mp (List.mem_cons_of_mem a hx)) with q | q
        · rw [q] at hx; exact absurd (hL2.1 a hx) (by rw [mLess_ir]; decide)
        · exact q
      · intro hx
        rcases List.mem_cons.mp ((h x).mpr (List.mem_cons_of_mem a hx)) with q | q
        · rw [q] at hx; exact absurd (hM2.1 a hx) (by rw [mLess_ir]; decide)
        · exact q)
    rw [hLM]
theorem strict_of {L : List Int64} (h1 : L.Pairwise (fun a b => leS a b = true)) (h2 : L.Nodup) : L.Pairwise (fun a b => mLess a b = true) := by
  refine (List.Pairwise.and h1 h2).imp (fun {a b} h => ?_)
  rcases mLess_tri a b with z | z | z
  · exact z
  · exact absurd z h.2
  · have := h.1
    unfold leS at this
    rw [z] at this
    exact absurd this (by decide)
/-- the listed ways, sorted and sieved, are the table's runs -/
theorem list_is {nx : Nat → Int32 → Nat → Int32} {isw : Int32 → Bool} {ok : Nat → Nat → Bool} {first : Int32} {ef : Nat → Bool} {P : Nat} {T L : List Int64} {al : Int64 → Bool} (hP : P ≤ 25) (hef : ∀ s, s ∈ AL nx isw ok P 0 first → ∀ j, j / 2 < P → XS s j = true → ef j = true) (hN : T.Nodup) (hp : L.Perm T) (hs : L.Pairwise (fun a b => leS a b = true)) (hM : ∀ S : Int64, (S ∈ T ∧ al S = true) ↔ ∃ s, s ∈ AL nx isw ok P 0 first ∧ phS (SL ef P) (XS s) = S) : L.filter al = (AL nx isw ok P 0 first).map (fun s => phS (SL ef P) (XS s)) := by
  refine srt_eq ?_ ?_ ?_
  · exact (strict_of hs (hp.nodup_iff.mpr hN)).sublist List.filter_sublist
  · rw [List.pairwise_map]
    refine List.Pairwise.imp_of_mem ?_ (AL_lex nx isw ok P 0 first)
    intro s t hs1 ht1 hlt
    have ht2 := mem_AL.mp ht1
    exact lex_less hP (fun q c hq => (RO_lt ht2.2 q c hq).1) ht2.1 (hef t ht1) hlt
  · intro S
    rw [List.mem_filter, hp.mem_iff, hM S, List.mem_map]
