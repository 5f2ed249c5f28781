/-! LINES: the reference's loops -/
def LSt (el : List (Nat × Nat)) (p0 a : Nat) (vs : List Nat) (p : Nat) (set : Int64) : Prop := WSt el vs p set ∧ p0 ∈ vs ∧ p ≠ p0 ∧ vs[1]? = some a ∧ (vs.length ≤ 2 → p = a) ∧ (∀ v, v ∈ vs → p0 ≤ v) ∧ ∀ i b, gB set i = true → Jn el i b p0 → b = a
theorem Jn_two {el : List (Nat × Nat)} {e p q a b : Nat} (h : Jn el e p q) (h' : Jn el e a b) : (a = p ∧ b = q) ∨ (a = q ∧ b = p) := by
  rcases h' with h2 | h2 <;> rcases h with g | g <;> rw [h2] at g <;> simp only [Option.some.injEq, Prod.mk.injEq] at g <;> omega
theorem LSt_s {el : List (Nat × Nat)} (hE : El25 el) {p0 a : Nat} {vs : List Nat} {p q e : Nat} {set : Int64} (h : LSt el p0 a vs p set) (hJ : Jn el e p q) (hq : q ∉ vs) (hq0 : p0 ≤ q) : LSt el p0 a (vs ++ [q]) q (set ||| bitL e) := by
  obtain ⟨hW, h1, h2, h3, h4, h5, h6⟩ := h
  have hqp : q ≠ p0 := fun z => hq (by rw [z]; exact h1)
  have h40 := hE.2.1
  have he := Jn_lt hJ
  have hl := (List.getElem?_eq_some_iff.mp h3).1
  refine ⟨WSt_s hE hW hJ hq, List.mem_append.mpr (Or.inl h1), hqp, by rw [List.getElem?_append_left hl]; exact h3, fun z => ?_, fun v hv => ?_, fun i b hi hib => ?_⟩
  · rw [List.length_append] at z
    have : [q].length = 1 := rfl
    omega
  · rw [List.mem_append, List.mem_singleton] at hv
    rcases hv with y | y
    · exact h5 v y
    · rw [y]; exact hq0
  · rw [gB_add (by omega), Bool.or_eq_true, decide_eq_true_iff] at hi
    rcases hi with y | y
    · exact h6 i b y hib
    · subst y
      rcases Jn_two hJ hib with ⟨_, z⟩ | ⟨_, z⟩
      · exact absurd z.symm hqp
      · exact absurd z.symm h2
theorem dTgt_t (sc : Int32) (p : Nat) : dTgt true sc p = false := rfl
theorem mem_dAdd {fr a : Nat} {vs : List Nat} {p e q : Nat} {set S : Int64} (h3 : vs[1]? = some a) : S ∈ dAdd fr true vs p set e q ↔ q = fr ∧ 2 < vs.length ∧ a < p ∧ S = set ||| bitL e := by
  unfold dAdd
  rw [h3]
  by_cases x : (true && decide (q = fr) && decide (2 < vs.length) && decide ((some a).getD 0 < p)) = true
  · rw [if_pos x, List.mem_singleton]
    simp only [Bool.and_eq_true, decide_eq_true_iff, Option.getD_some] at x
    exact ⟨fun y => ⟨x.1.1.2, x.1.2, x.2, y⟩, fun y => y.2.2.2⟩
  · rw [if_neg x]
    constructor
    · intro h; exact absurd h List.not_mem_nil
    · rintro ⟨y1, y2, y3, _⟩
      exfalso
      apply x
      simp only [Bool.and_eq_true, decide_eq_true_iff, Option.getD_some]
      exact ⟨⟨⟨trivial, y1⟩, y2⟩, y3⟩
theorem mem_loop {el : List (Nat × Nat)} (hE : El25 el) {p0 a : Nat} {sc : Int32} : ∀ (f : Nat) (vs : List Nat) (p : Nat) (set S : Int64), 27 ≤ f + vs.length → LSt el p0 a vs p set →
    (S ∈ dW el p0 p0 true sc f vs p set 0 ↔ subS set S ∧ hiS el S ∧ Gp el (dif S set) p p0 vs ∧ (∀ v, v < p0 → dY el (dif S set) v = 0) ∧ ∀ i b, dif S set i = true → Jn el i b p0 → a < b)
  | 0, vs, p, set, S, hf, hW => by have := nodup_25 hW.1.1 hW.1.2.1; omega
  | f + 1, vs, p, set, S, hf, hL => by
    have hL2 := hL
    obtain ⟨hW, h1, h2, h3, h4, h5, h6⟩ := hL2
    have h40 := hE.2.1
    rw [dW_mem (dTgt_t sc p)]
    have ih : ∀ e q, Jn el e p q → q ∉ vs → p0 ≤ q → _ := fun e q hJ hq hq0 => mem_loop hE (sc := sc) f (vs ++ [q]) q (set ||| bitL e) S (by rw [List.length_append]; have : [q].length = 1 := rfl; omega) (LSt_s hE hL hJ hq hq0)
    constructor
    · rintro ⟨e, h⟩
      obtain ⟨q, hJ, hq0, h⟩ := (mem_dOne hE.1).mp h
      have he := Jn_lt hJ
      rcases h with h | ⟨hq, h⟩
      · rw [mem_dAdd h3] at h
        obtain ⟨g1, g2, g3, g4⟩ := h
        subst g1
        have hse : gB set e = false := by
          rcases Bool.eq_false_or_eq_true (gB set e) with y | y
          · have := h6 e p y hJ; omega
          · exact y
        have h7 := (one_more h40 he hse hW.2.2.2.1).mp g4
        refine ⟨h7.1, h7.2.1, G_last hE.1 hJ h7.2.2, fun v hv => ?_, fun i b hi hib => ?_⟩
        · rcases Nat.eq_zero_or_pos (dY el (dif S set) v) with y | y
          · exact y
          · exfalso
            obtain ⟨i, b, g5, g6⟩ := dY_pos.mp y
            have := (h7.2.2 i (Jn_lt g6)).mp g5
            subst this
            have := h5 p hW.2.2.1
            rcases Jn_two hJ g6 with ⟨z, _⟩ | ⟨z, _⟩ <;> omega
        · have := (h7.2.2 i (Jn_lt hib)).mp hi
          subst this
          rcases Jn_two hJ hib with ⟨z, _⟩ | ⟨z, z2⟩
          · rw [z]; exact g3
          · exact absurd z2.symm h2
      · rw [ih e q hJ hq hq0] at h
        obtain ⟨g1, g2, g3, g4, g5⟩ := h
        have hse := WSt_e hW hJ hq
        rw [sub_add (by omega)] at g1
        rw [dif_rm (by omega)] at g3 g4 g5
        have hqp : q ≠ p0 := fun z => hq (by rw [z]; exact h1)
        have hYe := dif_in.mpr ⟨g1.2, hse⟩
        refine ⟨g1.1, g2, G_add hE.1 hYe hJ hW.2.2.1 h2 hq g3, fun v hv => ?_, fun i b hi hib => ?_⟩
        · have := h5 p hW.2.2.1
          rw [dY_rm hYe hJ v, g4 v hv, if_neg (by omega), if_neg (by omega)]
        · by_cases z : i = e
          · subst z
            rcases Jn_two hJ hib with ⟨_, z⟩ | ⟨_, z⟩
            · exact absurd z.symm hqp
            · exact absurd z.symm h2
          · exact g5 i b (rm_in hi z) hib
    · rintro ⟨g1, g2, g3, g4, g5⟩
      obtain ⟨e, q, hYe, hJ, h⟩ := G_step hE.1 g3
      have he := Jn_lt hJ
      have hse := (dif_in.mp hYe).2
      rcases h with ⟨y1, y2⟩ | ⟨y1, y2, y3⟩
      · subst y1
        have hap := g5 e p hYe hJ
        refine ⟨e, (mem_dOne hE.1).mpr ⟨q, hJ, Nat.le_refl _, Or.inl ((mem_dAdd h3).mpr ⟨rfl, ?_, hap, ?_⟩)⟩⟩
        · rcases Nat.lt_or_ge 2 vs.length with y | y
          · exact y
          · have := h4 y; omega
        · exact (one_more h40 he hse hW.2.2.2.1).mpr ⟨g1, g2, fun i hi => ⟨y2 i hi, fun u => by rw [u]; exact hYe⟩⟩
      · have hq0 : p0 ≤ q := by
          rcases Nat.lt_or_ge q p0 with y | y
          · exact absurd (g4 q y) (by have := dY_pos.mpr ⟨e, p, hYe, Jn_s hJ⟩; omega)
          · exact y
        refine ⟨e, (mem_dOne hE.1).mpr ⟨q, hJ, hq0, Or.inr ⟨y2, (ih e q hJ y2 hq0).mpr ⟨(sub_add (by omega)).mpr ⟨g1, (dif_in.mp hYe).1⟩, g2, ?_, ?_, ?_⟩⟩⟩⟩
        · rw [dif_rm (by omega)]; exact y3
        · intro v hv
          rw [dif_rm (by omega)]
          have := dY_rm hYe hJ v
          have := g4 v hv
          omega
        · intro i b hi hib
          rw [dif_rm (by omega)] at hi
          exact g5 i b (rm_sub hi).1 hib
theorem loop_nd {el : List (Nat × Nat)} (hE : El25 el) {p0 a : Nat} {sc : Int32} : ∀ (f : Nat) (vs : List Nat) (p : Nat) (set : Int64), 27 ≤ f + vs.length → LSt el p0 a vs p set → (dW el p0 p0 true sc f vs p set 0).Nodup
  | 0, vs, p, set, hf, hW => by have := nodup_25 hW.1.1 hW.1.2.1; omega
  | f + 1, vs, p, set, hf, hL => by
    have h40 := hE.2.1
    have hlen : ∀ q : Nat, 27 ≤ f + (vs ++ [q]).length := fun q => by rw [List.length_append]; have : [q].length = 1 := rfl; omega
    refine dW_nd hE.1 (dTgt_t sc p) hL.2.1 (fun e q hJ hq y => loop_nd hE f (vs ++ [q]) q _ (hlen q) (LSt_s hE hL hJ hq y)) (fun e e' S h1 h2 => ?_)
    have hG := (mem_loop hE (sc := sc) (f + 1) vs p set S hf hL).mp ((dW_mem (dTgt_t sc p)).mpr ⟨e, h1⟩)
    have key : ∀ e, S ∈ dOne el p0 p0 true (fun vs q s => dW el p0 p0 true sc f vs q s 0) vs p set e → ∃ q, Jn el e p q ∧ dif S set e = true := by
      intro e h
      obtain ⟨q, hJ, hq0, h⟩ := (mem_dOne hE.1).mp h
      have he := Jn_lt hJ
      rcases h with h | ⟨hq, h⟩
      · rw [mem_dAdd hL.2.2.2.1] at h
        obtain ⟨g1, g2, g3, g4⟩ := h
        subst g1
        refine ⟨q, hJ, dif_in.mpr ⟨?_, ?_⟩⟩
        · rw [g4, gB_add (by omega), decide_eq_true rfl, Bool.or_true]
        · rcases Bool.eq_false_or_eq_true (gB set e) with y | y
          · have := hL.2.2.2.2.2.2 e p y hJ; omega
          · exact y
      · have h3 := ((mem_loop hE (sc := sc) f (vs ++ [q]) q _ S (hlen q) (LSt_s hE hL hJ hq hq0)).mp h).1
        exact ⟨q, hJ, dif_in.mpr ⟨((sub_add (by omega)).mp h3).2, WSt_e hL.1 hJ hq⟩⟩
    obtain ⟨q, j1, d1⟩ := key e h1
    obtain ⟨q', j2, d2⟩ := key e' h2
    exact G_one hG.2.2.1.2.1 d1 j1 d2 j2
