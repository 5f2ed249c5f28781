/-! DEGREES: the listed sets are those with the right degrees -/
theorem la_step (el : List (Nat × Nat)) (e : Nat) : laL el (2 * (e + 1)) = upd (upd (laL el (2 * e)) (ept el (2 * e)) (nI e)) (ept el (2 * e + 1)) (nI e) := by
  show upd (upd (laL el (2 * e)) (ept el (2 * e)) (nI (2 * e / 2))) (ept el (2 * e + 1)) (nI ((2 * e + 1) / 2)) = _
  rw [show 2 * e / 2 = e by omega, show (2 * e + 1) / 2 = e by omega]
theorem tch_at {el : List (Nat × Nat)} {i a b p : Nat} (h : el[i]? = some (a, b)) : tch el i p = (if a = p then 1 else 0) + (if b = p then 1 else 0) := by unfold tch; rw [h]
theorem tch_ne {el : List (Nat × Nat)} {i p : Nat} (h : tch el i p ≠ 0) : ∃ a b, el[i]? = some (a, b) ∧ (a = p ∨ b = p) := by
  unfold tch at h
  match hq : el[i]? with
  | none => rw [hq] at h; exact absurd rfl h
  | some (a, b) =>
    rw [hq] at h
    refine ⟨a, b, rfl, ?_⟩
    by_cases z : a = p
    · exact Or.inl z
    · by_cases y : b = p
      · exact Or.inr y
      · have h2 : ((if a = p then 1 else 0) + (if b = p then 1 else 0) : Nat) ≠ 0 := h
        rw [if_neg z, if_neg y] at h2; exact absurd rfl h2
theorem la_spec {el : List (Nat × Nat)} {p : Nat} : ∀ {e : Nat}, e ≤ el.length → (laL el (2 * e) p = -1 ∧ ∀ i, i < e → tch el i p = 0) ∨ (∃ i, i < e ∧ laL el (2 * e) p = nI i ∧ tch el i p ≠ 0 ∧ ∀ k, i < k → k < e → tch el k p = 0)
  | 0, _ => Or.inl ⟨rfl, fun i hi => absurd hi (Nat.not_lt_zero _)⟩
  | e + 1, he => by
    have ih := la_spec (el := el) (p := p) (e := e) (by omega)
    obtain ⟨⟨a, b⟩, hq⟩ : ∃ q, el[e]? = some q := ⟨_, List.getElem?_eq_getElem (show e < el.length by omega)⟩
    have e1 : ept el (2 * e) = a := by unfold ept; rw [show 2 * e / 2 = e by omega, hq]; show (if 2 * e % 2 = 0 then a else b) = a; rw [if_pos (by omega)]
    have e2 : ept el (2 * e + 1) = b := by unfold ept; rw [show (2 * e + 1) / 2 = e by omega, hq]; show (if (2 * e + 1) % 2 = 0 then a else b) = b; rw [if_neg (by omega)]
    rw [la_step, e1, e2]
    have ht := tch_at (p := p) hq
    by_cases y : b = p
    · right
      refine ⟨e, Nat.lt_succ_self e, by rw [← y, pk_us], by rw [ht, if_pos y]; omega, fun k h1 h2 => by omega⟩
    · rw [pk_un (fun z => y z.symm)]
      by_cases x : a = p
      · right
        refine ⟨e, Nat.lt_succ_self e, by rw [← x, pk_us], by rw [ht, if_pos x]; omega, fun k h1 h2 => by omega⟩
      · rw [pk_un (fun z => x z.symm)]
        have h0 : tch el e p = 0 := by rw [ht, if_neg x, if_neg y]
        rcases ih with ⟨h1, h2⟩ | ⟨i, h1, h2, h3, h4⟩
        · exact Or.inl ⟨h1, fun i hi => by
            by_cases z : i = e
            · rw [z]; exact h0
            · exact h2 i (by omega)⟩
        · exact Or.inr ⟨i, by omega, h2, h3, fun k hk1 hk2 => by
            by_cases z : k = e
            · rw [z]; exact h0
            · exact h4 k hk1 (by omega)⟩
theorem gdA_all {el : List (Nat × Nat)} {due : Nat} {S : Int64} (hel : el.length ≤ 40) : (∀ i, i < el.length → gdA el due (laL el (2 * el.length)) S i) ↔ ∀ p, (∃ i, i < el.length ∧ tch el i p ≠ 0) → dgS el S el.length p = due := by
  have hlast : ∀ p i, i < el.length → laL el (2 * el.length) p = nI i → dgS el S el.length p = dgS el S (i + 1) p := by
    intro p i hi hla
    rcases la_spec (el := el) (p := p) (Nat.le_refl _) with ⟨h1, _⟩ | ⟨k, h1, h2, h3, h4⟩
    · rw [h1] at hla; exact absurd hla.symm (nI_n1 (by omega))
    · have hki : k = i := (nI_eq (by omega) (by omega)).mp (h2.symm.trans hla)
      subst hki
      unfold dgS
      refine sumN_flat (by omega) (fun j hj1 hj2 => ?_)
      rw [h4 j (by omega) hj2]
      by_cases z : gB S j = true
      · rw [if_pos z]
      · rw [if_neg z]
  constructor
  · intro h p ⟨i0, hi0, ht0⟩
    rcases la_spec (el := el) (p := p) (Nat.le_refl _) with ⟨h1, h2⟩ | ⟨i, h1, h2, h3, h4⟩
    · exact absurd (h2 i0 hi0) ht0
    · obtain ⟨a, b, hq, hab⟩ := tch_ne h3
      have hg := h i h1 a b hq
      rw [hlast p i h1 h2]
      unfold gdF at hg
      rw [Bool.and_eq_true, Bool.and_eq_true, Bool.and_eq_true] at hg
      rcases hab with z | z
      · have := hg.1.2
        rw [z, decide_eq_true h2] at this
        simpa using this
      · have := hg.2
        rw [z, decide_eq_true h2] at this
        simpa using this
  · intro h i hi a b hq
    have ha : tch el i a ≠ 0 := by rw [tch_at hq, if_pos rfl]; omega
    have hb : tch el i b ≠ 0 := by rw [tch_at hq]; rw [show (if b = b then 1 else 0) = 1 from if_pos rfl]; omega
    have fa := h a ⟨i, hi, ha⟩
    have fb := h b ⟨i, hi, hb⟩
    have ma : dgS el S (i + 1) a ≤ dgS el S el.length a := sumN_mono (by omega)
    have mb : dgS el S (i + 1) b ≤ dgS el S el.length b := sumN_mono (by omega)
    have key : ∀ p, dgS el S el.length p = due → (!decide (laL el (2 * el.length) p = nI i) || decide (dgS el S (i + 1) p = due)) = true := by
      intro p hp
      by_cases z : laL el (2 * el.length) p = nI i
      · rw [decide_eq_true z, decide_eq_true (by rw [← hlast p i hi z]; exact hp)]; rfl
      · rw [decide_eq_false z]; rfl
    unfold gdF
    rw [decide_eq_true (show dgS el S (i + 1) a ≤ due by omega), decide_eq_true (show dgS el S (i + 1) b ≤ due by omega), key a fa, key b fb]
    rfl
theorem loneF_iff {hb : Nat → Bool} {la : Nat → Int32} : ∀ {n : Nat}, loneF hb la n = true ↔ ∃ p, p < n ∧ hb p = false ∧ la p < 0
  | 0 => ⟨fun h => absurd (show false = true from h) (by decide), fun ⟨p, h, _⟩ => absurd h (Nat.not_lt_zero _)⟩
  | n + 1 => by
    show (loneF hb la n || (!hb n && decide (la n < 0))) = true ↔ _
    rw [Bool.or_eq_true, loneF_iff, Bool.and_eq_true, Bool.not_eq_true', decide_eq_true_iff]
    constructor
    · rintro (⟨p, h1, h2⟩ | ⟨h1, h2⟩)
      · exact ⟨p, by omega, h2⟩
      · exact ⟨n, Nat.lt_succ_self n, h1, h2⟩
    · rintro ⟨p, h1, h2, h3⟩
      by_cases z : p = n
      · subst z; exact Or.inr ⟨h2, h3⟩
      · exact Or.inl ⟨p, by omega, h2, h3⟩
theorem mem_ldAll {el : List (Nat × Nat)} {hb : Nat → Bool} {n due : Nat} {S : Int64} (hel : el.length ≤ 40) (hdue : 1 ≤ due) (hpl : ∀ (i a b : Nat), el[i]? = some (a, b) → (a < n ∧ hb a = false) ∧ (b < n ∧ hb b = false)) : S ∈ ldAll el hb n due ↔ (∀ i, el.length ≤ i → i < 64 → gB S i = false) ∧ ∀ p, p < n → hb p = false → dgS el S el.length p = due := by
  unfold ldAll
  have h0 : (fun _ : Nat => (0 : Nat)) = dgS el S 0 := rfl
  by_cases z : loneF hb (laL el (2 * el.length)) n = true
  · rw [if_pos z]
    constructor
    · intro h; exact absurd h List.not_mem_nil
    · rintro ⟨_, h⟩
      exfalso
      obtain ⟨p, hp, hh, hla⟩ := loneF_iff.mp z
      have hd := h p hp hh
      rcases la_spec (el := el) (p := p) (Nat.le_refl _) with ⟨h1, h2⟩ | ⟨i, h1, h2, h3, h4⟩
      · have : dgS el S el.length p = 0 := sumN_zero (fun i hi => by rw [h2 i hi]; by_cases y : gB S i = true; (rw [if_pos y]); (rw [if_neg y]))
        omega
      · rw [h2] at hla; exact absurd hla (nI_pos (by omega))
  · rw [if_neg z, h0, mem_ldR hel el.length 0 0 (by omega) (fun i _ _ => gB_0 i) (fun i hi => absurd hi (Nat.not_lt_zero _))]
    have e1 : (∀ i, 0 ≤ i → i < el.length → gdA el due (laL el (2 * el.length)) S i) ↔ ∀ i, i < el.length → gdA el due (laL el (2 * el.length)) S i := ⟨fun h i hi => h i (Nat.zero_le _) hi, fun h i _ hi => h i hi⟩
    rw [e1, gdA_all hel]
    constructor
    · rintro ⟨h1, h2⟩
      refine ⟨h1, fun p hp hh => ?_⟩
      rcases la_spec (el := el) (p := p) (Nat.le_refl _) with ⟨h3, h4⟩ | ⟨i, h3, h4, h5, h6⟩
      · exfalso
        exact z (loneF_iff.mpr ⟨p, hp, hh, by rw [h3]; decide⟩)
      · exact h2 p ⟨i, h3, h5⟩
    · rintro ⟨h1, h2⟩
      refine ⟨h1, fun p ⟨i, hi, ht⟩ => ?_⟩
      obtain ⟨a, b, hq, hab⟩ := tch_ne ht
      have := hpl i a b hq
      rcases hab with y | y
      · subst y; exact h2 a this.1.1 this.1.2
      · subst y; exact h2 b this.2.1 this.2.2
theorem ldAll_nodup {el : List (Nat × Nat)} {hb : Nat → Bool} {n due : Nat} (hel : el.length ≤ 40) : (ldAll el hb n due).Nodup := by
  unfold ldAll
  by_cases z : loneF hb (laL el (2 * el.length)) n = true
  · rw [if_pos z]; exact List.nodup_nil
  · rw [if_neg z]; exact (ldR_nodup hel el.length 0 _ 0 (by omega) (fun i _ _ => gB_0 i)).1
/-- the degree of a place, by edges and by slots -/
theorem sum_slot {ef : Nat → Bool} {P : Nat} {X : Nat → Bool} {t : Nat} (hX : X t = true → t ∈ SL ef P) : sumN (fun i => if (SL ef P)[i]? = some t ∧ X t = true then 1 else 0) (SL ef P).length = if X t = true then 1 else 0 := by
  by_cases z : X t = true
  · rw [if_pos z]
    obtain ⟨e, he⟩ := List.getElem?_of_mem (hX z)
    rw [sumN_one (k := e) (List.getElem?_eq_some_iff.mp he).1 (fun i hi hne => if_neg (fun q => hne (SL_inj q.1 he))), if_pos ⟨he, z⟩]
  · rw [if_neg z]
    exact sumN_zero (fun i hi => if_neg (fun q => z q.2))
theorem bs2_b2 (x y : Bool) : bs2 (b2 x y) = (if x = true then 1 else 0) + (if y = true then 1 else 0) := by cases x <;> cases y <;> decide
theorem dgS_degX {w P : Nat} {ef : Nat → Bool} {S : Int64} {p : Nat} (hw : 0 < w) (hcol : ∀ s, ef s = true → s % 2 = 1 → s / 2 % w + 1 < w) : dgS ((SL ef P).map (enS w)) S ((SL ef P).map (enS w)).length p = degX w (xOf (SL ef P) S) p := by
  have hX : ∀ t, xOf (SL ef P) S t = true → t ∈ SL ef P := fun t ht => mem_SL.mpr (xOf_ef ht)
  unfold dgS degX
  rw [List.length_map, bs2_b2, bs2_b2]
  have hl : lfX w (xOf (SL ef P) S) p = (decide (0 < p) && xOf (SL ef P) S (2 * p - 1)) := by
    unfold lfX
    by_cases z : 0 < p % w
    · rw [decide_eq_true z, decide_eq_true (show 0 < p from Nat.pos_of_ne_zero (fun y => by rw [y, Nat.zero_mod] at z; exact absurd z (Nat.lt_irrefl _)))]
    · rw [decide_eq_false z, Bool.false_and]
      symm
      rw [Bool.eq_false_iff]
      intro y
      rw [Bool.and_eq_true, decide_eq_true_iff] at y
      have h1 := hcol (2 * p - 1) (xOf_ef y.2).2 (by omega)
      rw [show (2 * p - 1) / 2 = p - 1 by omega] at h1
      apply z
      have hd := Nat.div_add_mod (p - 1) w
      have hp : p = w * ((p - 1) / w) + ((p - 1) % w + 1) := by omega
      rw [hp, Nat.mul_add_mod, Nat.mod_eq_of_lt h1]
      omega
  have hterm : ∀ i, i < (SL ef P).length → (if gB S i = true then tch ((SL ef P).map (enS w)) i p else 0) = (((if (SL ef P)[i]? = some (2 * p) ∧ xOf (SL ef P) S (2 * p) = true then 1 else 0) + (if (SL ef P)[i]? = some (2 * p + 1) ∧ xOf (SL ef P) S (2 * p + 1) = true then 1 else 0)) + (if 0 < p then (if (SL ef P)[i]? = some (2 * p - 1) ∧ xOf (SL ef P) S (2 * p - 1) = true then 1 else 0) else 0)) + (if w ≤ p then (if (SL ef P)[i]? = some (2 * (p - w)) ∧ xOf (SL ef P) S (2 * (p - w)) = true then 1 else 0) else 0) := by
    intro i hi
    obtain ⟨s, hs⟩ : ∃ s, (SL ef P)[i]? = some s := ⟨_, List.getElem?_eq_getElem hi⟩
    have hxs := xOf_at (S := S) hs
    have hm : ((SL ef P).map (enS w))[i]? = some (s / 2, if s % 2 = 1 then s / 2 + 1 else s / 2 + w) := by rw [List.getElem?_map, hs]; rfl
    rw [tch_at hm, hs]
    have hone : ∀ t, (if some s = some t ∧ xOf (SL ef P) S t = true then 1 else 0 : Nat) = if s = t ∧ gB S i = true then 1 else 0 := by
      intro t
      by_cases z : s = t
      · subst z; rw [hxs]
        by_cases y : gB S i = true
        · rw [if_pos ⟨rfl, y⟩, if_pos ⟨rfl, y⟩]
        · rw [if_neg (fun q => y q.2), if_neg (fun q => y q.2)]
      · rw [if_neg (fun q => z (Option.some.inj q.1)), if_neg (fun q => z q.1)]
    rw [hone, hone, hone, hone]
    by_cases y : gB S i = true
    · rw [if_pos y]
      simp only [y, and_true]
      by_cases o : s % 2 = 1
      · rw [if_pos o]
        (repeat' split) <;> omega
      · rw [if_neg o]
        (repeat' split) <;> omega
    · rw [if_neg y]
      simp [y]
  rw [sumN_congr hterm, sumN_add, sumN_add, sumN_add, sum_slot (hX _), sum_slot (hX _)]
  have h3 : sumN (fun i => if 0 < p then (if (SL ef P)[i]? = some (2 * p - 1) ∧ xOf (SL ef P) S (2 * p - 1) = true then 1 else 0) else 0) (SL ef P).length = if lfX w (xOf (SL ef P) S) p = true then 1 else 0 := by
    rw [hl]
    by_cases z : 0 < p
    · simp only [z, if_true, decide_true, Bool.true_and]
      exact sum_slot (hX _)
    · rw [decide_eq_false z, Bool.false_and, if_neg (by decide)]
      exact sumN_zero (fun i hi => if_neg z)
  have h4 : sumN (fun i => if w ≤ p then (if (SL ef P)[i]? = some (2 * (p - w)) ∧ xOf (SL ef P) S (2 * (p - w)) = true then 1 else 0) else 0) (SL ef P).length = if upX w (xOf (SL ef P) S) p = true then 1 else 0 := by
    unfold upX
    by_cases z : w ≤ p
    · simp only [z, if_true, decide_true, Bool.true_and]
      exact sum_slot (hX _)
    · rw [decide_eq_false z, Bool.false_and, if_neg (by decide)]
      exact sumN_zero (fun i hi => if_neg z)
  rw [h3, h4]
  omega
