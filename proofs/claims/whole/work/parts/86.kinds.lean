/-! CLASS AND REFERENCE: numbers and ways, kind by kind -/
/-- the joint state, as far as both sides keep it as numbers -/
def JS (w h : Nat) (ho : Int32) (op gone tin tout : Int64) (ea eb : Int32) (hb aw : Nat → Bool) (fto : Nat → Int32) : Prop := JG w h ho op gone hb aw ∧ ToldR (SL (efB op gone) (w * h)) tin tout fto ∧ F012 (elG w (w * h) op gone).length fto ∧ ((ea = -1 ∧ eb = -1) ∨ ∃ a b : Nat, a < w * h ∧ b < w * h ∧ a ≠ b ∧ ea = nI a ∧ eb = nI b)
/-- what a kind's count and ways have to be -/
def KR (w h : Nat) (kd : Int32) (ho : Int32) (op gone tin tout : Int64) (ea eb : Int32) (hb : Nat → Bool) (fto : Nat → Int32) (ct : Int64) (wy : Int64 → Int64) : Prop := (kd ≠ 3 → (lsAll w h kd ea eb (elG w (w * h) op gone) hb).length ≤ 40000) ∧ ct = lN (cntM w h kd ea eb (elG w (w * h) op gone) hb fto) ∧ cntM w h kd ea eb (elG w (w * h) op gone) hb fto < 2 ^ 62 ∧ ∀ (r : Nat) (W : Int64), r < cntM w h kd ea eb (elG w (w * h) op gone) hb fto → DrW w h kd ea eb (elG w (w * h) op gone) hb fto r W → ∀ (e s : Nat), (SL (efB op gone) (w * h))[e]? = some s → gB (wy (lN r)) s = gB W e
theorem kr_list {w h : Nat} {kd : Int32} {ho : Int32} {op gone tin tout : Int64} {ea eb : Int32} {hb : Nat → Bool} {fto : Nat → Int32} {ct : Int64} {wy : Int64 → Int64} (hk3 : kd ≠ 3) (h1 : (lsAll w h kd ea eb (elG w (w * h) op gone) hb).length ≤ 40000) (h2 : ct = lN ((lsAll w h kd ea eb (elG w (w * h) op gone) hb).filter (fun S => alAll fto S (SL (efB op gone) (w * h)).length)).length) (h3 : ∀ (r : Nat) (W : Int64) (L : List Int64), L.Perm (lsAll w h kd ea eb (elG w (w * h) op gone) hb) → L.Pairwise (fun a b => leS a b = true) → (L.filter (fun S => alAll fto S (SL (efB op gone) (w * h)).length))[r]? = some W → ∀ (e s : Nat), (SL (efB op gone) (w * h))[e]? = some s → gB (wy (lN r)) s = gB W e) : KR w h kd ho op gone tin tout ea eb hb fto ct wy := by
  have hll : (elG w (w * h) op gone).length = (SL (efB op gone) (w * h)).length := List.length_map _
  have hc : cntM w h kd ea eb (elG w (w * h) op gone) hb fto = ((lsAll w h kd ea eb (elG w (w * h) op gone) hb).filter (fun S => alAll fto S (SL (efB op gone) (w * h)).length)).length := by
    unfold cntM
    rw [if_neg hk3, hll]
  refine ⟨fun _ => h1, by rw [hc]; exact h2, ?_, fun r W _ hD e s hs => ?_⟩
  · rw [hc]
    exact Nat.lt_of_le_of_lt (List.length_filter_le _ _) (Nat.lt_of_le_of_lt h1 (by decide))
  · obtain ⟨L, l1, l2, l3⟩ := hD.2 hk3
    rw [hll] at l3
    exact h3 r W L l1 l2 l3 e s hs
theorem kr_0 {w h : Nat} {ho : Int32} {op gone tin tout : Int64} {ea eb : Int32} {hb aw : Nat → Bool} {fto : Nat → Int32} (j : JS w h ho op gone tin tout ea eb hb aw fto) : KR w h 0 ho op gone tin tout ea eb hb fto (ctDG w (w * h) ho 1 op tin (tout ||| gone)) (wyDG w (w * h) ho 1 op tin (tout ||| gone)) := by
  have hf := deg_fin (dg := 1) j.1.1 (Or.inl rfl) j.1.hh j.2.1
  have e : lsAll w h 0 ea eb (elG w (w * h) op gone) hb = ldAll (elG w (w * h) op gone) hb (w * h) 1 := by
    unfold lsAll
    rw [if_neg (by decide), if_neg (by decide), if_pos rfl]
  refine kr_list (by decide) (by rw [e]; exact hf.1) (by rw [e]; exact hf.2.1) (by rw [e]; exact hf.2.2)
theorem kr_4 {w h : Nat} {ho : Int32} {op gone tin tout : Int64} {ea eb : Int32} {hb aw : Nat → Bool} {fto : Nat → Int32} (j : JS w h ho op gone tin tout ea eb hb aw fto) : KR w h 4 ho op gone tin tout ea eb hb fto (ctDG w (w * h) ho 2 op tin (tout ||| gone)) (wyDG w (w * h) ho 2 op tin (tout ||| gone)) := by
  have hf := deg_fin (dg := 2) j.1.1 (Or.inr rfl) j.1.hh j.2.1
  have e : lsAll w h 4 ea eb (elG w (w * h) op gone) hb = ldAll (elG w (w * h) op gone) hb (w * h) 2 := by
    unfold lsAll
    rw [if_neg (by decide), if_neg (by decide), if_neg (by decide)]
  refine kr_list (by decide) (by rw [e]; exact hf.1) (by rw [e]; exact hf.2.1) (by rw [e]; exact hf.2.2)
theorem kr_1 {w h : Nat} {ho : Int32} {op gone tin tout : Int64} {ea eb : Int32} {hb aw : Nat → Bool} {fto : Nat → Int32} (j : JS w h ho op gone tin tout ea eb hb aw fto) : KR w h 1 ho op gone tin tout ea eb hb fto (ctLN w (w * h) 0 ea eb op tin (tout ||| gone)) (wyLN w (w * h) 0 ea eb op tin (tout ||| gone)) := by
  have hf := path_fin j.1.1 j.1.hh j.2.1 j.2.2.2
  exact kr_list (by decide) hf.1 hf.2.1 hf.2.2
theorem kr_2 {w h : Nat} {ho : Int32} {op gone tin tout : Int64} {ea eb : Int32} {hb aw : Nat → Bool} {fto : Nat → Int32} (j : JS w h ho op gone tin tout ea eb hb aw fto) : KR w h 2 ho op gone tin tout ea eb hb fto (ctLN w (w * h) 1 ea eb op tin (tout ||| gone)) (wyLN w (w * h) 1 ea eb op tin (tout ||| gone)) := by
  have hf := loop_fin (ea := ea) (eb := eb) (sc := eb) j.1.1 j.2.1
  have e : lsAll w h 2 ea eb (elG w (w * h) op gone) hb = fmN (lpAll (elG w (w * h) op gone) eb) (w * h) := by
    unfold lsAll
    rw [if_neg (by decide), if_pos rfl]
  refine kr_list (by decide) (by rw [e]; exact hf.1) (by rw [e]; exact hf.2.1) (by rw [e]; exact hf.2.2)
theorem kr_3 {w h : Nat} {ho : Int32} {op gone tin tout : Int64} {ea eb lpl : Int32} {hb aw : Nat → Bool} {fto : Nat → Int32} (j : JS w h ho op gone tin tout ea eb hb aw fto) (hlp : lpl = lpB (plB (w * h) ho) (w * h)) : KR w h 3 ho op gone tin tout ea eb hb fto (ctTR w (w * h) ho lpl op tin (tout ||| gone)) (wyTR w (w * h) ho lpl op tin (tout ||| gone)) := by
  subst hlp
  have hf := tree_fin j.1.1 j.1.hh j.2.1 j.2.2.1
  have hc : cntM w h 3 ea eb (elG w (w * h) op gone) hb fto = treesF w h (elG w (w * h) op gone) hb fto := by unfold cntM; rw [if_pos rfl]
  refine ⟨fun q => absurd rfl q, by rw [hc]; exact hf.1, by rw [hc]; exact Nat.lt_trans treesF_lt (by decide), fun r W hr hD e s hs => ?_⟩
  rw [hD.1 rfl]
  exact hf.2 r (by rw [← hc]; exact hr) e s hs
/-- drawing: both sides draw, or neither -/
theorem lg_m1 {r : Nat} (h : r < 2 ^ 62) : lg_cmp (lN r) (-1) ≠ 0 := by
  intro q
  have h1 : (lN r).toInt = (r : Int) := lg_ofNat_toInt (by omega)
  have h2 : (-1 : Int64).toInt = -1 := by decide
  have c : (-1 : Int64) < lN r := Int64.lt_iff_toInt_lt.mpr (by rw [h1, h2]; omega)
  unfold lg_cmp at q
  rw [if_pos c] at q
  exact absurd q (by decide)
theorem lg_p0 {n : Nat} (h : n < 2 ^ 62) : 0 < lg_cmp (lN n) 0 ↔ n ≠ 0 := by
  rw [show (0 : Int64) = lN 0 from rfl, lg_lN (by omega) (by decide)]
  by_cases z : n = 0
  · rw [z]; decide
  · rw [if_pos (by omega)]; exact ⟨fun _ => z, fun _ => by decide⟩
