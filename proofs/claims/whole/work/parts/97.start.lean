/-! THE LAW: what the constructors begin with -/
theorem held_b (v lo hi : Int32) (h : lo ≤ hi) : lo ≤ heldF v lo hi ∧ heldF v lo hi ≤ hi := by
  unfold heldF
  by_cases a : v < hi
  · rw [if_pos a]
    by_cases b : lo < v
    · rw [if_pos b]; exact ⟨Int32.le_of_lt b, Int32.le_of_lt a⟩
    · rw [if_neg b]; exact ⟨Int32.le_refl _, h⟩
  · rw [if_neg a]
    by_cases b : lo < hi
    · rw [if_pos b]; exact ⟨h, Int32.le_refl _⟩
    · rw [if_neg b]; exact ⟨Int32.le_refl _, h⟩
theorem held_w (v : Int32) : ∃ w : Nat, 1 ≤ w ∧ w ≤ 5 ∧ heldF v 1 5 = nI w := by
  have hb := held_b v 1 5 (by decide)
  obtain ⟨j, hj, he⟩ := nI_of2 (x := heldF v 1 5) (M := 5) (n := 5) (by decide) (fun q => absurd (Int32.lt_of_le_of_lt hb.1 q) (by decide)) hb.2
  refine ⟨j, ?_, hj, he⟩
  have h1 := hb.1
  rw [he, show (1 : Int32) = nI 1 from rfl, nI_leI (by decide) (by omega)] at h1
  exact h1
theorem held_k (v : Int32) : heldF v 0 4 = 0 ∨ heldF v 0 4 = 1 ∨ heldF v 0 4 = 2 ∨ heldF v 0 4 = 3 ∨ heldF v 0 4 = 4 := by
  have hb := held_b v 0 4 (by decide)
  obtain ⟨j, hj, he⟩ := nI_of2 (x := heldF v 0 4) (M := 4) (n := 4) (by decide) (fun q => absurd (Int32.lt_of_le_of_lt hb.1 q) (by decide)) hb.2
  rw [he]
  rcases (by omega : j = 0 ∨ j = 1 ∨ j = 2 ∨ j = 3 ∨ j = 4) with y | y | y | y | y <;> rw [y]
  · exact Or.inl rfl
  · exact Or.inr (Or.inl rfl)
  · exact Or.inr (Or.inr (Or.inl rfl))
  · exact Or.inr (Or.inr (Or.inr (Or.inl rfl)))
  · exact Or.inr (Or.inr (Or.inr (Or.inr rfl)))
theorem JS_0 {w h : Nat} {ft2 : Nat → Int32} (hw : 1 ≤ w ∧ w ≤ 5) (hh : 1 ≤ h ∧ h ≤ 5) (hf2 : ∀ i, i < 40 → ft2 i = 0) : JS w h 0 (fosF w h (nI (w * h)) 0).1 0 0 0 (-1) (-1) (fun _ => false) (fun _ => false) ft2 ∧ (fosF w h (nI (w * h)) 0).2 = lpB (plB (w * h) 0) (w * h) ∧ mNum w h (fun _ => false) (fun _ => false) = elG w (w * h) (fosF w h (nI (w * h)) 0).1 0 := by
  have hP : w * h ≤ 25 := Nat.mul_le_mul hw.2 hh.2
  have hf := fos_ok (ho := 0) (h := h) (show 0 < w by omega) hw.2 hP
  have g : GrB w h 0 (fosF w h (nI (w * h)) 0).1 := ⟨⟨by omega, hw.2⟩, ⟨by omega, hh.2⟩, hf.1⟩
  have j : JG w h 0 (fosF w h (nI (w * h)) 0).1 0 (fun _ => false) (fun _ => false) := ⟨g, fun p _ => (gI_0 p).symm, fun s _ _ => by
    rw [gB_0]
    unfold awS
    by_cases z : s % 2 = 1
    · rw [if_pos z]
    · rw [if_neg z]⟩
  exact ⟨⟨j, told_0 g.len hf2, f012_0 g.E25.2.1 hf2, Or.inl ⟨rfl, rfl⟩⟩, hf.2, j.el⟩
