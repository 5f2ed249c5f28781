/-! DEGREES: how many, and the whole -/
def bs8 (n : Nat) : Nat := n % 2 + n / 2 % 2 + n / 4 % 2 + n / 8 % 2 + n / 16 % 2 + n / 32 % 2 + n / 64 % 2 + n / 128 % 2
set_option maxRecDepth 100000 in
theorem bs_cons : ∀ c, c < 5 → ∀ z, z < 4 → ∀ n, n < 64 → bs8 (nxN c n z) + bs2 (shN c n / 2 ^ c % 4) = bs8 n + bs2 z := by
  have key : (List.range 5).all (fun c => (List.range 4).all (fun z => (List.range 64).all (fun n => decide (bs8 (nxN c n z) + bs2 (shN c n / 2 ^ c % 4) = bs8 n + bs2 z)))) = true := by decide +kernel
  intro c h1 z h2 n h3
  exact of_decide_eq_true (List.all_eq_true.mp (List.all_eq_true.mp (List.all_eq_true.mp key c (List.mem_range.mpr h1)) z (List.mem_range.mpr h2)) n (List.mem_range.mpr h3))
set_option maxRecDepth 100000 in
theorem bs8_6 : ∀ n, n < 64 → bs8 n ≤ 6 := by
  have key : (List.range 64).all (fun n => decide (bs8 n ≤ 6)) = true := by decide +kernel
  intro n h
  exact of_decide_eq_true (List.all_eq_true.mp key n (List.mem_range.mpr h))
theorem bs2_v : bs2 0 = 0 ∧ bs2 1 = 1 ∧ bs2 2 = 1 ∧ bs2 3 = 2 := by decide
/-- one step's parts, measured -/
theorem AL1_le {nx : Nat → Int32 → Nat → Int32} {isw : Int32 → Bool} {ok : Nat → Nat → Bool} {k p : Nat} {code : Int32} {c B : Nat} (h : nx p code c ≠ -1 → (AL nx isw ok k (p + 1) (nx p code c)).length ≤ B) : (AL1 nx isw ok k p code c).length ≤ B := by
  unfold AL1
  by_cases z : ok p c = true ∧ nx p code c ≠ -1
  · rw [if_pos z, List.length_map]; exact h z.2
  · rw [if_neg z]; exact Nat.zero_le _
theorem AL1_0 {nx : Nat → Int32 → Nat → Int32} {isw : Int32 → Bool} {ok : Nat → Nat → Bool} {k p : Nat} {code : Int32} {c : Nat} (h : nx p code c = -1) : (AL1 nx isw ok k p code c).length = 0 := by
  unfold AL1
  rw [if_neg (fun z => z.2 h)]; rfl
theorem nxD_in {w h : Nat} {ho : Int32} {op : Int64} {dg p n z : Nat} (hw : 0 < w) (hw5 : w ≤ 5) (hP : w * h ≤ 25) (hp : p < w * h) (hd : dg < 3) (hop : ∀ s, s < 64 → gB op s = opB w (w * h) (plB (w * h) ho) s) (hn : nI n ∈ (List.range (if p % w = 0 then 2 ^ w else 2 ^ (w + 1))).map nI) (hn6 : n < 64) (hz : z < 4) (hne : nxD w (w * h) ho op dg p (nI n) z ≠ -1) : nxD w (w * h) ho op dg p (nI n) z = nI (nxN (p % w) n z) ∧ bs2 (shN (p % w) n / 2 ^ (p % w) % 4) + bs2 z = dueD (w * h) ho dg p ∧ nxN (p % w) n z < 64 ∧ nI (nxN (p % w) n z) ∈ (List.range (if (p + 1) % w = 0 then 2 ^ w else 2 ^ (w + 1))).map nI ∧ ((z.testBit 0 = true → gB op (2 * p) = true) ∧ (z.testBit 1 = true → gB op (2 * p + 1) = true)) := by
  have hcap := (capD (dg := dg) hw hw5 hP hd hop).hs p hp (nI n) hn z hz hne
  have hC := capD (dg := dg) hw hw5 hP hd hop
  have he := nxD_eq (ho := ho) (op := op) hw hw5 hP hp hd hn6 hz
  have h6 : 2 ^ (w + 1) ≤ 2 ^ 6 := Nat.pow_le_pow_right (by decide) (by omega)
  have h5 : 2 ^ w ≤ 2 ^ 5 := Nat.pow_le_pow_right (by decide) (by omega)
  have hcw : p % w < w := Nat.mod_lt _ hw
  by_cases y : nI z &&& (openChoicesF op (nI p) ^^^ -1) = 0
  · rw [if_pos y] at he
    by_cases x : bs2 (shN (p % w) n / 2 ^ (p % w) % 4) + bs2 z = dueD (w * h) ho dg p
    · rw [if_pos x] at he
      have hcap2 : nI (nxN (p % w) n z) ∈ (List.range (if (p + 1) % w = 0 then 2 ^ w else 2 ^ (w + 1))).map nI := by rw [← he]; exact hcap
      refine ⟨he, x, ?_, hcap2, (opn_ok (by omega) hz).mp y⟩
      obtain ⟨m, hm, hme⟩ := List.mem_map.mp hcap2
      rw [List.mem_range] at hm
      have hm6 : m < 64 := by
        by_cases u : (p + 1) % w = 0
        · rw [if_pos u] at hm; omega
        · rw [if_neg u] at hm; omega
      have hb := (nxN_bit (p % w) (by omega) z hz n hn6).2.1
      rw [← (nI_eq (show m < 2 ^ 31 by omega) (show nxN (p % w) n z < 2 ^ 31 by omega)).mp hme]
      exact hm6
    · rw [if_neg x] at he; exact absurd he hne
  · rw [if_neg y] at he; exact absurd he hne
theorem len_pairs {w h : Nat} {ho : Int32} {op : Int64} {isw : Int32 → Bool} {ok : Nat → Nat → Bool} (hw : 0 < w) (hw5 : w ≤ 5) (hP : w * h ≤ 25) (hop : ∀ s, s < 64 → gB op s = opB w (w * h) (plB (w * h) ho) s) : ∀ (k p n : Nat), p + k = w * h → n < 64 → nI n ∈ (List.range (if p % w = 0 then 2 ^ w else 2 ^ (w + 1))).map nI → (AL (nxD w (w * h) ho op 1) isw ok k p (nI n)).length ≤ 2 ^ ((k + 6 - bs8 n) / 2)
  | 0, p, n, _, _, _ => Nat.le_trans (AL_len _ _ _ 0 p _) (Nat.pow_pos (by decide))
  | k + 1, p, n, hk, hn, hm => by
    have hp : p < w * h := by omega
    have hcw : p % w < w := Nat.mod_lt _ hw
    have hb6 := bs8_6 n hn
    have main : ∀ z, z < 4 → nxD w (w * h) ho op 1 p (nI n) z ≠ -1 → (AL (nxD w (w * h) ho op 1) isw ok k (p + 1) (nxD w (w * h) ho op 1 p (nI n) z)).length ≤ 2 ^ ((k + 6 - (bs8 n + bs2 z - bs2 (shN (p % w) n / 2 ^ (p % w) % 4))) / 2) := by
      intro z hz hne
      obtain ⟨h1, h2, h3, h4, _⟩ := nxD_in hw hw5 hP hp (by decide) hop hm hn hz hne
      rw [h1]
      have h5 := bs_cons (p % w) (by omega) z hz n hn
      have ih := len_pairs (isw := isw) (ok := ok) hw hw5 hP hop k (p + 1) _ (by omega) h3 h4
      rw [show bs8 n + bs2 z - bs2 (shN (p % w) n / 2 ^ (p % w) % 4) = bs8 (nxN (p % w) n z) by omega]
      exact ih
    have dead : ∀ z, z < 4 → bs2 (shN (p % w) n / 2 ^ (p % w) % 4) + bs2 z ≠ dueD (w * h) ho 1 p → nxD w (w * h) ho op 1 p (nI n) z = -1 := by
      intro z hz hne
      rcases Classical.em (nxD w (w * h) ho op 1 p (nI n) z = -1) with q | q
      · exact q
      · exact absurd (nxD_in hw hw5 hP hp (by decide) hop hm hn hz q).2.1 hne
    have hdue : dueD (w * h) ho 1 p ≤ 1 := by
      unfold dueD
      by_cases z : plB (w * h) ho p = true
      · rw [if_pos z]; exact Nat.le_refl _
      · rw [if_neg z]; exact Nat.zero_le _
    have dead6 : ∀ z, z < 4 → bs2 z = 1 → bs2 (shN (p % w) n / 2 ^ (p % w) % 4) = 0 → bs8 n = 6 → nxD w (w * h) ho op 1 p (nI n) z = -1 := by
      intro z hz h1 h2 h3
      rcases Classical.em (nxD w (w * h) ho op 1 p (nI n) z = -1) with q | q
      · exact q
      · exfalso
        have h4 := (nxD_in hw hw5 hP hp (by decide) hop hm hn hz q).2.2.1
        have h5 := bs8_6 _ h4
        have h6 := bs_cons (p % w) (by omega) z hz n hn
        omega
    have hbv : bs8 n + bs2 0 ≥ bs2 (shN (p % w) n / 2 ^ (p % w) % 4) := by
      have := bs_cons (p % w) (by omega) 0 (by decide) n hn
      omega
    rw [AL_s]
    simp only [List.length_append]
    have e3 := AL1_0 (isw := isw) (ok := ok) (k := k) (dead 3 (by decide) (by rw [bs2_v.2.2.2]; omega))
    generalize hv : bs2 (shN (p % w) n / 2 ^ (p % w) % 4) = v at *
    by_cases hb : v + 1 = dueD (w * h) ho 1 p
    · have e0 := AL1_0 (isw := isw) (ok := ok) (k := k) (dead 0 (by decide) (by rw [bs2_v.1]; omega))
      have v0 : v = 0 := by omega
      have g1 := AL1_le (isw := isw) (ok := ok) (k := k) (main 1 (by decide))
      have g2 := AL1_le (isw := isw) (ok := ok) (k := k) (main 2 (by decide))
      rw [bs2_v.2.1, v0] at g1
      rw [bs2_v.2.2.1, v0] at g2
      rw [e0, e3]
      by_cases u6 : bs8 n = 6
      · have e1 := AL1_0 (isw := isw) (ok := ok) (k := k) (dead6 1 (by decide) bs2_v.2.1 v0 u6)
        have e2 := AL1_0 (isw := isw) (ok := ok) (k := k) (dead6 2 (by decide) bs2_v.2.2.1 v0 u6)
        rw [e1, e2]
        exact Nat.zero_le _
      have e5 : (k + 1 + 6 - bs8 n) / 2 = (k + 6 - (bs8 n + 1 - 0)) / 2 + 1 := by omega
      rw [e5, Nat.pow_succ]
      omega
    · have e1 := AL1_0 (isw := isw) (ok := ok) (k := k) (dead 1 (by decide) (by rw [bs2_v.2.1]; omega))
      have e2 := AL1_0 (isw := isw) (ok := ok) (k := k) (dead 2 (by decide) (by rw [bs2_v.2.2.1]; omega))
      rw [e1, e2, e3]
      by_cases h0 : v = dueD (w * h) ho 1 p
      · have g0 := AL1_le (isw := isw) (ok := ok) (k := k) (main 0 (by decide))
        rw [bs2_v.1] at g0
        have g5 : 2 ^ ((k + 6 - (bs8 n + 0 - v)) / 2) ≤ 2 ^ ((k + 1 + 6 - bs8 n) / 2) := Nat.pow_le_pow_right (by decide) (by omega)
        omega
      · have e0 := AL1_0 (isw := isw) (ok := ok) (k := k) (dead 0 (by decide) (by rw [bs2_v.1]; omega))
        rw [e0]
        exact Nat.zero_le _
/-- places where a set of loops can branch -/
def brN (w P : Nat) (p : Nat) : Nat := if p % w + 1 < w ∧ p + w < P ∧ p ≠ 0 then 1 else 0
def brS (w P : Nat) : Nat → Nat → Nat
  | 0, _ => 0
  | k + 1, p => brN w P p + brS w P k (p + 1)
theorem brS_15 : ∀ w, w < 6 → ∀ h, h < 6 → w * h ≤ 25 → brS w (w * h) (w * h) 0 ≤ 15 := by decide +kernel
theorem len_loops {w h : Nat} {ho : Int32} {op : Int64} {isw : Int32 → Bool} {ok : Nat → Nat → Bool} (hw : 0 < w) (hw5 : w ≤ 5) (hP : w * h ≤ 25) (hop : ∀ s, s < 64 → gB op s = opB w (w * h) (plB (w * h) ho) s) : ∀ (k p n : Nat), p + k = w * h → n < 64 → nI n ∈ (List.range (if p % w = 0 then 2 ^ w else 2 ^ (w + 1))).map nI → (p = 0 → n = 0) → (AL (nxD w (w * h) ho op 2) isw ok k p (nI n)).length ≤ 2 ^ brS w (w * h) k p
  | 0, p, n, _, _, _, _ => Nat.le_trans (AL_len _ _ _ 0 p _) (Nat.pow_pos (by decide))
  | k + 1, p, n, hk, hn, hm, h00 => by
    have hp : p < w * h := by omega
    have hcw : p % w < w := Nat.mod_lt _ hw
    have main : ∀ z, z < 4 → nxD w (w * h) ho op 2 p (nI n) z ≠ -1 → (AL (nxD w (w * h) ho op 2) isw ok k (p + 1) (nxD w (w * h) ho op 2 p (nI n) z)).length ≤ 2 ^ brS w (w * h) k (p + 1) := by
      intro z hz hne
      obtain ⟨h1, h2, h3, h4, _⟩ := nxD_in hw hw5 hP hp (by decide) hop hm hn hz hne
      rw [h1]
      exact len_loops (isw := isw) (ok := ok) hw hw5 hP hop k (p + 1) _ (by omega) h3 h4 (fun q => by omega)
    have g := fun z (hz : z < 4) => AL1_le (isw := isw) (ok := ok) (k := k) (main z hz)
    have live : ∀ z, z < 4 → (AL1 (nxD w (w * h) ho op 2) isw ok k p (nI n) z).length ≠ 0 → bs2 (shN (p % w) n / 2 ^ (p % w) % 4) + bs2 z = dueD (w * h) ho 2 p ∧ ((z.testBit 0 = true → gB op (2 * p) = true) ∧ (z.testBit 1 = true → gB op (2 * p + 1) = true)) := by
      intro z hz hne
      rcases Classical.em (nxD w (w * h) ho op 2 p (nI n) z = -1) with q | q
      · exact absurd (AL1_0 q) hne
      · have := nxD_in hw hw5 hP hp (by decide) hop hm hn hz q
        exact ⟨this.2.1, this.2.2.2.2⟩
    have g0 := g 0 (by decide)
    have g1 := g 1 (by decide)
    have g2 := g 2 (by decide)
    have g3 := g 3 (by decide)
    have l0 := live 0 (by decide)
    have l1 := live 1 (by decide)
    have l2 := live 2 (by decide)
    have l3 := live 3 (by decide)
    rw [bs2_v.1] at l0
    rw [bs2_v.2.1] at l1
    rw [bs2_v.2.2.1] at l2
    rw [bs2_v.2.2.2] at l3
    rw [AL_s]
    simp only [List.length_append]
    show _ ≤ 2 ^ (brN w (w * h) p + brS w (w * h) k (p + 1))
    generalize (AL1 (nxD w (w * h) ho op 2) isw ok k p (nI n) 0).length = a0 at *
    generalize (AL1 (nxD w (w * h) ho op 2) isw ok k p (nI n) 1).length = a1 at *
    generalize (AL1 (nxD w (w * h) ho op 2) isw ok k p (nI n) 2).length = a2 at *
    generalize (AL1 (nxD w (w * h) ho op 2) isw ok k p (nI n) 3).length = a3 at *
    generalize brS w (w * h) k (p + 1) = B at *
    unfold brN
    by_cases hb : p % w + 1 < w ∧ p + w < w * h ∧ p ≠ 0
    · rw [if_pos hb, Nat.add_comm 1, Nat.pow_succ]
      by_cases z0 : a0 = 0
      · by_cases z3 : a3 = 0
        · omega
        · have q3 := (l3 z3).1
          have z1 : a1 = 0 := by
            rcases Nat.eq_zero_or_pos a1 with q | q
            · exact q
            · have := (l1 (by omega)).1; omega
          have z2 : a2 = 0 := by
            rcases Nat.eq_zero_or_pos a2 with q | q
            · exact q
            · have := (l2 (by omega)).1; omega
          omega
      · have q0 := (l0 z0).1
        have z1 : a1 = 0 := by
          rcases Nat.eq_zero_or_pos a1 with q | q
          · exact q
          · have := (l1 (by omega)).1; omega
        have z2 : a2 = 0 := by
          rcases Nat.eq_zero_or_pos a2 with q | q
          · exact q
          · have := (l2 (by omega)).1; omega
        have z3 : a3 = 0 := by
          rcases Nat.eq_zero_or_pos a3 with q | q
          · exact q
          · have := (l3 (by omega)).1; omega
        omega
    · rw [if_neg hb, Nat.zero_add]
      have hone : a1 = 0 ∨ a2 = 0 := by
        rcases Nat.eq_zero_or_pos a1 with q1 | q1
        · exact Or.inl q1
        · rcases Nat.eq_zero_or_pos a2 with q2 | q2
          · exact Or.inr q2
          · exfalso
            have c1 := (l1 (by omega)).2.1 (by decide)
            have c2 := (l2 (by omega)).2.2 (by decide)
            have c3 := (l1 (by omega)).1
            rw [hop _ (by omega)] at c1 c2
            unfold opB at c1 c2
            rw [if_neg (by omega), show 2 * p / 2 = p by omega, Bool.and_eq_true] at c1
            rw [if_pos (by omega), show (2 * p + 1) / 2 = p by omega, Bool.and_eq_true, Bool.and_eq_true, decide_eq_true_iff] at c2
            have c4 := c1.2
            unfold plB at c4
            rw [Bool.and_eq_true, decide_eq_true_iff] at c4
            have p0 : p = 0 := by
              rcases Nat.eq_zero_or_pos p with u | u
              · exact u
              · exact absurd ⟨c2.1.2, c4.1, by omega⟩ hb
            have n0 := h00 p0
            rw [n0, p0] at c3
            have d2 : dueD (w * h) ho 2 0 = 0 ∨ dueD (w * h) ho 2 0 = 2 := by
              unfold dueD
              by_cases u : plB (w * h) ho 0 = true
              · rw [if_pos u]; exact Or.inr rfl
              · rw [if_neg u]; exact Or.inl rfl
            rw [Nat.zero_mod] at c3
            have c5 : bs2 (shN 0 0 / 2 ^ 0 % 4) = 0 := by decide
            omega
      by_cases z0 : a0 = 0
      · by_cases z3 : a3 = 0
        · rcases hone with u | u <;> omega
        · have q3 := (l3 z3).1
          have z1 : a1 = 0 := by
            rcases Nat.eq_zero_or_pos a1 with q | q
            · exact q
            · have := (l1 (by omega)).1; omega
          have z2 : a2 = 0 := by
            rcases Nat.eq_zero_or_pos a2 with q | q
            · exact q
            · have := (l2 (by omega)).1; omega
          omega
      · have q0 := (l0 z0).1
        have z1 : a1 = 0 := by
          rcases Nat.eq_zero_or_pos a1 with q | q
          · exact q
          · have := (l1 (by omega)).1; omega
        have z2 : a2 = 0 := by
          rcases Nat.eq_zero_or_pos a2 with q | q
          · exact q
          · have := (l2 (by omega)).1; omega
        have z3 : a3 = 0 := by
          rcases Nat.eq_zero_or_pos a3 with q | q
          · exact q
          · have := (l3 (by omega)).1; omega
        omega
