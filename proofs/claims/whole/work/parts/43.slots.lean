/-! SLOTS AND EDGES: one numbering -/
def SLp (ef : Nat → Bool) (p : Nat) : List Nat := (if ef (2 * p + 1) = true then [2 * p + 1] else []) ++ (if ef (2 * p) = true then [2 * p] else [])
def SL (ef : Nat → Bool) : Nat → List Nat
  | 0 => []
  | p + 1 => SL ef p ++ SLp ef p
def efB (op gone : Int64) (s : Nat) : Bool := gB op s && !gB gone s
theorem SLp_len (ef : Nat → Bool) (p : Nat) : (SLp ef p).length ≤ 2 := by
  unfold SLp
  cases ef (2 * p + 1) <;> cases ef (2 * p) <;> simp
theorem SL_len (ef : Nat → Bool) : ∀ p, (SL ef p).length ≤ 2 * p
  | 0 => Nat.le_refl _
  | p + 1 => by
    show (SL ef p ++ SLp ef p).length ≤ _
    rw [List.length_append]
    have := SL_len ef p
    have := SLp_len ef p
    omega
theorem slF_SL {P : Nat} {op gone : Int64} (hP : P ≤ 25) : slF P op gone = SL (efB op gone) P := by
  unfold slF
  have key : ∀ n, n ≤ P → itn (slS P op gone) n [] = SL (efB op gone) n := by
    intro n
    induction n with
    | zero => intro _; rfl
    | succ n ih =>
      intro hn
      show slS P op gone n (itn (slS P op gone) n []) = SL (efB op gone) n ++ SLp (efB op gone) n
      rw [ih (by omega)]
      have hl := SL_len (efB op gone) n
      generalize SL (efB op gone) n = L at hl
      unfold slS addS SLp efB
      rw [hasF_gB (show 2 * n + 1 < 64 by omega), hasF_gB (show 2 * n + 1 < 64 by omega), hasF_gB (show 2 * n < 64 by omega), hasF_gB (show 2 * n < 64 by omega)]
      have q1 : L.length < 2 * P := by omega
      have q2 : L.length + 1 < 2 * P := by omega
      cases gB op (2 * n + 1) <;> cases gB gone (2 * n + 1) <;> cases gB op (2 * n) <;> cases gB gone (2 * n) <;> simp [q1, q2]
  exact key P (Nat.le_refl _)
def rkS (s : Nat) : Nat := 2 * (s / 2) + (1 - s % 2)
theorem rkS_inj {s t : Nat} (h : rkS s = rkS t) : s = t := by unfold rkS at h; omega
theorem mem_SL {ef : Nat → Bool} {s : Nat} : ∀ {P : Nat}, s ∈ SL ef P ↔ s / 2 < P ∧ ef s = true
  | 0 => ⟨fun h => absurd h List.not_mem_nil, fun h => absurd h.1 (Nat.not_lt_zero _)⟩
  | P + 1 => by
    have ih := mem_SL (ef := ef) (s := s) (P := P)
    show s ∈ SL ef P ++ SLp ef P ↔ _
    rw [List.mem_append, ih]
    unfold SLp
    rw [List.mem_append]
    constructor
    · rintro (h | h | h)
      · exact ⟨by omega, h.2⟩
      · by_cases z : ef (2 * P + 1) = true
        · rw [if_pos z, List.mem_singleton] at h
          rw [h]; exact ⟨by omega, z⟩
        · rw [if_neg z] at h; exact absurd h List.not_mem_nil
      · by_cases z : ef (2 * P) = true
        · rw [if_pos z, List.mem_singleton] at h
          rw [h]; exact ⟨by omega, z⟩
        · rw [if_neg z] at h; exact absurd h List.not_mem_nil
    · rintro ⟨h1, h2⟩
      rcases (show s / 2 < P ∨ s = 2 * P + 1 ∨ s = 2 * P by omega) with z | z | z
      · exact Or.inl ⟨z, h2⟩
      · refine Or.inr (Or.inl ?_)
        rw [z] at h2 ⊢
        rw [if_pos h2]; exact List.mem_singleton.mpr rfl
      · refine Or.inr (Or.inr ?_)
        rw [z] at h2 ⊢
        rw [if_pos h2]; exact List.mem_singleton.mpr rfl
theorem SL_sorted (ef : Nat → Bool) : ∀ P, (SL ef P).Pairwise (fun s t => rkS s < rkS t)
  | 0 => List.Pairwise.nil
  | P + 1 => by
    show (SL ef P ++ SLp ef P).Pairwise _
    rw [List.pairwise_append]
    refine ⟨SL_sorted ef P, ?_, ?_⟩
    · unfold SLp rkS
      cases ef (2 * P + 1) <;> cases ef (2 * P) <;> simp <;> omega
    · intro a ha b hb
      have h1 := (mem_SL.mp ha).1
      have h2 : b / 2 = P := by
        unfold SLp at hb
        rcases List.mem_append.mp hb with h | h
        · by_cases z : ef (2 * P + 1) = true
          · rw [if_pos z, List.mem_singleton] at h; omega
          · rw [if_neg z] at h; exact absurd h List.not_mem_nil
        · by_cases z : ef (2 * P) = true
          · rw [if_pos z, List.mem_singleton] at h; omega
          · rw [if_neg z] at h; exact absurd h List.not_mem_nil
      unfold rkS
      omega
def enS (w s : Nat) : Nat × Nat := (s / 2, if s % 2 = 1 then s / 2 + 1 else s / 2 + w)
/-- what was taken away, as the reference keeps it -/
def awS (aw : Nat → Bool) (s : Nat) : Bool := if s % 2 = 1 then aw (2 * (s / 2)) else aw (2 * (s / 2) + 1)
def efM (w h : Nat) (hb aw : Nat → Bool) (s : Nat) : Bool := if s % 2 = 1 then decide (s / 2 % w < w - 1) && (!hb (s / 2) && !hb (s / 2 + 1) && !aw (2 * (s / 2))) else decide (s / 2 / w < h - 1) && (!hb (s / 2) && !hb (s / 2 + w) && !aw (2 * (s / 2) + 1))
theorem mAdd_eq {hb aw : Nat → Bool} {el : List (Nat × Nat)} {a b t : Nat} : mAdd hb aw el a b t = el ++ (if (!hb a && !hb b && !aw t) = true then [(a, b)] else []) := by
  unfold mAdd
  cases hb a <;> cases hb b <;> cases aw t <;> simp
theorem mNum_SL {w h : Nat} {hb aw : Nat → Bool} : mNum w h hb aw = (SL (efM w h hb aw) (w * h)).map (enS w) := by
  unfold mNum
  have key : ∀ n, itn (mNumS w h hb aw) n [] = (SL (efM w h hb aw) n).map (enS w) := by
    intro n
    induction n with
    | zero => rfl
    | succ n ih =>
      show mNumS w h hb aw n (itn (mNumS w h hb aw) n []) = (SL (efM w h hb aw) n ++ SLp (efM w h hb aw) n).map (enS w)
      rw [ih, List.map_append]
      generalize (SL (efM w h hb aw) n).map (enS w) = el
      have e1 : efM w h hb aw (2 * n + 1) = (decide (n % w < w - 1) && (!hb n && !hb (n + 1) && !aw (2 * n))) := by
        unfold efM; rw [if_pos (by omega), show (2 * n + 1) / 2 = n by omega]
      have e2 : efM w h hb aw (2 * n) = (decide (n / w < h - 1) && (!hb n && !hb (n + w) && !aw (2 * n + 1))) := by
        unfold efM; rw [if_neg (by omega), show 2 * n / 2 = n by omega]
      have s1 : enS w (2 * n + 1) = (n, n + 1) := by unfold enS; rw [if_pos (by omega), show (2 * n + 1) / 2 = n by omega]
      have s2 : enS w (2 * n) = (n, n + w) := by unfold enS; rw [if_neg (by omega), show 2 * n / 2 = n by omega]
      unfold mNumS SLp
      rw [mAdd_eq, mAdd_eq, e1, e2]
      by_cases z1 : n % w < w - 1
      · rw [if_pos z1, decide_eq_true z1]
        by_cases z2 : n / w < h - 1
        · rw [if_pos z2, decide_eq_true z2]
          cases (!hb n && !hb (n + 1) && !aw (2 * n)) <;> cases (!hb n && !hb (n + w) && !aw (2 * n + 1)) <;> simp [s1, s2]
        · rw [if_neg z2, decide_eq_false z2]
          cases (!hb n && !hb (n + 1) && !aw (2 * n)) <;> simp [s1]
      · rw [if_neg z1, decide_eq_false z1]
        by_cases z2 : n / w < h - 1
        · rw [if_pos z2, decide_eq_true z2]
          cases (!hb n && !hb (n + w) && !aw (2 * n + 1)) <;> simp [s2]
        · rw [if_neg z2, decide_eq_false z2]
          simp
  exact key (w * h)
theorem SL_congr {ef eg : Nat → Bool} : ∀ {P : Nat}, (∀ s, s / 2 < P → ef s = eg s) → SL ef P = SL eg P
  | 0, _ => rfl
  | P + 1, h => by
    show SL ef P ++ SLp ef P = SL eg P ++ SLp eg P
    rw [SL_congr (fun s hs => h s (by omega))]
    unfold SLp
    rw [h (2 * P + 1) (by omega), h (2 * P) (by omega)]
theorem ef_eq {w h : Nat} {ho : Int32} {op gone : Int64} {hb aw : Nat → Bool} (hw : 0 < w) (hP : w * h ≤ 25) (hop : ∀ s, s < 64 → gB op s = opB w (w * h) (plB (w * h) ho) s) (hhb : ∀ p, p < w * h → hb p = gI ho p) (haw : ∀ s, s / 2 < w * h → gB op s = true → gB gone s = awS aw s) : ∀ s, s / 2 < w * h → efM w h hb aw s = efB op gone s := by
  intro s hs
  have h1 := hop s (by omega)
  have h2 := haw s hs
  unfold efM efB
  have p1 : plB (w * h) ho (s / 2) = !hb (s / 2) := by unfold plB; rw [decide_eq_true hs, hhb _ hs]; rfl
  by_cases z : s % 2 = 1
  · have e1 : opB w (w * h) (plB (w * h) ho) s = (!hb (s / 2) && decide (s / 2 % w + 1 < w) && plB (w * h) ho (s / 2 + 1)) := by unfold opB; rw [if_pos z, p1]
    have e2 : awS aw s = aw (2 * (s / 2)) := by unfold awS; rw [if_pos z]
    rw [e2] at h2
    rw [if_pos z, h1, e1]
    rw [h1, e1] at h2
    by_cases y : s / 2 % w + 1 < w
    · have hr := grid_right hs (show s / 2 % w < w - 1 by omega)
      have p2 : plB (w * h) ho (s / 2 + 1) = !hb (s / 2 + 1) := by unfold plB; rw [decide_eq_true hr, hhb _ hr]; rfl
      rw [p2, decide_eq_true y] at h2 ⊢
      rw [decide_eq_true (show s / 2 % w < w - 1 by omega)]
      cases q1 : hb (s / 2) <;> cases q2 : hb (s / 2 + 1) <;> rw [q1, q2] at h2 <;> simp at h2 ⊢
      rw [h2]
    · rw [decide_eq_false y, decide_eq_false (show ¬ s / 2 % w < w - 1 by omega)]
      simp
  · have e1 : opB w (w * h) (plB (w * h) ho) s = (!hb (s / 2) && plB (w * h) ho (s / 2 + w)) := by unfold opB; rw [if_neg z, p1]
    have e2 : awS aw s = aw (2 * (s / 2) + 1) := by unfold awS; rw [if_neg z]
    rw [e2] at h2
    rw [if_neg z, h1, e1]
    rw [h1, e1] at h2
    by_cases y : s / 2 / w < h - 1
    · have hr := grid_below (p := s / 2) (h := h) hw y
      have p2 : plB (w * h) ho (s / 2 + w) = !hb (s / 2 + w) := by unfold plB; rw [decide_eq_true hr, hhb _ hr]; rfl
      rw [p2] at h2 ⊢
      rw [decide_eq_true y]
      cases q1 : hb (s / 2) <;> cases q2 : hb (s / 2 + w) <;> rw [q1, q2] at h2 <;> simp at h2 ⊢
      rw [h2]
    · have hr : ¬ s / 2 + w < w * h := by
        intro q
        apply y
        have hm := Nat.div_add_mod (s / 2) w
        have hd : (s / 2 + w) / w < h := (Nat.div_lt_iff_lt_mul hw).mpr (by rw [Nat.mul_comm]; exact q)
        rw [Nat.add_div_right _ hw] at hd
        omega
      have p2 : plB (w * h) ho (s / 2 + w) = false := by unfold plB; rw [decide_eq_false hr]; rfl
      rw [p2, decide_eq_false y]
      simp
