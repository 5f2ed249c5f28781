/-! LINES: the step of a word -/
theorem gw_cases {e m : Nat} (he : e < 3) (h : gw 6 0 e m = true) : m ∈ GW := by
  unfold GW
  rw [List.mem_append, List.mem_append]
  rcases (by omega : e = 0 ∨ e = 1 ∨ e = 2) with z | z | z <;> subst z
  · exact Or.inl (mem_gwd.mpr h)
  · exact Or.inr (Or.inl (mem_gwd.mpr h))
  · exact Or.inr (Or.inr (mem_gwd.mpr h))
theorem caf2_R {lp c z e m : Nat} (hlp : lp < 2) (hc : c < 5) (hz : z < 4) (he : e < 3) (h : gw 6 0 e m = true) : caf2 (nI lp) (nI z) (nI (2 * c)) (nI m) = lnR lp c m z := of_decide_eq_true (List.all_eq_true.mp (List.all_eq_true.mp (List.all_eq_true.mp (List.all_eq_true.mp caf2_chk lp (List.mem_range.mpr hlp)) c (List.mem_range.mpr hc)) z (List.mem_range.mpr hz)) m (gw_cases he h))
theorem jn_R {c e m : Nat} (hc : c < 5) (he : e < 3) (h : gw 6 0 e m = true) : jchk e c m = true := List.all_eq_true.mp (List.all_eq_true.mp (List.all_eq_true.mp join_chk e (List.mem_range.mpr he)) c (List.mem_range.mpr hc)) m (mem_gwd.mpr h)
theorem mv_R {c z e m : Nat} (hc : c < 5) (hz : z < 4) (he : e < 3) (h : gw 6 0 e m = true) : mchk e c m z = true := List.all_eq_true.mp (List.all_eq_true.mp (List.all_eq_true.mp (List.all_eq_true.mp move_chk e (List.mem_range.mpr he)) c (List.mem_range.mpr hc)) z (List.mem_range.mpr hz)) m (mem_gwd.mpr h)
theorem wend_R {c e m : Nat} (hc : c < 5) (he : e < 2) (h : gw 6 0 e m = true) : withEndF (nI m) (nI (2 * c)) = (if sy m c = 0 then nI (m + 3 * 4 ^ c) else if sy m (c + 1) = 0 then nI (m + 3 * 4 ^ (c + 1)) else -1) ∧ (if sy m c = 0 then gw 6 0 (e + 1) (m + 3 * 4 ^ c) else if sy m (c + 1) = 0 then gw 6 0 (e + 1) (m + 3 * 4 ^ (c + 1)) else true) = true := by
  constructor
  · refine of_decide_eq_true (List.all_eq_true.mp (List.all_eq_true.mp wend_chk c (List.mem_range.mpr hc)) m ?_)
    rw [List.mem_append]
    rcases (by omega : e = 0 ∨ e = 1) with z | z <;> subst z
    · exact Or.inl (mem_gwd.mpr h)
    · exact Or.inr (mem_gwd.mpr h)
  · exact List.all_eq_true.mp (List.all_eq_true.mp (List.all_eq_true.mp wend_gw e (List.mem_range.mpr he)) c (List.mem_range.mpr hc)) m (mem_gwd.mpr h)
def nz (n : Nat) : Nat := if n = 0 then 0 else 1
def dg2 (m c z : Nat) : Nat := nz (sy m c) + nz (sy m (c + 1)) + bs2 z
def clo (m c : Nat) : Prop := (sy m c = 1 ∧ sy m (c + 1) = 2) ∨ (sy m c = 3 ∧ sy m (c + 1) = 3)
/-- what a step that goes on makes of a word -/
def LvW (e c m z n : Nat) : Prop := gw 6 0 e n = true ∧ (∀ j, j < 6 → (sy n j = 0 ↔ if j = c then z.testBit 0 = false else if j = c + 1 then z.testBit 1 = false else sy m j = 0)) ∧ (∀ v : Nat → Bool, Rsp n v = true ↔ ∃ x, Rsp m (st2 v c x) = true ∧ (z.testBit 0 = true → v c = x) ∧ (z.testBit 1 = true → v (c + 1) = x)) ∧ (z = 0 → sy m c ≠ 0 → sy m (c + 1) ≠ 0 → Rsp m (fun j => (3 * 2 ^ c).testBit j) = false)
theorem fw_false (s : Nat → Nat) (v : Nat → Bool) : ∀ (k j : Nat) (t : List Bool), fw s v k j (fun _ => false) t = false
  | 0, j, t => rfl
  | k + 1, j, t => by
    show f1 (s j) (v j) (fw s v k (j + 1) (fun _ => false)) t = false
    have e1 : fw s v k (j + 1) (fun _ => false) = fun _ => false := funext (fun t => fw_false s v k (j + 1) t)
    rw [e1]
    unfold f1
    by_cases z : s j = 1
    · rw [if_pos z]
    · rw [if_neg z]
      by_cases y : s j = 2
      · rw [if_pos y]
        cases t with
        | nil => rfl
        | cons a r => exact Bool.and_false _
      · rw [if_neg y]
theorem sy_lt (n j : Nat) : sy n j < 4 := Nat.mod_lt _ (by decide)
theorem st2_all {v : Nat → Bool} {c : Nat} {x : Bool} : ∀ j, j ≠ c → j ≠ c + 1 → st2 v c x j = v j := fun j h1 h2 => st2_ne h1 h2
theorem Rsp_m {m c : Nat} {v : Nat → Bool} {x : Bool} (hc : c < 5) : Rsp m (st2 v c x) = fw (sy m) v c 0 (f1 (sy m c) x (f1 (sy m (c + 1)) x (fw (sy m) v (4 - c) (c + 2) List.isEmpty))) [] := by
  have := Rsp_two (n := m) (m := m) (a := sy m c) (b := sy m (c + 1)) (v := st2 v c x) (v' := v) hc (fun j hj => by
    by_cases z : j = c
    · rw [if_pos z, z]
    · rw [if_neg z]
      by_cases y : j = c + 1
      · rw [if_pos y, y]
      · rw [if_neg y]) st2_all
  rw [st2_c, st2_c1] at this
  exact this
theorem lv_none {e c m : Nat} (hc : c < 5) (hg : gw 6 0 e m = true) (hl : sy m c = 0) (hu : sy m (c + 1) = 0) : LvW e c m 0 (rstN m c) := by
  rw [rst_0 hc hl hu]
  refine ⟨hg, fun j hj => ?_, fun v => ?_, fun _ h => absurd hl h⟩
  · by_cases z : j = c
    · rw [if_pos z, z, hl]; decide
    · rw [if_neg z]
      by_cases y : j = c + 1
      · rw [if_pos y, y, hu]; decide
      · rw [if_neg y]
  · have : ∀ x, Rsp m (st2 v c x) = Rsp m v := fun x => Rsp_congr (fun i hi => ⟨rfl, fun q => st2_ne (fun y => by rw [y, hl] at q; omega) (fun y => by rw [y, hu] at q; omega)⟩)
    constructor
    · intro h; exact ⟨false, by rw [this]; exact h, fun q => absurd q (by decide), fun q => absurd q (by decide)⟩
    · rintro ⟨x, h, _, _⟩; rw [this] at h; exact h
theorem lv_both {e c m : Nat} (hc : c < 5) (he : e < 3) (hg : gw 6 0 e m = true) (hl : sy m c = 0) (hu : sy m (c + 1) = 0) : LvW e c m 3 (rstN m c + 9 * 4 ^ c) := by
  have hm : m < 4096 := gw_lt hg
  have hsy := sy_rst (a := 1) (b := 2) hm (by decide) (by decide) c hc
  have hmv := mv_R (z := 3) hc (by decide) he hg
  unfold mchk at hmv
  rw [hl, hu, if_pos (by decide), if_pos rfl] at hmv
  refine ⟨hmv, fun j hj => ?_, fun v => ?_, fun h => absurd h (by decide)⟩
  · have q := hsy j hj
    rw [show (1 + 4 * 2) = 9 by decide] at q
    rw [q]
    by_cases z : j = c
    · rw [if_pos z, if_pos z]; decide
    · rw [if_neg z, if_neg z]
      by_cases y : j = c + 1
      · rw [if_pos y, if_pos y]; decide
      · rw [if_neg y, if_neg y]
  · have e1 := Rsp_two (v := v) (v' := v) hc hsy (fun _ _ _ => rfl)
    rw [show (1 + 4 * 2) = 9 by decide, f1_12] at e1
    have e2 : ∀ x, Rsp m (st2 v c x) = fw (sy m) v c 0 (fw (sy m) v (4 - c) (c + 2) List.isEmpty) [] := by
      intro x
      rw [Rsp_m hc, hl, hu, f1_0 _ _ (by decide) (by decide), f1_0 _ _ (by decide) (by decide)]
    rw [e1]
    by_cases y : v c = v (c + 1)
    · have e3 : (fun t => (v c == v (c + 1)) && fw (sy m) v (4 - c) (c + 2) List.isEmpty t) = fw (sy m) v (4 - c) (c + 2) List.isEmpty := by
        funext t; rw [y]; simp
      rw [e3]
      constructor
      · intro h; exact ⟨v c, by rw [e2]; exact h, fun _ => rfl, fun _ => y.symm⟩
      · rintro ⟨x, h, _, _⟩; rw [e2] at h; exact h
    · have e3 : (fun t => (v c == v (c + 1)) && fw (sy m) v (4 - c) (c + 2) List.isEmpty t) = fun _ => false := by
        funext t; rw [beq_eq_false_iff_ne.mpr y, Bool.false_and]
      rw [e3, fw_false]
      constructor
      · intro h; exact absurd h (by decide)
      · rintro ⟨x, h, h1, h2⟩; exact absurd ((h1 (by decide)).trans (h2 (by decide)).symm) y
theorem f1_mv {l u : Nat} {x : Bool} {F : List Bool → Bool} (h : l = 0 ∨ u = 0) : f1 l x (f1 u x F) = f1 (l + u) x F := by
  rcases h with z | z
  · subst z; rw [f1_0 x _ (by decide) (by decide), Nat.zero_add]
  · subst z; rw [f1_0 (s := 0) x F (by decide) (by decide), Nat.add_zero]
theorem lv_below {e c m : Nat} (hc : c < 5) (he : e < 3) (hg : gw 6 0 e m = true) (h1 : nz (sy m c) + nz (sy m (c + 1)) = 1) : LvW e c m 1 (rstN m c + (sy m c + sy m (c + 1)) * 4 ^ c) := by
  have hm : m < 4096 := gw_lt hg
  have hlu : (sy m c = 0 ∧ sy m (c + 1) ≠ 0) ∨ (sy m (c + 1) = 0 ∧ sy m c ≠ 0) := by
    unfold nz at h1
    by_cases z : sy m c = 0
    · rw [if_pos z] at h1
      by_cases y : sy m (c + 1) = 0
      · rw [if_pos y] at h1; exact absurd h1 (by decide)
      · exact Or.inl ⟨z, y⟩
    · rw [if_neg z] at h1
      by_cases y : sy m (c + 1) = 0
      · exact Or.inr ⟨y, z⟩
      · rw [if_neg y] at h1; exact absurd h1 (by decide)
  have hs4 : sy m c + sy m (c + 1) < 4 := by have := sy_lt m c; have := sy_lt m (c + 1); omega
  have hsy := sy_rst (a := sy m c + sy m (c + 1)) (b := 0) hm hs4 (by decide) c hc
  rw [Nat.mul_zero, Nat.add_zero] at hsy
  have hmv := mv_R (z := 1) hc (by decide) he hg
  unfold mchk at hmv
  unfold nz at h1
  rw [h1, if_pos (by decide), if_neg (by decide), if_pos rfl] at hmv
  refine ⟨hmv, fun j hj => ?_, fun v => ?_, fun h => absurd h (by decide)⟩
  · rw [hsy j hj]
    by_cases z : j = c
    · rw [if_pos z, if_pos z]
      constructor
      · intro q; omega
      · intro q; exact absurd q (by decide)
    · rw [if_neg z, if_neg z]
      by_cases y : j = c + 1
      · rw [if_pos y, if_pos y]; decide
      · rw [if_neg y, if_neg y]
  · rw [Rsp_two (v := v) (v' := v) hc hsy (fun _ _ _ => rfl), f1_0 (s := 0) _ _ (by decide) (by decide)]
    have e2 : ∀ x, Rsp m (st2 v c x) = fw (sy m) v c 0 (f1 (sy m c + sy m (c + 1)) x (fw (sy m) v (4 - c) (c + 2) List.isEmpty)) [] := by
      intro x
      rw [Rsp_m hc, f1_mv (by omega)]
    constructor
    · intro h; exact ⟨v c, by rw [e2]; exact h, fun _ => rfl, fun q => absurd q (by decide)⟩
    · rintro ⟨x, h, h2, _⟩; rw [e2, ← h2 (by decide)] at h; exact h
theorem lv_right {e c m : Nat} (hc : c < 5) (he : e < 3) (hg : gw 6 0 e m = true) (h1 : nz (sy m c) + nz (sy m (c + 1)) = 1) : LvW e c m 2 (rstN m c + (sy m c + sy m (c + 1)) * 4 ^ (c + 1)) := by
  have hm : m < 4096 := gw_lt hg
  have hlu : (sy m c = 0 ∧ sy m (c + 1) ≠ 0) ∨ (sy m (c + 1) = 0 ∧ sy m c ≠ 0) := by
    unfold nz at h1
    by_cases z : sy m c = 0
    · rw [if_pos z] at h1
      by_cases y : sy m (c + 1) = 0
      · rw [if_pos y] at h1; exact absurd h1 (by decide)
      · exact Or.inl ⟨z, y⟩
    · rw [if_neg z] at h1
      by_cases y : sy m (c + 1) = 0
      · exact Or.inr ⟨y, z⟩
      · rw [if_neg y] at h1; exact absurd h1 (by decide)
  have hs4 : sy m c + sy m (c + 1) < 4 := by have := sy_lt m c; have := sy_lt m (c + 1); omega
  have hsy := sy_rst (a := 0) (b := sy m c + sy m (c + 1)) hm (by decide) hs4 c hc
  have hco : (0 + 4 * (sy m c + sy m (c + 1))) * 4 ^ c = (sy m c + sy m (c + 1)) * 4 ^ (c + 1) := by
    rw [Nat.zero_add, Nat.pow_succ, Nat.mul_comm 4, Nat.mul_assoc, Nat.mul_comm 4]
  rw [hco] at hsy
  have hmv := mv_R (z := 2) hc (by decide) he hg
  unfold mchk at hmv
  unfold nz at h1
  rw [h1, if_pos (by decide), if_neg (by decide), if_neg (by decide)] at hmv
  refine ⟨hmv, fun j hj => ?_, fun v => ?_, fun h => absurd h (by decide)⟩
  · rw [hsy j hj]
    by_cases z : j = c
    · rw [if_pos z, if_pos z]; decide
    · rw [if_neg z, if_neg z]
      by_cases y : j = c + 1
      · rw [if_pos y, if_pos y]
        constructor
        · intro q; omega
        · intro q; exact absurd q (by decide)
      · rw [if_neg y, if_neg y]
  · rw [Rsp_two (v := v) (v' := v) hc hsy (fun _ _ _ => rfl), f1_0 (s := 0) _ _ (by decide) (by decide)]
    have e2 : ∀ x, Rsp m (st2 v c x) = fw (sy m) v c 0 (f1 (sy m c + sy m (c + 1)) x (fw (sy m) v (4 - c) (c + 2) List.isEmpty)) [] := by
      intro x
      rw [Rsp_m hc, f1_mv (by omega)]
    constructor
    · intro h; exact ⟨v (c + 1), by rw [e2]; exact h, fun q => absurd q (by decide), fun _ => rfl⟩
    · rintro ⟨x, h, _, h2⟩; rw [e2, ← h2 (by decide)] at h; exact h
theorem bits_c : ∀ c, c < 5 → ∀ b, b < 64 → b / 2 ^ c % 4 = 0 → (∀ j, j < 6 → (b + 3 * 2 ^ c).testBit j = (decide (j = c ∨ j = c + 1) || b.testBit j)) ∧ b.testBit c = false ∧ b.testBit (c + 1) = false := by decide +kernel
theorem bits_0 : ∀ c, c < 5 → ∀ b, b < 64 → b.testBit c = false → b.testBit (c + 1) = false → b / 2 ^ c % 4 = 0 := by decide +kernel
theorem lv_join {e c m : Nat} (hc : c < 5) (he : e < 3) (hg : gw 6 0 e m = true) (hl : sy m c ≠ 0) (hu : sy m (c + 1) ≠ 0) (hcl : ¬clo m c) : LvW e c m 0 (jnN m c) ∧ joinedF 0 (nI m) (nI (2 * c)) = nI (jnN m c) ∧ joinedF 1 (nI m) (nI (2 * c)) = nI (jnN m c) := by
  have h := jn_R hc he hg
  unfold jchk at h
  rw [if_neg (by omega), if_neg (fun q => hcl (Or.inl q)), if_neg (fun q => hcl (Or.inr q))] at h
  simp only [Bool.and_eq_true] at h
  obtain ⟨⟨⟨⟨⟨h1, h2⟩, h3⟩, h4⟩, h5⟩, h6⟩ := h
  refine ⟨⟨h3, fun j hj => ?_, fun v => ?_, fun _ _ _ => ?_⟩, of_decide_eq_true h1, of_decide_eq_true h2⟩
  · rw [of_decide_eq_true (List.all_eq_true.mp h5 j (List.mem_range.mpr hj))]
    by_cases z : j = c
    · rw [if_pos z]; exact ⟨fun _ => by decide, fun _ => Or.inl z⟩
    · rw [if_neg z]
      by_cases y : j = c + 1
      · rw [if_pos y]; exact ⟨fun _ => by decide, fun _ => Or.inr (Or.inl y)⟩
      · rw [if_neg y]
        constructor
        · rintro (q | q | q)
          · exact absurd q z
          · exact absurd q y
          · exact q
        · exact fun q => Or.inr (Or.inr q)
  · have hb := bv_at (st2 v c false)
    have hb0 := bits_0 c hc _ hb.1 (by rw [hb.2 c (by omega), st2_c]) (by rw [hb.2 (c + 1) (by omega), st2_c1])
    have hbc := bits_c c hc _ hb.1 hb0
    have h7 := List.all_eq_true.mp h6 _ (List.mem_range.mpr hb.1)
    rw [if_pos hb0, beq_iff_eq] at h7
    have s0 : ∀ j, (j = c ∨ j = c + 1) → sy (jnN m c) j = 0 := by
      intro j hj
      refine (of_decide_eq_true (List.all_eq_true.mp h5 j (List.mem_range.mpr (by omega)))).mpr ?_
      rcases hj with q | q
      · exact Or.inl q
      · exact Or.inr (Or.inl q)
    have g0 : Rsp (jnN m c) v = Rsp (jnN m c) (fun j => (bv (st2 v c false)).testBit j) := Rsp_congr (fun i hi => ⟨rfl, fun q => by
      rw [hb.2 i hi]
      by_cases y : i = c ∨ i = c + 1
      · rw [s0 i y] at q; omega
      · rw [st2_ne (by omega) (by omega)]⟩)
    have g1 : Rsp m (st2 v c false) = Rsp m (fun j => (bv (st2 v c false)).testBit j) := Rsp_congr (fun i hi => ⟨rfl, fun q => (hb.2 i hi).symm⟩)
    have g2 : Rsp m (st2 v c true) = Rsp m (fun j => (bv (st2 v c false) + 3 * 2 ^ c).testBit j) := Rsp_congr (fun i hi => ⟨rfl, fun q => by
      rw [hbc.1 i hi, hb.2 i hi]
      by_cases y : i = c ∨ i = c + 1
      · rw [decide_eq_true y, Bool.true_or]
        unfold st2; rw [if_pos y]
      · rw [decide_eq_false y, Bool.false_or, st2_ne (by omega) (by omega), st2_ne (by omega) (by omega)]⟩)
    rw [g0, h7, ← g1, ← g2, Bool.or_eq_true]
    constructor
    · rintro (q | q)
      · exact ⟨false, q, fun q => absurd q (by decide), fun q => absurd q (by decide)⟩
      · exact ⟨true, q, fun q => absurd q (by decide), fun q => absurd q (by decide)⟩
    · rintro ⟨x, q, _, _⟩
      cases x
      · exact Or.inl q
      · exact Or.inr q
  · rw [Bool.not_eq_true'] at h4; exact h4
/-- a step of a word, all cases -/
theorem lnR_dead {lp c m z : Nat} (h0 : dg2 m c z ≠ 0) (h2 : dg2 m c z ≠ 2) : lnR lp c m z = -1 := by
  unfold lnR
  unfold dg2 nz at h0 h2
  rw [if_neg h0, if_neg h2]
theorem lnR_live {lp c z e m : Nat} (hlp : lp < 2) (hc : c < 5) (hz : z < 4) (he : e < 3) (hg : gw 6 0 e m = true) (hd : dg2 m c z = 0 ∨ dg2 m c z = 2) (hcl : z = 0 → ¬clo m c) : ∃ n, lnR lp c m z = nI n ∧ LvW e c m z n := by
  have hd' := hd
  unfold dg2 at hd'
  unfold lnR
  rcases hd with h | h
  · have h' := h
    unfold dg2 nz at h
    rw [if_pos h]
    have hz0 : z = 0 := by
      rcases (by omega : z = 0 ∨ z = 1 ∨ z = 2 ∨ z = 3) with q | q | q | q
      · exact q
      · subst q; rw [bs2_v.2.1] at h; omega
      · subst q; rw [bs2_v.2.2.1] at h; omega
      · subst q; rw [bs2_v.2.2.2] at h; omega
    subst hz0
    have hl : sy m c = 0 := by
      by_cases q : sy m c = 0
      · exact q
      · rw [if_neg q] at h; omega
    have hu : sy m (c + 1) = 0 := by
      by_cases q : sy m (c + 1) = 0
      · exact q
      · rw [if_neg q] at h; omega
    exact ⟨_, rfl, lv_none hc hg hl hu⟩
  · have h' := h
    unfold dg2 nz at h
    rw [if_neg (by omega), if_pos h]
    rcases (by omega : z = 0 ∨ z = 1 ∨ z = 2 ∨ z = 3) with q | q | q | q
    · subst q
      rw [if_pos rfl]
      rw [bs2_v.1] at h
      have hl : sy m c ≠ 0 := by intro q; rw [if_pos q] at h; by_cases y : sy m (c + 1) = 0; (rw [if_pos y] at h; omega); (rw [if_neg y] at h; omega)
      have hu : sy m (c + 1) ≠ 0 := by intro q; rw [if_pos q] at h; by_cases y : sy m c = 0; (rw [if_pos y] at h; omega); (rw [if_neg y] at h; omega)
      have hj := lv_join hc he hg hl hu (hcl rfl)
      refine ⟨_, ?_, hj.1⟩
      rcases (by omega : lp = 0 ∨ lp = 1) with y | y <;> subst y
      · exact hj.2.1
      · exact hj.2.2
    · subst q
      rw [if_neg (by decide), if_neg (by decide), if_pos rfl]
      exact ⟨_, rfl, lv_below hc he hg (by unfold nz; rw [bs2_v.2.1] at h; omega)⟩
    · subst q
      rw [if_neg (by decide), if_neg (by decide), if_neg (by decide)]
      exact ⟨_, rfl, lv_right hc he hg (by unfold nz; rw [bs2_v.2.2.1] at h; omega)⟩
    · subst q
      rw [if_neg (by decide), if_pos rfl]
      rw [bs2_v.2.2.2] at h
      have hl : sy m c = 0 := by
        by_cases q : sy m c = 0
        · exact q
        · rw [if_neg q] at h; omega
      have hu : sy m (c + 1) = 0 := by
        by_cases q : sy m (c + 1) = 0
        · exact q
        · rw [if_neg q] at h; omega
      exact ⟨_, rfl, lv_both hc he hg hl hu⟩
theorem lnR_clo {lp c e m : Nat} (hlp : lp < 2) (hc : c < 5) (he : e < 3) (hg : gw 6 0 e m = true) (hcl : clo m c) : lnR lp c m 0 = (if rstN m c = 0 ∧ (sy m c = 1 ↔ lp = 1) then 4096 else -1) ∧ Rsp m (fun j => (3 * 2 ^ c).testBit j) = true := by
  have h := jn_R hc he hg
  unfold jchk at h
  have hl : sy m c ≠ 0 := by rcases hcl with q | q <;> omega
  have hu : sy m (c + 1) ≠ 0 := by rcases hcl with q | q <;> omega
  have e1 : lnR lp c m 0 = joinedF (nI lp) (nI m) (nI (2 * c)) := by
    unfold lnR
    rw [if_neg hl, if_neg hu, if_neg (by decide), if_pos (by decide), if_pos rfl]
  rw [if_neg (by omega)] at h
  rw [e1]
  rcases hcl with q | q
  · rw [if_pos q, Bool.and_eq_true, Bool.and_eq_true] at h
    refine ⟨?_, h.2⟩
    rcases (by omega : lp = 0 ∨ lp = 1) with y | y <;> subst y
    · rw [if_neg (by omega)]; exact of_decide_eq_true h.1.1
    · have := of_decide_eq_true h.1.2
      by_cases r : rstN m c = 0
      · rw [if_pos r] at this; rw [if_pos ⟨r, by omega⟩]; exact this
      · rw [if_neg r] at this; rw [if_neg (fun z => r z.1)]; exact this
  · rw [if_neg (by omega), if_pos q, Bool.and_eq_true, Bool.and_eq_true] at h
    refine ⟨?_, h.2⟩
    rcases (by omega : lp = 0 ∨ lp = 1) with y | y <;> subst y
    · have := of_decide_eq_true h.1.2
      by_cases r : rstN m c = 0
      · rw [if_pos r] at this; rw [if_pos ⟨r, by omega⟩]; exact this
      · rw [if_neg r] at this; rw [if_neg (fun z => r z.1)]; exact this
    · rw [if_neg (by omega)]; exact of_decide_eq_true h.1.1
