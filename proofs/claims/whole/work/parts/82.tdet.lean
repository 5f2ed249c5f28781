/-! TREES: treesF is the number of trees -/
def fd (st : Nat → Bool) : Nat → Bool
  | 0 => false
  | n + 1 => fd st n || st n
def Zc (st : Nat → Bool) (i : Nat) : Bool := !st i || !fd st i
theorem cl_spec {P : Nat} {hb : Nat → Bool} {pa : Nat → Nat} {N : Nat → Nat → Nat} : ∀ n, (itn (clS P hb pa) n (false, N)).1 = fd (stF P hb pa) n ∧ ∀ i k, (itn (clS P hb pa) n (false, N)).2 i k = if (i < n ∧ Zc (stF P hb pa) i = true) ∨ (k < n ∧ Zc (stF P hb pa) k = true) then (if i = k then 1 else 0) else N i k
  | 0 => ⟨rfl, fun i k => by rw [if_neg (by omega)]; rfl⟩
  | n + 1 => by
    have ih := cl_spec (P := P) (hb := hb) (pa := pa) (N := N) n
    have e0 : itn (clS P hb pa) (n + 1) (false, N) = clS P hb pa n (itn (clS P hb pa) n (false, N)) := rfl
    rw [e0]
    generalize itn (clS P hb pa) n (false, N) = s at ih
    unfold clS
    by_cases z : (stF P hb pa n && s.1) = true
    · rw [if_pos z]
      rw [Bool.and_eq_true, ih.1] at z
      have hz : Zc (stF P hb pa) n = false := by unfold Zc; rw [z.1, z.2]; rfl
      refine ⟨by rw [ih.1]; show _ = (fd (stF P hb pa) n || stF P hb pa n); rw [z.2]; rfl, fun i k => ?_⟩
      rw [ih.2 i k]
      have hiff : ∀ x, (x < n ∧ Zc (stF P hb pa) x = true) ↔ (x < n + 1 ∧ Zc (stF P hb pa) x = true) := fun x => by
        constructor
        · exact fun q => ⟨by omega, q.2⟩
        · intro q
          refine ⟨?_, q.2⟩
          rcases Nat.lt_or_ge x n with y | y
          · exact y
          · have : x = n := by omega
            rw [this, hz] at q; exact absurd q.2 (by decide)
      simp only [hiff]
    · rw [if_neg z]
      have hz : Zc (stF P hb pa) n = true := by
        unfold Zc
        rw [ih.1] at z
        cases h1 : stF P hb pa n <;> cases h2 : fd (stF P hb pa) n <;> first | rfl | (rw [h1, h2] at z; exact absurd rfl z)
      refine ⟨by show (s.1 || stF P hb pa n) = _; rw [ih.1]; rfl, fun i k => ?_⟩
      show unM s.2 n i k = _
      unfold unM
      rw [ih.2 i k]
      by_cases y : i = n ∨ k = n
      · have hy : (i < n + 1 ∧ Zc (stF P hb pa) i = true) ∨ (k < n + 1 ∧ Zc (stF P hb pa) k = true) := by
          rcases y with u | u
          · left; rw [u]; exact ⟨Nat.lt_succ_self n, hz⟩
          · right; rw [u]; exact ⟨Nat.lt_succ_self n, hz⟩
        rw [if_pos y, if_pos hy]
      · rw [if_neg y]
        have hiff : ((i < n ∧ Zc (stF P hb pa) i = true) ∨ (k < n ∧ Zc (stF P hb pa) k = true)) ↔ ((i < n + 1 ∧ Zc (stF P hb pa) i = true) ∨ (k < n + 1 ∧ Zc (stF P hb pa) k = true)) := by
          constructor
          · rintro (q | q)
            · exact Or.inl ⟨by omega, q.2⟩
            · exact Or.inr ⟨by omega, q.2⟩
          · rintro (q | q)
            · exact Or.inl ⟨by omega, q.2⟩
            · exact Or.inr ⟨by omega, q.2⟩
        simp only [hiff]
theorem fd_iff {st : Nat → Bool} : ∀ {n : Nat}, fd st n = true ↔ ∃ q, q < n ∧ st q = true
  | 0 => ⟨fun h => Bool.noConfusion h, fun ⟨q, h, _⟩ => absurd h (Nat.not_lt_zero q)⟩
  | n + 1 => by
    show (fd st n || st n) = true ↔ _
    rw [Bool.or_eq_true, fd_iff]
    constructor
    · rintro (⟨q, h1, h2⟩ | h)
      · exact ⟨q, by omega, h2⟩
      · exact ⟨n, Nat.lt_succ_self n, h⟩
    · rintro ⟨q, h1, h2⟩
      by_cases z : q = n
      · right; rw [← z]; exact h2
      · exact Or.inl ⟨q, by omega, h2⟩
/-- columns at unit rows may be emptied -/
theorem det_uc {Z : Nat → Bool} {L : Mat} {n : Nat} : det n (fun i k => if Z i = true then de i k else L i k) = det n (fun i k => if Z i = true ∨ Z k = true then de i k else L i k) := by
  have key : ∀ m, m ≤ n → det n (fun i k => if Z i = true then de i k else if k < m ∧ Z k = true then 0 else L i k) = det n (fun i k => if Z i = true then de i k else L i k) := by
    intro m
    induction m with
    | zero => intro _; exact det_congr (fun i k _ _ => by rw [if_neg (show ¬(k < 0 ∧ Z k = true) by omega)])
    | succ m ih =>
      intro hm
      rw [← ih (by omega)]
      by_cases z : Z m = true
      · rw [← det_elimR (A := fun i k => if Z i = true then de i k else if k < m ∧ Z k = true then 0 else L i k) (t := fun r => -(if Z r = true then de r m else L r m)) (show m < n by omega)]
        refine det_congr (fun i k _ _ => ?_)
        rw [if_pos z]
        by_cases y : i = m
        · rw [if_pos y, y, if_pos z, if_pos z]
        · rw [if_neg y]
          by_cases x : k = m
          · rw [x, de_s, if_neg (show ¬(m < m ∧ Z m = true) by omega), if_pos (show m < m + 1 ∧ Z m = true from ⟨Nat.lt_succ_self m, z⟩)]
            by_cases u : Z i = true
            · rw [if_pos u, if_pos u, de_n y]; rfl
            · rw [if_neg u, if_neg u]; omega
          · rw [de_n (fun q => x q.symm), Int.mul_zero, Int.add_zero]
            by_cases u : Z i = true
            · rw [if_pos u, if_pos u]
            · rw [if_neg u, if_neg u]
              by_cases v : k < m ∧ Z k = true
              · rw [if_pos v, if_pos ⟨by omega, v.2⟩]
              · rw [if_neg v, if_neg (fun q => v ⟨by omega, q.2⟩)]
      · refine det_congr (fun i k _ _ => ?_)
        by_cases u : Z i = true
        · rw [if_pos u, if_pos u]
        · rw [if_neg u, if_neg u]
          by_cases v : k < m ∧ Z k = true
          · rw [if_pos v, if_pos ⟨by omega, v.2⟩]
          · rw [if_neg v, if_neg (fun q => v ⟨by
              rcases Nat.lt_or_ge k m with a | a
              · exact a
              · have : k = m := by omega
                rw [this] at q; exact absurd q.2 z, q.2⟩)]
  rw [← key n (Nat.le_refl _)]
  refine det_congr (fun i k _ hk => ?_)
  by_cases u : Z i = true
  · rw [if_pos u, if_pos (Or.inl u)]
  · rw [if_neg u]
    by_cases v : Z k = true
    · rw [if_pos ⟨hk, v⟩, if_pos (Or.inr v), de_n (fun q => u (by rw [q]; exact v))]
    · rw [if_neg (fun q => v q.2), if_neg (by rintro (q | q); (exact u q); (exact v q))]
theorem detN_cg {N : Nat → Nat → Nat} {A : Mat} (h : ∀ i k, i < 25 → k < 25 → cg (N i k : Int) (A i k)) : cg (detN N : Int) (det 25 A) := by
  unfold detN
  have := gauss_ok 25 0 1 (fun a b => N ((25 * a + b) / 25) ((25 * a + b) % 25) % 2147483647) rfl (by decide) (fun a b => Nat.mod_lt _ (by decide))
  rw [show ((1 : Nat) : Int) = 1 from rfl, Int.one_mul] at this
  refine cg_tr this (det_cg (fun r s hr hs => ?_))
  unfold sbM
  dsimp only
  rw [Nat.zero_add, Nat.zero_add, show (25 * r + s) / 25 = r by omega, show (25 * r + s) % 25 = s by omega]
  exact cg_tr (cg_mod _) (h r s hr hs)
theorem cg_small {a b : Nat} (ha : a < 2147483647) (hb : b < 2147483647) (h : cg (a : Int) (b : Int)) : a = b := by
  obtain ⟨x, hx⟩ := h
  omega
theorem cp_0 {hb : Nat → Bool} : ∀ {n : Nat}, cpF hb n = 0 ↔ ∀ q, q < n → hb q = true
  | 0 => ⟨fun _ q h => absurd h (Nat.not_lt_zero q), fun _ => rfl⟩
  | n + 1 => by
    show cpF hb n + (if hb n = true then 0 else 1) = 0 ↔ _
    constructor
    · intro h q hq
      by_cases z : hb n = true
      · rw [if_pos z] at h
        by_cases y : q = n
        · rw [y]; exact z
        · exact cp_0.mp (by omega) q (by omega)
      · rw [if_neg z] at h; omega
    · intro h
      rw [if_pos (h n (Nat.lt_succ_self n)), cp_0.mpr (fun q hq => h q (by omega))]
theorem trees_TN {w h : Nat} {el : List (Nat × Nat)} {hb : Nat → Bool} {T : List Int64} {f : Nat → Int32} {q0 : Nat} (hE : El25 el) (hP : w * h ≤ 25) (hpl : ∀ (i a b : Nat), el[i]? = some (a, b) → plH (w * h) hb a = true ∧ plH (w * h) hb b = true) (hT : TLs el (plH (w * h) hb) T) (hlen : T.length < 2147483647) (hq0 : plH (w * h) hb q0 = true) (h012 : ∀ i, i < el.length → f i = 0 ∨ f i = 1 ∨ f i = 2) : treesF w h el hb f = TNf T el.length f := by
  have hM := M_S2 hE hP hpl hT hq0 el.length f (Nat.le_refl _) h012 (fun i h1 h2 => by omega)
  have hTN : TNf T el.length f < 2147483647 := by
    unfold TNf
    exact Nat.lt_of_le_of_lt (List.length_filter_le _ _) hlen
  have hcp : cpF hb (w * h) ≠ 0 := fun z => by
    have h2 := hq0
    unfold plH at h2
    rw [Bool.and_eq_true, decide_eq_true_iff, Bool.not_eq_true'] at h2
    rw [cp_0.mp z q0 h2.1] at h2; exact absurd h2.2 (by decide)
  cases hpa : prAll el f el.length with
  | none =>
    rw [hM.1 hpa]
    unfold treesF
    rw [if_neg hcp, hpa]
  | some pa =>
    have hL := prAll_LbO hpl hpa
    have e1 : treesF w h el hb f = detN (clF (w * h) hb pa (lapN el f pa el.length)) := by
      unfold treesF
      rw [if_neg hcp, hpa]
    have hs0 : stF (w * h) hb pa (pa q0) = true := (stF_pl _ _ _ _).mpr ⟨hL.2 q0 hq0, hL.1 q0⟩
    obtain ⟨r, r1, _, r3⟩ := min_ex (Q := fun v => stF (w * h) hb pa v = true) (pa q0) hs0
    have hZ : ∀ i, Zc (stF (w * h) hb pa) i = true ↔ (stF (w * h) hb pa i = false ∨ i = r) := by
      intro i
      unfold Zc
      rw [Bool.or_eq_true, Bool.not_eq_true', Bool.not_eq_true']
      constructor
      · rintro (q | q)
        · exact Or.inl q
        · rcases Bool.eq_false_or_eq_true (stF (w * h) hb pa i) with y | y
          · right
            rcases Nat.lt_trichotomy i r with u | u | u
            · exact absurd y (r3 i u)
            · exact u
            · have := fd_iff.mpr ⟨r, u, r1⟩; rw [q] at this; exact absurd this (by decide)
          · exact Or.inl y
      · rintro (q | q)
        · exact Or.inl q
        · right
          rcases Bool.eq_false_or_eq_true (fd (stF (w * h) hb pa) i) with y | y
          · obtain ⟨v, v1, v2⟩ := fd_iff.mp y
            rw [q] at v1; exact absurd v2 (r3 v v1)
          · exact y
    have hcl := (cl_spec (P := w * h) (hb := hb) (pa := pa) (N := lapN el f pa el.length) 25).2
    have h1 : cg (detN (clF (w * h) hb pa (lapN el f pa el.length)) : Int) (det 25 (fun i k => if Zc (stF (w * h) hb pa) i = true ∨ Zc (stF (w * h) hb pa) k = true then de i k else lapS el f pa el.length i k)) := by
      refine detN_cg (fun i k hi hk => ?_)
      unfold clF
      rw [hcl i k]
      by_cases y : Zc (stF (w * h) hb pa) i = true ∨ Zc (stF (w * h) hb pa) k = true
      · rw [if_pos y, if_pos (by rcases y with u | u; (exact Or.inl ⟨hi, u⟩); (exact Or.inr ⟨hk, u⟩))]
        unfold de
        by_cases x : i = k
        · rw [if_pos x, if_pos x]; exact cg_rfl _
        · rw [if_neg x, if_neg x]; exact cg_rfl _
      · rw [if_neg y, if_neg (by rintro (q | q); (exact y (Or.inl q.2)); (exact y (Or.inr q.2)))]
        exact lap_cg i k el.length
    rw [← det_uc] at h1
    have e2 : det 25 (fun i k => if Zc (stF (w * h) hb pa) i = true then de i k else lapS el f pa el.length i k) = Dt (stF (w * h) hb pa) r (lapS el f pa el.length) := det_congr (fun i k _ _ => by
      unfold Um
      by_cases y : Zc (stF (w * h) hb pa) i = true
      · rw [if_pos y, if_pos ((hZ i).mp y)]
      · rw [if_neg y, if_neg (fun q => y ((hZ i).mpr q))])
    rw [e2, hM.2 pa hpa r r1, ← e1] at h1
    exact cg_small treesF_lt hTN h1
