/-! THE REFERENCE'S determinant IS ONE, modulo the prime -/
def cg (a b : Int) : Prop := (2147483647 : Int) ∣ a - b
theorem cg_rfl (a : Int) : cg a a := by unfold cg; rw [Int.sub_self]; exact Int.dvd_zero _
theorem cg_sym {a b : Int} (h : cg a b) : cg b a := by
  obtain ⟨x, hx⟩ := h
  exact ⟨-x, by omega⟩
theorem cg_tr {a b c : Int} (h1 : cg a b) (h2 : cg b c) : cg a c := by
  obtain ⟨x, hx⟩ := h1
  obtain ⟨y, hy⟩ := h2
  exact ⟨x + y, by omega⟩
theorem cg_mul {a b c d : Int} (h1 : cg a b) (h2 : cg c d) : cg (a * c) (b * d) := by
  obtain ⟨x, hx⟩ := h1
  obtain ⟨y, hy⟩ := h2
  refine ⟨x * c + b * y, ?_⟩
  have e1 : a = b + 2147483647 * x := by omega
  have e2 : d = c - 2147483647 * y := by omega
  rw [e1, e2, Int.add_mul, Int.mul_sub, Int.mul_add]
  have a1 : 2147483647 * x * c = 2147483647 * (x * c) := Int.mul_assoc _ _ _
  have a2 : b * (2147483647 * y) = 2147483647 * (b * y) := Int.mul_left_comm _ _ _
  omega
theorem cg_add {a b c d : Int} (h1 : cg a b) (h2 : cg c d) : cg (a + c) (b + d) := by
  obtain ⟨x, hx⟩ := h1
  obtain ⟨y, hy⟩ := h2
  exact ⟨x + y, by omega⟩
theorem cg_neg {a b : Int} (h : cg a b) : cg (-a) (-b) := by
  obtain ⟨x, hx⟩ := h
  exact ⟨-x, by omega⟩
theorem cg_mod (n : Nat) : cg ((n % 2147483647 : Nat) : Int) (n : Int) := by
  have := Nat.div_add_mod n 2147483647
  refine ⟨-((n / 2147483647 : Nat) : Int), ?_⟩
  omega
theorem det_cg {n : Nat} {A B : Mat} (h : ∀ r c, r < n → c < n → cg (A r c) (B r c)) : cg (det n A) (det n B) := det_mod h
def sbM (c : Nat) (M : Nat → Nat → Nat) : Mat := fun r s => (M (c + r) (c + s) : Int)
theorem pv_spec {M : Nat → Nat → Nat} {c : Nat} : ∀ (k r : Nat), r ≤ pvF M c k r ∧ pvF M c k r ≤ r + k ∧ (pvF M c k r < r + k → M (pvF M c k r) c ≠ 0) ∧ ∀ i, r ≤ i → i < pvF M c k r → M i c = 0
  | 0, r => ⟨Nat.le_refl _, Nat.le_refl _, fun h => absurd h (Nat.lt_irrefl _), fun i h1 h2 => absurd h2 (by show ¬i < r; omega)⟩
  | k + 1, r => by
    show r ≤ (if M r c = 0 then pvF M c k (r + 1) else r) ∧ (if M r c = 0 then pvF M c k (r + 1) else r) ≤ r + (k + 1) ∧ ((if M r c = 0 then pvF M c k (r + 1) else r) < r + (k + 1) → M (if M r c = 0 then pvF M c k (r + 1) else r) c ≠ 0) ∧ ∀ i, r ≤ i → i < (if M r c = 0 then pvF M c k (r + 1) else r) → M i c = 0
    by_cases z : M r c = 0
    · simp only [if_pos z]
      obtain ⟨h1, h2, h3, h4⟩ := pv_spec (M := M) (c := c) k (r + 1)
      refine ⟨by omega, by omega, fun h => h3 (by omega), fun i a b => ?_⟩
      by_cases y : i = r
      · rw [y]; exact z
      · exact h4 i (by omega) b
    · simp only [if_neg z]
      exact ⟨Nat.le_refl _, by omega, fun _ => z, fun i a b => by omega⟩
/-- the first row taken from others -/
theorem det_elim {n : Nat} {A : Mat} {t : Nat → Int} : ∀ (m : Nat), m < n → det n (fun r s => if 1 ≤ r ∧ r ≤ m then A r s + -t r * A 0 s else A r s) = det n A
  | 0, _ => det_congr (fun r s _ _ => if_neg (by omega))
  | m + 1, h => by
    refine Eq.trans ?_ (det_elim (A := A) (t := t) m (by omega))
    have e1 : (fun r s => if 1 ≤ r ∧ r ≤ m + 1 then A r s + -t r * A 0 s else A r s) = setR (fun r s => if 1 ≤ r ∧ r ≤ m then A r s + -t r * A 0 s else A r s) (m + 1) (fun s => A (m + 1) s + -t (m + 1) * (fun r s => if 1 ≤ r ∧ r ≤ m then A r s + -t r * A 0 s else A r s) 0 s) := by
      funext r s
      unfold setR
      dsimp only
      rw [if_neg (show ¬(1 ≤ 0 ∧ 0 ≤ m) by omega)]
      by_cases z : r = m + 1
      · rw [if_pos z, if_pos (by omega), z]
      · rw [if_neg z]
        by_cases y : 1 ≤ r ∧ r ≤ m
        · rw [if_pos y, if_pos (by omega)]
        · rw [if_neg y, if_neg (by omega)]
    rw [e1, det_add h (by omega) (by omega)]
    refine det_congr (fun r s _ _ => ?_)
    unfold setR
    by_cases z : r = m + 1
    · rw [if_pos z, if_neg (by omega), z]
    · rw [if_neg z]
theorem el_cg {x ac inv cb : Nat} : cg (((x + (2147483647 - ac * inv % 2147483647) * cb) % 2147483647 : Nat) : Int) ((x : Int) + -((ac : Int) * inv) * cb) := by
  refine cg_tr (cg_mod _) ?_
  have hlt := Nat.mod_lt (ac * inv) (show 0 < 2147483647 by decide)
  have hm := cg_mod (ac * inv)
  generalize ac * inv % 2147483647 = q at *
  rw [Int.natCast_add, Int.natCast_mul, Int.natCast_sub (Nat.le_of_lt hlt)]
  refine cg_add (cg_rfl _) (cg_mul ?_ (cg_rfl _))
  rw [Int.natCast_mul] at hm
  obtain ⟨y, hy⟩ := hm
  exact ⟨1 - y, by omega⟩
theorem gauss_ok : ∀ (k c pr : Nat) (M : Nat → Nat → Nat), c + k = 25 → pr ≤ 2147483647 → (∀ a b, M a b < 2147483647) → cg (gaussF k c pr M : Int) ((pr : Int) * det k (sbM c M))
  | 0, c, pr, M, _, _, _ => by
    show cg ((pr % 2147483647 : Nat) : Int) ((pr : Int) * 1)
    rw [Int.mul_one]; exact cg_mod pr
  | k + 1, c, pr, M, hk, hpr, hM => by
    have hpv := pv_spec (M := M) (c := c) (k + 1) c
    show cg ((if pvF M c (k + 1) c = 25 then 0 else gaussF k (c + 1) ((if pvF M c (k + 1) c = c then pr else 2147483647 - pr) * swM M (pvF M c (k + 1) c) c c c % 2147483647) (elM (swM M (pvF M c (k + 1) c) c) c (invF (swM M (pvF M c (k + 1) c) c c c))) : Nat) : Int) _
    generalize pvF M c (k + 1) c = r0 at hpv
    by_cases z : r0 = 25
    · rw [if_pos z, det_c0 (c := 0) (by omega) (fun r hr => by
        show ((M (c + r) (c + 0) : Nat) : Int) = 0
        rw [Nat.add_zero, hpv.2.2.2 (c + r) (by omega) (by omega)]; rfl), Int.mul_zero]
      exact cg_rfl _
    · rw [if_neg z]
      have hM' := swM_lt (r := r0) (c := c) hM
      have hx0 : swM M r0 c c c ≠ 0 := by
        unfold swM; rw [if_pos rfl]; exact hpv.2.2.1 (by omega)
      have hdet : det (k + 1) (sbM c M) = (if r0 = c then 1 else -1) * det (k + 1) (sbM c (swM M r0 c)) := by
        by_cases y : r0 = c
        · rw [if_pos y, Int.one_mul]
          exact det_congr (fun r s _ _ => by unfold sbM; rw [y, swM_self])
        · rw [if_neg y]
          have := det_swap (n := k + 1) (A := sbM c M) (i := 0) (j := r0 - c) (by omega) (by omega) (by omega)
          have e : det (k + 1) (sbM c (swM M r0 c)) = det (k + 1) (fun r s => if r = 0 then sbM c M (r0 - c) s else if r = r0 - c then sbM c M 0 s else sbM c M r s) := det_congr (fun r s _ _ => by
            unfold sbM swM
            by_cases u : r = 0
            · rw [if_pos (show c + r = c by omega), if_pos u, show c + (r0 - c) = r0 by omega]
            · rw [if_neg (show ¬c + r = c by omega), if_neg u]
              by_cases v : r = r0 - c
              · rw [if_pos (show c + r = r0 by omega), if_pos v, Nat.add_zero]
              · rw [if_neg (show ¬c + r = r0 by omega), if_neg v])
          rw [e, this]; omega
      generalize hM2 : swM M r0 c = M2 at *
      have hinv := inv_ok hx0 (hM' c c)
      generalize invF (M2 c c) = iv at hinv ⊢
      have ih := gauss_ok k (c + 1) ((if r0 = c then pr else 2147483647 - pr) * M2 c c % 2147483647) (elM M2 c iv) (by omega) (Nat.le_of_lt (Nat.mod_lt _ (by decide))) (elM_lt hM')
      refine cg_tr ih ?_
      have hmain : cg ((M2 c c : Int) * det k (sbM (c + 1) (elM M2 c iv))) (det (k + 1) (sbM c M2)) := by
        have e1 := det_elim (n := k + 1) (A := sbM c M2) (t := fun r => (M2 (c + r) c : Int) * (iv : Int)) k (by omega)
        rw [← e1]
        have e2 : det (k + 1) (fun r s => if r = 0 then sbM c M2 0 s else if s = 0 then 0 else ((elM M2 c iv (c + r) (c + s) : Nat) : Int)) = (M2 c c : Int) * det k (sbM (c + 1) (elM M2 c iv)) := by
          show sumI _ (k + 1) = _
          rw [sumI_one (k := 0) (by omega) (fun i _ hne => by
            dsimp only
            rw [if_neg hne, if_pos rfl, Int.mul_zero, Int.zero_mul])]
          dsimp only
          rw [if_pos rfl]
          have e3 : sg 0 * sbM c M2 0 0 = (M2 c c : Int) := by
            show (1 : Int) * ((M2 (c + 0) (c + 0) : Nat) : Int) = _
            rw [Int.one_mul, Nat.add_zero]
          rw [e3]
          congr 1
          refine det_congr (fun r s _ _ => ?_)
          unfold mn sk sbM
          rw [if_neg (Nat.not_lt_zero r)]
          dsimp only
          rw [if_neg (show ¬r + 1 = 0 by omega), if_neg (show ¬s + 1 = 0 by omega), show c + (r + 1) = c + 1 + r by omega, show c + (s + 1) = c + 1 + s by omega]
        rw [← e2]
        refine det_cg (fun r s hr hs => ?_)
        by_cases u : r = 0
        · rw [if_pos u, if_neg (by omega), u]; exact cg_rfl _
        · by_cases v : s = 0
          · rw [if_neg u, if_pos v, if_pos (show 1 ≤ r ∧ r ≤ k by omega), v]
            show cg 0 (((M2 (c + r) (c + 0) : Nat) : Int) + -((M2 (c + r) c : Int) * (iv : Int)) * ((M2 (c + 0) (c + 0) : Nat) : Int))
            rw [Nat.add_zero]
            have h1 : cg (((M2 c c * iv % 2147483647 : Nat)) : Int) ((M2 c c * iv : Nat) : Int) := cg_mod _
            rw [hinv, Int.natCast_mul] at h1
            obtain ⟨y, hy⟩ := h1
            refine ⟨-((M2 (c + r) c : Int) * y), ?_⟩
            have e4 : (M2 c c : Int) * (iv : Int) = 1 - 2147483647 * y := by
              have : ((1 : Nat) : Int) = 1 := rfl
              omega
            have e5 : -((M2 (c + r) c : Int) * (iv : Int)) * (M2 c c : Int) = -((M2 (c + r) c : Int) * ((M2 c c : Int) * (iv : Int))) := by
              rw [Int.neg_mul, Int.mul_assoc, Int.mul_comm (iv : Int)]
            rw [e5, e4, Int.mul_sub, Int.mul_one]
            have e6 : (M2 (c + r) c : Int) * (2147483647 * y) = 2147483647 * ((M2 (c + r) c : Int) * y) := Int.mul_left_comm _ _ _
            omega
          · rw [if_neg u, if_neg v, if_pos (show 1 ≤ r ∧ r ≤ k by omega)]
            show cg ((elM M2 c iv (c + r) (c + s) : Nat) : Int) (((M2 (c + r) (c + s) : Nat) : Int) + -((M2 (c + r) c : Int) * (iv : Int)) * ((M2 (c + 0) (c + s) : Nat) : Int))
            rw [Nat.add_zero]
            unfold elM
            rw [if_pos (by omega)]
            exact el_cg
      have hpr2 : cg ((((if r0 = c then pr else 2147483647 - pr) * M2 c c % 2147483647 : Nat)) : Int) ((pr : Int) * (if r0 = c then 1 else -1) * (M2 c c : Int)) := by
        refine cg_tr (cg_mod _) ?_
        rw [Int.natCast_mul]
        refine cg_mul ?_ (cg_rfl _)
        by_cases y : r0 = c
        · rw [if_pos y, if_pos y, Int.mul_one]; exact cg_rfl _
        · rw [if_neg y, if_neg y, Int.natCast_sub hpr]
          exact ⟨1, by omega⟩
      refine cg_tr (cg_mul hpr2 (cg_rfl _)) ?_
      rw [hdet, Int.mul_assoc, ← Int.mul_assoc (pr : Int)]
      exact cg_mul (cg_rfl _) hmain
