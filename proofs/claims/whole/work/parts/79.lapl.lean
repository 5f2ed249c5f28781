/-! TREES: an edge less and an edge drawn together, for determinants -/
def de (i k : Nat) : Int := if i = k then 1 else 0
theorem de_s (i : Nat) : de i i = 1 := if_pos rfl
theorem de_n {i k : Nat} (h : i ≠ k) : de i k = 0 := if_neg h
/-- a row taken from all others -/
theorem det_elimR {n : Nat} {A : Mat} {t : Nat → Int} {β : Nat} (hβ : β < n) : det n (fun r s => if r = β then A r s else A r s + t r * A β s) = det n A := by
  have key : ∀ m, m ≤ n → det n (fun r s => if r = β ∨ m ≤ r then A r s else A r s + t r * A β s) = det n A := by
    intro m
    induction m with
    | zero => intro _; exact det_congr (fun r s _ _ => if_pos (Or.inr (Nat.zero_le _)))
    | succ m ih =>
      intro hm
      rw [← ih (by omega)]
      by_cases z : m = β
      · refine det_congr (fun r s _ _ => ?_)
        by_cases y : r = β
        · rw [if_pos (Or.inl y), if_pos (Or.inl y)]
        · by_cases x : m ≤ r
          · rw [if_pos (Or.inr (by omega)), if_pos (Or.inr x)]
          · rw [if_neg (by omega), if_neg (by omega)]
      · have e1 : (fun r s => if r = β ∨ m + 1 ≤ r then A r s else A r s + t r * A β s) = setR (fun r s => if r = β ∨ m ≤ r then A r s else A r s + t r * A β s) m (fun s => A m s + t m * (fun r s => if r = β ∨ m ≤ r then A r s else A r s + t r * A β s) β s) := by
          funext r s
          unfold setR
          dsimp only
          rw [if_pos (show β = β ∨ m ≤ β from Or.inl rfl)]
          by_cases y : r = m
          · rw [if_pos y, if_neg (by omega), y]
          · rw [if_neg y]
            by_cases x : r = β ∨ m ≤ r
            · rw [if_pos x, if_pos (by omega)]
            · rw [if_neg x, if_neg (by omega)]
        rw [e1, det_add (by omega) hβ z]
        refine det_congr (fun r s _ _ => ?_)
        unfold setR
        by_cases y : r = m
        · rw [if_pos y, if_pos (by omega), y]
        · rw [if_neg y]
  rw [← key n (Nat.le_refl _)]
  refine det_congr (fun r s hr _ => ?_)
  by_cases y : r = β
  · rw [if_pos y, if_pos (Or.inl y)]
  · rw [if_neg y, if_neg (by omega)]
/-- the matrix of a root: unit rows at the root and at what is no vertex -/
def Um (st : Nat → Bool) (r : Nat) (L : Mat) : Mat := fun i k => if st i = false ∨ i = r then de i k else L i k
def Dt (st : Nat → Bool) (r : Nat) (L : Mat) : Int := det 25 (Um st r L)
def ve (α β i : Nat) : Int := de i α - de i β
def Mg (α β : Nat) (L : Mat) : Mat := fun i k =>
  if i = β then 0 else if k = β then 0 else
  (if i = α then (if k = α then L α α + L α β + (L β α + L β β) else L α k + L β k) else (if k = α then L i α + L i β else L i k))
/-- columns drawn together -/
def Mc (α β : Nat) (B : Mat) : Mat := fun i k => if i = β then de β k else if k = α then B i α + B i β else if k = β then 0 else B i k
theorem det_Mc {n : Nat} {α β : Nat} {B : Mat} (hα : α < n) (hβ : β < n) (hne : α ≠ β) (hB : ∀ k, B β k = de β k - de α k) : det n B = det n (Mc α β B) := by
  rw [← det_elimR (A := B) (t := fun r => -B r β) hβ]
  have e1 : det n (fun r s => if r = β then B r s else B r s + -B r β * B β s) = det n (setR (Mc α β B) β (fun s => de β s + (-1) * de α s)) := det_congr (fun r s _ _ => by
    unfold setR Mc
    by_cases z : r = β
    · rw [if_pos z, if_pos z, z, hB s]
      show de β s - de α s = de β s + -1 * de α s
      omega
    · rw [if_neg z, if_neg z, if_neg z, hB s]
      by_cases y : s = α
      · subst y
        rw [if_pos rfl, de_s, de_n (fun q => hne q.symm)]; omega
      · rw [if_neg y]
        by_cases x : s = β
        · subst x
          rw [if_pos rfl, de_s, de_n hne]; omega
        · rw [if_neg x, de_n (fun q => x q.symm), de_n (fun q => y q.symm)]; omega)
  rw [e1, det_lin hβ]
  have e2 : det n (setR (Mc α β B) β (de α)) = 0 := det_c0 hβ (fun r _ => by
    by_cases z : r = β
    · rw [z, setR_eq]; exact de_n hne
    · rw [setR_ne z]
      unfold Mc
      rw [if_neg z, if_neg (fun q => hne q.symm), if_pos rfl])
  have e3 : setR (Mc α β B) β (de β) = Mc α β B := by
    funext r s
    by_cases z : r = β
    · rw [z, setR_eq]; unfold Mc; rw [if_pos rfl]
    · rw [setR_ne z]
  show det n (setR (Mc α β B) β (de β)) + -1 * det n (setR (Mc α β B) β (de α)) = _
  rw [e2, e3]; omega
def st2r (st : Nat → Bool) (β i : Nat) : Bool := st i && !decide (i = β)
theorem st2r_n {st : Nat → Bool} {β i : Nat} (h : i ≠ β) : st2r st β i = st i := by unfold st2r; rw [decide_eq_false h, Bool.not_false, Bool.and_true]
theorem st2r_b (st : Nat → Bool) (β : Nat) : st2r st β β = false := by unfold st2r; rw [decide_eq_true rfl, Bool.not_true, Bool.and_false]
theorem ve_a {α β : Nat} (h : α ≠ β) : ve α β α = 1 := by unfold ve; rw [de_s, de_n h]; rfl
theorem ve_b {α β : Nat} (h : α ≠ β) : ve α β β = -1 := by unfold ve; rw [de_s, de_n (fun q => h q.symm)]; rfl
theorem ve_o {α β i : Nat} (h1 : i ≠ α) (h2 : i ≠ β) : ve α β i = 0 := by unfold ve; rw [de_n h1, de_n h2]; rfl
theorem de_c (i k : Nat) : de i k = de k i := by
  unfold de
  by_cases z : i = k
  · rw [if_pos z, if_pos z.symm]
  · rw [if_neg z, if_neg (fun q => z q.symm)]
/-- the drawn matrix, from one with the row of a difference -/
theorem drawn_D {st : Nat → Bool} {L : Mat} {α β r : Nat} (hα : α < 25) (hβ : β < 25) (hne : α ≠ β) (sα : st α = true) (hrβ : r ≠ β) (B : Mat) (hBβ : ∀ k, B β k = de β k - de α k) (hBo : ∀ i, i < 25 → i ≠ β → i ≠ α → ∀ k, B i k = Um st r L i k) (hBα : ∀ k, B α k = if α = r then de α k else L α k + L β k) : det 25 B = Dt (st2r st β) r (Mg α β L) := by
  rw [det_Mc hα hβ hne hBβ]
  refine det_congr (fun i k hi hk => ?_)
  unfold Mc Um
  by_cases z : i = β
  · rw [if_pos z, z, if_pos (Or.inl (st2r_b st β))]
  · rw [if_neg z, st2r_n z]
    by_cases y : i = α
    · subst y
      rw [hBα i, hBα β, hBα k]
      by_cases x : i = r
      · rw [if_pos (Or.inr x), if_pos x, if_pos x, if_pos x]
        by_cases u : k = i
        · rw [if_pos u, u, de_s, de_n hne]; rfl
        · rw [if_neg u]
          by_cases v : k = β
          · rw [if_pos v, v, de_n hne]
          · rw [if_neg v]
      · rw [if_neg (show ¬(st i = false ∨ i = r) by rw [sα]; rintro (q | q); (exact absurd q (by decide)); (exact x q)), if_neg x, if_neg x, if_neg x]
        unfold Mg
        rw [if_neg z]
        by_cases u : k = i
        · rw [if_pos u, if_neg (show ¬k = β by omega), if_pos rfl, if_pos u]; omega
        · rw [if_neg u]
          by_cases v : k = β
          · rw [if_pos v, if_pos v]
          · rw [if_neg v, if_neg v, if_pos rfl, if_neg u]
    · rw [hBo i hi z y, hBo i hi z y, hBo i hi z y]
      unfold Um
      by_cases x : st i = false ∨ i = r
      · rw [if_pos x, if_pos x, if_pos x, if_pos x]
        by_cases u : k = α
        · rw [if_pos u, u, de_n y, de_n z]; rfl
        · rw [if_neg u]
          by_cases v : k = β
          · rw [if_pos v, v, de_n z]
          · rw [if_neg v]
      · rw [if_neg x, if_neg x, if_neg x, if_neg x]
        unfold Mg
        rw [if_neg z]
        by_cases u : k = α
        · rw [if_pos u, if_neg (show ¬k = β by omega), if_neg y, if_pos u]
        · rw [if_neg u]
          by_cases v : k = β
          · rw [if_pos v, if_pos v]
          · rw [if_neg v, if_neg v, if_neg y, if_neg u]
theorem DC {st : Nat → Bool} {L L2 : Mat} {α β r : Nat} (hα : α < 25) (hβ : β < 25) (hne : α ≠ β) (sα : st α = true) (sβ : st β = true) (hL : ∀ i k, L2 i k = L i k + ve α β i * ve α β k) : Dt st r L2 = Dt st r L + Dt (st2r st β) (if r = β then α else r) (Mg α β L) := by
  have vk : ∀ k, ve α β k = de α k - de β k := fun k => by unfold ve; rw [de_c k α, de_c k β]
  by_cases ra : r = α
  · subst ra
    rw [if_neg hne]
    have e1 : Um st r L2 = setR (Um st r L) β (fun k => L β k + (-1) * ve r β k) := by
      funext i k
      by_cases z : i = β
      · rw [z, setR_eq]; unfold Um
        rw [if_neg (show ¬(st β = false ∨ β = r) by rw [sβ]; rintro (q | q); (exact absurd q (by decide)); (exact hne q.symm)), hL, ve_b hne]
      · rw [setR_ne z]
        unfold Um
        by_cases x : st i = false ∨ i = r
        · rw [if_pos x, if_pos x]
        · rw [if_neg x, if_neg x, hL, ve_o (fun q => x (Or.inr q)) z]; omega
    have e2 : setR (Um st r L) β (L β) = Um st r L := by
      funext i k
      by_cases z : i = β
      · rw [z, setR_eq]; unfold Um
        rw [if_neg (show ¬(st β = false ∨ β = r) by rw [sβ]; rintro (q | q); (exact absurd q (by decide)); (exact hne q.symm))]
      · rw [setR_ne z]
    unfold Dt
    rw [e1, det_lin hβ, e2]
    have e3 : -1 * det 25 (setR (Um st r L) β (ve r β)) = det 25 (setR (Um st r L) β (fun k => -1 * ve r β k)) := (det_scl hβ).symm
    show det 25 (Um st r L) + -1 * det 25 (setR (Um st r L) β (ve r β)) = _
    rw [e3]
    congr 1
    refine drawn_D (r := r) (L := L) hα hβ hne sα hne _ (fun k => ?_) (fun i _ h1 h2 k => by rw [setR_ne h1]) (fun k => ?_)
    · rw [setR_eq, vk]; omega
    · rw [setR_ne hne, if_pos rfl]; unfold Um; rw [if_pos (Or.inr rfl)]
  · by_cases rb : r = β
    · subst rb
      rw [if_pos rfl]
      have e1 : Um st r L2 = setR (Um st r L) α (fun k => L α k + 1 * ve α r k) := by
        funext i k
        by_cases z : i = α
        · rw [z, setR_eq]; unfold Um
          rw [if_neg (show ¬(st α = false ∨ α = r) by rw [sα]; rintro (q | q); (exact absurd q (by decide)); (exact hne q)), hL, ve_a hne]
        · rw [setR_ne z]
          unfold Um
          by_cases x : st i = false ∨ i = r
          · rw [if_pos x, if_pos x]
          · rw [if_neg x, if_neg x, hL, ve_o z (fun q => x (Or.inr q))]; omega
      have e2 : setR (Um st r L) α (L α) = Um st r L := by
        funext i k
        by_cases z : i = α
        · rw [z, setR_eq]; unfold Um
          rw [if_neg (show ¬(st α = false ∨ α = r) by rw [sα]; rintro (q | q); (exact absurd q (by decide)); (exact hne q))]
        · rw [setR_ne z]
      unfold Dt
      rw [e1, det_lin hα, e2, Int.one_mul]
      congr 1
      show det 25 (setR (Um st r L) α (ve α r)) = _
      have hu : ∀ k, Um st r L r k = de r k := fun k => by unfold Um; rw [if_pos (Or.inr rfl)]
      have e3 : det 25 (setR (Um st r L) α (ve α r)) = det 25 (setR (Um st r L) α (de α)) := by
        have := det_add (n := 25) (A := Um st r L) (i := α) (j := r) (u := de α) (t := -1) hα hβ hne
        rw [← this]
        refine det_congr (fun i k _ _ => ?_)
        by_cases z : i = α
        · rw [z, setR_eq, setR_eq, hu, vk]; omega
        · rw [setR_ne z, setR_ne z]
      have e4 : det 25 (setR (Um st r L) α (de α)) = det 25 (setR (setR (Um st r L) α (de α)) r (fun k => de r k + (-1) * setR (Um st r L) α (de α) α k)) := by
        rw [det_add (n := 25) (A := setR (Um st r L) α (de α)) (i := r) (j := α) (u := de r) (t := -1) hβ hα (fun q => hne q.symm)]
        refine det_congr (fun i k _ _ => ?_)
        by_cases z : i = r
        · rw [z, setR_eq, setR_ne (fun q => hne q.symm), hu]
        · rw [setR_ne z]
      rw [e3, e4]
      refine drawn_D (r := α) (L := L) hα hβ hne sα hne _ (fun k => ?_) (fun i _ h1 h2 k => ?_) (fun k => ?_)
      · rw [setR_eq, setR_eq]; omega
      · rw [setR_ne h1, setR_ne h2]
        unfold Um
        by_cases x : st i = false
        · rw [if_pos (Or.inl x), if_pos (Or.inl x)]
        · rw [if_neg (by rintro (q | q); (exact x q); (exact h1 q)), if_neg (by rintro (q | q); (exact x q); (exact h2 q))]
      · rw [setR_ne hne, setR_eq, if_pos rfl]
    · rw [if_neg rb]
      have na : ¬(st α = false ∨ α = r) := by rw [sα]; rintro (q | q); (exact absurd q (by decide)); (exact ra q.symm)
      have nb : ¬(st β = false ∨ β = r) := by rw [sβ]; rintro (q | q); (exact absurd q (by decide)); (exact rb q.symm)
      -- rows alpha and beta
      have e1 : det 25 (Um st r L2) = det 25 (setR (setR (Um st r L) β (fun k => L β k + (-1) * ve α β k)) α (fun k => L α k + L β k)) := by
        have := det_add (n := 25) (A := setR (Um st r L) β (fun k => L β k + (-1) * ve α β k)) (i := α) (j := β) (u := fun k => L α k + ve α β k) (t := 1) hα hβ hne
        have g1 : det 25 (Um st r L2) = det 25 (setR (setR (Um st r L) β (fun k => L β k + (-1) * ve α β k)) α (fun k => L α k + ve α β k)) := det_congr (fun i k _ _ => by
          by_cases z : i = α
          · rw [z, setR_eq]; unfold Um; rw [if_neg na, hL, ve_a hne]; omega
          · rw [setR_ne z]
            by_cases y : i = β
            · rw [y, setR_eq]; unfold Um; rw [if_neg nb, hL, ve_b hne]
            · rw [setR_ne y]
              unfold Um
              by_cases x : st i = false ∨ i = r
              · rw [if_pos x, if_pos x]
              · rw [if_neg x, if_neg x, hL, ve_o z y]; omega)
        rw [g1, ← this]
        refine det_congr (fun i k _ _ => ?_)
        by_cases z : i = α
        · rw [z, setR_eq, setR_eq, setR_eq]; omega
        · rw [setR_ne z, setR_ne z]
      have comm : ∀ u v : Nat → Int, setR (setR (Um st r L) β u) α v = setR (setR (Um st r L) α v) β u := fun u v => by
        funext i k
        by_cases z : i = α
        · rw [z, setR_eq, setR_ne hne, setR_eq]
        · rw [setR_ne z]
          by_cases y : i = β
          · rw [y, setR_eq, setR_eq]
          · rw [setR_ne y, setR_ne y, setR_ne z]
      unfold Dt
      rw [e1, comm, det_lin hβ]
      have e2 : det 25 (setR (setR (Um st r L) α (fun k => L α k + L β k)) β (fun k => L β k)) = det 25 (Um st r L) := by
        have h2 : setR (setR (Um st r L) α (fun k => L α k + L β k)) β (fun k => L β k) = setR (Um st r L) α (fun k => L α k + 1 * Um st r L β k) := by
          funext i k
          by_cases z : i = β
          · rw [z, setR_eq, setR_ne (fun q => hne q.symm)]; unfold Um; rw [if_neg nb]
          · rw [setR_ne z]
            by_cases y : i = α
            · rw [y, setR_eq, setR_eq]; unfold Um; rw [if_neg nb]; omega
            · rw [setR_ne y, setR_ne y]
        rw [h2, det_add hα hβ hne]
        refine det_congr (fun i k _ _ => ?_)
        by_cases y : i = α
        · rw [y, setR_eq]; unfold Um; rw [if_neg na]
        · rw [setR_ne y]
      have e3 : -1 * det 25 (setR (setR (Um st r L) α (fun k => L α k + L β k)) β (fun k => ve α β k)) = det 25 (setR (setR (Um st r L) α (fun k => L α k + L β k)) β (fun k => -1 * ve α β k)) := (det_scl hβ).symm
      rw [e2, e3]
      congr 1
      refine drawn_D (r := r) (L := L) hα hβ hne sα rb _ (fun k => ?_) (fun i _ h1 h2 k => ?_) (fun k => ?_)
      · rw [setR_eq, vk]; omega
      · rw [setR_ne h1, setR_ne h2]
      · rw [setR_ne hne, setR_eq, if_neg (fun q => ra q.symm)]
