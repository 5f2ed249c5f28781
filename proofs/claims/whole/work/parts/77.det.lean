/-! DETERMINANTS: by the first column, and what may be done with rows -/
def sumI (f : Nat → Int) : Nat → Int
  | 0 => 0
  | n + 1 => sumI f n + f n
theorem sumI_congr {f g : Nat → Int} : ∀ {n : Nat}, (∀ i, i < n → f i = g i) → sumI f n = sumI g n
  | 0, _ => rfl
  | n + 1, h => by
    show sumI f n + f n = sumI g n + g n
    rw [sumI_congr (fun i hi => h i (by omega)), h n (Nat.lt_succ_self n)]
theorem sumI_lin {f g : Nat → Int} {t : Int} : ∀ {n : Nat}, sumI (fun i => f i + t * g i) n = sumI f n + t * sumI g n
  | 0 => by show (0 : Int) = 0 + t * 0; omega
  | n + 1 => by
    show sumI (fun i => f i + t * g i) n + (f n + t * g n) = sumI f n + f n + t * (sumI g n + g n)
    rw [sumI_lin, Int.mul_add]; omega
theorem sumI_zero {f : Nat → Int} : ∀ {n : Nat}, (∀ i, i < n → f i = 0) → sumI f n = 0
  | 0, _ => rfl
  | n + 1, h => by
    show sumI f n + f n = 0
    rw [sumI_zero (fun i hi => h i (by omega)), h n (Nat.lt_succ_self n)]; rfl
theorem sumI_one {f : Nat → Int} {k : Nat} : ∀ {n : Nat}, k < n → (∀ i, i < n → i ≠ k → f i = 0) → sumI f n = f k
  | n + 1, hk, h => by
    show sumI f n + f n = f k
    by_cases z : k = n
    · rw [sumI_zero (fun i hi => h i (by omega) (by omega)), z]; omega
    · rw [sumI_one (k := k) (n := n) (by omega) (fun i hi hne => h i (by omega) hne), h n (by omega) (by omega)]; omega
theorem sumI_two {f : Nat → Int} {k : Nat} : ∀ {n : Nat}, k + 1 < n → (∀ i, i < n → i ≠ k → i ≠ k + 1 → f i = 0) → sumI f n = f k + f (k + 1)
  | n + 1, hk, h => by
    show sumI f n + f n = f k + f (k + 1)
    by_cases z : k + 1 = n
    · rw [sumI_one (k := k) (n := n) (by omega) (fun i hi hne => h i (by omega) hne (by omega)), ← z]
    · rw [sumI_two (k := k) (n := n) (by omega) (fun i hi h1 h2 => h i (by omega) h1 h2), h n (by omega) (by omega) (by omega)]; omega
abbrev Mat := Nat → Nat → Int
def sk (i r : Nat) : Nat := if r < i then r else r + 1
def mn (A : Mat) (i : Nat) : Mat := fun r c => A (sk i r) (c + 1)
def sg (i : Nat) : Int := if i % 2 = 0 then 1 else -1
theorem sg_s (i : Nat) : sg (i + 1) = -sg i := by
  unfold sg
  by_cases z : i % 2 = 0
  · rw [if_pos z, if_neg (by omega)]
  · rw [if_neg z, if_pos (by omega)]; rfl
def det : Nat → Mat → Int
  | 0, _ => 1
  | n + 1, A => sumI (fun i => sg i * A i 0 * det n (mn A i)) (n + 1)
theorem det_congr : ∀ {n : Nat} {A B : Mat}, (∀ r c, r < n → c < n → A r c = B r c) → det n A = det n B
  | 0, _, _, _ => rfl
  | n + 1, A, B, h => by
    refine sumI_congr (fun i hi => ?_)
    rw [h i 0 hi (by omega), det_congr (A := mn A i) (B := mn B i) (fun r c hr hc => h (sk i r) (c + 1) (by unfold sk; by_cases z : r < i; (rw [if_pos z]; omega); (rw [if_neg z]; omega)) (by omega))]
def setR (A : Mat) (i : Nat) (v : Nat → Int) : Mat := fun r c => if r = i then v c else A r c
theorem setR_eq (A : Mat) (i : Nat) (v : Nat → Int) (c : Nat) : setR A i v i c = v c := if_pos rfl
theorem setR_ne {A : Mat} {i r : Nat} {v : Nat → Int} {c : Nat} (h : r ≠ i) : setR A i v r c = A r c := if_neg h
theorem mn_self (A : Mat) (i : Nat) (v : Nat → Int) : mn (setR A i v) i = mn A i := by
  funext r c
  unfold mn
  exact setR_ne (by unfold sk; by_cases z : r < i; (rw [if_pos z]; omega); (rw [if_neg z]; omega))
theorem mn_set {A : Mat} {i k : Nat} (v : Nat → Int) (h : i ≠ k) : mn (setR A i v) k = setR (mn A k) (if i < k then i else i - 1) (fun c => v (c + 1)) := by
  funext r c
  unfold mn
  by_cases z : sk k r = i
  · have hr : r = if i < k then i else i - 1 := by
      unfold sk at z
      by_cases y : r < k
      · rw [if_pos y] at z; rw [if_pos (by omega)]; exact z
      · rw [if_neg y] at z; rw [if_neg (by omega)]; omega
    rw [z, setR_eq, ← hr, setR_eq]
  · have hr : r ≠ if i < k then i else i - 1 := by
      intro q
      apply z
      unfold sk
      by_cases y : i < k
      · rw [if_pos y] at q; rw [if_pos (by omega)]; exact q
      · rw [if_neg y] at q; rw [if_neg (by omega)]; omega
    rw [setR_ne z, setR_ne hr]
/-- a row is linear -/
theorem det_lin : ∀ {n : Nat} {A : Mat} {i : Nat} {u v : Nat → Int} {t : Int}, i < n → det n (setR A i (fun c => u c + t * v c)) = det n (setR A i u) + t * det n (setR A i v)
  | n + 1, A, i, u, v, t, hi => by
    show sumI _ (n + 1) = sumI _ (n + 1) + t * sumI _ (n + 1)
    rw [← sumI_lin]
    refine sumI_congr (fun k hk => ?_)
    by_cases z : i = k
    · subst z
      rw [setR_eq, setR_eq, setR_eq, mn_self, mn_self, mn_self, Int.mul_add, Int.add_mul, ← Int.mul_assoc t, ← Int.mul_assoc t, ← Int.mul_assoc (sg i), Int.mul_comm (sg i) t]
    · rw [setR_ne (fun q => z q.symm), setR_ne (fun q => z q.symm), setR_ne (fun q => z q.symm), mn_set _ z, mn_set _ z, mn_set _ z]
      rw [det_lin (n := n) (i := if i < k then i else i - 1) (u := fun c => u (c + 1)) (v := fun c => v (c + 1)) (by by_cases y : i < k; (rw [if_pos y]; omega); (rw [if_neg y]; omega)), Int.mul_add, Int.mul_left_comm t]
def swA (A : Mat) (i : Nat) : Mat := fun r c => if r = i then A (i + 1) c else if r = i + 1 then A i c else A r c
theorem mn_sw0 (A : Mat) (i : Nat) : mn (swA A i) i = mn A (i + 1) := by
  funext r c
  unfold mn swA sk
  by_cases z : r < i
  · rw [if_pos z, if_pos (show r < i + 1 by omega), if_neg (by omega), if_neg (by omega)]
  · rw [if_neg z]
    by_cases y : r = i
    · rw [if_pos (show r < i + 1 by omega), if_neg (by omega), if_pos (by omega), y]
    · rw [if_neg (show ¬r < i + 1 by omega), if_neg (by omega), if_neg (by omega)]
theorem mn_sw1 (A : Mat) (i : Nat) : mn (swA A i) (i + 1) = mn A i := by
  funext r c
  unfold mn swA sk
  by_cases z : r < i
  · rw [if_pos (show r < i + 1 by omega), if_pos z, if_neg (by omega), if_neg (by omega)]
  · by_cases y : r = i
    · rw [if_pos (show r < i + 1 by omega), if_neg z, if_pos y, y]
    · rw [if_neg (show ¬r < i + 1 by omega), if_neg z, if_neg (by omega), if_neg (by omega)]
theorem mn_sw {A : Mat} {i k : Nat} (h1 : k ≠ i) (h2 : k ≠ i + 1) : mn (swA A i) k = swA (mn A k) (if i < k then i else i - 1) := by
  funext r c
  unfold mn swA sk
  dsimp only
  by_cases y : i < k
  · rw [if_pos y]
    by_cases z : r < k
    · rw [if_pos z, if_pos (show i + 1 < k by omega), if_pos y]
    · rw [if_neg z, if_neg (show ¬r + 1 = i by omega), if_neg (show ¬r + 1 = i + 1 by omega), if_neg (show ¬r = i by omega), if_neg (show ¬r = i + 1 by omega)]
  · rw [if_neg y]
    by_cases z : r < k
    · rw [if_pos z, if_neg (show ¬r = i by omega), if_neg (show ¬r = i + 1 by omega), if_neg (show ¬r = i - 1 by omega), if_neg (show ¬r = i - 1 + 1 by omega)]
    · rw [if_neg z, if_neg (show ¬i - 1 + 1 < k by omega), if_neg (show ¬i - 1 < k by omega), show i - 1 + 1 = i by omega]
      by_cases x : r + 1 = i
      · rw [if_pos x, if_pos (show r = i - 1 by omega)]
      · rw [if_neg x, if_neg (show ¬r = i - 1 by omega)]
        by_cases u : r + 1 = i + 1
        · rw [if_pos u, if_pos (show r = i by omega)]
        · rw [if_neg u, if_neg (show ¬r = i by omega)]
theorem det_sw : ∀ {n : Nat} {A : Mat} {i : Nat}, i + 1 < n → det n (swA A i) = -det n A
  | n + 1, A, i, hi => by
    have h0 : sumI (fun k => sg k * swA A i k 0 * det n (mn (swA A i) k) + 1 * (sg k * A k 0 * det n (mn A k))) (n + 1) = 0 := by
      rw [sumI_two (k := i) hi (fun k hk h1 h2 => ?_)]
      · have e1 : swA A i i 0 = A (i + 1) 0 := if_pos rfl
        have e2 : swA A i (i + 1) 0 = A i 0 := by unfold swA; rw [if_neg (by omega), if_pos rfl]
        rw [e1, e2, mn_sw0, mn_sw1, sg_s]
        simp only [Int.neg_mul, Int.one_mul]
        omega
      · have e1 : swA A i k 0 = A k 0 := by unfold swA; rw [if_neg h1, if_neg h2]
        rw [e1, mn_sw h1 h2, det_sw (n := n) (by by_cases y : i < k; (rw [if_pos y]; omega); (rw [if_neg y]; omega)), Int.mul_neg]
        omega
    rw [sumI_lin, Int.one_mul] at h0
    show sumI _ (n + 1) = -sumI _ (n + 1)
    omega
theorem det_eq0 {n : Nat} : ∀ (d : Nat) {A : Mat} {i : Nat}, i + d + 1 < n → (∀ c, A i c = A (i + d + 1) c) → det n A = 0
  | 0, A, i, hi, h => by
    have := det_sw (A := A) (i := i) hi
    have e : det n (swA A i) = det n A := det_congr (fun r c _ _ => by
      unfold swA
      by_cases z : r = i
      · rw [if_pos z, z]; exact (h c).symm
      · rw [if_neg z]
        by_cases y : r = i + 1
        · rw [if_pos y, y]; exact h c
        · rw [if_neg y])
    omega
  | d + 1, A, i, hi, h => by
    have h1 := det_sw (A := A) (i := i + d + 1) (by omega)
    have h2 := det_eq0 (n := n) d (A := swA A (i + d + 1)) (i := i) (by omega) (fun c => by
      unfold swA
      rw [if_neg (by omega), if_neg (by omega), if_pos rfl]; exact h c)
    omega
theorem det_eq {n : Nat} {A : Mat} {i j : Nat} (hi : i < n) (hj : j < n) (hne : i ≠ j) (h : ∀ c, A i c = A j c) : det n A = 0 := by
  rcases Nat.lt_or_ge i j with y | y
  · exact det_eq0 (j - i - 1) (i := i) (by omega) (fun c => by rw [show i + (j - i - 1) + 1 = j by omega]; exact h c)
  · exact det_eq0 (i - j - 1) (i := j) (by omega) (fun c => by rw [show j + (i - j - 1) + 1 = i by omega]; exact (h c).symm)
theorem setR_id (A : Mat) (i : Nat) : setR A i (A i) = A := by
  funext r c
  unfold setR
  by_cases z : r = i
  · rw [if_pos z, z]
  · rw [if_neg z]
theorem setR_setR (A : Mat) (i : Nat) (u v : Nat → Int) : setR (setR A i u) i v = setR A i v := by
  funext r c
  unfold setR
  by_cases z : r = i
  · rw [if_pos z, if_pos z]
  · rw [if_neg z, if_neg z, if_neg z]
theorem det_add {n : Nat} {A : Mat} {i j : Nat} {u : Nat → Int} {t : Int} (hi : i < n) (hj : j < n) (hne : i ≠ j) : det n (setR A i (fun c => u c + t * A j c)) = det n (setR A i u) := by
  rw [det_lin hi, det_eq (A := setR A i (A j)) hi hj hne (fun c => by rw [setR_eq, setR_ne (fun z => hne z.symm)]), Int.mul_zero, Int.add_zero]
theorem det_r0 {n : Nat} {A : Mat} {i : Nat} (hi : i < n) : det n (setR A i (fun _ => 0)) = 0 := by
  have h := det_lin (A := A) (i := i) (u := fun _ => 0) (v := fun _ => 0) (t := 1) hi
  have e : (fun c : Nat => (fun _ : Nat => (0 : Int)) c + 1 * (fun _ : Nat => (0 : Int)) c) = fun _ => 0 := by funext c; rfl
  rw [e] at h
  omega
theorem det_scl {n : Nat} {A : Mat} {i : Nat} {v : Nat → Int} {t : Int} (hi : i < n) : det n (setR A i (fun c => t * v c)) = t * det n (setR A i v) := by
  have h := det_lin (A := A) (i := i) (u := fun _ => 0) (v := v) (t := t) hi
  have e : (fun c : Nat => (fun _ : Nat => (0 : Int)) c + t * v c) = fun c => t * v c := by funext c; exact Int.zero_add _
  rw [e, det_r0 hi, Int.zero_add] at h
  exact h
theorem det_c0 : ∀ {n : Nat} {A : Mat} {c : Nat}, c < n → (∀ r, r < n → A r c = 0) → det n A = 0
  | n + 1, A, 0, _, h => sumI_zero (fun i hi => by rw [h i hi, Int.mul_zero, Int.zero_mul])
  | n + 1, A, c + 1, hc, h => sumI_zero (fun i hi => by
    rw [det_c0 (n := n) (A := mn A i) (c := c) (by omega) (fun r hr => h (sk i r) (by unfold sk; by_cases z : r < i; (rw [if_pos z]; omega); (rw [if_neg z]; omega))), Int.mul_zero])
/-- two rows changed for each other -/
theorem det_swap {n : Nat} {A : Mat} {i j : Nat} (hi : i < n) (hj : j < n) (hne : i ≠ j) : det n (fun r c => if r = i then A j c else if r = j then A i c else A r c) = -det n A := by
  have hB : ∀ u v : Nat → Int, det n (setR (setR A i (fun c => u c + 1 * v c)) j (fun c => u c + 1 * v c)) = 0 := fun u v => det_eq hi hj hne (fun c => by rw [setR_ne hne, setR_eq, setR_eq])
  have comm : ∀ u v : Nat → Int, setR (setR A i u) j v = setR (setR A j v) i u := fun u v => by
    funext r c
    unfold setR
    by_cases z : r = i
    · rw [if_neg (show ¬r = j by omega), if_pos z, if_pos z]
    · rw [if_neg z, if_neg z]
  have eqz : ∀ u : Nat → Int, det n (setR (setR A i u) j u) = 0 := fun u => det_eq hi hj hne (fun c => by rw [setR_ne hne, setR_eq, setR_eq])
  have h1 := hB (A i) (A j)
  rw [det_lin hj, comm, det_lin hi, comm _ (A j), det_lin hi, ← comm, ← comm, ← comm, ← comm, eqz, eqz] at h1
  have e1 : setR (setR A i (A i)) j (A j) = A := by rw [setR_id, setR_id]
  have e2 : setR (setR A i (A j)) j (A i) = fun r c => if r = i then A j c else if r = j then A i c else A r c := by
    funext r c
    unfold setR
    by_cases z : r = j
    · rw [if_pos z, if_neg (show ¬r = i by omega), if_pos z]
    · rw [if_neg z]
      by_cases y : r = i
      · rw [if_pos y, if_pos y]
      · rw [if_neg y, if_neg y, if_neg z]
  rw [e1, e2] at h1
  omega
/-- congruent entries -/
theorem det_mod {p : Int} : ∀ {n : Nat} {A B : Mat}, (∀ r c, r < n → c < n → p ∣ A r c - B r c) → p ∣ det n A - det n B
  | 0, _, _, _ => by show p ∣ 1 - 1; exact Int.dvd_zero p
  | n + 1, A, B, h => by
    have key : ∀ m, m ≤ n + 1 → p ∣ sumI (fun i => sg i * A i 0 * det n (mn A i)) m - sumI (fun i => sg i * B i 0 * det n (mn B i)) m := by
      intro m
      induction m with
      | zero => intro _; show p ∣ 0 - 0; exact Int.dvd_zero p
      | succ m ih =>
        intro hm
        have h1 := ih (by omega)
        obtain ⟨x, hx⟩ := h m 0 (by omega) (by omega)
        obtain ⟨y, hy⟩ := det_mod (n := n) (A := mn A m) (B := mn B m) (fun r c hr hc => h (sk m r) (c + 1) (by unfold sk; by_cases z : r < m; (rw [if_pos z]; omega); (rw [if_neg z]; omega)) (by omega))
        obtain ⟨z, hz⟩ := h1
        refine ⟨z + sg m * (x * det n (mn A m) + B m 0 * y), ?_⟩
        show sumI _ m + sg m * A m 0 * det n (mn A m) - (sumI _ m + sg m * B m 0 * det n (mn B m)) = _
        have e1 : A m 0 = B m 0 + p * x := by omega
        have e2 : det n (mn B m) = det n (mn A m) - p * y := by omega
        rw [e2, e1]
        have e3 : sg m * (B m 0 + p * x) * det n (mn A m) - sg m * B m 0 * (det n (mn A m) - p * y) = p * (sg m * (x * det n (mn A m) + B m 0 * y)) := by
          simp only [Int.mul_add, Int.add_mul, Int.mul_sub]
          have a1 : sg m * (p * x) * det n (mn A m) = p * (sg m * (x * det n (mn A m))) := by
            rw [Int.mul_left_comm, Int.mul_assoc, Int.mul_assoc]
          have a2 : sg m * B m 0 * (p * y) = p * (sg m * (B m 0 * y)) := by
            rw [Int.mul_left_comm, Int.mul_assoc]
          omega
        have e4 : p * (z + sg m * (x * det n (mn A m) + B m 0 * y)) = p * z + p * (sg m * (x * det n (mn A m) + B m 0 * y)) := Int.mul_add _ _ _
        rw [e4]
        omega
    exact key (n + 1) (Nat.le_refl _)
