/-! LINES: one step of the words, seen by colours -/
def f1 (s : Nat) (x : Bool) (F : List Bool → Bool) (t : List Bool) : Bool := if s = 1 then F (x :: t) else if s = 2 then (match t with | [] => false | y :: r => (y == x) && F r) else F t
theorem f1_0 (x : Bool) (F : List Bool → Bool) {s : Nat} (h1 : s ≠ 1) (h2 : s ≠ 2) : f1 s x F = F := by
  funext t; unfold f1; rw [if_neg h1, if_neg h2]
theorem f1_congr {s s' : Nat} {x x' : Bool} {F F' : List Bool → Bool} (hs : s = s') (hx : s = 1 ∨ s = 2 → x = x') (hF : F = F') : f1 s x F = f1 s' x' F' := by
  subst hs; subst hF
  by_cases z : s = 1 ∨ s = 2
  · rw [hx z]
  · rw [f1_0 x F (fun q => z (Or.inl q)) (fun q => z (Or.inr q)), f1_0 x' F (fun q => z (Or.inl q)) (fun q => z (Or.inr q))]
theorem f1_12 (x y : Bool) (F : List Bool → Bool) : f1 1 x (f1 2 y F) = fun t => (x == y) && F t := rfl
def fw (s : Nat → Nat) (v : Nat → Bool) : Nat → Nat → (List Bool → Bool) → List Bool → Bool
  | 0, _, F => F
  | k + 1, j, F => f1 (s j) (v j) (fw s v k (j + 1) F)
theorem fw_add (s : Nat → Nat) (v : Nat → Bool) (F : List Bool → Bool) : ∀ (a b j : Nat), fw s v (a + b) j F = fw s v a j (fw s v b (j + a) F)
  | 0, b, j => by rw [Nat.zero_add]; rfl
  | a + 1, b, j => by
    rw [show a + 1 + b = (a + b) + 1 by omega]
    show f1 (s j) (v j) (fw s v (a + b) (j + 1) F) = f1 (s j) (v j) (fw s v a (j + 1) (fw s v b (j + (a + 1)) F))
    rw [fw_add s v F a b (j + 1), show j + 1 + a = j + (a + 1) by omega]
theorem fw_congr {s s' : Nat → Nat} {v v' : Nat → Bool} {F F' : List Bool → Bool} (hF : F = F') : ∀ {k j : Nat}, (∀ i, j ≤ i → i < j + k → s i = s' i ∧ (s i = 1 ∨ s i = 2 → v i = v' i)) → fw s v k j F = fw s' v' k j F'
  | 0, _, _ => hF
  | k + 1, j, h => by
    show f1 (s j) (v j) (fw s v k (j + 1) F) = f1 (s' j) (v' j) (fw s' v' k (j + 1) F')
    have h0 := h j (Nat.le_refl _) (by omega)
    exact f1_congr h0.1 h0.2 (fw_congr hF (fun i h1 h2 => h i (by omega) (by omega)))
theorem rs_fw (v : Nat → Bool) : ∀ (k n j : Nat) (s : Nat → Nat), (∀ i, i < k → s (j + i) = n / 4 ^ i % 4) → rs k n v j = fw s v k j List.isEmpty
  | 0, n, j, s, h => rfl
  | k + 1, n, j, s, h => by
    have h0 := h 0 (Nat.succ_pos _)
    rw [Nat.pow_zero, Nat.div_one, Nat.add_zero] at h0
    have e1 : rs (k + 1) n v j = f1 (n % 4) (v j) (rs k (n / 4) v (j + 1)) := rfl
    rw [e1, rs_fw v k (n / 4) (j + 1) s (fun i hi => by
      rw [show j + 1 + i = j + (i + 1) by omega, h (i + 1) (by omega), Nat.div_div_eq_div_mul, Nat.pow_succ, Nat.mul_comm (4 ^ i) 4]), ← h0]
    rfl
theorem Rsp_fw (n : Nat) (v : Nat → Bool) : Rsp n v = fw (sy n) v 6 0 List.isEmpty [] := by
  unfold Rsp
  rw [rs_fw v 6 n 0 (sy n) (fun i _ => by rw [Nat.zero_add]; rfl)]
theorem Rsp_congr {n m : Nat} {v v' : Nat → Bool} (h : ∀ i, i < 6 → sy n i = sy m i ∧ (sy n i = 1 ∨ sy n i = 2 → v i = v' i)) : Rsp n v = Rsp m v' := by
  rw [Rsp_fw, Rsp_fw, fw_congr rfl (fun i _ h2 => h i (by omega))]
theorem Rsp_at (n : Nat) (v : Nat → Bool) {c : Nat} (hc : c < 5) : Rsp n v = fw (sy n) v c 0 (f1 (sy n c) (v c) (f1 (sy n (c + 1)) (v (c + 1)) (fw (sy n) v (4 - c) (c + 2) List.isEmpty))) [] := by
  rw [Rsp_fw, show 6 = c + (2 + (4 - c)) by omega, fw_add, fw_add, Nat.zero_add]
  rfl
/-- both places of a step get one colour -/
def st2 (v : Nat → Bool) (c : Nat) (x : Bool) (j : Nat) : Bool := if j = c ∨ j = c + 1 then x else v j
theorem st2_c (v : Nat → Bool) (c : Nat) (x : Bool) : st2 v c x c = x := if_pos (Or.inl rfl)
theorem st2_c1 (v : Nat → Bool) (c : Nat) (x : Bool) : st2 v c x (c + 1) = x := if_pos (Or.inr rfl)
theorem st2_ne {v : Nat → Bool} {c j : Nat} {x : Bool} (h1 : j ≠ c) (h2 : j ≠ c + 1) : st2 v c x j = v j := if_neg (by omega)
theorem sy_rst {m a b : Nat} (hm : m < 4096) (ha : a < 4) (hb : b < 4) : ∀ c, c < 5 → ∀ j, j < 6 → sy (rstN m c + (a + 4 * b) * 4 ^ c) j = if j = c then a else if j = c + 1 then b else sy m j := by
  intro c hc j hj
  rcases (by omega : c = 0 ∨ c = 1 ∨ c = 2 ∨ c = 3 ∨ c = 4) with z | z | z | z | z <;> subst z <;> rcases (by omega : j = 0 ∨ j = 1 ∨ j = 2 ∨ j = 3 ∨ j = 4 ∨ j = 5) with y | y | y | y | y | y <;> subst y <;> simp only [sy, rstN, Nat.reducePow, Nat.reduceAdd, Nat.reduceEqDiff, if_true, if_false, reduceIte] <;> omega
theorem sy_add {m a : Nat} (hm : m < 4096) (ha : a < 4) : ∀ c, c < 6 → sy m c = 0 → ∀ j, j < 6 → sy (m + a * 4 ^ c) j = if j = c then a else sy m j := by
  intro c hc h0 j hj
  rcases (by omega : c = 0 ∨ c = 1 ∨ c = 2 ∨ c = 3 ∨ c = 4 ∨ c = 5) with z | z | z | z | z | z <;> subst z <;> rcases (by omega : j = 0 ∨ j = 1 ∨ j = 2 ∨ j = 3 ∨ j = 4 ∨ j = 5) with y | y | y | y | y | y <;> subst y <;> simp only [sy, Nat.reducePow, Nat.reduceAdd, Nat.reduceEqDiff, if_true, if_false, reduceIte] at h0 ⊢ <;> omega
theorem rst_0 {m c : Nat} (hc : c < 5) (hl : sy m c = 0) (hu : sy m (c + 1) = 0) : rstN m c = m := by
  rcases (by omega : c = 0 ∨ c = 1 ∨ c = 2 ∨ c = 3 ∨ c = 4) with z | z | z | z | z <;> subst z <;> simp only [sy, rstN, Nat.reducePow, Nat.reduceAdd] at hl hu ⊢ <;> omega
theorem rst_1 {m c : Nat} (hc : c < 5) (hm : m < 4096) : m = rstN m c + (sy m c + 4 * sy m (c + 1)) * 4 ^ c := by
  rcases (by omega : c = 0 ∨ c = 1 ∨ c = 2 ∨ c = 3 ∨ c = 4) with z | z | z | z | z <;> subst z <;> simp only [sy, rstN, Nat.reducePow, Nat.reduceAdd] <;> omega
/-- a word whose two symbols are others -/
theorem Rsp_two {n m a b c : Nat} {v v' : Nat → Bool} (hc : c < 5) (hn : ∀ j, j < 6 → sy n j = if j = c then a else if j = c + 1 then b else sy m j) (hv : ∀ j, j ≠ c → j ≠ c + 1 → v j = v' j) : Rsp n v = fw (sy m) v' c 0 (f1 a (v c) (f1 b (v (c + 1)) (fw (sy m) v' (4 - c) (c + 2) List.isEmpty))) [] := by
  rw [Rsp_at n v hc]
  have e1 : fw (sy n) v (4 - c) (c + 2) List.isEmpty = fw (sy m) v' (4 - c) (c + 2) List.isEmpty := fw_congr rfl (fun i h1 h2 => ⟨by rw [hn i (by omega), if_neg (by omega), if_neg (by omega)], fun _ => hv i (by omega) (by omega)⟩)
  rw [e1, hn c (by omega), if_pos rfl, hn (c + 1) (by omega), if_neg (by omega), if_pos rfl]
  exact congrFun (fw_congr rfl (fun i h1 h2 => ⟨by rw [hn i (by omega), if_neg (by omega), if_neg (by omega)], fun _ => hv i (by omega) (by omega)⟩)) []
def bv (v : Nat → Bool) : Nat := (if v 0 = true then 1 else 0) + (if v 1 = true then 2 else 0) + (if v 2 = true then 4 else 0) + (if v 3 = true then 8 else 0) + (if v 4 = true then 16 else 0) + (if v 5 = true then 32 else 0)
set_option maxRecDepth 100000 in
theorem bv_all : (List.range 64).all (fun k => decide (bv (fun j => k.testBit j) = k)) = true := by decide +kernel
theorem bv_at (v : Nat → Bool) : bv v < 64 ∧ ∀ j, j < 6 → (bv v).testBit j = v j := by
  unfold bv
  rcases Bool.eq_false_or_eq_true (v 0) with h0 | h0 <;> rcases Bool.eq_false_or_eq_true (v 1) with h1 | h1 <;> rcases Bool.eq_false_or_eq_true (v 2) with h2 | h2 <;> rcases Bool.eq_false_or_eq_true (v 3) with h3 | h3 <;> rcases Bool.eq_false_or_eq_true (v 4) with h4 | h4 <;> rcases Bool.eq_false_or_eq_true (v 5) with h5 | h5 <;> rw [h0, h1, h2, h3, h4, h5] <;> refine ⟨by decide, fun j hj => ?_⟩ <;> rcases (by omega : j = 0 ∨ j = 1 ∨ j = 2 ∨ j = 3 ∨ j = 4 ∨ j = 5) with y | y | y | y | y | y <;> subst y <;> simp only [h0, h1, h2, h3, h4, h5] <;> decide
