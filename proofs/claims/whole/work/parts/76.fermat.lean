/-! THE PRIME: inverses -/
set_option maxRecDepth 100000 in
theorem no_div : (List.range 216).all (fun i => (List.range 216).all (fun j => decide (2147483647 % (216 * i + j + 2) ≠ 0))) = true := by decide +kernel
theorem pr_div {d : Nat} (h : d ∣ 2147483647) : d = 1 ∨ d = 2147483647 := by
  have small : ∀ e k, e * k = 2147483647 → 2 ≤ e → e ≤ k → False := by
    intro e k h1 h2 h3
    have hle : e < 46342 := by
      rcases Nat.lt_or_ge e 46342 with y | y
      · exact y
      · have := Nat.mul_le_mul y (Nat.le_trans y h3)
        omega
    have := of_decide_eq_true (List.all_eq_true.mp (List.all_eq_true.mp no_div ((e - 2) / 216) (List.mem_range.mpr (by omega))) ((e - 2) % 216) (List.mem_range.mpr (Nat.mod_lt _ (by decide))))
    rw [show 216 * ((e - 2) / 216) + (e - 2) % 216 + 2 = e by omega] at this
    exact this (by rw [← h1]; exact Nat.mul_mod_right e k)
  obtain ⟨k, hk⟩ := h
  rcases Nat.lt_or_ge d 2 with y | y
  · have : d ≠ 0 := fun z => by rw [z, Nat.zero_mul] at hk; exact absurd hk (by decide)
    exact Or.inl (by omega)
  · rcases Nat.lt_or_ge k 2 with x | x
    · have : k ≠ 0 := fun z => by rw [z, Nat.mul_zero] at hk; exact absurd hk (by decide)
      have k1 : k = 1 := by omega
      rw [k1, Nat.mul_one] at hk
      exact Or.inr hk.symm
    · exfalso
      rcases Nat.le_total d k with z | z
      · exact small d k hk.symm y z
      · exact small k d (by rw [Nat.mul_comm]; exact hk.symm) x z
/-- a number whose divisors are 1 and itself -/
def Pri (p : Nat) : Prop := 2 ≤ p ∧ ∀ d, d ∣ p → d = 1 ∨ d = p
theorem pri31 : Pri 2147483647 := ⟨by decide, fun _ h => pr_div h⟩
theorem pri_mul {p a b : Nat} (hp : Pri p) (h : p ∣ a * b) : p ∣ a ∨ p ∣ b := by
  rcases hp.2 (Nat.gcd p a) (Nat.gcd_dvd_left p a) with y | y
  · right
    exact (show Nat.Coprime p a from y).dvd_of_dvd_mul_left h
  · left
    have := Nat.gcd_dvd_right p a
    rw [y] at this; exact this
def prodL : List Nat → Nat
  | [] => 1
  | x :: l => x * prodL l
theorem prodL_perm {l m : List Nat} (h : l.Perm m) : prodL l = prodL m := by
  induction h with
  | nil => rfl
  | cons x _ ih => show x * _ = x * _; rw [ih]
  | swap x y l => show y * (x * prodL l) = x * (y * prodL l); rw [← Nat.mul_assoc, ← Nat.mul_assoc, Nat.mul_comm y x]
  | trans _ _ ih1 ih2 => exact ih1.trans ih2
theorem perm_of : ∀ {l m : List Nat}, l.Nodup → (∀ x, x ∈ l → x ∈ m) → m.length ≤ l.length → l.Perm m
  | [], m, _, _, h => by
    have : m = [] := List.eq_nil_of_length_eq_zero (Nat.le_zero.mp h)
    rw [this]
  | x :: t, m, hn, hs, hl => by
    have hx : x ∈ m := hs x List.mem_cons_self
    have h1 := List.perm_cons_erase hx
    rw [List.nodup_cons] at hn
    refine List.Perm.trans ?_ h1.symm
    refine List.Perm.cons x (perm_of hn.2 (fun y hy => ?_) ?_)
    · have hyx : y ≠ x := fun z => hn.1 (by rw [← z]; exact hy)
      exact (List.mem_erase_of_ne hyx).mpr (hs y (List.mem_cons_of_mem _ hy))
    · rw [List.length_erase_of_mem hx]
      have : (x :: t).length = t.length + 1 := rfl
      omega
theorem prodL_map {p a : Nat} : ∀ (l : List Nat), prodL (l.map (fun k => a * k % p)) % p = a ^ l.length * prodL l % p
  | [] => by show 1 % p = 1 * 1 % p; rfl
  | x :: l => by
    show a * x % p * prodL (l.map (fun k => a * k % p)) % p = a ^ (l.length + 1) * (x * prodL l) % p
    rw [Nat.mul_mod, Nat.mod_mod, prodL_map l, ← Nat.mul_mod, Nat.pow_succ]
    congr 1
    rw [Nat.mul_assoc, Nat.mul_assoc]
    rw [Nat.mul_left_comm x, Nat.mul_left_comm a]
theorem prodL_ndv {p : Nat} (hp : Pri p) : ∀ (l : List Nat), (∀ x, x ∈ l → ¬p ∣ x) → ¬p ∣ prodL l
  | [], _, h => by
    have := Nat.le_of_dvd (by decide) (show p ∣ 1 from h)
    have := hp.1; omega
  | x :: l, hx, h => by
    rcases pri_mul hp (show p ∣ x * prodL l from h) with y | y
    · exact hx x List.mem_cons_self y
    · exact prodL_ndv hp l (fun z hz => hx z (List.mem_cons_of_mem _ hz)) y
theorem mod_eq_dvd {p a b : Nat} (h : a % p = b % p) (hle : b ≤ a) : p ∣ a - b := by
  refine ⟨a / p - b / p, ?_⟩
  rw [Nat.mul_sub]
  have h1 := Nat.div_add_mod a p
  have h2 := Nat.div_add_mod b p
  omega
theorem fermat {p a : Nat} (hp : Pri p) (ha : ¬p ∣ a) : a ^ (p - 1) % p = 1 := by
  have hp2 := hp.1
  have hlt : ∀ k, k < p → k ≠ 0 → ¬p ∣ k := fun k h1 h2 h3 => by have := Nat.le_of_dvd (by omega) h3; omega
  have hinj : ∀ x y, x < p → y < p → x ≤ y → a * x % p = a * y % p → x = y := by
    intro x y hx hy hle h
    have h1 : p ∣ a * y - a * x := mod_eq_dvd h.symm (Nat.mul_le_mul_left a hle)
    rw [← Nat.mul_sub] at h1
    rcases pri_mul hp h1 with z | z
    · exact absurd z ha
    · rcases Nat.eq_zero_or_pos (y - x) with u | u
      · omega
      · exact absurd z (hlt _ (by omega) (by omega))
  have hperm : ((List.range' 1 (p - 1)).map (fun k => a * k % p)).Perm (List.range' 1 (p - 1)) := by
    refine perm_of ?_ ?_ ?_
    · unfold List.Nodup
      rw [List.pairwise_map]
      have hn : (List.range' 1 (p - 1)).Nodup := List.nodup_range'
      refine List.Pairwise.imp_of_mem ?_ hn
      intro x y hx hy hne heq
      rw [List.mem_range'_1] at hx hy
      rcases Nat.le_total x y with z | z
      · exact hne (hinj x y (by omega) (by omega) z heq)
      · exact hne (hinj y x (by omega) (by omega) z heq.symm).symm
    · intro y hy
      obtain ⟨x, hx, rfl⟩ := List.mem_map.mp hy
      rw [List.mem_range'_1] at hx ⊢
      have h1 := Nat.mod_lt (a * x) (show 0 < p by omega)
      have h2 : a * x % p ≠ 0 := fun z => by
        rcases pri_mul hp (Nat.dvd_of_mod_eq_zero z) with u | u
        · exact ha u
        · exact hlt x (by omega) (by omega) u
      omega
    · rw [List.length_map]; exact Nat.le_refl _
  have h1 := prodL_map (p := p) (a := a) (List.range' 1 (p - 1))
  rw [prodL_perm hperm, List.length_range'] at h1
  have hW : ¬p ∣ prodL (List.range' 1 (p - 1)) := prodL_ndv hp _ (fun x hx => by rw [List.mem_range'_1] at hx; exact hlt x (by omega) (by omega))
  generalize prodL (List.range' 1 (p - 1)) = W at h1 hW
  have hapos : 1 ≤ a ^ (p - 1) := Nat.one_le_iff_ne_zero.mpr (fun z => by
    have : a = 0 := by
      rcases Nat.eq_zero_or_pos a with u | u
      · exact u
      · have := Nat.pow_pos (n := p - 1) u; omega
    rw [this] at ha; exact ha (Nat.dvd_zero p))
  have h2 : p ∣ a ^ (p - 1) * W - W := mod_eq_dvd h1.symm (by have := Nat.mul_le_mul_right W hapos; omega)
  rw [show a ^ (p - 1) * W - W = (a ^ (p - 1) - 1) * W by rw [Nat.sub_mul, Nat.one_mul]] at h2
  rcases pri_mul hp h2 with z | z
  · obtain ⟨k, hk⟩ := z
    rw [show a ^ (p - 1) = 1 + p * k by omega, Nat.add_mul_mod_self_left, Nat.mod_eq_of_lt (by omega)]
  · exact absurd z hW
theorem pwF_ok : ∀ (f r b left : Nat), left ≤ f → pwF f r b left % 2147483647 = r * b ^ left % 2147483647
  | 0, r, b, left, h => by
    rw [show left = 0 by omega, Nat.pow_zero, Nat.mul_one]; rfl
  | f + 1, r, b, left, h => by
    show (if left = 0 then r else pwF f (if left % 2 = 1 then r * b % 2147483647 else r) (b * b % 2147483647) (left / 2)) % 2147483647 = _
    by_cases z : left = 0
    · rw [if_pos z, z, Nat.pow_zero, Nat.mul_one]
    · rw [if_neg z, pwF_ok f _ _ (left / 2) (by omega)]
      have e1 : (b * b % 2147483647) ^ (left / 2) % 2147483647 = b ^ (2 * (left / 2)) % 2147483647 := by
        rw [← Nat.pow_mod, Nat.pow_mul, Nat.pow_two]
      by_cases y : left % 2 = 1
      · rw [if_pos y, Nat.mul_mod, Nat.mod_mod, e1, ← Nat.mul_mod, Nat.mul_assoc, ← Nat.pow_succ']
        rw [show (2 * (left / 2)).succ = left by omega]
      · rw [if_neg y, Nat.mul_mod, e1, ← Nat.mul_mod, show 2 * (left / 2) = left by omega]
theorem inv_ok {x : Nat} (h0 : x ≠ 0) (h1 : x < 2147483647) : x * invF x % 2147483647 = 1 := by
  have hnd : ¬2147483647 ∣ x := fun z => by have := Nat.le_of_dvd (by omega) z; omega
  have hf := fermat pri31 hnd
  unfold invF
  rw [Nat.mul_mod, pwF_ok _ _ _ _ (Nat.le_refl _), Nat.one_mul, ← Nat.mul_mod, ← Nat.pow_succ']
  exact hf
