/-! TREES: the reference's number by an edge less and an edge drawn together -/
def vE (el : List (Nat × Nat)) (pa : Nat → Nat) (e i : Nat) : Int := match el[e]? with
  | some q => ve (pa q.1) (pa q.2) i
  | none => 0
theorem vE_at {el : List (Nat × Nat)} {pa : Nat → Nat} {e a b i : Nat} (h : el[e]? = some (a, b)) : vE el pa e i = ve (pa a) (pa b) i := by unfold vE; rw [h]
def lapS (el : List (Nat × Nat)) (f : Nat → Int32) (pa : Nat → Nat) (n : Nat) : Mat := fun i k => sumI (fun e => if f e = 0 then vE el pa e i * vE el pa e k else 0) n
theorem ve_same (x i : Nat) : ve x x i = 0 := by unfold ve; omega
theorem ad_cg {N : Nat → Nat → Nat} {x y i k : Nat} {z : Int} (hxy : x ≠ y) (h : cg (N i k : Int) z) : cg (adE N x y i k : Int) (z + ve x y i * ve x y k) := by
  unfold adE
  by_cases h1 : i = x ∧ k = x
  · rw [if_pos h1, h1.1, h1.2, ve_a hxy, Int.natCast_add]
    rw [h1.1, h1.2] at h
    exact cg_add h ⟨0, by decide⟩
  · rw [if_neg h1]
    by_cases h2 : i = y ∧ k = y
    · rw [if_pos h2, h2.1, h2.2, ve_b hxy, Int.natCast_add]
      rw [h2.1, h2.2] at h
      exact cg_add h ⟨0, by decide⟩
    · rw [if_neg h2]
      by_cases h3 : i = x ∧ k = y
      · rw [if_pos h3, h3.1, h3.2, ve_a hxy, ve_b hxy, Int.natCast_add]
        rw [h3.1, h3.2] at h
        exact cg_add h ⟨1, by decide⟩
      · rw [if_neg h3]
        by_cases h4 : i = y ∧ k = x
        · rw [if_pos h4, h4.1, h4.2, ve_a hxy, ve_b hxy, Int.natCast_add]
          rw [h4.1, h4.2] at h
          exact cg_add h ⟨1, by decide⟩
        · rw [if_neg h4]
          have : ve x y i * ve x y k = 0 := by
            by_cases a1 : i = x
            · rw [ve_o (i := k) (fun q => h1 ⟨a1, q⟩) (fun q => h3 ⟨a1, q⟩), Int.mul_zero]
            · by_cases a2 : i = y
              · rw [ve_o (i := k) (fun q => h4 ⟨a2, q⟩) (fun q => h2 ⟨a2, q⟩), Int.mul_zero]
              · rw [ve_o a1 a2, Int.zero_mul]
          rw [this, Int.add_zero]; exact h
theorem lap_cg {el : List (Nat × Nat)} {f : Nat → Int32} {pa : Nat → Nat} (i k : Nat) : ∀ (n : Nat), cg (lapN el f pa n i k : Int) (lapS el f pa n i k)
  | 0 => cg_rfl _
  | n + 1 => by
    have ih := lap_cg (el := el) (f := f) (pa := pa) i k n
    have e1 : lapS el f pa (n + 1) i k = lapS el f pa n i k + (if f n = 0 then vE el pa n i * vE el pa n k else 0) := rfl
    rw [e1]
    cases hq : el[n]? with
    | none =>
      have e2 : lapN el f pa (n + 1) = lapN el f pa n := by
        show (match el[n]? with | some q => _ | none => _) = _
        rw [hq]
      have e3 : vE el pa n i = 0 := by unfold vE; rw [hq]
      rw [e2, e3, Int.zero_mul]
      by_cases z : f n = 0
      · rw [if_pos z, Int.add_zero]; exact ih
      · rw [if_neg z, Int.add_zero]; exact ih
    | some q =>
      have e2 : lapN el f pa (n + 1) = if f n = 0 then (if pa q.1 = pa q.2 then lapN el f pa n else adE (lapN el f pa n) (pa q.1) (pa q.2)) else lapN el f pa n := by
        show (match el[n]? with | some q => _ | none => _) = _
        rw [hq]
      have e3 : ∀ j, vE el pa n j = ve (pa q.1) (pa q.2) j := fun j => by unfold vE; rw [hq]
      rw [e2, e3, e3]
      by_cases z : f n = 0
      · rw [if_pos z, if_pos z]
        by_cases y : pa q.1 = pa q.2
        · rw [if_pos y, y, ve_same, Int.zero_mul, Int.add_zero]; exact ih
        · rw [if_neg y]; exact ad_cg y ih
      · rw [if_neg z, if_neg z, Int.add_zero]; exact ih
/-- labels drawn together -/
theorem ve_mg {α β x y i : Nat} (hne : α ≠ β) : ve (if x = β then α else x) (if y = β then α else y) i = if i = β then 0 else if i = α then ve x y α + ve x y β else ve x y i := by
  have key : ∀ x : Nat, de i (if x = β then α else x) = if i = β then 0 else if i = α then de α x + de β x else de i x := by
    intro x
    by_cases z : x = β
    · rw [if_pos z, z]
      by_cases a : i = β
      · rw [if_pos a, a]; exact de_n (fun q => hne q.symm)
      · rw [if_neg a]
        by_cases b : i = α
        · rw [if_pos b, b, de_s, de_n hne, de_s]; rfl
        · rw [if_neg b, de_n b, de_n a]
    · rw [if_neg z]
      by_cases a : i = β
      · rw [if_pos a, a]; exact de_n (fun q => z q.symm)
      · rw [if_neg a]
        by_cases b : i = α
        · rw [if_pos b, b, de_n (fun q => z q.symm : β ≠ x)]; omega
        · rw [if_neg b]
  unfold ve
  rw [key x, key y]
  by_cases a : i = β
  · rw [if_pos a, if_pos a, if_pos a]; rfl
  · rw [if_neg a, if_neg a, if_neg a]
    by_cases b : i = α
    · rw [if_pos b, if_pos b, if_pos b]; omega
    · rw [if_neg b, if_neg b, if_neg b]
theorem Mg_add (α β : Nat) (M N : Mat) (i k : Nat) : Mg α β (fun i k => M i k + N i k) i k = Mg α β M i k + Mg α β N i k := by
  unfold Mg
  dsimp only
  by_cases a : i = β
  · rw [if_pos a, if_pos a, if_pos a]; rfl
  · rw [if_neg a, if_neg a, if_neg a]
    by_cases b : k = β
    · rw [if_pos b, if_pos b, if_pos b]; rfl
    · rw [if_neg b, if_neg b, if_neg b]
      by_cases c : i = α
      · rw [if_pos c, if_pos c, if_pos c]
        by_cases d : k = α
        · rw [if_pos d, if_pos d, if_pos d]; omega
        · rw [if_neg d, if_neg d, if_neg d]; omega
      · rw [if_neg c, if_neg c, if_neg c]
        by_cases d : k = α
        · rw [if_pos d, if_pos d, if_pos d]; omega
        · rw [if_neg d, if_neg d, if_neg d]
theorem Mg_0 (α β i k : Nat) : Mg α β (fun _ _ => 0) i k = 0 := by
  unfold Mg
  by_cases a : i = β
  · rw [if_pos a]
  · rw [if_neg a]
    by_cases b : k = β
    · rw [if_pos b]
    · rw [if_neg b]
      by_cases c : i = α
      · rw [if_pos c]
        by_cases d : k = α
        · rw [if_pos d]; rfl
        · rw [if_neg d]; rfl
      · rw [if_neg c]
        by_cases d : k = α
        · rw [if_pos d]; rfl
        · rw [if_neg d]
theorem Mg_vv {α β x y : Nat} (hne : α ≠ β) (i k : Nat) : Mg α β (fun i k => ve x y i * ve x y k) i k = ve (if x = β then α else x) (if y = β then α else y) i * ve (if x = β then α else x) (if y = β then α else y) k := by
  rw [ve_mg hne, ve_mg hne]
  unfold Mg
  dsimp only
  by_cases a : i = β
  · rw [if_pos a, if_pos a, Int.zero_mul]
  · rw [if_neg a, if_neg a]
    by_cases b : k = β
    · rw [if_pos b, if_pos b, Int.mul_zero]
    · rw [if_neg b, if_neg b]
      by_cases c : i = α
      · rw [if_pos c, if_pos c]
        by_cases d : k = α
        · rw [if_pos d, if_pos d, Int.mul_add, Int.add_mul, Int.add_mul]; omega
        · rw [if_neg d, if_neg d, Int.add_mul]
      · rw [if_neg c, if_neg c]
        by_cases d : k = α
        · rw [if_pos d, if_pos d, Int.mul_add]
        · rw [if_neg d, if_neg d]
theorem lap_Mg {el : List (Nat × Nat)} {f g : Nat → Int32} {pa : Nat → Nat} {a b : Nat} (hne : pa a ≠ pa b) (i k : Nat) : ∀ (n : Nat), (∀ e, e < n → (f e = 0 ↔ g e = 0)) → Mg (pa a) (pa b) (lapS el f pa n) i k = lapS el g (mg pa a b) n i k
  | 0, _ => Mg_0 _ _ i k
  | n + 1, h => by
    have e1 : Mg (pa a) (pa b) (lapS el f pa (n + 1)) i k = Mg (pa a) (pa b) (fun i k => lapS el f pa n i k + (fun i k => if f n = 0 then vE el pa n i * vE el pa n k else 0) i k) i k := rfl
    have e2 : lapS el g (mg pa a b) (n + 1) i k = lapS el g (mg pa a b) n i k + (if g n = 0 then vE el (mg pa a b) n i * vE el (mg pa a b) n k else 0) := rfl
    rw [e1, Mg_add, e2]
    rw [show Mg (pa a) (pa b) (fun i k => lapS el f pa n i k) i k = Mg (pa a) (pa b) (lapS el f pa n) i k from rfl, lap_Mg hne i k n (fun e he => h e (by omega))]
    congr 1
    have hn := h n (Nat.lt_succ_self n)
    by_cases z : f n = 0
    · have e3 : (fun i k => if f n = 0 then vE el pa n i * vE el pa n k else 0) = (fun i k => vE el pa n i * vE el pa n k) := by funext i k; rw [if_pos z]
      rw [e3, if_pos (hn.mp z)]
      cases hq : el[n]? with
      | none =>
        have e4 : ∀ pa : Nat → Nat, ∀ j, vE el pa n j = 0 := fun pa j => by unfold vE; rw [hq]
        have e5 : (fun i k => vE el pa n i * vE el pa n k) = fun _ _ => 0 := by funext i k; rw [e4, Int.zero_mul]
        rw [e5, Mg_0, e4, Int.zero_mul]
      | some q =>
        have e4 : ∀ pa : Nat → Nat, ∀ j, vE el pa n j = ve (pa q.1) (pa q.2) j := fun pa j => by unfold vE; rw [hq]
        have e5 : (fun i k => vE el pa n i * vE el pa n k) = fun i k => ve (pa q.1) (pa q.2) i * ve (pa q.1) (pa q.2) k := by funext i k; rw [e4, e4]
        rw [e5, Mg_vv hne, e4, e4]
        rfl
    · have e3 : (fun i k => if f n = 0 then vE el pa n i * vE el pa n k else 0) = (fun _ _ => 0) := by funext i k; rw [if_neg z]
      rw [e3, if_neg (fun q => z (hn.mpr q)), Mg_0]
theorem lapS_upd {el : List (Nat × Nat)} {f : Nat → Int32} {pa : Nat → Nat} {e : Nat} (he : f e = 0) (i k : Nat) : ∀ (n : Nat), lapS el f pa n i k = lapS el (upd f e 2) pa n i k + (if e < n then vE el pa e i * vE el pa e k else 0)
  | 0 => by rw [if_neg (Nat.not_lt_zero _)]; rfl
  | n + 1 => by
    have e1 : ∀ g : Nat → Int32, lapS el g pa (n + 1) i k = lapS el g pa n i k + (if g n = 0 then vE el pa n i * vE el pa n k else 0) := fun g => rfl
    rw [e1, e1, lapS_upd he i k n]
    by_cases z : e = n
    · subst z
      have h2 : upd f e 2 e = 2 := by unfold upd; rw [if_pos rfl]
      rw [if_neg (Nat.lt_irrefl e), if_pos he, h2, if_neg (by decide), if_pos (Nat.lt_succ_self e)]
    · have h2 : upd f e 2 n = f n := by unfold upd; rw [if_neg (fun q => z q.symm)]
      rw [h2]
      by_cases y : e < n
      · rw [if_pos y, if_pos (show e < n + 1 by omega)]; exact Int.add_right_comm _ _ _
      · rw [if_neg y, if_neg (show ¬e < n + 1 by omega), Int.add_zero, Int.add_zero]
theorem prAll_congr {el : List (Nat × Nat)} {f g : Nat → Int32} : ∀ {m : Nat}, (∀ i, i < m → (f i = 1 ↔ g i = 1)) → prAll el f m = prAll el g m
  | 0, _ => rfl
  | m + 1, h => by
    show (prAll el f m).bind (prS el f m) = (prAll el g m).bind (prS el g m)
    rw [prAll_congr (fun i hi => h i (by omega))]
    congr 1
    funext pa
    unfold prS
    have := h m (Nat.lt_succ_self m)
    by_cases z : f m = 1
    · rw [if_pos z, if_pos (this.mp z)]
    · rw [if_neg z, if_neg (fun q => z (this.mpr q))]
theorem prAll_stay {el : List (Nat × Nat)} {f : Nat → Int32} {m : Nat} : ∀ (d : Nat), (∀ i, m ≤ i → i < m + d → f i ≠ 1) → prAll el f (m + d) = prAll el f m
  | 0, _ => rfl
  | d + 1, h => by
    show (prAll el f (m + d)).bind (prS el f (m + d)) = _
    rw [prAll_stay d (fun i h1 h2 => h i h1 (by omega))]
    have : prS el f (m + d) = some := by
      funext pa
      unfold prS
      rw [if_neg (h (m + d) (by omega) (by omega))]
    rw [this]
    cases prAll el f m <;> rfl
def LbO (pl : Nat → Bool) (pa : Nat → Nat) : Prop := (∀ x, pa (pa x) = pa x) ∧ ∀ x, pl x = true → pl (pa x) = true
theorem mg_LbO {pl : Nat → Bool} {pa : Nat → Nat} {a b : Nat} (h : LbO pl pa) (ha : pl a = true) : LbO pl (mg pa a b) := by
  constructor
  · intro x
    unfold mg
    by_cases z : pa x = pa b
    · rw [if_pos z, h.1 a]
      by_cases y : pa a = pa b
      · rw [if_pos y]
      · rw [if_neg y]
    · rw [if_neg z, h.1 x, if_neg z]
  · intro x hx
    unfold mg
    by_cases z : pa x = pa b
    · rw [if_pos z]; exact h.2 a ha
    · rw [if_neg z]; exact h.2 x hx
theorem prAll_LbO {el : List (Nat × Nat)} {f : Nat → Int32} {pl : Nat → Bool} (hpl : ∀ (i a b : Nat), el[i]? = some (a, b) → pl a = true ∧ pl b = true) : ∀ {m : Nat} {pa : Nat → Nat}, prAll el f m = some pa → LbO pl pa
  | 0, pa, h => by
    have := Option.some.inj h
    subst this
    exact ⟨fun _ => rfl, fun _ hx => hx⟩
  | m + 1, pa, h => by
    have h2 : (prAll el f m).bind (prS el f m) = some pa := h
    rw [Option.bind_eq_some_iff] at h2
    obtain ⟨qa, h3, h4⟩ := h2
    have ih := prAll_LbO hpl h3
    unfold prS at h4
    by_cases z : f m = 1
    · rw [if_pos z] at h4
      cases hq : el[m]? with
      | none =>
        rw [hq] at h4
        have := Option.some.inj h4
        subst this; exact ih
      | some q =>
        rw [hq] at h4
        dsimp only at h4
        by_cases y : qa q.1 = qa q.2
        · rw [if_pos y] at h4; exact absurd h4 (by simp)
        · rw [if_neg y] at h4
          have := Option.some.inj h4
          subst this
          exact mg_LbO (a := q.1) (b := q.2) ih (hpl m q.1 q.2 hq).1
    · rw [if_neg z] at h4
      have := Option.some.inj h4
      subst this; exact ih
