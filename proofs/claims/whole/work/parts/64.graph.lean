/-! LINES: sets of edges that are one line, taken apart edge by edge -/
def Jn (el : List (Nat × Nat)) (i p q : Nat) : Prop := el[i]? = some (p, q) ∨ el[i]? = some (q, p)
def dY (el : List (Nat × Nat)) (Y : Nat → Bool) (p : Nat) : Nat := sumN (fun i => if Y i = true then tch el i p else 0) el.length
def CY (el : List (Nat × Nat)) (Y : Nat → Bool) (U : Nat → Bool) : Prop := ∀ i p q, Y i = true → Jn el i p q → U p = U q
def rmE (Y : Nat → Bool) (e : Nat) (i : Nat) : Bool := Y i && !decide (i = e)
/-- the edges are proper -/
def ElP (el : List (Nat × Nat)) : Prop := ∀ (i a b : Nat), el[i]? = some (a, b) → a ≠ b
theorem Jn_s {el : List (Nat × Nat)} {i p q : Nat} (h : Jn el i p q) : Jn el i q p := h.symm
theorem Jn_lt {el : List (Nat × Nat)} {i p q : Nat} (h : Jn el i p q) : i < el.length := by
  rcases h with h | h <;> exact (List.getElem?_eq_some_iff.mp h).1
theorem Jn_ne {el : List (Nat × Nat)} (hp : ElP el) {i p q : Nat} (h : Jn el i p q) : p ≠ q := by
  rcases h with h | h
  · exact hp i p q h
  · exact fun e => hp i q p h e.symm
theorem Jn_tch {el : List (Nat × Nat)} {i p q : Nat} (h : Jn el i p q) (v : Nat) : tch el i v = (if p = v then 1 else 0) + (if q = v then 1 else 0) := by
  rcases h with h | h
  · exact tch_at h
  · rw [tch_at h]; omega
theorem tch_Jn {el : List (Nat × Nat)} {i v : Nat} (h : tch el i v ≠ 0) : ∃ q, Jn el i v q := by
  obtain ⟨a, b, h1, h2⟩ := tch_ne h
  rcases h2 with y | y
  · exact ⟨b, Or.inl (by rw [← y]; exact h1)⟩
  · exact ⟨a, Or.inr (by rw [← y]; exact h1)⟩
theorem Jn_get {el : List (Nat × Nat)} {i : Nat} (h : i < el.length) : ∃ a b, Jn el i a b := ⟨(el[i]).1, (el[i]).2, Or.inl (List.getElem?_eq_getElem h)⟩
theorem Jn_det {el : List (Nat × Nat)} {i p q q' : Nat} (h : Jn el i p q) (h' : Jn el i p q') : q = q' := by
  rcases h with h | h <;> rcases h' with g | g <;> rw [h] at g <;> simp only [Option.some.injEq, Prod.mk.injEq] at g <;> omega
theorem sumN_pos {f : Nat → Nat} : ∀ {n : Nat}, 0 < sumN f n → ∃ i, i < n ∧ f i ≠ 0
  | 0, h => absurd h (Nat.lt_irrefl _)
  | n + 1, h => by
    by_cases z : f n = 0
    · have : 0 < sumN f n := by
        have : sumN f (n + 1) = sumN f n + f n := rfl
        omega
      obtain ⟨i, h1, h2⟩ := sumN_pos this
      exact ⟨i, by omega, h2⟩
    · exact ⟨n, Nat.lt_succ_self n, z⟩
theorem sumN_ge {f : Nat → Nat} {i : Nat} : ∀ {n : Nat}, i < n → f i ≤ sumN f n
  | n + 1, h => by
    show f i ≤ sumN f n + f n
    by_cases z : i = n
    · rw [z]; omega
    · have := sumN_ge (f := f) (i := i) (n := n) (by omega)
      omega
theorem dY_pos {el : List (Nat × Nat)} {Y : Nat → Bool} {v : Nat} : 0 < dY el Y v ↔ ∃ i q, Y i = true ∧ Jn el i v q := by
  constructor
  · intro h
    obtain ⟨i, h1, h2⟩ := sumN_pos h
    by_cases z : Y i = true
    · rw [if_pos z] at h2
      obtain ⟨q, hq⟩ := tch_Jn h2
      exact ⟨i, q, z, hq⟩
    · rw [if_neg z] at h2; exact absurd rfl h2
  · rintro ⟨i, q, h1, h2⟩
    have h3 := sumN_ge (f := fun i => if Y i = true then tch el i v else 0) (Jn_lt h2)
    rw [if_pos h1, Jn_tch h2, if_pos rfl] at h3
    unfold dY
    omega
theorem dY_0 {el : List (Nat × Nat)} {Y : Nat → Bool} {v : Nat} (h : dY el Y v = 0) {i q : Nat} (hY : Y i = true) (hJ : Jn el i v q) : False := by
  have := dY_pos.mpr ⟨i, q, hY, hJ⟩
  omega
theorem dY_rm {el : List (Nat × Nat)} {Y : Nat → Bool} {e p q : Nat} (hY : Y e = true) (hJ : Jn el e p q) (v : Nat) : dY el Y v = dY el (rmE Y e) v + ((if p = v then 1 else 0) + (if q = v then 1 else 0)) := by
  rw [← Jn_tch hJ v]
  unfold dY
  have h1 : sumN (fun i => if i = e then tch el e v else 0) el.length = tch el e v := by
    rw [sumN_one (k := e) (Jn_lt hJ) (fun i _ hne => if_neg hne), if_pos rfl]
  rw [← h1, ← sumN_add]
  refine sumN_congr (fun i hi => ?_)
  unfold rmE
  by_cases z : i = e
  · rw [z, if_pos hY, decide_eq_true rfl, if_pos rfl]
    rw [Bool.not_true, Bool.and_false, if_neg (by decide), Nat.zero_add]
  · rw [decide_eq_false z, if_neg z, Bool.not_false, Bool.and_true, Nat.add_zero]
theorem rm_sub {Y : Nat → Bool} {e i : Nat} (h : rmE Y e i = true) : Y i = true ∧ i ≠ e := by
  unfold rmE at h
  rw [Bool.and_eq_true, Bool.not_eq_true', decide_eq_false_iff_not] at h
  exact h
theorem rm_in {Y : Nat → Bool} {e i : Nat} (h : Y i = true) (hne : i ≠ e) : rmE Y e i = true := by
  unfold rmE
  rw [h, decide_eq_false hne]; rfl
/-- one line from p to t -/
def Gp (el : List (Nat × Nat)) (Y : Nat → Bool) (p t : Nat) (V : List Nat) : Prop := p ≠ t ∧ dY el Y p = 1 ∧ dY el Y t = 1 ∧ (∀ v, v ≠ p → v ≠ t → dY el Y v = 0 ∨ dY el Y v = 2) ∧ (∀ v, v ∈ V → v ≠ p → v ≠ t → dY el Y v = 0) ∧ ∀ U, CY el Y U → ∀ v, 0 < dY el Y v → U v = U p
theorem G_one {el : List (Nat × Nat)} {Y : Nat → Bool} {p : Nat} (h : dY el Y p = 1) {e e' q q' : Nat} (h1 : Y e = true) (h2 : Jn el e p q) (h3 : Y e' = true) (h4 : Jn el e' p q') : e = e' := by
  rcases Classical.em (e = e') with y | y
  · exact y
  · exfalso
    have := dY_rm h1 h2 p
    have := dY_pos.mpr ⟨e', q', rm_in h3 (fun z => y z.symm), h4⟩
    rw [if_pos rfl] at *
    omega
theorem G_step {el : List (Nat × Nat)} (hp : ElP el) {Y : Nat → Bool} {p t : Nat} {V : List Nat} (h : Gp el Y p t V) : ∃ e q, Y e = true ∧ Jn el e p q ∧ ((q = t ∧ ∀ i, i < el.length → Y i = true → i = e) ∨ (q ≠ t ∧ q ∉ V ∧ Gp el (rmE Y e) q t (V ++ [q]))) := by
  obtain ⟨hpt, hdp, hdt, hdo, hdV, hco⟩ := h
  obtain ⟨e, q, hYe, hJ⟩ := dY_pos.mp (show 0 < dY el Y p by omega)
  have hpq := Jn_ne hp hJ
  have hr := dY_rm hYe hJ
  have hp0 : dY el (rmE Y e) p = 0 := by
    have := hr p
    rw [if_pos rfl, if_neg (fun z => hpq z.symm)] at this
    omega
  have hq1 : dY el Y q = dY el (rmE Y e) q + 1 := by
    have := hr q
    rw [if_neg hpq, if_pos rfl] at this
    omega
  have hor : ∀ v, v ≠ p → v ≠ q → dY el Y v = dY el (rmE Y e) v := by
    intro v h1 h2
    have := hr v
    rw [if_neg (fun z => h1 z.symm), if_neg (fun z => h2 z.symm)] at this
    omega
  have hco2 : ∀ U, CY el (rmE Y e) U → ∀ v, 0 < dY el (rmE Y e) v → U v = U q := by
    intro U hU v hv
    have hvp : v ≠ p := fun z => by rw [z, hp0] at hv; omega
    have := hco (fun x => if x = p then U q else U x) (fun i a b h1 h2 => by
      by_cases z : i = e
      · subst z
        have hab : (a = p ∧ b = q) ∨ (a = q ∧ b = p) := by
          rcases h2 with h2 | h2 <;> rcases hJ with g | g <;> rw [h2] at g <;> simp only [Option.some.injEq, Prod.mk.injEq] at g <;> omega
        dsimp only
        rcases hab with ⟨y1, y2⟩ | ⟨y1, y2⟩
        · rw [y1, y2, if_pos rfl, if_neg (fun z => hpq z.symm)]
        · rw [y1, y2, if_pos rfl, if_neg (fun z => hpq z.symm)]
      · have h3 := rm_in h1 z
        have ha : a ≠ p := fun y => by rw [y] at h2; exact dY_0 hp0 h3 h2
        have hb : b ≠ p := fun y => by rw [y] at h2; exact dY_0 hp0 h3 (Jn_s h2)
        dsimp only
        rw [if_neg ha, if_neg hb]
        exact hU i a b h3 h2) v (by by_cases z : v = q; (rw [z, hq1]; omega); (rw [hor v hvp z]; exact hv))
    rw [if_neg hvp, if_pos rfl] at this
    exact this
  refine ⟨e, q, hYe, hJ, ?_⟩
  by_cases hqt : q = t
  · left
    refine ⟨hqt, fun i hi hY => ?_⟩
    rcases Classical.em (i = e) with y | y
    · exact y
    · exfalso
      have ht0 : dY el (rmE Y e) t = 0 := by rw [← hqt]; rw [← hqt] at hdt; omega
      obtain ⟨a, b, hab⟩ := Jn_get hi
      have h3 := rm_in hY y
      have := hco2 (fun x => decide (x = t)) (fun j c d h1 h2 => by
        have hc : c ≠ t := fun z => by rw [z] at h2; exact dY_0 ht0 h1 h2
        have hd : d ≠ t := fun z => by rw [z] at h2; exact dY_0 ht0 h1 (Jn_s h2)
        dsimp only
        rw [decide_eq_false hc, decide_eq_false hd]) a (dY_pos.mpr ⟨i, b, h3, hab⟩)
      rw [decide_eq_true hqt] at this
      have hat : a = t := of_decide_eq_true this
      rw [hat] at hab
      exact dY_0 ht0 h3 hab
  · right
    have hq2 : dY el Y q = 2 := by
      rcases hdo q (fun z => hpq z.symm) hqt with y | y
      · omega
      · exact y
    have hqV : q ∉ V := fun z => by have := hdV q z (fun z => hpq z.symm) hqt; omega
    refine ⟨hqt, hqV, hqt, by omega, ?_, fun v h1 h2 => ?_, fun v h1 h2 h3 => ?_, hco2⟩
    · rw [← hor t (fun z => hpt z.symm) (fun z => hqt z.symm)]; exact hdt
    · by_cases z : v = p
      · rw [z]; exact Or.inl hp0
      · rw [← hor v z h1]; exact hdo v z h2
    · rw [List.mem_append, List.mem_singleton] at h1
      rcases h1 with y | y
      · by_cases z : v = p
        · rw [z]; exact hp0
        · rw [← hor v z h2]; exact hdV v y z h3
      · exact absurd y h2
theorem G_last {el : List (Nat × Nat)} (hp : ElP el) {Y : Nat → Bool} {p t e : Nat} {V : List Nat} (hJ : Jn el e p t) (hY : ∀ i, i < el.length → (Y i = true ↔ i = e)) : Gp el Y p t V := by
  have hpt := Jn_ne hp hJ
  have hYe : Y e = true := (hY e (Jn_lt hJ)).mpr rfl
  have h0 : ∀ v, dY el (rmE Y e) v = 0 := fun v => sumN_zero (fun i hi => by
    rw [if_neg]
    intro z
    have := rm_sub z
    exact this.2 ((hY i hi).mp this.1))
  have hr := fun v => dY_rm hYe hJ v
  refine ⟨hpt, ?_, ?_, fun v h1 h2 => ?_, fun v _ h1 h2 => ?_, fun U hU v hv => ?_⟩
  · rw [hr p, h0, if_pos rfl, if_neg (fun z => hpt z.symm)]
  · rw [hr t, h0, if_neg hpt, if_pos rfl]
  · left; rw [hr v, h0, if_neg (fun z => h1 z.symm), if_neg (fun z => h2 z.symm)]
  · rw [hr v, h0, if_neg (fun z => h1 z.symm), if_neg (fun z => h2 z.symm)]
  · by_cases y : v = p
    · rw [y]
    · by_cases x : v = t
      · rw [x]; exact (hU e p t hYe hJ).symm
      · rw [hr v, h0, if_neg (fun z => y z.symm), if_neg (fun z => x z.symm)] at hv; omega
theorem G_add {el : List (Nat × Nat)} (hp : ElP el) {Y : Nat → Bool} {p q t e : Nat} {V : List Nat} (hYe : Y e = true) (hJ : Jn el e p q) (hpV : p ∈ V) (hpt : p ≠ t) (hqV : q ∉ V) (h : Gp el (rmE Y e) q t (V ++ [q])) : Gp el Y p t V := by
  obtain ⟨hqt, hdq, hdt, hdo, hdV, hco⟩ := h
  have hpq := Jn_ne hp hJ
  have hr := dY_rm hYe hJ
  have hp0 : dY el (rmE Y e) p = 0 := hdV p (List.mem_append.mpr (Or.inl hpV)) hpq hpt
  have hor : ∀ v, v ≠ p → v ≠ q → dY el Y v = dY el (rmE Y e) v := by
    intro v h1 h2
    have := hr v
    rw [if_neg (fun z => h1 z.symm), if_neg (fun z => h2 z.symm)] at this
    omega
  have hq2 : dY el Y q = 2 := by
    rw [hr q, if_neg hpq, if_pos rfl, hdq]
  refine ⟨hpt, ?_, ?_, fun v h1 h2 => ?_, fun v h0 h1 h2 => ?_, fun U hU v hv => ?_⟩
  · rw [hr p, hp0, if_pos rfl, if_neg (fun z => hpq z.symm)]
  · rw [hor t (fun z => hpt z.symm) (fun z => hqt z.symm)]; exact hdt
  · by_cases z : v = q
    · rw [z]; exact Or.inr hq2
    · rw [hor v h1 z]; exact hdo v z h2
  · have hvq : v ≠ q := fun z => hqV (by rw [← z]; exact h0)
    rw [hor v h1 hvq]
    exact hdV v (List.mem_append.mpr (Or.inl h0)) hvq h2
  · have hUpq : U p = U q := hU e p q hYe hJ
    by_cases y : v = p
    · rw [y]
    · by_cases x : v = q
      · rw [x, hUpq]
      · rw [hor v y x] at hv
        rw [hUpq]
        exact hco U (fun i a b h1 h2 => hU i a b (rm_sub h1).1 h2) v hv
