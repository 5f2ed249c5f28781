/-! THE REFERENCE'S SETS BY DEGREES ARE THE SAME -/
theorem capD {w h : Nat} {ho : Int32} {op : Int64} {dg : Nat} (hw : 0 < w) (hw5 : w ≤ 5) (hP : w * h ≤ 25) (hd : dg < 3) (hop : ∀ s, s < 64 → gB op s = opB w (w * h) (plB (w * h) ho) s) : Cap (w * h) 64 (fun p => cafDK (nI (w * h)) ho (nI dg) p (p % w)) (fun p => openChoicesF op (nI p)) 0 (fun p => (List.range (if p % w = 0 then 2 ^ w else 2 ^ (w + 1))).map nI) := by
  have h5 : 2 ^ w ≤ 2 ^ 5 := Nat.pow_le_pow_right (by decide) hw5
  have h6 : 2 ^ (w + 1) ≤ 2 ^ 6 := Nat.pow_le_pow_right (by decide) (by omega)
  have hpos : 0 < 2 ^ w := Nat.pow_pos (by decide)
  refine ⟨by decide, by decide, ?_, ?_, ?_⟩
  · show (0 : Int32) ∈ (List.range (if 0 % w = 0 then 2 ^ w else 2 ^ (w + 1))).map nI
    rw [Nat.zero_mod, if_pos rfl, List.mem_map]
    exact ⟨0, List.mem_range.mpr hpos, rfl⟩
  · intro p hp
    show ((List.range (if p % w = 0 then 2 ^ w else 2 ^ (w + 1))).map nI).length ≤ 64
    rw [List.length_map, List.length_range]
    by_cases z : p % w = 0
    · rw [if_pos z]; omega
    · rw [if_neg z]; omega
  · intro p hp x hx c hc hne
    obtain ⟨n, hn, rfl⟩ := List.mem_map.mp hx
    rw [List.mem_range] at hn
    have hcw : p % w < w := Nat.mod_lt _ hw
    have hn64 : n < 64 := by
      by_cases z : p % w = 0
      · rw [if_pos z] at hn; omega
      · rw [if_neg z] at hn; omega
    have he := nxD_eq (ho := ho) (op := op) hw hw5 hP hp hd hn64 hc
    rw [show nxA (fun p => cafDK (nI (w * h)) ho (nI dg) p (p % w)) (fun p => openChoicesF op (nI p)) p (nI n) c = _ from he] at hne ⊢
    by_cases y : nI c &&& (openChoicesF op (nI p) ^^^ -1) = 0
    · rw [if_pos y] at hne ⊢
      by_cases x : bs2 (shN (p % w) n / 2 ^ (p % w) % 4) + bs2 c = dueD (w * h) ho dg p
      · rw [if_pos x]
        refine List.mem_map.mpr ⟨nxN (p % w) n c, List.mem_range.mpr ?_, rfl⟩
        have hb := nxN_bit (p % w) (by omega) c hc n hn64
        have hsh : ∀ j, w < j → j < 8 → (shN (p % w) n).testBit j = false := by
          intro j h1 h2
          rw [hb.2.2.2 j h2]
          by_cases z : p % w = 0
          · rw [if_pos z] at hn ⊢
            rw [Nat.testBit_lt_two_pow (Nat.lt_of_lt_of_le hn (Nat.pow_le_pow_right (by decide) (show w ≤ j - 1 by omega))), Bool.and_false]
          · rw [if_neg z] at hn ⊢
            exact Nat.testBit_lt_two_pow (Nat.lt_of_lt_of_le hn (Nat.pow_le_pow_right (by decide) (show w + 1 ≤ j by omega)))
        have hall : ∀ j, w < j → j < 8 → (nxN (p % w) n c).testBit j = false := by
          intro j h1 h2
          rw [hb.1 j h2, if_neg (by omega), if_neg (by omega)]
          exact hsh j h1 h2
        by_cases z : (p + 1) % w = 0
        · rw [if_pos z]
          have hcw1 : p % w + 1 = w := by
            rcases Nat.lt_or_ge (p % w + 1) w with u | u
            · exfalso
              have hd := Nat.div_add_mod p w
              have : p + 1 = w * (p / w) + (p % w + 1) := by omega
              rw [this, Nat.mul_add_mod, Nat.mod_eq_of_lt u] at z
              omega
            · omega
          refine tb_lt (by omega) hb.2.1 (fun j h1 h2 => ?_)
          by_cases u : j = w
          · rw [hb.1 j h2, if_neg (by omega), if_pos (by omega)]
            have h3 := (opn_ok (op := op) (p := p) (by omega) hc).mp y
            cases ht : c.testBit 1 with
            | false => rfl
            | true =>
              exfalso
              have h4 := h3.2 ht
              rw [hop _ (by omega)] at h4
              unfold opB at h4
              rw [if_pos (by omega), show (2 * p + 1) / 2 = p by omega, decide_eq_false (show ¬ p % w + 1 < w by omega)] at h4
              simp at h4
          · exact hall j (by omega) h2
        · rw [if_neg z]
          exact tb_lt (by omega) hb.2.1 (fun j h1 h2 => hall j (by omega) h2)
      · rw [if_neg x] at hne; exact absurd rfl hne
    · rw [if_neg y] at hne; exact absurd rfl hne
def sumN (f : Nat → Nat) : Nat → Nat
  | 0 => 0
  | n + 1 => sumN f n + f n
theorem sumN_congr {f g : Nat → Nat} : ∀ {n : Nat}, (∀ i, i < n → f i = g i) → sumN f n = sumN g n
  | 0, _ => rfl
  | n + 1, h => by
    show sumN f n + f n = sumN g n + g n
    rw [sumN_congr (fun i hi => h i (by omega)), h n (Nat.lt_succ_self n)]
theorem sumN_add {f g : Nat → Nat} : ∀ {n : Nat}, sumN (fun i => f i + g i) n = sumN f n + sumN g n
  | 0 => rfl
  | n + 1 => by
    show sumN (fun i => f i + g i) n + (f n + g n) = sumN f n + f n + (sumN g n + g n)
    rw [sumN_add]; omega
theorem sumN_zero {f : Nat → Nat} : ∀ {n : Nat}, (∀ i, i < n → f i = 0) → sumN f n = 0
  | 0, _ => rfl
  | n + 1, h => by
    show sumN f n + f n = 0
    rw [sumN_zero (fun i hi => h i (by omega)), h n (Nat.lt_succ_self n)]
theorem sumN_one {f : Nat → Nat} {k : Nat} : ∀ {n : Nat}, k < n → (∀ i, i < n → i ≠ k → f i = 0) → sumN f n = f k
  | n + 1, hk, h => by
    show sumN f n + f n = f k
    by_cases z : k = n
    · rw [sumN_zero (fun i hi => h i (by omega) (by omega)), z, Nat.zero_add]
    · rw [sumN_one (k := k) (n := n) (by omega) (fun i hi hne => h i (by omega) hne), h n (by omega) (by omega), Nat.add_zero]
theorem sumN_mono {f : Nat → Nat} {m : Nat} : ∀ {n : Nat}, m ≤ n → sumN f m ≤ sumN f n
  | 0, h => by rw [show m = 0 by omega]; exact Nat.le_refl _
  | n + 1, h => by
    by_cases z : m = n + 1
    · rw [z]; exact Nat.le_refl _
    · have := sumN_mono (f := f) (m := m) (n := n) (by omega)
      show sumN f m ≤ sumN f n + f n
      omega
theorem sumN_flat {f : Nat → Nat} {m : Nat} : ∀ {n : Nat}, m ≤ n → (∀ i, m ≤ i → i < n → f i = 0) → sumN f n = sumN f m
  | 0, h, _ => by rw [show m = 0 by omega]
  | n + 1, h, hz => by
    by_cases z : m = n + 1
    · rw [z]
    · show sumN f n + f n = sumN f m
      rw [sumN_flat (m := m) (n := n) (by omega) (fun i h1 h2 => hz i h1 (by omega)), hz n (by omega) (by omega), Nat.add_zero]
/-- how often the edge i ends at p -/
def tch (el : List (Nat × Nat)) (i p : Nat) : Nat := match el[i]? with
  | some q => (if q.1 = p then 1 else 0) + (if q.2 = p then 1 else 0)
  | none => 0
theorem dgU_eq (dg : Nat → Nat) (a b p : Nat) : dgU dg a b p = dg p + ((if a = p then 1 else 0) + (if b = p then 1 else 0)) := by
  unfold dgU upN
  by_cases y : p = b
  · subst y
    rw [if_pos rfl, if_pos rfl]
    by_cases x : p = a
    · subst x; rw [if_pos rfl, if_pos rfl]
    · rw [if_neg x, if_neg (fun z => x z.symm)]
  · rw [if_neg y, if_neg (show ¬ b = p from fun z => y z.symm)]
    by_cases x : p = a
    · subst x; rw [if_pos rfl, if_pos rfl]
    · rw [if_neg x, if_neg (fun z => x z.symm)]; rfl
/-- the degree of p by the edges below e of the set S -/
def dgS (el : List (Nat × Nat)) (S : Int64) (e p : Nat) : Nat := sumN (fun i => if gB S i = true then tch el i p else 0) e
/-- what listDegrees asks, edge by edge -/
def gdA (el : List (Nat × Nat)) (due : Nat) (la : Nat → Int32) (S : Int64) (i : Nat) : Prop := ∀ a b, el[i]? = some (a, b) → gdF due la (dgS el S (i + 1)) a b i = true
theorem gdF_congr {due : Nat} {la : Nat → Int32} {dg dh : Nat → Nat} {a b e : Nat} (ha : dg a = dh a) (hb : dg b = dh b) : gdF due la dg a b e = gdF due la dh a b e := by unfold gdF; rw [ha, hb]
theorem ldR_congr {el : List (Nat × Nat)} {due : Nat} {la : Nat → Int32} {S : Int64} {dg dh : Nat → Nat} (h : ∀ p, dg p = dh p) : dg = dh := funext h
theorem mem_ldR {el : List (Nat × Nat)} {due : Nat} {la : Nat → Int32} {S : Int64} (hel : el.length ≤ 40) : ∀ (k e : Nat) (set : Int64), e + k = el.length → (∀ i, e ≤ i → i < 64 → gB set i = false) → (∀ i, i < e → gB set i = gB S i) →
    (S ∈ ldR el due la k e (dgS el S e) set ↔ (∀ i, el.length ≤ i → i < 64 → gB S i = false) ∧ ∀ i, e ≤ i → i < el.length → gdA el due la S i)
  | 0, e, set, hk, hz, hp => by
    show S ∈ [set] ↔ _
    rw [List.mem_singleton]
    constructor
    · intro h
      rw [h]
      exact ⟨fun i h1 h2 => hz i (by omega) h2, fun i h1 h2 => by omega⟩
    · rintro ⟨h1, _⟩
      apply gB_ext
      intro i hi
      rcases Nat.lt_or_ge i e with z | z
      · rw [hp i z]
      · rw [h1 i (by omega) hi, hz i z hi]
  | k + 1, e, set, hk, hz, hp => by
    have he : e < el.length := by omega
    obtain ⟨⟨a, b⟩, hsv⟩ : ∃ q, el[e]? = some q := ⟨_, List.getElem?_eq_getElem he⟩
    have hnext : ∀ (c : Bool), gB S e = c → dgS el S (e + 1) = if c = true then dgU (dgS el S e) a b else dgS el S e := by
      intro c hc
      funext p
      show sumN _ e + (if gB S e = true then tch el e p else 0) = _
      rw [hc]
      cases c with
      | false => rw [if_neg (by decide), if_neg (by decide)]; rfl
      | true =>
        rw [if_pos rfl, if_pos rfl, dgU_eq]
        unfold tch
        rw [hsv]
        rfl
    have hgd : gdA el due la S e ↔ gdF due la (dgS el S (e + 1)) a b e = true := by
      unfold gdA
      constructor
      · intro h; exact h a b hsv
      · intro h a2 b2 h2
        rw [hsv] at h2
        cases Option.some.inj h2
        exact h
    have ih0 := mem_ldR (due := due) (la := la) (S := S) hel k (e + 1) set (by omega) (fun i h1 h2 => hz i (by omega) h2)
    have ih1 := mem_ldR (due := due) (la := la) (S := S) hel k (e + 1) (set ||| bitL e) (by omega) (fun i h1 h2 => by rw [gB_or, hz i (by omega) h2, gB_bitL (by omega), decide_eq_false (by omega)]; rfl)
    have pre : ∀ (k e : Nat) (dg : Nat → Nat) (set : Int64), e + k = el.length → (∀ i, e ≤ i → i < 64 → gB set i = false) → S ∈ ldR el due la k e dg set → ∀ i, i < e → gB S i = gB set i := by
      intro k
      induction k with
      | zero => intro e dg set _ _ h i _; rw [List.mem_singleton.mp h]
      | succ k ih =>
        intro e dg set hke hz h i hi
        obtain ⟨⟨a, b⟩, hsv⟩ : ∃ q, el[e]? = some q := ⟨_, List.getElem?_eq_getElem (show e < el.length by omega)⟩
        unfold ldR at h
        rw [hsv] at h
        rcases List.mem_append.mp h with h | h
        · by_cases y : gdF due la dg a b e = true
          · rw [show (if gdF due la dg (a, b).1 (a, b).2 e = true then ldR el due la k (e + 1) dg set else []) = ldR el due la k (e + 1) dg set from if_pos y] at h
            exact ih (e + 1) dg set (by omega) (fun i h1 h2 => hz i (by omega) h2) h i (by omega)
          · rw [show (if gdF due la dg (a, b).1 (a, b).2 e = true then ldR el due la k (e + 1) dg set else []) = [] from if_neg y] at h
            exact absurd h List.not_mem_nil
        · by_cases y : gdF due la (dgU dg a b) a b e = true
          · rw [show (if gdF due la (dgU dg (a, b).1 (a, b).2) (a, b).1 (a, b).2 e = true then ldR el due la k (e + 1) (dgU dg (a, b).1 (a, b).2) (set ||| bitL e) else []) = ldR el due la k (e + 1) (dgU dg a b) (set ||| bitL e) from if_pos y] at h
            have := ih (e + 1) (dgU dg a b) (set ||| bitL e) (by omega) (fun i h1 h2 => by rw [gB_or, hz i (by omega) h2, gB_bitL (by omega), decide_eq_false (by omega)]; rfl) h i (by omega)
            rw [this, gB_or, gB_bitL (by omega), decide_eq_false (by omega), Bool.or_false]
          · rw [show (if gdF due la (dgU dg (a, b).1 (a, b).2) (a, b).1 (a, b).2 e = true then ldR el due la k (e + 1) (dgU dg (a, b).1 (a, b).2) (set ||| bitL e) else []) = [] from if_neg y] at h
            exact absurd h List.not_mem_nil
    have preE : ∀ (c : Bool) (dg : Nat → Nat), S ∈ ldR el due la k (e + 1) dg (if c = true then set ||| bitL e else set) → gB S e = c := by
      intro c dg h
      cases c with
      | false =>
        rw [if_neg (by decide)] at h
        rw [pre k (e + 1) dg set (by omega) (fun i h1 h2 => hz i (by omega) h2) h e (by omega), hz e (Nat.le_refl _) (by omega)]
      | true =>
        rw [if_pos rfl] at h
        rw [pre k (e + 1) dg (set ||| bitL e) (by omega) (fun i h1 h2 => by rw [gB_or, hz i (by omega) h2, gB_bitL (by omega), decide_eq_false (by omega)]; rfl) h e (by omega), gB_or, gB_bitL (by omega), decide_eq_true rfl, Bool.or_true]
    have split : (∀ i, e ≤ i → i < el.length → gdA el due la S i) ↔ (gdF due la (dgS el S (e + 1)) a b e = true ∧ ∀ i, e + 1 ≤ i → i < el.length → gdA el due la S i) := by
      constructor
      · intro h; exact ⟨hgd.mp (h e (Nat.le_refl _) he), fun i h1 h2 => h i (by omega) h2⟩
      · rintro ⟨h1, h2⟩ i h3 h4
        rcases Nat.lt_or_ge e i with z | z
        · exact h2 i z h4
        · rw [show i = e by omega]; exact hgd.mpr h1
    rw [split]
    unfold ldR
    rw [hsv]
    show S ∈ (if gdF due la (dgS el S e) a b e = true then ldR el due la k (e + 1) (dgS el S e) set else []) ++ (if gdF due la (dgU (dgS el S e) a b) a b e = true then ldR el due la k (e + 1) (dgU (dgS el S e) a b) (set ||| bitL e) else []) ↔ _
    rw [List.mem_append]
    cases hc : gB S e with
    | false =>
      have hn := hnext false hc
      rw [if_neg (by decide)] at hn
      have ih := ih0 (fun i hi => by
        rcases Nat.lt_or_ge i e with z | z
        · exact hp i z
        · rw [show i = e by omega, hc, hz e (Nat.le_refl _) (by omega)])
      rw [hn] at ih ⊢
      constructor
      · rintro (h | h)
        · by_cases y : gdF due la (dgS el S e) a b e = true
          · rw [if_pos y] at h
            have := ih.mp h
            exact ⟨this.1, y, this.2⟩
          · rw [if_neg y] at h; exact absurd h List.not_mem_nil
        · exfalso
          by_cases y : gdF due la (dgU (dgS el S e) a b) a b e = true
          · rw [if_pos y] at h
            have := preE true _ (by rw [if_pos rfl]; exact h)
            rw [hc] at this; exact absurd this (by decide)
          · rw [if_neg y] at h; exact absurd h List.not_mem_nil
      · rintro ⟨h1, h2, h3⟩
        left
        rw [if_pos h2]
        exact ih.mpr ⟨h1, h3⟩
    | true =>
      have hn := hnext true hc
      rw [if_pos rfl] at hn
      have ih := ih1 (fun i hi => by
        rw [gB_or, gB_bitL (by omega)]
        rcases Nat.lt_or_ge i e with z | z
        · rw [hp i z, decide_eq_false (by omega), Bool.or_false]
        · rw [show i = e by omega, hc, decide_eq_true rfl, Bool.or_true])
      rw [hn] at ih ⊢
      constructor
      · rintro (h | h)
        · exfalso
          by_cases y : gdF due la (dgS el S e) a b e = true
          · rw [if_pos y] at h
            have := preE false _ (by rw [if_neg (by decide)]; exact h)
            rw [hc] at this; exact absurd this (by decide)
          · rw [if_neg y] at h; exact absurd h List.not_mem_nil
        · by_cases y : gdF due la (dgU (dgS el S e) a b) a b e = true
          · rw [if_pos y] at h
            have := ih.mp h
            exact ⟨this.1, y, this.2⟩
          · rw [if_neg y] at h; exact absurd h List.not_mem_nil
      · rintro ⟨h1, h2, h3⟩
        right
        rw [if_pos h2]
        exact ih.mpr ⟨h1, h3⟩
theorem ldR_nodup {el : List (Nat × Nat)} {due : Nat} {la : Nat → Int32} (hel : el.length ≤ 40) : ∀ (k e : Nat) (dg : Nat → Nat) (set : Int64), e + k = el.length → (∀ i, e ≤ i → i < 64 → gB set i = false) → (ldR el due la k e dg set).Nodup ∧ ∀ S, S ∈ ldR el due la k e dg set → ∀ i, i < e → gB S i = gB set i
  | 0, e, dg, set, _, _ => ⟨List.pairwise_singleton _ _, fun S h i _ => by rw [List.mem_singleton.mp h]⟩
  | k + 1, e, dg, set, hk, hz => by
    have he : e < el.length := by omega
    obtain ⟨⟨a, b⟩, hsv⟩ : ∃ q, el[e]? = some q := ⟨_, List.getElem?_eq_getElem he⟩
    have i0 := ldR_nodup (due := due) (la := la) hel k (e + 1) dg set (by omega) (fun i h1 h2 => hz i (by omega) h2)
    have i1 := ldR_nodup (due := due) (la := la) hel k (e + 1) (dgU dg a b) (set ||| bitL e) (by omega) (fun i h1 h2 => by rw [gB_or, hz i (by omega) h2, gB_bitL (by omega), decide_eq_false (by omega)]; rfl)
    have hA : ∀ S, S ∈ (if gdF due la dg a b e = true then ldR el due la k (e + 1) dg set else []) → S ∈ ldR el due la k (e + 1) dg set := by
      intro S h
      by_cases y : gdF due la dg a b e = true
      · rw [if_pos y] at h; exact h
      · rw [if_neg y] at h; exact absurd h List.not_mem_nil
    have hB : ∀ S, S ∈ (if gdF due la (dgU dg a b) a b e = true then ldR el due la k (e + 1) (dgU dg a b) (set ||| bitL e) else []) → S ∈ ldR el due la k (e + 1) (dgU dg a b) (set ||| bitL e) := by
      intro S h
      by_cases y : gdF due la (dgU dg a b) a b e = true
      · rw [if_pos y] at h; exact h
      · rw [if_neg y] at h; exact absurd h List.not_mem_nil
    have e1 : ldR el due la (k + 1) e dg set = (if gdF due la dg a b e = true then ldR el due la k (e + 1) dg set else []) ++ (if gdF due la (dgU dg a b) a b e = true then ldR el due la k (e + 1) (dgU dg a b) (set ||| bitL e) else []) := by
      conv => lhs; unfold ldR
      rw [hsv]
    rw [e1]
    constructor
    · rw [List.nodup_append]
      refine ⟨?_, ?_, ?_⟩
      · by_cases y : gdF due la dg a b e = true
        · rw [if_pos y]; exact i0.1
        · rw [if_neg y]; exact List.nodup_nil
      · by_cases y : gdF due la (dgU dg a b) a b e = true
        · rw [if_pos y]; exact i1.1
        · rw [if_neg y]; exact List.nodup_nil
      · intro x hx y hy hxy
        have h1 := i0.2 x (hA x hx) e (by omega)
        have h2 := i1.2 y (hB y hy) e (by omega)
        rw [hxy, h2, gB_or, gB_bitL (by omega), decide_eq_true rfl, Bool.or_true, hz e (Nat.le_refl _) (by omega)] at h1
        exact absurd h1 (by decide)
    · intro S h i hi
      rcases List.mem_append.mp h with h | h
      · exact i0.2 S (hA S h) i (by omega)
      · rw [i1.2 S (hB S h) i (by omega), gB_or, gB_bitL (by omega), decide_eq_false (by omega), Bool.or_false]
