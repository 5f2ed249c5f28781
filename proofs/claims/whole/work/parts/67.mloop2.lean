/-! LINES: hands shaken, and the loops by their first place -/
theorem sumN_swap {g : Nat → Nat → Nat} {n : Nat} : ∀ {m : Nat}, sumN (fun v => sumN (fun i => g i v) m) n = sumN (fun i => sumN (fun v => g i v) n) m
  | 0 => sumN_zero (fun _ _ => rfl)
  | m + 1 => by
    show sumN (fun v => sumN (fun i => g i v) m + g m v) n = sumN (fun i => sumN (fun v => g i v) n) m + sumN (fun v => g m v) n
    rw [sumN_add, sumN_swap]
theorem sumN_even {f : Nat → Nat} : ∀ {n : Nat}, (∀ i, i < n → f i % 2 = 0) → sumN f n % 2 = 0
  | 0, _ => rfl
  | n + 1, h => by
    have h1 := sumN_even (f := f) (n := n) (fun i hi => h i (by omega))
    have h2 := h n (Nat.lt_succ_self n)
    show (sumN f n + f n) % 2 = 0
    omega
theorem sumN_par {f : Nat → Nat} {k : Nat} : ∀ {n : Nat}, k < n → (∀ i, i < n → i ≠ k → f i % 2 = 0) → sumN f n % 2 = f k % 2
  | n + 1, hk, h => by
    show (sumN f n + f n) % 2 = f k % 2
    by_cases z : k = n
    · have := sumN_even (f := f) (n := n) (fun i hi => h i (by omega) (by omega))
      rw [z]; omega
    · have := sumN_par (f := f) (k := k) (n := n) (by omega) (fun i hi hne => h i (by omega) hne)
      have := h n (by omega) (by omega)
      omega
theorem sumN_if {f : Nat → Nat} {m : Nat} {c : Bool} : (if c = true then sumN f m else 0) = sumN (fun i => if c = true then f i else 0) m := by
  cases c
  · rw [if_neg (by decide)]
    exact (sumN_zero (fun i _ => if_neg (by decide))).symm
  · rw [if_pos rfl]
    exact sumN_congr (fun i _ => (if_pos rfl).symm)
theorem shake {el : List (Nat × Nat)} (hE : El25 el) {Y U : Nat → Bool} (hU : CY el Y U) : sumN (fun v => if U v = true then dY el Y v else 0) 25 % 2 = 0 := by
  have e1 : sumN (fun v => if U v = true then dY el Y v else 0) 25 = sumN (fun v => sumN (fun i => if U v = true then (if Y i = true then tch el i v else 0) else 0) el.length) 25 := sumN_congr (fun v _ => by unfold dY; exact sumN_if)
  rw [e1, sumN_swap]
  refine sumN_even (fun i hi => ?_)
  by_cases z : Y i = true
  · obtain ⟨a, b, hJ⟩ := Jn_get hi
    have ha := hE.2.2 i a b hJ
    have hb := hE.2.2 i b a (Jn_s hJ)
    have hab := hU i a b z hJ
    rcases Bool.eq_false_or_eq_true (U a) with y | y
    · have e2 : sumN (fun v => if U v = true then (if Y i = true then tch el i v else 0) else 0) 25 = sumN (fun v => (if a = v then 1 else 0) + (if b = v then 1 else 0)) 25 := sumN_congr (fun v _ => by
        rw [if_pos z, Jn_tch hJ v]
        by_cases x : U v = true
        · rw [if_pos x]
        · rw [if_neg x, if_neg (fun q => x (by rw [← q]; exact y)), if_neg (fun q => x (by rw [← q, ← hab]; exact y))])
      rw [e2, sumN_add, sumN_one (k := a) ha (fun v _ hne => if_neg (fun q => hne q.symm)), sumN_one (k := b) hb (fun v _ hne => if_neg (fun q => hne q.symm)), if_pos rfl, if_pos rfl]
    · have e2 : sumN (fun v => if U v = true then (if Y i = true then tch el i v else 0) else 0) 25 = 0 := sumN_zero (fun v _ => by
        by_cases x : U v = true
        · rw [if_pos x, if_pos z, Jn_tch hJ v, if_neg (fun q => by rw [q, x] at y; exact absurd y (by decide)), if_neg (fun q => by rw [hab, q, x] at y; exact absurd y (by decide))]
        · rw [if_neg x])
      rw [e2]
  · have e2 : sumN (fun v => if U v = true then (if Y i = true then tch el i v else 0) else 0) 25 = 0 := sumN_zero (fun v _ => by
      rw [if_neg z]
      by_cases x : U v = true
      · rw [if_pos x]
      · rw [if_neg x])
    rw [e2]
/-- two odd places have one colour -/
theorem odd_two {el : List (Nat × Nat)} (hE : El25 el) {Y U : Nat → Bool} (hU : CY el Y U) {a t : Nat} (ha : a < 25) (h1 : dY el Y a = 1) (h3 : ∀ v, v ≠ a → v ≠ t → dY el Y v = 0 ∨ dY el Y v = 2) (hUa : U a = true) : U t = true := by
  rcases Bool.eq_false_or_eq_true (U t) with y | y
  · exact y
  · exfalso
    have := sumN_par (f := fun v => if U v = true then dY el Y v else 0) (k := a) (n := 25) ha (fun v _ hne => by
      by_cases z : U v = true
      · rw [if_pos z]
        have : v ≠ t := fun q => by rw [q, y] at z; exact absurd z (by decide)
        rcases h3 v hne this with x | x <;> rw [x]
      · rw [if_neg z])
    rw [shake hE hU, if_pos hUa, h1] at this
    exact absurd this (by decide)
theorem odd_two' {el : List (Nat × Nat)} (hE : El25 el) {Y U : Nat → Bool} (hU : CY el Y U) {a t : Nat} (ha : a < 25) (h1 : dY el Y a = 1) (h3 : ∀ v, v ≠ a → v ≠ t → dY el Y v = 0 ∨ dY el Y v = 2) : U a = U t := by
  rcases Bool.eq_false_or_eq_true (U a) with y | y
  · rw [y, odd_two hE hU ha h1 h3 y]
  · have := odd_two hE (U := fun v => !U v) (fun i p q g1 g2 => by dsimp only; rw [hU i p q g1 g2]) ha h1 h3 (by rw [y]; rfl)
    rw [y]
    rcases Bool.eq_false_or_eq_true (U t) with x | x
    · rw [x] at this; exact absurd this (by decide)
    · exact x.symm
/-- one loop whose first place is p0 -/
def Lo (el : List (Nat × Nat)) (Y : Nat → Bool) (p0 : Nat) : Prop := (∀ v, dY el Y v = 0 ∨ dY el Y v = 2) ∧ dY el Y p0 = 2 ∧ (∀ v, v < p0 → dY el Y v = 0) ∧ ∀ U, CY el Y U → ∀ v, 0 < dY el Y v → U v = U p0
def ElD (el : List (Nat × Nat)) : Prop := ∀ i j a b, Jn el i a b → Jn el j a b → i = j
def LoE (el : List (Nat × Nat)) (Y : Nat → Bool) (p0 e a : Nat) : Prop := Jn el e p0 a ∧ p0 ≤ a ∧ Y e = true ∧ Gp el (rmE Y e) a p0 [p0, a] ∧ (∀ v, v < p0 → dY el (rmE Y e) v = 0) ∧ ∀ i b, rmE Y e i = true → Jn el i b p0 → a < b
theorem Lo_of {el : List (Nat × Nat)} (hE : El25 el) {Y : Nat → Bool} {p0 e a e' a' : Nat} (h : Lo el Y p0) (hY : Y e = true) (hJ : Jn el e p0 a) (hY' : rmE Y e e' = true) (hJ' : Jn el e' p0 a') (hlt : a < a') : LoE el Y p0 e a := by
  obtain ⟨h1, h2, h3, h4⟩ := h
  have hne := Jn_ne hE.1 hJ
  have hr := dY_rm hY hJ
  have r0 : dY el (rmE Y e) p0 = 1 := by
    have := hr p0
    rw [if_pos rfl, if_neg (fun z => hne z.symm)] at this
    omega
  have ra : dY el (rmE Y e) a = 1 := by
    have := hr a
    rw [if_neg hne, if_pos rfl] at this
    have := h1 a
    omega
  have ro : ∀ v, v ≠ a → v ≠ p0 → dY el (rmE Y e) v = dY el Y v := by
    intro v g1 g2
    have := hr v
    rw [if_neg (fun z => g2 z.symm), if_neg (fun z => g1 z.symm)] at this
    omega
  have hro : ∀ v, v ≠ a → v ≠ p0 → dY el (rmE Y e) v = 0 ∨ dY el (rmE Y e) v = 2 := fun v g1 g2 => by rw [ro v g1 g2]; exact h1 v
  have ha0 : p0 ≤ a := by
    rcases Nat.lt_or_ge a p0 with y | y
    · have := h3 a y
      have := dY_pos.mpr ⟨e, p0, hY, Jn_s hJ⟩
      omega
    · exact y
  refine ⟨hJ, ha0, hY, ⟨fun z => hne z.symm, ra, r0, hro, fun v hv g1 g2 => ?_, fun U hU v hv => ?_⟩, fun v hv => ?_, fun i b hi hib => ?_⟩
  · rcases List.mem_cons.mp hv with y | y
    · exact absurd y g2
    · exact absurd (List.mem_singleton.mp y) g1
  · have hap := odd_two' hE hU (hE.2.2 e a p0 (Jn_s hJ)) ra hro
    rw [hap]
    refine h4 U (fun i p q g1 g2 => ?_) v (by have := hr v; omega)
    by_cases z : i = e
    · subst z
      rcases Jn_two hJ g2 with ⟨y1, y2⟩ | ⟨y1, y2⟩
      · rw [y1, y2]; exact hap.symm
      · rw [y1, y2]; exact hap
    · exact hU i p q (rm_in g1 z) g2
  · have := hr v
    have := h3 v hv
    omega
  · have := G_one r0 hi (Jn_s hib) hY' hJ'
    subst this
    rw [Jn_det (Jn_s hib) hJ']; exact hlt
theorem Lo_iff {el : List (Nat × Nat)} (hE : El25 el) (hD : ElD el) {Y : Nat → Bool} {p0 : Nat} : Lo el Y p0 ↔ ∃ e a, LoE el Y p0 e a := by
  constructor
  · intro h
    obtain ⟨e, a, hY, hJ⟩ := dY_pos.mp (show 0 < dY el Y p0 by rw [h.2.1]; decide)
    have hne := Jn_ne hE.1 hJ
    have r0 : 0 < dY el (rmE Y e) p0 := by
      have := dY_rm hY hJ p0
      rw [if_pos rfl, if_neg (fun z => hne z.symm), h.2.1] at this
      omega
    obtain ⟨e', a', hY', hJ'⟩ := dY_pos.mp r0
    have hs := rm_sub hY'
    have haa : a ≠ a' := fun z => hs.2 (hD e' e p0 a (by rw [z]; exact hJ') hJ)
    rcases Nat.lt_or_ge a a' with y | y
    · exact ⟨e, a, Lo_of hE h hY hJ hY' hJ' y⟩
    · exact ⟨e', a', Lo_of hE h hs.1 hJ' (rm_in hY (fun z => hs.2 z.symm)) hJ (by omega)⟩
  · rintro ⟨e, a, hJ, ha0, hY, ⟨g1, g2, g3, g4, _, g6⟩, h5, _⟩
    have hne := Jn_ne hE.1 hJ
    have hr := dY_rm hY hJ
    refine ⟨fun v => ?_, ?_, fun v hv => ?_, fun U hU v hv => ?_⟩
    · rw [hr v]
      by_cases y : v = a
      · rw [y, g2, if_neg hne, if_pos rfl]; exact Or.inr rfl
      · by_cases x : v = p0
        · rw [x, g3, if_pos rfl, if_neg (fun z => hne z.symm)]; exact Or.inr rfl
        · rw [if_neg (fun z => x z.symm), if_neg (fun z => y z.symm)]; exact g4 v y x
    · rw [hr p0, g3, if_pos rfl, if_neg (fun z => hne z.symm)]
    · rw [hr v, h5 v hv, if_neg (by omega), if_neg (by omega)]
    · have hpa : U p0 = U a := hU e p0 a hY hJ
      rw [hpa]
      by_cases y : v = a
      · rw [y]
      · by_cases x : v = p0
        · rw [x, hpa]
        · refine g6 U (fun i p q z1 z2 => hU i p q (rm_sub z1).1 z2) v ?_
          have := hr v
          rw [if_neg (fun z => x z.symm), if_neg (fun z => y z.symm)] at this
          omega
theorem LSt_1 {el : List (Nat × Nat)} (hE : El25 el) {p0 a e : Nat} (hJ : Jn el e p0 a) (ha : p0 ≤ a) : LSt el p0 a [p0, a] a (0 ||| bitL e) := by
  have hne := Jn_ne hE.1 hJ
  have he := Jn_lt hJ
  have h40 := hE.2.1
  have hp25 := hE.2.2 e p0 a hJ
  have hW0 : WSt el [p0] p0 0 := ⟨List.pairwise_singleton _ _, fun v hv => by rw [List.mem_singleton.mp hv]; exact hp25, List.mem_singleton.mpr rfl, fun i hi => by rw [gB_0] at hi; exact absurd hi (by decide), fun i _ _ hi => by rw [gB_0] at hi; exact absurd hi (by decide)⟩
  refine ⟨WSt_s hE hW0 hJ (fun z => hne (List.mem_singleton.mp z).symm), List.mem_cons_self, fun z => hne z.symm, rfl, fun _ => rfl, fun v hv => ?_, fun i b hi hib => ?_⟩
  · rcases List.mem_cons.mp hv with y | y
    · omega
    · rw [List.mem_singleton.mp y]; exact ha
  · rw [gB_add (by omega), gB_0, Bool.false_or, decide_eq_true_iff] at hi
    subst hi
    rcases Jn_two hJ hib with ⟨_, z⟩ | ⟨z, _⟩
    · exact absurd z hne
    · exact z
theorem dif_0 (S : Int64) : dif S 0 = gB S := by
  funext i
  unfold dif
  rw [gB_0, Bool.not_false, Bool.and_true]
theorem lp_1 {el : List (Nat × Nat)} (hE : El25 el) {p0 e : Nat} {sc : Int32} {S : Int64} : S ∈ dOne el p0 p0 true (fun vs q s => dW el p0 p0 true sc 25 vs q s 0) [p0] p0 0 e ↔ hiS el S ∧ ∃ a, LoE el (gB S) p0 e a := by
  have h40 := hE.2.1
  rw [mem_dOne hE.1]
  constructor
  · rintro ⟨q, hJ, hq0, h⟩
    have he := Jn_lt hJ
    have hne := Jn_ne hE.1 hJ
    rcases h with h | ⟨hq, h⟩
    · unfold dAdd at h
      rw [if_neg (by simp)] at h
      exact absurd h List.not_mem_nil
    · have := (mem_loop hE (sc := sc) 25 [p0, q] q (0 ||| bitL e) S (Nat.le_refl 27) (LSt_1 hE hJ hq0)).mp h
      rw [dif_rm (by omega), dif_0, sub_add (by omega)] at this
      exact ⟨this.2.1, q, hJ, hq0, this.1.2, this.2.2.1, this.2.2.2.1, this.2.2.2.2⟩
  · rintro ⟨hh, a, hJ, ha0, h1, h2, h3, h4⟩
    have he := Jn_lt hJ
    have hne := Jn_ne hE.1 hJ
    refine ⟨a, hJ, ha0, Or.inr ⟨fun z => hne (List.mem_singleton.mp z).symm, (mem_loop hE (sc := sc) 25 [p0, a] a (0 ||| bitL e) S (Nat.le_refl 27) (LSt_1 hE hJ ha0)).mpr ?_⟩⟩
    rw [dif_rm (by omega), dif_0, sub_add (by omega)]
    exact ⟨⟨fun i hi => by rw [gB_0] at hi; exact absurd hi (by decide), h1⟩, hh, h2, h3, h4⟩
theorem mem_lp {el : List (Nat × Nat)} (hE : El25 el) (hD : ElD el) {p0 : Nat} {sc : Int32} {S : Int64} : S ∈ lpAll el sc p0 ↔ hiS el S ∧ Lo el (gB S) p0 := by
  unfold lpAll
  rw [dW_mem (dTgt_t sc p0), Lo_iff hE hD]
  constructor
  · rintro ⟨e, h⟩
    have := (lp_1 hE).mp h
    exact ⟨this.1, e, this.2⟩
  · rintro ⟨h1, e, h2⟩
    exact ⟨e, (lp_1 hE).mpr ⟨h1, h2⟩⟩
theorem lp_nd {el : List (Nat × Nat)} (hE : El25 el) {p0 : Nat} {sc : Int32} : (lpAll el sc p0).Nodup := by
  unfold lpAll
  refine dW_nd hE.1 (dTgt_t sc p0) (List.mem_singleton.mpr rfl) (fun e q hJ hq y => loop_nd hE 25 [p0, q] q _ (Nat.le_refl 27) (LSt_1 hE hJ y)) (fun e e' S h1 h2 => ?_)
  obtain ⟨_, a, g1, g2, g3, g4, g5, g6⟩ := (lp_1 hE).mp h1
  obtain ⟨_, a', k1, k2, k3, k4, k5, k6⟩ := (lp_1 hE).mp h2
  rcases Classical.em (e = e') with y | y
  · exact y
  · exfalso
    have x1 := g6 e' a' (rm_in k3 (fun z => y z.symm)) (Jn_s k1)
    have x2 := k6 e a (rm_in g3 y) (Jn_s g1)
    omega
/-- all loops -/
theorem mem_fmN {g : Nat → List Int64} {S : Int64} : ∀ {n : Nat}, S ∈ fmN g n ↔ ∃ p, p < n ∧ S ∈ g p
  | 0 => ⟨fun h => absurd h List.not_mem_nil, fun ⟨p, h, _⟩ => absurd h (Nat.not_lt_zero p)⟩
  | n + 1 => by
    show S ∈ fmN g n ++ g n ↔ _
    rw [List.mem_append, mem_fmN]
    constructor
    · rintro (⟨p, h1, h2⟩ | h)
      · exact ⟨p, by omega, h2⟩
      · exact ⟨n, Nat.lt_succ_self n, h⟩
    · rintro ⟨p, h1, h2⟩
      by_cases z : p = n
      · right; rw [← z]; exact h2
      · exact Or.inl ⟨p, by omega, h2⟩
theorem fmN_nd {g : Nat → List Int64} (h1 : ∀ p, (g p).Nodup) (h2 : ∀ p q S, S ∈ g p → S ∈ g q → p = q) : ∀ n, (fmN g n).Nodup
  | 0 => List.Pairwise.nil
  | n + 1 => by
    show (fmN g n ++ g n).Nodup
    rw [List.nodup_append]
    refine ⟨fmN_nd h1 h2 n, h1 n, fun a ha b hb z => ?_⟩
    subst z
    obtain ⟨p, q1, q2⟩ := mem_fmN.mp ha
    have := h2 p n a q2 hb
    omega
theorem Lo_uniq {el : List (Nat × Nat)} {Y : Nat → Bool} {p q : Nat} (h1 : Lo el Y p) (h2 : Lo el Y q) : p = q := by
  have a := h1.2.2.1 q
  have b := h2.2.2.1 p
  have c := h1.2.1
  have d := h2.2.1
  omega
