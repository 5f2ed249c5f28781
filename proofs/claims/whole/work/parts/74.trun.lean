/-! TREES: steps and runs -/
theorem lpB_val {pl : Nat → Bool} : ∀ (n : Nat), lpB pl n = -1 ∨ ∃ q, q < n ∧ lpB pl n = nI q
  | 0 => Or.inl rfl
  | n + 1 => by
    show (if pl n = true then nI n else lpB pl n) = -1 ∨ ∃ q, q < n + 1 ∧ (if pl n = true then nI n else lpB pl n) = nI q
    by_cases z : pl n = true
    · rw [if_pos z]; exact Or.inr ⟨n, Nat.lt_succ_self n, rfl⟩
    · rw [if_neg z]
      rcases lpB_val (pl := pl) n with y | ⟨q, h1, h2⟩
      · exact Or.inl y
      · exact Or.inr ⟨q, by omega, h2⟩
theorem last_iff {pl : Nat → Bool} {p : Nat} : ∀ {P : Nat}, P < 2 ^ 31 → p < P → (nI p = lpB pl P ↔ pl p = true ∧ ∀ q, p < q → q < P → pl q = false)
  | 0, _, h => absurd h (Nat.not_lt_zero _)
  | P + 1, h31, h => by
    show nI p = (if pl P = true then nI P else lpB pl P) ↔ _
    by_cases z : pl P = true
    · rw [if_pos z, nI_eq (by omega) (by omega)]
      constructor
      · intro q; rw [q]; exact ⟨z, fun r h1 h2 => by omega⟩
      · rintro ⟨_, h2⟩
        rcases Nat.lt_or_ge p P with y | y
        · have := h2 P y (Nat.lt_succ_self P); rw [z] at this; exact absurd this (by decide)
        · omega
    · rw [if_neg z]
      by_cases y : p = P
      · subst y
        constructor
        · intro q
          rcases lpB_val (pl := pl) p with u | ⟨r, h1, h2⟩
          · rw [u] at q; exact absurd q (nI_n1 (by omega))
          · rw [h2] at q; have := (nI_eq (by omega) (by omega)).mp q; omega
        · rintro ⟨q, _⟩; exact absurd q z
      · rw [last_iff (by omega) (by omega)]
        refine and_congr_right (fun _ => ⟨fun H q h1 h2 => ?_, fun H q h1 h2 => H q h1 (by omega)⟩)
        by_cases u : q = P
        · rw [u]; rw [Bool.not_eq_true] at z; exact z
        · exact H q h1 (by omega)
theorem pX_none {w : Nat} {X : Nat → Bool} {p : Nat} (h : pX w X p = none) : ∀ k, pX w X (p + k) = none
  | 0 => h
  | k + 1 => by
    show ((pX w X (p + k)).bind _).bind _ = none
    rw [pX_none h k]; rfl
theorem mg_sep {pa : Nat → Nat} {a b p0 m : Nat} {pl : Nat → Bool} (h : ∀ x, m ≤ x → pl x = true → pa x ≠ pa p0) (ha : m ≤ a) (hb : m ≤ b) (pa' : pl a = true) (pb' : pl b = true) : ∀ x, m ≤ x → pl x = true → mg pa a b x ≠ mg pa a b p0 := by
  intro x hx hpx
  have h1 := h a ha pa'
  have h2 := h b hb pb'
  have h3 := h x hx hpx
  unfold mg
  rw [if_neg (show ¬pa p0 = pa b from fun z => h2 z.symm)]
  by_cases y : pa x = pa b
  · rw [if_pos y]; exact h1
  · rw [if_neg y]; exact h3
theorem mS_sep {w : Nat} {X : Nat → Bool} {s : Nat} {pa pb : Nat → Nat} {p0 m : Nat} {pl : Nat → Bool} (hw : 0 < w) (h : ∀ x, m ≤ x → pl x = true → pa x ≠ pa p0) (hs : m ≤ s / 2) (hv : X s = true → pl (s / 2) = true ∧ pl (enS w s).2 = true) (he : mSl w X s pa = some pb) : ∀ x, m ≤ x → pl x = true → pb x ≠ pb p0 := by
  unfold mSl at he
  by_cases z : X s = true
  · rw [if_pos z] at he
    by_cases y : pa (s / 2) = pa (enS w s).2
    · rw [if_pos y] at he; exact absurd he (by simp)
    · rw [if_neg y] at he
      have := Option.some.inj he
      subst this
      have hf := far_gt (s := s) hw
      exact mg_sep h hs (by omega) (hv z).1 (hv z).2
  · rw [if_neg z] at he
    have := Option.some.inj he
    subst this; exact h
theorem pX_sep {w : Nat} {X : Nat → Bool} {pa : Nat → Nat} {p0 m : Nat} {pl : Nat → Bool} (hw : 0 < w) (h0 : pX w X m = some pa) (h : ∀ x, m ≤ x → pl x = true → pa x ≠ pa p0) : ∀ (k : Nat) (pb : Nat → Nat), (∀ s, m ≤ s / 2 → s / 2 < m + k → X s = true → pl (s / 2) = true ∧ pl (enS w s).2 = true) → pX w X (m + k) = some pb → ∀ x, m ≤ x → pl x = true → pb x ≠ pb p0
  | 0, pb, _, he => by rw [Nat.add_zero, h0] at he; have := Option.some.inj he; subst this; exact h
  | k + 1, pb, hv, he => by
    have he2 : ((pX w X (m + k)).bind (mSl w X (2 * (m + k) + 1))).bind (mSl w X (2 * (m + k))) = some pb := he
    rw [Option.bind_eq_some_iff] at he2
    obtain ⟨p1, e1, e2⟩ := he2
    rw [Option.bind_eq_some_iff] at e1
    obtain ⟨p2, e3, e4⟩ := e1
    have ih := pX_sep hw h0 h k p2 (fun s h1 h2 => hv s h1 (by omega)) e3
    exact mS_sep hw (mS_sep hw ih (by omega) (hv _ (by omega) (by omega)) e4) (by omega) (hv _ (by omega) (by omega)) e2
/-- the zeros of a step's pieces -/
theorem T_z {w p n : Nat} {pl : Nat → Bool} {z : Nat} (hw : 0 < w) (hw5 : w ≤ 5) (i1 : n ∈ NCL w) (i2 : ∀ j, j < w → (uN n j = 0 ↔ pl (win w p j) = false)) (hz1 : z.testBit 1 = true → p % w + 1 < w ∧ pl p = true ∧ pl (p + 1) = true) (hz0 : z.testBit 0 = true → pl p = true ∧ pl (p + w) = true) : ∀ j, j < w → (f2N n (p % w) z (pl (p + w)) j = 0 ↔ pl (win w (p + 1) j) = false) := by
  intro j hj
  have hc := Nat.mod_lt p hw
  have hcn : pl p = true → uN n (p % w) ≠ 0 := fun q y => by have := (i2 _ hc).mp y; rw [win_c, q] at this; exact absurd this (by decide)
  unfold f2N
  rw [win_s hw hj]
  by_cases a : j = p % w
  · rw [if_pos a, if_pos a]
    cases hb : pl (p + w)
    · rw [if_neg (by decide)]; decide
    · rw [if_pos rfl]
      by_cases y : z.testBit 0 = true
      · rw [if_pos y]; exact ⟨fun q => absurd q (hcn (hz0 y).1), fun q => absurd q (by decide)⟩
      · rw [if_neg y]; decide
  · rw [if_neg a, if_neg a, ← i2 j hj]
    by_cases y : z.testBit 1 = true ∧ uN n j = uN n (p % w + 1)
    · rw [if_pos y]
      have h1 := hz1 y.1
      have h3 : uN n (p % w + 1) ≠ 0 := fun q => by have := (i2 _ h1.1).mp q; rw [win_c1, h1.2.2] at this; exact absurd this (by decide)
      exact ⟨fun q => absurd q (hcn h1.2.1), fun q => by rw [y.2] at q; exact absurd q h3⟩
    · rw [if_neg y]
theorem z_ok {w p n : Nat} {pl : Nat → Bool} {z : Nat} (hw : 0 < w) (i2 : ∀ j, j < w → (uN n j = 0 ↔ pl (win w p j) = false)) (hz1 : z.testBit 1 = true → p % w + 1 < w ∧ pl p = true ∧ pl (p + 1) = true) (hz0 : z.testBit 0 = true → pl p = true ∧ pl (p + w) = true) (hne : z.testBit 1 = true → uN n (p % w) ≠ uN n (p % w + 1)) : zOK w n (p % w) z (pl (p + w)) = true := by
  have hc := Nat.mod_lt p hw
  have hcn : pl p = true → uN n (p % w) ≠ 0 := fun q y => by have := (i2 _ hc).mp y; rw [win_c, q] at this; exact absurd this (by decide)
  unfold zOK
  rw [Bool.and_eq_true, Bool.not_eq_true', Bool.not_eq_true']
  constructor
  · rcases Bool.eq_false_or_eq_true (z.testBit 1) with y | y
    · have h1 := hz1 y
      have h3 : uN n (p % w + 1) ≠ 0 := fun q => by have := (i2 _ h1.1).mp q; rw [win_c1, h1.2.2] at this; exact absurd this (by decide)
      rw [y, Bool.true_and, decide_eq_false (by omega), beq_eq_false_iff_ne.mpr (hcn h1.2.1), beq_eq_false_iff_ne.mpr h3, beq_eq_false_iff_ne.mpr (hne y)]; rfl
    · rw [y, Bool.false_and]
  · rcases Bool.eq_false_or_eq_true (z.testBit 0) with y | y
    · have h1 := hz0 y
      rw [y, Bool.true_and, beq_eq_false_iff_ne.mpr (hcn h1.1), h1.2]; rfl
    · rw [y, Bool.false_and]
theorem win_of {w p x : Nat} (hw : 0 < w) (h1 : p ≤ x) (h2 : x < p + w) : win w p (x % w) = x := by
  have a1 := Nat.mod_le p w
  have a2 := Nat.mod_lt p hw
  have a3 := Nat.div_add_mod p w
  have e1 : x = w * (p / w) + (p % w + (x - p)) := by omega
  unfold win
  by_cases z : p % w + (x - p) < w
  · have e2 : x % w = p % w + (x - p) := by rw [e1, Nat.mul_add_mod, Nat.mod_eq_of_lt (by omega)]; omega
    rw [e2, if_pos (by omega)]; omega
  · have e3 : x = w * (p / w + 1) + (p % w + (x - p) - w) := by rw [Nat.mul_succ]; omega
    have e2 : x % w = p % w + (x - p) - w := by rw [e3, Nat.mul_add_mod, Nat.mod_eq_of_lt (by omega)]; omega
    rw [e2, if_neg (by omega)]; omega
theorem stepT {w P p n : Nat} {pl X : Nat → Bool} {pa : Nat → Nat} {last : Bool} (hw : 0 < w) (hw5 : w ≤ 5) (hP : P < 2 ^ 31) (hp : p < P) (hplP : ∀ q, P ≤ q → pl q = false) (hlast : last = true ↔ pl p = true ∧ ∀ q, p < q → q < P → pl q = false) (hX : pX w X p = some pa) (hI : TI w pl p n pa) (hz1 : X (2 * p + 1) = true → p % w + 1 < w ∧ pl p = true ∧ pl (p + 1) = true) (hz0 : X (2 * p) = true → pl p = true ∧ pl (p + w) = true) :
    (cafT w (pl (p + w)) last (nI n) (p % w) (nI (b2 (X (2 * p)) (X (2 * p + 1)))) = -1 ∧ ((∀ s, p < s / 2 → s / 2 < P → X s = true → pl (s / 2) = true ∧ pl (enS w s).2 = true) → GoodT w P pl X → False)) ∨
    (∃ m qa, cafT w (pl (p + w)) last (nI n) (p % w) (nI (b2 (X (2 * p)) (X (2 * p + 1)))) = nI m ∧ pX w X (p + 1) = some qa ∧ TI w pl (p + 1) m qa) := by
  have hc := Nat.mod_lt p hw
  have hz := b2_lt (X (2 * p)) (X (2 * p + 1))
  obtain ⟨i1, i2, i3, i4, i5⟩ := hI
  have hr : X (2 * p + 1) = true → p + 1 < p + w := fun q => by have := (hz1 q).1; omega
  have hstep := pX_step hw hX hr i5
  have t1 : ∀ h : (b2 (X (2 * p)) (X (2 * p + 1))).testBit 1 = true, X (2 * p + 1) = true := fun h => by rw [b2_t1] at h; exact h
  have hz1' : (b2 (X (2 * p)) (X (2 * p + 1))).testBit 1 = true → p % w + 1 < w ∧ pl p = true ∧ pl (p + 1) = true := fun h => hz1 (t1 h)
  have hz0' : (b2 (X (2 * p)) (X (2 * p + 1))).testBit 0 = true → pl p = true ∧ pl (p + w) = true := fun h => hz0 (by rw [b2_t0] at h; exact h)
  have hNC := NC_f hw hw5 i1
  by_cases hA : X (2 * p + 1) = true ∧ uN n (p % w) = uN n (p % w + 1)
  · left
    refine ⟨cafT_d hw5 i1 hc hz (by rw [b2_t1]; exact hA.1) hA.2, fun _ hG => ?_⟩
    have h1 := hz1 hA.1
    have heq : pa p = pa (p + 1) := by
      have := (i3 (p % w) (p % w + 1) hc h1.1 (by rw [win_c]; exact h1.2.1) (by rw [win_c1]; exact h1.2.2)).mp hA.2
      rw [win_c, win_c1] at this; exact this
    rw [if_pos ⟨hA.1, heq⟩] at hstep
    obtain ⟨qa, hq, _⟩ := hG
    have := pX_none hstep (P - (p + 1))
    rw [show p + 1 + (P - (p + 1)) = P by omega, hq] at this
    exact absurd this (by simp)
  · have hne : X (2 * p + 1) = true → uN n (p % w) ≠ uN n (p % w + 1) := fun q y => hA ⟨q, y⟩
    have hpne : ¬(X (2 * p + 1) = true ∧ pa p = pa (p + 1)) := fun q => by
      have h1 := hz1 q.1
      have := (i3 (p % w) (p % w + 1) hc h1.1 (by rw [win_c]; exact h1.2.1) (by rw [win_c1]; exact h1.2.2)).mpr (by rw [win_c, win_c1]; exact q.2)
      exact hA ⟨q.1, this⟩
    rw [if_neg hpne] at hstep
    have hcaf := cafT_w (pb := pl (p + w)) (last := last) hw hw5 i1 hc hz (fun q => ⟨(hz1' q).1, hne (t1 q)⟩)
    have hOK := z_ok hw i2 hz1' hz0' (fun q => hne (t1 q))
    have hR := tch_R hw hw5 i1 hc hz hOK
    have hE := T_eq hw hw5 ⟨i1, i2, i3, i4, i5⟩ hz1' hz0'
    rw [b2_t0, b2_t1] at hE
    have hpa := fun x => pa2_at (r := X (2 * p + 1)) (b := X (2 * p)) hw hr i5 x
    generalize hpa2 : pa2 pa w p (X (2 * p + 1)) (X (2 * p)) = qa at hstep hE hpa
    have hqp : qa p = pa p := by rw [hpa, if_neg (by omega), pa1_p]
    have hq1 : ∀ x y, x ≠ p + w → y ≠ p + w → pa x = pa y → qa x = qa y := fun x y h1 h2 h3 => by rw [hpa, hpa, if_neg h1, if_neg h2, pa1_at, pa1_at, h3]
    have hfr : ∀ q, p + 1 + w ≤ q → qa q = q ∧ ∀ x, x ≠ q → qa x ≠ q := by
      intro q hq
      have h1 := pa1_fr (r := X (2 * p + 1)) (q := q) hw (by omega) hr (i5 q (by omega))
      constructor
      · rw [hpa, if_neg (by omega)]; exact h1.1
      · intro x hx
        rw [hpa]
        by_cases y : x = p + w
        · rw [if_pos y]
          by_cases u : X (2 * p) = true
          · rw [if_pos u]; exact (i5 q (by omega)).2 p (by omega)
          · rw [if_neg u]; omega
        · rw [if_neg y]; exact h1.2 x hx
    by_cases hcut : cutN w n (p % w) (b2 (X (2 * p)) (X (2 * p + 1))) (pl (p + w)) = true ∧ last = false
    · left
      rw [if_pos hcut] at hcaf
      refine ⟨hcaf, fun hv hG => ?_⟩
      have hcu := cut_iff.mp hcut.1
      have hpp : pl p = true := by
        rcases Bool.eq_false_or_eq_true (pl p) with y | y
        · exact y
        · exact absurd ((i2 _ hc).mpr (by rw [win_c]; exact y)) hcu.1
      have hL : ∃ L, p < L ∧ L < P ∧ pl L = true := by
        rcases Classical.em (∃ L, p < L ∧ L < P ∧ pl L = true) with y | y
        · exact y
        · exfalso
          have : last = true := hlast.mpr ⟨hpp, fun q h1 h2 => by
            rcases Bool.eq_false_or_eq_true (pl q) with u | u
            · exact absurd ⟨q, h1, h2, u⟩ y
            · exact u⟩
          rw [this] at hcut; exact absurd hcut.2 (by decide)
      obtain ⟨L, l1, l2, l3⟩ := hL
      have hsep : ∀ x, p + 1 ≤ x → pl x = true → qa x ≠ qa p := by
        intro x hx hpx
        by_cases y : x < p + 1 + w
        · have hj : x % w < w := Nat.mod_lt x hw
          have hwx : win w (p + 1) (x % w) = x := win_of hw hx y
          have h1 := hE.2.1 (x % w) hj (by rw [hwx]; exact hpx) hpp
          rw [hwx] at h1
          rw [hqp]
          exact fun q => hcu.2 _ hj (h1.mpr q)
        · have h1 := hfr x (by omega)
          rw [h1.1]; exact fun q => h1.2 p (by omega) q.symm
      obtain ⟨fa, f1, f2⟩ := hG
      have := pX_sep (pl := pl) hw hstep hsep (P - (p + 1)) fa (fun s h1 h2 => hv s (by omega) (by omega)) (by rw [show p + 1 + (P - (p + 1)) = P by omega]; exact f1) L (by omega) l3
      exact this (f2 L p l3 hpp)
    · right
      rw [if_neg hcut, hR.1] at hcaf
      refine ⟨_, qa, hcaf, hstep, hR.2.1, fun j hj => ?_, fun i j hi hj hpi hpj => ?_, ?_, hfr⟩
      · rw [hR.2.2.1 j hj]; exact hE.1 j hj
      · rw [hR.2.2.2 i j hi hj]; exact hE.2.2 i j hi hj hpi hpj
      · have hwin : ∀ j, j < w → j ≠ p % w → win w (p + 1) j = win w p j := fun j h1 h2 => by rw [win_s hw h1, if_neg h2]
        rcases Bool.eq_false_or_eq_true (pl p) with hpp | hpp
        · have h3 : ∀ q, q < p → pl q = true → ∃ j, j < w ∧ pl (win w p j) = true ∧ pa q = pa (win w p j) := by
            rcases i4 with y | y
            · exact y
            · have := y.1 p (Nat.le_refl _); rw [hpp] at this; exact absurd this (by decide)
          have hun : uN n (p % w) ≠ 0 := fun y => by have := (i2 _ hc).mp y; rw [win_c, hpp] at this; exact absurd this (by decide)
          by_cases hcu : cutN w n (p % w) (b2 (X (2 * p)) (X (2 * p + 1))) (pl (p + w)) = true
          · right
            have hl : last = true := by
              rcases Bool.eq_false_or_eq_true last with y | y
              · exact y
              · exact absurd ⟨hcu, y⟩ hcut
            have hno : ∀ q, p + 1 ≤ q → pl q = false := fun q hq => by
              rcases Nat.lt_or_ge q P with y | y
              · exact (hlast.mp hl).2 q (by omega) y
              · exact hplP q y
            refine ⟨hno, ?_⟩
            have one : ∀ q, pl q = true → qa q = pa p := by
              intro q hq
              have hqle : q ≤ p := by
                rcases Nat.lt_or_ge p q with y | y
                · rw [hno q y] at hq; exact absurd hq (by decide)
                · exact y
              by_cases y : q = p
              · rw [y]; exact hqp
              · obtain ⟨j, j1, j2, j3⟩ := h3 q (by omega) hq
                have hb := win_b (p := p) hw j1
                have hjp : win w p j = p := by
                  rcases Nat.lt_or_ge p (win w p j) with u | u
                  · rw [hno _ u] at j2; exact absurd j2 (by decide)
                  · omega
                rw [hjp] at j3
                rw [← hqp]
                exact hq1 q p (by omega) (by omega) j3
            intro q q' h1 h2
            rw [one q h1, one q' h2]
          · left
            have hex : ∃ j, j < w ∧ f2N n (p % w) (b2 (X (2 * p)) (X (2 * p + 1))) (pl (p + w)) j = uN n (p % w) := by
              rcases Classical.em (∃ j, j < w ∧ f2N n (p % w) (b2 (X (2 * p)) (X (2 * p + 1))) (pl (p + w)) j = uN n (p % w)) with y | y
              · exact y
              · exact absurd (cut_iff.mpr ⟨hun, fun j hj q => y ⟨j, hj, q⟩⟩) hcu
            obtain ⟨j0, j1, j2⟩ := hex
            have j3 : pl (win w (p + 1) j0) = true := by
              rcases Bool.eq_false_or_eq_true (pl (win w (p + 1) j0)) with y | y
              · exact y
              · have := (hE.1 j0 j1).mpr y; rw [j2] at this; exact absurd this hun
            have j4 := (hE.2.1 j0 j1 j3 hpp).mp j2
            intro q hq hpq
            by_cases y : q = p
            · exact ⟨j0, j1, j3, by rw [y, hqp, j4]⟩
            · obtain ⟨i, k1, k2, k3⟩ := h3 q (by omega) hpq
              by_cases u : i = p % w
              · rw [u, win_c] at k3
                refine ⟨j0, j1, j3, ?_⟩
                rw [j4, ← hqp]
                exact hq1 q p (by omega) (by omega) k3
              · refine ⟨i, k1, by rw [hwin i k1 u]; exact k2, ?_⟩
                rw [hwin i k1 u]
                have hb := win_b (p := p) hw k1
                exact hq1 q _ (by omega) (by omega) k3
        · have hX1 : X (2 * p + 1) = false := by
            rcases Bool.eq_false_or_eq_true (X (2 * p + 1)) with y | y
            · have := (hz1 y).2.1; rw [hpp] at this; exact absurd this (by decide)
            · exact y
          have hX0 : X (2 * p) = false := by
            rcases Bool.eq_false_or_eq_true (X (2 * p)) with y | y
            · have := (hz0 y).1; rw [hpp] at this; exact absurd this (by decide)
            · exact y
          have hsame : qa = pa := by rw [← hpa2, hX1, hX0]; rfl
          rw [hsame]
          rcases i4 with y | y
          · left
            intro q hq hpq
            have hqp' : q ≠ p := fun u => by rw [u, hpp] at hpq; exact absurd hpq (by decide)
            obtain ⟨i, k1, k2, k3⟩ := y q (by omega) hpq
            have u : i ≠ p % w := fun v => by rw [v, win_c, hpp] at k2; exact absurd k2 (by decide)
            exact ⟨i, k1, by rw [hwin i k1 u]; exact k2, by rw [hwin i k1 u]; exact k3⟩
          · right
            exact ⟨fun q hq => y.1 q (by omega), y.2⟩
