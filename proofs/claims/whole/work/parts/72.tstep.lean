/-! TREES: the class's step at a code -/
set_option maxRecDepth 1000000 in
theorem uchk : (List.range 6).all (fun w => (NCL w).all (fun n => (List.range 6).all (fun q => decide (upk (nI n) q = nI (uN n q))))) = true := by decide +kernel
theorem NC_uk {w n q : Nat} (hw5 : w ≤ 5) (hn : n ∈ NCL w) (hq : q < 6) : upk (nI n) q = nI (uN n q) := of_decide_eq_true (List.all_eq_true.mp (List.all_eq_true.mp (List.all_eq_true.mp uchk w (List.mem_range.mpr (by omega))) n hn) q (List.mem_range.mpr hq))
theorem NC_f {w n : Nat} (hw : 0 < w) (hw5 : w ≤ 5) (hn : n ∈ NCL w) : n < 32768 ∧ (∀ j, j < w → uN n j ≤ 5) ∧ ((∀ j, j < w → uN n j = 0) → n = 0) := by
  have h := List.all_eq_true.mp (List.all_eq_true.mp NC_fact w (List.mem_range.mpr (by omega))) n hn
  rw [decide_eq_false (by omega), Bool.false_or, Bool.and_eq_true, Bool.and_eq_true, decide_eq_true_iff] at h
  refine ⟨h.1.1, fun j hj => of_decide_eq_true (List.all_eq_true.mp h.1.2 j (List.mem_range.mpr hj)), fun hz => ?_⟩
  have h2 := h.2
  have : (List.range w).all (fun j => uN n j == 0) = true := List.all_eq_true.mpr (fun j hj => beq_iff_eq.mpr (hz j (List.mem_range.mp hj)))
  rw [this, Bool.not_true, Bool.false_or, beq_iff_eq] at h2
  exact h2
theorem uN_lt (n j : Nat) : uN n j < 8 := Nat.mod_lt _ (by decide)
theorem there_iff {f : Nat → Int32} {x : Int32} : ∀ {w : Nat}, thereF f x w = true ↔ ∃ j, j < w ∧ f j = x
  | 0 => ⟨fun h => Bool.noConfusion h, fun ⟨j, h, _⟩ => absurd h (Nat.not_lt_zero j)⟩
  | w + 1 => by
    show (thereF f x w || decide (f w = x)) = true ↔ _
    rw [Bool.or_eq_true, there_iff, decide_eq_true_iff]
    constructor
    · rintro (⟨j, h1, h2⟩ | h)
      · exact ⟨j, by omega, h2⟩
      · exact ⟨w, Nat.lt_succ_self w, h⟩
    · rintro ⟨j, h1, h2⟩
      by_cases z : j = w
      · right; rw [← z]; exact h2
      · exact Or.inl ⟨j, by omega, h2⟩
theorem nI_uN {a b c d : Nat} : nI (uN a b) = nI (uN c d) ↔ uN a b = uN c d := nI_eq (by have := uN_lt a b; omega) (by have := uN_lt c d; omega)
theorem f2N_lt (n c z : Nat) (pb : Bool) (j : Nat) : f2N n c z pb j < 8 := by
  unfold f2N
  have h1 := uN_lt n c
  have h2 := uN_lt n j
  by_cases a : j = c
  · rw [if_pos a]
    cases pb
    · rw [if_neg (by decide)]; decide
    · rw [if_pos rfl]
      by_cases b : z.testBit 0 = true
      · rw [if_pos b]; exact h1
      · rw [if_neg b]; decide
  · rw [if_neg a]
    by_cases b : z.testBit 1 = true ∧ uN n j = uN n (c + 1)
    · rw [if_pos b]; exact h1
    · rw [if_neg b]; exact h2
theorem uN_g2 {n c z : Nat} {pb : Bool} {q : Nat} (hq : q < 5) : uN (g2N n c z pb) q = f2N n c z pb q := by
  have h0 := f2N_lt n c z pb 0
  have h1 := f2N_lt n c z pb 1
  have h2 := f2N_lt n c z pb 2
  have h3 := f2N_lt n c z pb 3
  have h4 := f2N_lt n c z pb 4
  unfold g2N
  rcases (by omega : q = 0 ∨ q = 1 ∨ q = 2 ∨ q = 3 ∨ q = 4) with y | y | y | y | y <;> subst y <;> simp only [uN, Nat.reducePow] <;> omega
theorem zb : ∀ z, z < 4 → ((nI z &&& 2 = 0) ↔ z.testBit 1 = false) ∧ ((nI z &&& 1 = 0) ↔ z.testBit 0 = false) := by decide
theorem cut_iff {w n c z : Nat} {pb : Bool} : cutN w n c z pb = true ↔ uN n c ≠ 0 ∧ ∀ j, j < w → f2N n c z pb j ≠ uN n c := by
  unfold cutN
  rw [Bool.and_eq_true, bne_iff_ne, List.all_eq_true]
  refine and_congr_right (fun _ => ⟨fun h j hj => bne_iff_ne.mp (h j (List.mem_range.mpr hj)), fun h j hj => bne_iff_ne.mpr (h j (List.mem_range.mp hj))⟩)
theorem caf3_w {w n c z : Nat} {pb last : Bool} {F : Nat → Int32} {own : Int32} (hw5 : w ≤ 5) (hown : own = nI (uN n c)) (hF : ∀ q, q < w → F q = nI (f2N n c z pb q)) : cafT3 w last F own = if cutN w n c z pb = true ∧ last = false then -1 else cdI w (g2N n c z pb) := by
  have hc : codeF F w = cdI w (g2N n c z pb) := by
    unfold cdI
    exact codeF_congr (fun q hq => by rw [hF q hq, uN_g2 (by omega)])
  unfold cafT3
  rw [hc]
  by_cases a : uN n c = 0
  · rw [if_pos (by rw [hown, a]; rfl), if_neg (fun q => (cut_iff.mp q.1).1 a)]
  · rw [if_neg (show ¬own = 0 by rw [hown]; exact fun q => a ((nI_eq (by have := uN_lt n c; omega) (show 0 < 2 ^ 31 by decide)).mp q))]
    by_cases b : ∃ j, j < w ∧ f2N n c z pb j = uN n c
    · have : thereF F own w = true := by
        obtain ⟨j, h1, h2⟩ := b
        exact there_iff.mpr ⟨j, h1, by rw [hF j h1, h2, hown]⟩
      rw [if_pos this, if_neg]
      rintro ⟨q, _⟩
      obtain ⟨j, h1, h2⟩ := b
      exact (cut_iff.mp q).2 j h1 h2
    · have : ¬thereF F own w = true := by
        intro q
        obtain ⟨j, h1, h2⟩ := there_iff.mp q
        rw [hF j h1, hown] at h2
        exact b ⟨j, h1, (nI_eq (by have := f2N_lt n c z pb j; omega) (by have := uN_lt n c; omega)).mp h2⟩
      have hcut : cutN w n c z pb = true := cut_iff.mpr ⟨a, fun j hj q => b ⟨j, hj, q⟩⟩
      rw [if_neg this]
      cases last
      · rw [if_neg (by decide), if_pos ⟨hcut, rfl⟩]
      · rw [if_pos rfl, if_neg (fun q => absurd q.2 (by decide))]
theorem caf2_w {w n c z : Nat} {pb last : Bool} {F : Nat → Int32} (hw5 : w ≤ 5) (hz : z < 4) (hF : ∀ q, q < w → q ≠ c → F q = nI (if z.testBit 1 = true ∧ uN n q = uN n (c + 1) then uN n c else uN n q)) : cafT2 w pb last F (nI (uN n c)) c (nI z) = if cutN w n c z pb = true ∧ last = false then -1 else cdI w (g2N n c z pb) := by
  unfold cafT2
  refine caf3_w hw5 rfl (fun q hq => ?_)
  unfold upd f2N
  by_cases a : q = c
  · rw [if_pos a, if_pos a]
    cases pb
    · rw [if_neg (by decide), if_neg (by decide)]; rfl
    · rw [if_pos rfl, if_pos rfl]
      have := (zb z hz).2
      by_cases b : z.testBit 0 = true
      · rw [if_pos b, if_neg (fun y => by rw [this.mp y] at b; exact absurd b (by decide))]
      · rw [if_neg b, if_pos (this.mpr (by rw [Bool.not_eq_true] at b; exact b))]; rfl
  · rw [if_neg a, if_neg a]; exact hF q hq a
theorem cafT_w {w n c z : Nat} {pb last : Bool} (hw : 0 < w) (hw5 : w ≤ 5) (hn : n ∈ NCL w) (hc : c < w) (hz : z < 4) (h1 : z.testBit 1 = true → c + 1 < w ∧ uN n c ≠ uN n (c + 1)) : cafT w pb last (nI n) c (nI z) = if cutN w n c z pb = true ∧ last = false then -1 else cdI w (g2N n c z pb) := by
  have hk := fun q (hq : q < 6) => NC_uk hw5 hn hq
  unfold cafT
  by_cases a : z.testBit 1 = true
  · rw [if_neg (fun y => by rw [(zb z hz).1.mp y] at a; exact absurd a (by decide))]
    have hj : jrF (upk (nI n)) w c = true := by
      unfold jrF
      rw [if_pos (h1 a).1, hk c (by omega), hk (c + 1) (by omega), if_neg (fun y => (h1 a).2 (nI_uN.mp y))]
    rw [if_pos hj, hk c (by omega)]
    refine caf2_w hw5 hz (fun q hq hqc => ?_)
    unfold relab
    rw [hk q (by omega), hk (c + 1) (by omega)]
    by_cases b : uN n q = uN n (c + 1)
    · rw [if_pos (nI_uN.mpr b), if_pos ⟨a, b⟩]
    · rw [if_neg (fun y => b (nI_uN.mp y)), if_neg (fun y => b y.2)]
  · rw [if_pos ((zb z hz).1.mpr (by rw [Bool.not_eq_true] at a; exact a)), hk c (by omega)]
    refine caf2_w hw5 hz (fun q hq hqc => ?_)
    rw [hk q (by omega), if_neg (fun y => a y.1)]
theorem cafT_d {w n c z : Nat} {pb last : Bool} (hw5 : w ≤ 5) (hn : n ∈ NCL w) (hc : c < w) (hz : z < 4) (h1 : z.testBit 1 = true) (h2 : uN n c = uN n (c + 1)) : cafT w pb last (nI n) c (nI z) = -1 := by
  unfold cafT
  rw [if_neg (fun y => by rw [(zb z hz).1.mp y] at h1; exact absurd h1 (by decide)), if_neg]
  unfold jrF
  rw [NC_uk hw5 hn (by omega), NC_uk hw5 hn (by omega), if_pos (nI_uN.mpr h2)]
  by_cases a : c + 1 < w
  · rw [if_pos a]; decide
  · rw [if_neg a]; decide
theorem k_R0 {w g m : Nat} (h : kchk w g m = true) : cdI w g = nI m ∧ m ∈ NCL w ∧ (∀ i, i < w → (uN m i = 0 ↔ uN g i = 0)) ∧ ∀ i j, i < w → j < w → (uN m i = uN m j ↔ uN g i = uN g j) := by
  unfold kchk at h
  rw [Bool.and_eq_true, Bool.and_eq_true, Bool.and_eq_true] at h
  obtain ⟨⟨⟨h1, h2⟩, h3⟩, h4⟩ := h
  have low : ∀ i j, i < w → j < i → (uN m i = uN m j ↔ uN g i = uN g j) := by
    intro i j hi hj
    have := List.all_eq_true.mp (List.all_eq_true.mp h4 i (List.mem_range.mpr hi)) j (List.mem_range.mpr hj)
    rw [beq_iff_eq, Bool.eq_iff_iff, beq_iff_eq, beq_iff_eq] at this
    exact this
  refine ⟨of_decide_eq_true h1, List.contains_iff_mem.mp h2, fun i hi => ?_, fun i j hi hj => ?_⟩
  · have := List.all_eq_true.mp h3 i (List.mem_range.mpr hi)
    rw [beq_iff_eq, Bool.eq_iff_iff, beq_iff_eq, beq_iff_eq] at this
    exact this
  · rcases (by omega : i < j ∨ i = j ∨ j < i) with y | y | y
    · have := low j i hj y
      exact ⟨fun q => (this.mp q.symm).symm, fun q => (this.mpr q.symm).symm⟩
    · rw [y]; exact ⟨fun _ => rfl, fun _ => rfl⟩
    · exact low i j hi y
theorem k_R {w n c z m : Nat} {pb : Bool} (hw5 : w ≤ 5) (h : kchk w (g2N n c z pb) m = true) : cdI w (g2N n c z pb) = nI m ∧ m ∈ NCL w ∧ (∀ i, i < w → (uN m i = 0 ↔ f2N n c z pb i = 0)) ∧ ∀ i j, i < w → j < w → (uN m i = uN m j ↔ f2N n c z pb i = f2N n c z pb j) := by
  have := k_R0 h
  refine ⟨this.1, this.2.1, fun i hi => ?_, fun i j hi hj => ?_⟩
  · rw [this.2.2.1 i hi, uN_g2 (by omega)]
  · rw [this.2.2.2 i j hi hj, uN_g2 (by omega), uN_g2 (by omega)]
theorem tch_R {w n c z : Nat} {pb : Bool} (hw : 0 < w) (hw5 : w ≤ 5) (hn : n ∈ NCL w) (hc : c < w) (hz : z < 4) (hO : zOK w n c z pb = true) : cdI w (g2N n c z pb) = nI (cnN w (g2N n c z pb)) ∧ cnN w (g2N n c z pb) ∈ NCL w ∧ (∀ i, i < w → (uN (cnN w (g2N n c z pb)) i = 0 ↔ f2N n c z pb i = 0)) ∧ ∀ i j, i < w → j < w → (uN (cnN w (g2N n c z pb)) i = uN (cnN w (g2N n c z pb)) j ↔ f2N n c z pb i = f2N n c z pb j) := by
  have hA : tchA w c = true := by
    rcases (by omega : w = 1 ∨ w = 2 ∨ w = 3 ∨ w = 4 ∨ w = 5) with y | y | y | y | y <;> subst y
    · rw [show c = 0 by omega]; exact tchA10
    · rcases (by omega : c = 0 ∨ c = 1) with x | x <;> subst x
      · exact tchA20
      · exact tchA21
    · rcases (by omega : c = 0 ∨ c = 1 ∨ c = 2) with x | x | x <;> subst x
      · exact tchA30
      · exact tchA31
      · exact tchA32
    · rcases (by omega : c = 0 ∨ c = 1 ∨ c = 2 ∨ c = 3) with x | x | x | x <;> subst x
      · exact tchA40
      · exact tchA41
      · exact tchA42
      · exact tchA43
    · rcases (by omega : c = 0 ∨ c = 1 ∨ c = 2 ∨ c = 3 ∨ c = 4) with x | x | x | x | x <;> subst x
      · exact tchA50
      · exact tchA51
      · exact tchA52
      · exact tchA53
      · exact tchA54
  have h := List.all_eq_true.mp (List.all_eq_true.mp hA n hn) z (List.mem_range.mpr hz)
  rw [Bool.and_eq_true] at h
  have h2 : tchk w n c z pb = true := by cases pb; (exact h.1); (exact h.2)
  unfold tchk at h2
  rw [if_pos hO, force_eq, force_eq] at h2
  exact k_R hw5 h2
