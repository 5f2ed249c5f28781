/-! LINES: the reference's walks from one end to the other -/
def dif (S set : Int64) (i : Nat) : Bool := gB S i && !gB set i
theorem gB_hi {x : Int64} {i : Nat} (h : 64 ≤ i) : gB x i = false := by
  unfold gB
  exact BitVec.getLsbD_of_ge _ _ h
theorem gB_lt {x : Int64} {i : Nat} (h : gB x i = true) : i < 64 := by
  rcases Nat.lt_or_ge i 64 with y | y
  · exact y
  · rw [gB_hi y] at h; exact absurd h (by decide)
theorem gB_add {set : Int64} {e i : Nat} (he : e < 64) : gB (set ||| bitL e) i = (gB set i || decide (i = e)) := by
  rw [gB_or, gB_bitL he]
theorem dif_rm {S set : Int64} {e : Nat} (he : e < 64) : dif S (set ||| bitL e) = rmE (dif S set) e := by
  funext i
  unfold dif rmE
  rw [gB_add he, Bool.not_or, Bool.and_assoc]
theorem dif_in {S set : Int64} {i : Nat} : dif S set i = true ↔ gB S i = true ∧ gB set i = false := by
  unfold dif
  rw [Bool.and_eq_true, Bool.not_eq_true']
theorem ac_Jn {el : List (Nat × Nat)} (hp : ElP el) {e p q : Nat} : (el[e]?).bind (fun x => acN x p) = some q ↔ Jn el e p q := by
  rw [Option.bind_eq_some_iff]
  constructor
  · rintro ⟨⟨a, b⟩, h1, h2⟩
    unfold acN at h2
    dsimp only at h2
    by_cases z : a = p
    · rw [if_pos z] at h2
      left; rw [h1, z]; simp only [Option.some.injEq] at h2; rw [h2]
    · rw [if_neg z] at h2
      by_cases y : b = p
      · rw [if_pos y] at h2
        right; rw [h1, y]; simp only [Option.some.injEq] at h2; rw [h2]
      · rw [if_neg y] at h2; exact absurd h2 (by simp)
  · intro h
    have hne := Jn_ne hp h
    rcases h with h | h
    · exact ⟨(p, q), h, by unfold acN; rw [if_pos rfl]⟩
    · refine ⟨(q, p), h, ?_⟩
      unfold acN
      dsimp only
      rw [if_neg (fun z => hne z.symm), if_pos rfl]
theorem mem_dOne {el : List (Nat × Nat)} (hp : ElP el) {fr ls : Nat} {bk : Bool} {rc : List Nat → Nat → Int64 → List Int64} {vs : List Nat} {p e : Nat} {set S : Int64} : S ∈ dOne el fr ls bk rc vs p set e ↔ ∃ q, Jn el e p q ∧ ls ≤ q ∧ (S ∈ dAdd fr bk vs p set e q ∨ (q ∉ vs ∧ S ∈ rc (vs ++ [q]) q (set ||| bitL e))) := by
  unfold dOne
  cases hq : (el[e]?).bind (fun q => acN q p) with
  | none =>
    constructor
    · intro h; exact absurd h List.not_mem_nil
    · rintro ⟨q, h1, _⟩
      rw [(ac_Jn hp).mpr h1] at hq; exact absurd hq (by simp)
  | some q =>
    have hJ := (ac_Jn hp).mp hq
    dsimp only
    by_cases z : q < ls
    · rw [if_pos z]
      constructor
      · intro h; exact absurd h List.not_mem_nil
      · rintro ⟨q', h1, h2, _⟩
        rw [Jn_det hJ h1] at z; omega
    · rw [if_neg z, List.mem_append]
      constructor
      · intro h
        refine ⟨q, hJ, by omega, ?_⟩
        rcases h with h | h
        · exact Or.inl h
        · by_cases y : q ∈ vs
          · rw [if_pos y] at h; exact absurd h List.not_mem_nil
          · rw [if_neg y] at h; exact Or.inr ⟨y, h⟩
      · rintro ⟨q', h1, h2, h3⟩
        rw [← Jn_det hJ h1] at h3
        rcases h3 with h | ⟨y, h⟩
        · exact Or.inl h
        · right; rw [if_neg y]; exact h
theorem nodup_25 {vs : List Nat} (h1 : vs.Nodup) (h2 : ∀ v, v ∈ vs → v < 25) : vs.length ≤ 25 := by
  have := nodup_len h1 (m := List.range 25) (fun v hv => List.mem_range.mpr (h2 v hv))
  rw [List.length_range] at this
  exact this
/-- the state of a walk -/
def WSt (el : List (Nat × Nat)) (vs : List Nat) (p : Nat) (set : Int64) : Prop := vs.Nodup ∧ (∀ v, v ∈ vs → v < 25) ∧ p ∈ vs ∧ (∀ i, gB set i = true → i < el.length) ∧ ∀ i a b, gB set i = true → Jn el i a b → a ∈ vs
def El25 (el : List (Nat × Nat)) : Prop := ElP el ∧ el.length ≤ 40 ∧ ∀ i a b, Jn el i a b → a < 25
theorem WSt_s {el : List (Nat × Nat)} (hE : El25 el) {vs : List Nat} {p q e : Nat} {set : Int64} (h : WSt el vs p set) (hJ : Jn el e p q) (hq : q ∉ vs) : WSt el (vs ++ [q]) q (set ||| bitL e) := by
  have he := Jn_lt hJ
  have h40 := hE.2.1
  refine ⟨?_, fun v hv => ?_, List.mem_append.mpr (Or.inr (List.mem_singleton.mpr rfl)), fun i hi => ?_, fun i a b hi hab => ?_⟩
  · rw [List.nodup_append]
    refine ⟨h.1, List.pairwise_singleton _ q, fun a ha b hb => ?_⟩
    rw [List.mem_singleton] at hb
    intro z; rw [z, hb] at ha; exact hq ha
  · rw [List.mem_append, List.mem_singleton] at hv
    rcases hv with y | y
    · exact h.2.1 v y
    · rw [y]; exact hE.2.2 e q p (Jn_s hJ)
  · rw [gB_add (by omega), Bool.or_eq_true, decide_eq_true_iff] at hi
    rcases hi with y | y
    · exact h.2.2.2.1 i y
    · rw [y]; exact he
  · rw [gB_add (by omega), Bool.or_eq_true, decide_eq_true_iff] at hi
    rw [List.mem_append, List.mem_singleton]
    rcases hi with y | y
    · exact Or.inl (h.2.2.2.2 i a b y hab)
    · subst y
      have : a = p ∨ a = q := by
        rcases hab with h2 | h2 <;> rcases hJ with g | g <;> rw [h2] at g <;> simp only [Option.some.injEq, Prod.mk.injEq] at g <;> omega
      rcases this with x | x
      · rw [x]; exact Or.inl h.2.2.1
      · exact Or.inr x
theorem WSt_e {el : List (Nat × Nat)} {vs : List Nat} {p q e : Nat} {set : Int64} (h : WSt el vs p set) (hJ : Jn el e p q) (hq : q ∉ vs) : gB set e = false := by
  rcases Bool.eq_false_or_eq_true (gB set e) with y | y
  · exact absurd (h.2.2.2.2 e q p y (Jn_s hJ)) hq
  · exact y
def subS (set S : Int64) : Prop := ∀ i, gB set i = true → gB S i = true
def hiS (el : List (Nat × Nat)) (S : Int64) : Prop := ∀ i, el.length ≤ i → gB S i = false
theorem sub_add {set S : Int64} {e : Nat} (he : e < 64) : subS (set ||| bitL e) S ↔ subS set S ∧ gB S e = true := by
  unfold subS
  constructor
  · intro h
    refine ⟨fun i hi => h i (by rw [gB_add he, hi]; rfl), h e (by rw [gB_add he, decide_eq_true rfl, Bool.or_true])⟩
  · rintro ⟨h1, h2⟩ i hi
    rw [gB_add he, Bool.or_eq_true, decide_eq_true_iff] at hi
    rcases hi with y | y
    · exact h1 i y
    · rw [y]; exact h2
/-- a set that has one edge more -/
theorem one_more {el : List (Nat × Nat)} {set S : Int64} {e : Nat} (hlen : el.length ≤ 40) (he : e < el.length) (hse : gB set e = false) (hset : ∀ i, gB set i = true → i < el.length) : S = set ||| bitL e ↔ subS set S ∧ hiS el S ∧ ∀ i, i < el.length → (dif S set i = true ↔ i = e) := by
  constructor
  · intro h
    refine ⟨fun i hi => by rw [h, gB_add (by omega), hi]; rfl, fun i hi => ?_, fun i hi => ?_⟩
    · rw [h, gB_add (by omega), decide_eq_false (by omega), Bool.or_false]
      rcases Bool.eq_false_or_eq_true (gB set i) with y | y
      · have := hset i y; omega
      · exact y
    · rw [dif_in, h, gB_add (by omega)]
      constructor
      · rintro ⟨h1, h2⟩
        rw [h2, Bool.false_or, decide_eq_true_iff] at h1; exact h1
      · intro z
        rw [z, decide_eq_true rfl, Bool.or_true]; exact ⟨rfl, hse⟩
  · rintro ⟨h1, h2, h3⟩
    refine gB_ext (fun i _ => ?_)
    rw [gB_add (by omega)]
    rcases Nat.lt_or_ge i el.length with y | y
    · have := h3 i y
      rw [dif_in] at this
      rcases Bool.eq_false_or_eq_true (gB set i) with x | x
      · rw [h1 i x, x]; rfl
      · rw [x, Bool.false_or]
        by_cases z : i = e
        · rw [decide_eq_true z]; exact (this.mpr z).1
        · rw [decide_eq_false z]
          rcases Bool.eq_false_or_eq_true (gB S i) with u | u
          · exact absurd (this.mp ⟨u, x⟩) z
          · exact u
    · rw [h2 i y, decide_eq_false (by omega), Bool.or_false]
      rcases Bool.eq_false_or_eq_true (gB set i) with x | x
      · have := hset i x; omega
      · rw [x]
theorem dTgt_f {sc : Int32} {p t : Nat} (hp : p < 25) (ht : t < 25) (hsc : sc = nI t) : dTgt false sc p = true ↔ p = t := by
  unfold dTgt
  rw [Bool.not_false, Bool.true_and, decide_eq_true_iff, hsc, nI_eq (by omega) (by omega)]
theorem dW_mem {el : List (Nat × Nat)} {fr ls : Nat} {bk : Bool} {sc : Int32} {f : Nat} {vs : List Nat} {p : Nat} {set S : Int64} (h : dTgt bk sc p = false) : S ∈ dW el fr ls bk sc (f + 1) vs p set 0 ↔ ∃ e, S ∈ dOne el fr ls bk (fun vs q s => dW el fr ls bk sc f vs q s 0) vs p set e := by
  show S ∈ (if dTgt bk sc p = true then _ else _) ↔ _
  rw [if_neg (by rw [h]; decide), List.mem_flatMap]
  constructor
  · rintro ⟨e, _, h2⟩; exact ⟨e, h2⟩
  · rintro ⟨e, h2⟩
    refine ⟨e, ?_, h2⟩
    rw [List.mem_range']
    have he : e < el.length := by
      rcases Nat.lt_or_ge e el.length with y | y
      · exact y
      · exfalso
        unfold dOne at h2
        rw [List.getElem?_eq_none y] at h2
        exact absurd h2 List.not_mem_nil
    exact ⟨e, by omega, by omega⟩
theorem mem_path {el : List (Nat × Nat)} (hE : El25 el) {fr t : Nat} {sc : Int32} (ht : t < 25) (hsc : sc = nI t) : ∀ (f : Nat) (vs : List Nat) (p : Nat) (set S : Int64), 27 ≤ f + vs.length → WSt el vs p set → (p ≠ t → t ∉ vs) →
    (S ∈ dW el fr 0 false sc f vs p set 0 ↔ subS set S ∧ hiS el S ∧ (p = t → S = set) ∧ (p ≠ t → Gp el (dif S set) p t vs))
  | 0, vs, p, set, S, hf, hW, _ => by have := nodup_25 hW.1 hW.2.1; omega
  | f + 1, vs, p, set, S, hf, hW, htv => by
    have hp25 := hW.2.1 p hW.2.2.1
    have h40 := hE.2.1
    by_cases hpt : p = t
    · rw [dW_tgt ((dTgt_f hp25 ht hsc).mpr hpt), List.mem_singleton]
      constructor
      · intro h
        refine ⟨fun i hi => by rw [h]; exact hi, fun i hi => ?_, fun _ => h, fun q => absurd hpt q⟩
        rw [h]
        rcases Bool.eq_false_or_eq_true (gB set i) with y | y
        · have := hW.2.2.2.1 i y; omega
        · exact y
      · rintro ⟨_, _, h, _⟩; exact h hpt
    · have hd : dTgt false sc p = false := by
        rcases Bool.eq_false_or_eq_true (dTgt false sc p) with y | y
        · exact absurd ((dTgt_f hp25 ht hsc).mp y) hpt
        · exact y
      rw [dW_mem hd]
      have hadd : ∀ e q, S ∉ dAdd fr false vs p set e q := fun e q h => by
        unfold dAdd at h; rw [Bool.false_and, Bool.false_and, Bool.false_and, if_neg (by decide)] at h; exact absurd h List.not_mem_nil
      have ih : ∀ e q, Jn el e p q → q ∉ vs → (S ∈ dW el fr 0 false sc f (vs ++ [q]) q (set ||| bitL e) 0 ↔ subS (set ||| bitL e) S ∧ hiS el S ∧ (q = t → S = set ||| bitL e) ∧ (q ≠ t → Gp el (dif S (set ||| bitL e)) q t (vs ++ [q]))) := fun e q hJ hq => mem_path hE ht hsc f (vs ++ [q]) q _ S (by rw [List.length_append]; have : [q].length = 1 := rfl; omega) (WSt_s hE hW hJ hq) (fun z y => by
        rw [List.mem_append, List.mem_singleton] at y
        rcases y with y | y
        · exact htv hpt y
        · exact z y.symm)
      constructor
      · rintro ⟨e, h⟩
        obtain ⟨q, hJ, _, h⟩ := (mem_dOne hE.1).mp h
        rcases h with h | ⟨hq, h⟩
        · exact absurd h (hadd e q)
        · have he := Jn_lt hJ
          have hse := WSt_e hW hJ hq
          rw [ih e q hJ hq] at h
          obtain ⟨h1, h2, h3, h4⟩ := h
          rw [sub_add (by omega)] at h1
          refine ⟨h1.1, h2, fun z => absurd z hpt, fun _ => ?_⟩
          by_cases hqt : q = t
          · have h5 := ((one_more h40 he hse hW.2.2.2.1).mp (h3 hqt)).2.2
            rw [hqt] at hJ
            exact G_last hE.1 hJ h5
          · have h5 := h4 hqt
            rw [dif_rm (by omega)] at h5
            exact G_add hE.1 (dif_in.mpr ⟨h1.2, hse⟩) hJ hW.2.2.1 hpt hq h5
      · rintro ⟨h1, h2, _, h4⟩
        obtain ⟨e, q, hYe, hJ, h5⟩ := G_step hE.1 (h4 hpt)
        have he := Jn_lt hJ
        have hse := (dif_in.mp hYe).2
        have hq : q ∉ vs := by
          rcases h5 with ⟨y, _⟩ | ⟨_, y, _⟩
          · rw [y]; exact htv hpt
          · exact y
        refine ⟨e, (mem_dOne hE.1).mpr ⟨q, hJ, Nat.zero_le _, Or.inr ⟨hq, (ih e q hJ hq).mpr ⟨(sub_add (by omega)).mpr ⟨h1, (dif_in.mp hYe).1⟩, h2, fun z => ?_, fun z => ?_⟩⟩⟩⟩
        · rcases h5 with ⟨_, y⟩ | ⟨y, _⟩
          · exact (one_more h40 he hse hW.2.2.2.1).mpr ⟨h1, h2, fun i hi => ⟨y i hi, fun u => by rw [u]; exact hYe⟩⟩
          · exact absurd z y
        · rcases h5 with ⟨y, _⟩ | ⟨_, _, y⟩
          · exact absurd y z
          · rw [dif_rm (by omega)]; exact y
theorem dW_nd {el : List (Nat × Nat)} (hp : ElP el) {fr ls : Nat} {bk : Bool} {sc : Int32} {f : Nat} {vs : List Nat} {p : Nat} {set : Int64} (h : dTgt bk sc p = false) (hfr : fr ∈ vs) (h1 : ∀ e q, Jn el e p q → q ∉ vs → ls ≤ q → (dW el fr ls bk sc f (vs ++ [q]) q (set ||| bitL e) 0).Nodup) (h2 : ∀ e e' S, S ∈ dOne el fr ls bk (fun vs q s => dW el fr ls bk sc f vs q s 0) vs p set e → S ∈ dOne el fr ls bk (fun vs q s => dW el fr ls bk sc f vs q s 0) vs p set e' → e = e') : (dW el fr ls bk sc (f + 1) vs p set 0).Nodup := by
  show (if dTgt bk sc p = true then _ else _ : List Int64).Nodup
  rw [if_neg (by rw [h]; decide)]
  unfold List.Nodup
  rw [List.pairwise_flatMap]
  constructor
  · intro e _
    unfold dOne
    cases hq : (el[e]?).bind (fun q => acN q p) with
    | none => exact List.Pairwise.nil
    | some q =>
      have hJ := (ac_Jn hp).mp hq
      dsimp only
      by_cases z : q < ls
      · rw [if_pos z]; exact List.Pairwise.nil
      · rw [if_neg z]
        by_cases y : q ∈ vs
        · rw [if_pos y, List.append_nil]
          unfold dAdd
          by_cases x : (bk && decide (q = fr) && decide (2 < vs.length) && decide ((vs[1]?).getD 0 < p)) = true
          · rw [if_pos x]; exact List.pairwise_singleton _ _
          · rw [if_neg x]; exact List.Pairwise.nil
        · have hqf : q ≠ fr := fun z => y (by rw [z]; exact hfr)
          have : dAdd fr bk vs p set e q = [] := by
            unfold dAdd
            rw [decide_eq_false hqf, Bool.and_false, Bool.false_and, Bool.false_and, if_neg (by decide)]
          rw [this, if_neg y, List.nil_append]
          exact h1 e q hJ y (by omega)
  · have : (List.range' 0 (el.length - 0)).Nodup := List.nodup_range'
    refine List.Pairwise.imp ?_ this
    intro e e' hne x hx y hy hxy
    subst hxy
    exact hne (h2 e e' x hx hy)
theorem path_nd {el : List (Nat × Nat)} (hE : El25 el) {fr t : Nat} {sc : Int32} (ht : t < 25) (hsc : sc = nI t) : ∀ (f : Nat) (vs : List Nat) (p : Nat) (set : Int64), 27 ≤ f + vs.length → WSt el vs p set → (p ≠ t → t ∉ vs) → fr ∈ vs → (dW el fr 0 false sc f vs p set 0).Nodup
  | 0, vs, p, set, hf, hW, _, _ => by have := nodup_25 hW.1 hW.2.1; omega
  | f + 1, vs, p, set, hf, hW, htv, hfr => by
    have hp25 := hW.2.1 p hW.2.2.1
    have h40 := hE.2.1
    by_cases hpt : p = t
    · rw [dW_tgt ((dTgt_f hp25 ht hsc).mpr hpt)]; exact List.pairwise_singleton _ _
    · have hd : dTgt false sc p = false := by
        rcases Bool.eq_false_or_eq_true (dTgt false sc p) with y | y
        · exact absurd ((dTgt_f hp25 ht hsc).mp y) hpt
        · exact y
      have htv2 : ∀ q, q ≠ t → t ∉ vs ++ [q] := fun q z y => by
        rw [List.mem_append, List.mem_singleton] at y
        rcases y with y | y
        · exact htv hpt y
        · exact z y.symm
      have hlen : ∀ q : Nat, 27 ≤ f + (vs ++ [q]).length := fun q => by rw [List.length_append]; have : [q].length = 1 := rfl; omega
      refine dW_nd hE.1 hd hfr (fun e q hJ hq _ => path_nd hE ht hsc f (vs ++ [q]) q _ (hlen q) (WSt_s hE hW hJ hq) (htv2 q) (List.mem_append.mpr (Or.inl hfr))) (fun e e' S h1 h2 => ?_)
      have hG := (mem_path hE (fr := fr) ht hsc (f + 1) vs p set S hf hW htv).mp ((dW_mem hd).mpr ⟨e, h1⟩)
      have key : ∀ e, S ∈ dOne el fr 0 false (fun vs q s => dW el fr 0 false sc f vs q s 0) vs p set e → ∃ q, Jn el e p q ∧ dif S set e = true := by
        intro e h
        obtain ⟨q, hJ, _, h⟩ := (mem_dOne hE.1).mp h
        rcases h with h | ⟨hq, h⟩
        · unfold dAdd at h; rw [Bool.false_and, Bool.false_and, Bool.false_and, if_neg (by decide)] at h; exact absurd h List.not_mem_nil
        · have he := Jn_lt hJ
          have h3 := ((mem_path hE ht hsc f (vs ++ [q]) q _ S (hlen q) (WSt_s hE hW hJ hq) (htv2 q)).mp h).1
          exact ⟨q, hJ, dif_in.mpr ⟨((sub_add (by omega)).mp h3).2, WSt_e hW hJ hq⟩⟩
      obtain ⟨q, j1, d1⟩ := key e h1
      obtain ⟨q', j2, d2⟩ := key e' h2
      exact G_one (hG.2.2.2 hpt).2.1 d1 j1 d2 j2
