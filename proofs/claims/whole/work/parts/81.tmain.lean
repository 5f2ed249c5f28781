/-! TREES: the reference's number is the number of sets that are trees -/
def plH (P : Nat) (hb : Nat → Bool) (x : Nat) : Bool := decide (x < P) && !hb x
theorem stF_pl (P : Nat) (hb : Nat → Bool) (pa : Nat → Nat) (p : Nat) : stF P hb pa p = true ↔ plH P hb p = true ∧ pa p = p := by
  unfold stF plH
  rw [Bool.and_eq_true, decide_eq_true_iff (p := pa p = p)]
def fS (S : Int64) (i : Nat) : Int32 := if gB S i = true then 1 else 2
def TNf (T : List Int64) (n : Nat) (f : Nat → Int32) : Nat := (T.filter (fun S => alAll f S n)).length
theorem filt_split {L : List Int64} {p q r : Int64 → Bool} (h : ∀ S, (p S = true ↔ q S = true ∨ r S = true) ∧ ¬(q S = true ∧ r S = true)) : (L.filter p).length = (L.filter q).length + (L.filter r).length := by
  induction L with
  | nil => rfl
  | cons S L ih =>
    have := h S
    rw [List.filter_cons, List.filter_cons, List.filter_cons]
    rcases Bool.eq_false_or_eq_true (q S) with a | a <;> rcases Bool.eq_false_or_eq_true (r S) with b | b
    · exact absurd ⟨a, b⟩ this.2
    · rw [if_pos (this.1.mpr (Or.inl a)), if_pos a, if_neg (by rw [b]; decide), List.length_cons, List.length_cons, ih]; omega
    · rw [if_pos (this.1.mpr (Or.inr b)), if_neg (by rw [a]; decide), if_pos b, List.length_cons, List.length_cons, ih]; omega
    · rw [if_neg (fun z => by rcases this.1.mp z with u | u; (rw [a] at u; exact absurd u (by decide)); (rw [b] at u; exact absurd u (by decide))), if_neg (by rw [a]; decide), if_neg (by rw [b]; decide), ih]
theorem upd_s {f : Nat → Int32} {k : Nat} {v : Int32} : upd f k v k = v := by unfold upd; rw [if_pos rfl]
theorem upd_n {f : Nat → Int32} {k i : Nat} {v : Int32} (h : i ≠ k) : upd f k v i = f i := by unfold upd; rw [if_neg h]
theorem TN_split {T : List Int64} {n e : Nat} {f : Nat → Int32} (hn : n ≤ 40) (he : e < n) (hf : f e = 0) : TNf T n f = TNf T n (upd f e 1) + TNf T n (upd f e 2) := by
  refine filt_split (fun S => ?_)
  have o : ∀ (g : Nat → Int32), alAll g S n = true ↔ ∀ i, i < n → (g i = 1 → gB S i = true) ∧ (g i = 2 → gB S i = false) := fun g => by
    rw [al_iff]
    exact ⟨fun H i hi => (al_one (by omega)).mp (H i hi), fun H i hi => (al_one (by omega)).mpr (H i hi)⟩
  rw [o, o, o]
  constructor
  · constructor
    · intro H
      rcases Bool.eq_false_or_eq_true (gB S e) with y | y
      · left
        intro i hi
        by_cases z : i = e
        · rw [z, upd_s]; exact ⟨fun _ => y, fun q => absurd q (by decide)⟩
        · rw [upd_n z]; exact H i hi
      · right
        intro i hi
        by_cases z : i = e
        · rw [z, upd_s]; exact ⟨fun q => absurd q (by decide), fun _ => y⟩
        · rw [upd_n z]; exact H i hi
    · rintro (H | H) <;> intro i hi <;> by_cases z : i = e
      · rw [z, hf]; exact ⟨fun q => absurd q (by decide), fun q => absurd q (by decide)⟩
      · have := H i hi; rw [upd_n z] at this; exact this
      · rw [z, hf]; exact ⟨fun q => absurd q (by decide), fun q => absurd q (by decide)⟩
      · have := H i hi; rw [upd_n z] at this; exact this
  · rintro ⟨H1, H2⟩
    have h1 := (H1 e he).1 upd_s
    have h2 := (H2 e he).2 upd_s
    rw [h1] at h2; exact absurd h2 (by decide)
/-- what the list of all trees is -/
def TLs (el : List (Nat × Nat)) (pl : Nat → Bool) (T : List Int64) : Prop := T.Nodup ∧ ∀ S, S ∈ T ↔ hiS el S ∧ ∃ pa, prAll el (fS S) el.length = some pa ∧ ∀ q q', pl q = true → pl q' = true → pa q = pa q'
def MainP (el : List (Nat × Nat)) (P : Nat) (hb : Nat → Bool) (T : List Int64) (f : Nat → Int32) : Prop := (prAll el f el.length = none → TNf T el.length f = 0) ∧ ∀ pa, prAll el f el.length = some pa → ∀ r, stF P hb pa r = true → Dt (stF P hb pa) r (lapS el f pa el.length) = (TNf T el.length f : Int)
/-- what an edge that is free, with none told in behind it, does -/
theorem R_pr {el : List (Nat × Nat)} {f : Nat → Int32} {e : Nat} {a b : Nat} (he : e < el.length) (hq : el[e]? = some (a, b)) (hf : f e = 0) (hin : ∀ i, e < i → i < el.length → f i ≠ 1) : prAll el (upd f e 2) el.length = prAll el f el.length ∧ prAll el (upd f e 1) el.length = (prAll el f el.length).bind (fun pa => if pa a = pa b then none else some (mg pa a b)) := by
  have h0 : prAll el f el.length = prAll el f e := by
    have := prAll_stay (el := el) (f := f) (m := e) (el.length - e) (fun i h1 h2 => by
      by_cases z : i = e
      · rw [z, hf]; decide
      · exact hin i (by omega) (by omega))
    rw [show e + (el.length - e) = el.length by omega] at this; exact this
  constructor
  · refine prAll_congr (fun i hi => ?_)
    by_cases z : i = e
    · rw [z, upd_s, hf]; exact ⟨fun q => absurd q (by decide), fun q => absurd q (by decide)⟩
    · rw [upd_n z]
  · have h1 : prAll el (upd f e 1) el.length = prAll el (upd f e 1) (e + 1) := by
      have := prAll_stay (el := el) (f := upd f e 1) (m := e + 1) (el.length - (e + 1)) (fun i h1 h2 => by
        rw [upd_n (by omega)]; exact hin i (by omega) (by omega))
      rw [show e + 1 + (el.length - (e + 1)) = el.length by omega] at this; exact this
    have h2 : prAll el (upd f e 1) e = prAll el f e := prAll_congr (fun i hi => by rw [upd_n (by omega)])
    rw [h1, h0]
    show (prAll el (upd f e 1) e).bind (prS el (upd f e 1) e) = _
    rw [h2]
    congr 1
    funext pa
    unfold prS
    rw [if_pos upd_s, hq]
    rfl
theorem R_D {el : List (Nat × Nat)} {P : Nat} {hb : Nat → Bool} {f : Nat → Int32} {e a b : Nat} {pa : Nat → Nat} (hP : P ≤ 25) (he : e < el.length) (hq : el[e]? = some (a, b)) (hf : f e = 0) (hL : LbO (plH P hb) pa) (ha : plH P hb a = true) (hbb : plH P hb b = true) :
    (pa a = pa b → lapS el f pa el.length = lapS el (upd f e 2) pa el.length) ∧
    (pa a ≠ pa b → (∀ p, stF P hb (mg pa a b) p = st2r (stF P hb pa) (pa b) p) ∧ (stF P hb pa (pa a) = true ∧ stF P hb pa (pa b) = true) ∧ ∀ r, Dt (stF P hb pa) r (lapS el f pa el.length) = Dt (stF P hb pa) r (lapS el (upd f e 2) pa el.length) + Dt (stF P hb (mg pa a b)) (if r = pa b then pa a else r) (lapS el (upd f e 1) (mg pa a b) el.length)) := by
  have hup := fun i k => lapS_upd (el := el) (pa := pa) hf i k el.length
  have hlt : ∀ x, plH P hb x = true → x < 25 := fun x hx => by unfold plH at hx; rw [Bool.and_eq_true, decide_eq_true_iff] at hx; omega
  constructor
  · intro h
    funext i k
    rw [hup i k, if_pos he, vE_at hq, h, ve_same, Int.zero_mul, Int.add_zero]
  · intro hne
    have sa : stF P hb pa (pa a) = true := (stF_pl _ _ _ _).mpr ⟨hL.2 a ha, hL.1 a⟩
    have sb : stF P hb pa (pa b) = true := (stF_pl _ _ _ _).mpr ⟨hL.2 b hbb, hL.1 b⟩
    have hst : ∀ p, stF P hb (mg pa a b) p = st2r (stF P hb pa) (pa b) p := by
      intro p
      rw [Bool.eq_iff_iff, stF_pl]
      unfold st2r
      rw [Bool.and_eq_true, stF_pl, Bool.not_eq_true', decide_eq_false_iff_not]
      unfold mg
      constructor
      · rintro ⟨h1, h2⟩
        by_cases z : pa p = pa b
        · rw [if_pos z] at h2
          exfalso
          rw [← h2, hL.1 a] at z; exact hne z
        · rw [if_neg z] at h2
          exact ⟨⟨h1, h2⟩, fun y => z (by rw [y]; exact hL.1 b)⟩
      · rintro ⟨⟨h1, h2⟩, h3⟩
        refine ⟨h1, ?_⟩
        rw [if_neg (fun y => h3 (by rw [h2] at y; exact y)), h2]
    refine ⟨hst, ⟨sa, sb⟩, fun r => ?_⟩
    rw [DC (L := lapS el (upd f e 2) pa el.length) (L2 := lapS el f pa el.length) (r := r) (hlt _ (hL.2 a ha)) (hlt _ (hL.2 b hbb)) hne sa sb (fun i k => by rw [hup i k, if_pos he, vE_at hq, vE_at hq])]
    congr 1
    have e1 : stF P hb (mg pa a b) = st2r (stF P hb pa) (pa b) := funext hst
    have e2 : Mg (pa a) (pa b) (lapS el (upd f e 2) pa el.length) = lapS el (upd f e 1) (mg pa a b) el.length := by
      funext i k
      refine lap_Mg hne i k el.length (fun j _ => ?_)
      by_cases z : j = e
      · rw [z, upd_s, upd_s]; decide
      · rw [upd_n z, upd_n z]
    rw [e1, e2]
theorem R_fwd {el : List (Nat × Nat)} {P : Nat} {hb : Nat → Bool} {T : List Int64} {f : Nat → Int32} {e : Nat} (hE : El25 el) (hP : P ≤ 25) (hpl : ∀ (i a b : Nat), el[i]? = some (a, b) → plH P hb a = true ∧ plH P hb b = true) (he : e < el.length) (hf : f e = 0) (hin : ∀ i, e < i → i < el.length → f i ≠ 1) (h1 : MainP el P hb T (upd f e 1)) (h2 : MainP el P hb T (upd f e 2)) : MainP el P hb T f := by
  have hsp := TN_split (T := T) (f := f) hE.2.1 he hf
  obtain ⟨a, b, hq⟩ : ∃ a b, el[e]? = some (a, b) := ⟨(el[e]).1, (el[e]).2, List.getElem?_eq_getElem he⟩
  have hpr := R_pr he hq hf hin
  constructor
  · intro hn
    rw [hn] at hpr
    rw [hsp, h1.1 hpr.2, h2.1 hpr.1]
  · intro pa hpa r hr
    rw [hpa] at hpr
    have hL := prAll_LbO hpl hpa
    have hD := R_D hP he hq hf hL (hpl e a b hq).1 (hpl e a b hq).2
    by_cases z : pa a = pa b
    · have h3 : prAll el (upd f e 1) el.length = none := by rw [hpr.2]; show (if pa a = pa b then none else some (mg pa a b)) = none; rw [if_pos z]
      rw [hsp, h1.1 h3, hD.1 z, h2.2 pa hpr.1 r hr, Nat.zero_add]
    · have h3 : prAll el (upd f e 1) el.length = some (mg pa a b) := by rw [hpr.2]; show (if pa a = pa b then none else some (mg pa a b)) = _; rw [if_neg z]
      obtain ⟨d1, d2, d3⟩ := hD.2 z
      have hr2 : stF P hb (mg pa a b) (if r = pa b then pa a else r) = true := by
        rw [d1]
        by_cases y : r = pa b
        · rw [if_pos y, st2r_n z]; exact d2.1
        · rw [if_neg y, st2r_n y]; exact hr
      rw [d3 r, h2.2 pa hpr.1 r hr, h1.2 _ h3 _ hr2, hsp, Int.natCast_add]; omega
theorem R_bwd {el : List (Nat × Nat)} {P : Nat} {hb : Nat → Bool} {T : List Int64} {f : Nat → Int32} {e q0 : Nat} (hE : El25 el) (hP : P ≤ 25) (hpl : ∀ (i a b : Nat), el[i]? = some (a, b) → plH P hb a = true ∧ plH P hb b = true) (hq0 : plH P hb q0 = true) (he : e < el.length) (hf : f e = 0) (hin : ∀ i, e < i → i < el.length → f i ≠ 1) (h0 : MainP el P hb T f) (h2 : MainP el P hb T (upd f e 2)) : MainP el P hb T (upd f e 1) := by
  have hsp := TN_split (T := T) (f := f) hE.2.1 he hf
  obtain ⟨a, b, hq⟩ : ∃ a b, el[e]? = some (a, b) := ⟨(el[e]).1, (el[e]).2, List.getElem?_eq_getElem he⟩
  have hpr := R_pr he hq hf hin
  cases hpa : prAll el f el.length with
  | none =>
    rw [hpa] at hpr
    have := h0.1 hpa
    refine ⟨fun _ => by omega, fun pa h3 => ?_⟩
    rw [hpr.2] at h3; exact absurd h3 (by simp)
  | some pa =>
    rw [hpa] at hpr
    have hL := prAll_LbO hpl hpa
    have hD := R_D hP he hq hf hL (hpl e a b hq).1 (hpl e a b hq).2
    by_cases z : pa a = pa b
    · have h3 : prAll el (upd f e 1) el.length = none := by rw [hpr.2]; show (if pa a = pa b then none else some (mg pa a b)) = none; rw [if_pos z]
      have hs0 : stF P hb pa (pa q0) = true := (stF_pl _ _ _ _).mpr ⟨hL.2 q0 hq0, hL.1 q0⟩
      have g1 := h0.2 pa hpa _ hs0
      rw [hD.1 z, h2.2 pa hpr.1 _ hs0] at g1
      refine ⟨fun _ => by omega, fun pb h4 => ?_⟩
      rw [h3] at h4; exact absurd h4 (by simp)
    · have h3 : prAll el (upd f e 1) el.length = some (mg pa a b) := by rw [hpr.2]; show (if pa a = pa b then none else some (mg pa a b)) = _; rw [if_neg z]
      obtain ⟨d1, d2, d3⟩ := hD.2 z
      refine ⟨fun h4 => (by rw [h3] at h4; exact absurd h4 (by simp)), fun pb h4 r hr => ?_⟩
      rw [h3] at h4
      have := Option.some.inj h4
      subst this
      have hrb : r ≠ pa b := fun y => by rw [d1, y, st2r_b] at hr; exact absurd hr (by decide)
      have hr0 : stF P hb pa r = true := by rw [d1, st2r_n hrb] at hr; exact hr
      have g1 := d3 r
      rw [if_neg hrb, h0.2 pa hpa r hr0, h2.2 pa hpr.1 r hr0, hsp, Int.natCast_add] at g1
      omega
theorem det_unit : ∀ n, det n de = 1
  | 0 => rfl
  | n + 1 => by
    show sumI _ (n + 1) = 1
    rw [sumI_one (k := 0) (by omega) (fun i _ hne => by rw [de_n hne, Int.mul_zero, Int.zero_mul]), de_s]
    have : det n (mn de 0) = det n de := det_congr (fun r c _ _ => by
      unfold mn sk
      rw [if_neg (Nat.not_lt_zero r)]
      unfold de
      by_cases z : r = c
      · rw [if_pos (by omega), if_pos z]
      · rw [if_neg (by omega), if_neg z])
    rw [this, det_unit n]; rfl
theorem gB_of (X : Nat → Bool) (i : Nat) (hi : i < 64) : gB (phS (List.range 64) X) i = X i := by
  rw [gB_phS (by rw [List.length_range]; exact Nat.le_refl _), List.getElem?_range hi]
/-- nothing is free -/
theorem M_base {el : List (Nat × Nat)} {P : Nat} {hb : Nat → Bool} {T : List Int64} {f : Nat → Int32} (hE : El25 el) (hP : P ≤ 25) (hpl : ∀ (i a b : Nat), el[i]? = some (a, b) → plH P hb a = true ∧ plH P hb b = true) (hT : TLs el (plH P hb) T) (hdec : ∀ i, i < el.length → f i = 1 ∨ f i = 2) : MainP el P hb T f := by
  have h40 := hE.2.1
  have o : ∀ S, alAll f S el.length = true ↔ ∀ i, i < el.length → (gB S i = true ↔ f i = 1) := fun S => by
    rw [al_iff]
    constructor
    · intro H i hi
      have := (al_one (by omega)).mp (H i hi)
      constructor
      · intro y
        rcases hdec i hi with u | u
        · exact u
        · rw [this.2 u] at y; exact absurd y (by decide)
      · exact this.1
    · intro H i hi
      refine (al_one (by omega)).mpr ⟨(H i hi).mpr, fun u => ?_⟩
      rcases Bool.eq_false_or_eq_true (gB S i) with y | y
      · have := (H i hi).mp y; rw [u] at this; exact absurd this (by decide)
      · exact y
  have hpr : ∀ S, alAll f S el.length = true → prAll el (fS S) el.length = prAll el f el.length := fun S h => prAll_congr (fun i hi => by
    rw [← (o S).mp h i hi]
    unfold fS
    by_cases y : gB S i = true
    · rw [if_pos y]; exact ⟨fun _ => y, fun _ => rfl⟩
    · rw [if_neg y]; exact ⟨fun q => absurd q (by decide), fun q => absurd q y⟩)
  have huniq : ∀ S S', S ∈ T → S' ∈ T → alAll f S el.length = true → alAll f S' el.length = true → S = S' := by
    intro S S' m1 m2 a1 a2
    refine gB_ext (fun i _ => ?_)
    rcases Nat.lt_or_ge i el.length with y | y
    · rw [Bool.eq_iff_iff, (o S).mp a1 i y, (o S').mp a2 i y]
    · rw [((hT.2 S).mp m1).1 i y, ((hT.2 S').mp m2).1 i y]
  have hle : TNf T el.length f ≤ 1 := by
    unfold TNf
    have hnd : (T.filter (fun S => alAll f S el.length)).Nodup := hT.1.filter _
    match hh : T.filter (fun S => alAll f S el.length) with
    | [] => exact Nat.zero_le _
    | [x] => exact Nat.le_refl _
    | x :: y :: l =>
      exfalso
      rw [hh] at hnd
      have mx : x ∈ T.filter (fun S => alAll f S el.length) := by rw [hh]; exact List.mem_cons_self
      have my : y ∈ T.filter (fun S => alAll f S el.length) := by rw [hh]; exact List.mem_cons_of_mem _ List.mem_cons_self
      rw [List.mem_filter] at mx my
      rw [List.nodup_cons] at hnd
      exact hnd.1 (by rw [huniq x y mx.1 my.1 mx.2 my.2]; exact List.mem_cons_self)
  have hex : ∀ S, S ∈ T → alAll f S el.length = true → 1 ≤ TNf T el.length f := fun S m1 a1 => by
    unfold TNf
    exact List.length_pos_of_mem (List.mem_filter.mpr ⟨m1, a1⟩)
  have hno : (∀ S, S ∈ T → alAll f S el.length = true → False) → TNf T el.length f = 0 := fun H => by
    unfold TNf
    rw [List.length_eq_zero_iff, List.filter_eq_nil_iff]
    exact fun S m1 a1 => H S m1 a1
  constructor
  · intro hn
    refine hno (fun S m1 a1 => ?_)
    obtain ⟨_, pa, h2, _⟩ := (hT.2 S).mp m1
    rw [hpr S a1, hn] at h2; exact absurd h2 (by simp)
  · intro pa hpa r hr
    have hL := prAll_LbO hpl hpa
    have hrr := (stF_pl _ _ _ _).mp hr
    have hr25 : r < 25 := by have := hrr.1; unfold plH at this; rw [Bool.and_eq_true, decide_eq_true_iff] at this; omega
    have hl0 : ∀ i k, lapS el f pa el.length i k = 0 := fun i k => sumI_zero (fun e he => by
      rw [if_neg]
      rcases hdec e he with u | u <;> rw [u] <;> decide)
    by_cases hone : ∀ i, stF P hb pa i = true → i = r
    · have e1 : Dt (stF P hb pa) r (lapS el f pa el.length) = 1 := by
        unfold Dt
        rw [← det_unit 25]
        refine det_congr (fun i k _ _ => ?_)
        unfold Um
        rw [if_pos]
        rcases Bool.eq_false_or_eq_true (stF P hb pa i) with y | y
        · exact Or.inr (hone i y)
        · exact Or.inl y
      rw [e1]
      have hsame : ∀ q, plH P hb q = true → pa q = r := fun q hq => hone _ ((stF_pl _ _ _ _).mpr ⟨hL.2 q hq, hL.1 q⟩)
      -- the set of the edges told in
      obtain ⟨S, hS⟩ : ∃ S : Int64, ∀ i, i < 64 → gB S i = (decide (i < el.length) && decide (f i = 1)) := ⟨_, fun i hi => gB_of (fun i => decide (i < el.length) && decide (f i = 1)) i hi⟩
      have hal : alAll f S el.length = true := (o S).mpr (fun i hi => by rw [hS i (by omega), decide_eq_true hi, Bool.true_and, decide_eq_true_iff])
      have hmem : S ∈ T := (hT.2 S).mpr ⟨fun i hi => by
        rcases Nat.lt_or_ge i 64 with y | y
        · rw [hS i y, decide_eq_false (by omega), Bool.false_and]
        · exact gB_hi y, pa, by rw [hpr S hal]; exact hpa, fun q q' h1 h2 => by rw [hsame q h1, hsame q' h2]⟩
      have := hex S hmem hal
      have e2 : TNf T el.length f = 1 := by omega
      rw [e2]; rfl
    · have hi : ∃ i, stF P hb pa i = true ∧ i ≠ r := by
        rcases Classical.em (∃ i, stF P hb pa i = true ∧ i ≠ r) with y | y
        · exact y
        · exact absurd (fun i hi => by
            rcases Classical.em (i = r) with u | u
            · exact u
            · exact absurd ⟨i, hi, u⟩ y) hone
      obtain ⟨i, i1, i2⟩ := hi
      have hii := (stF_pl _ _ _ _).mp i1
      have hi25 : i < 25 := by have := hii.1; unfold plH at this; rw [Bool.and_eq_true, decide_eq_true_iff] at this; omega
      have e1 : Dt (stF P hb pa) r (lapS el f pa el.length) = 0 := by
        unfold Dt
        have : Um (stF P hb pa) r (lapS el f pa el.length) = setR (Um (stF P hb pa) r (lapS el f pa el.length)) i (fun _ => 0) := by
          funext x k
          by_cases z : x = i
          · rw [z, setR_eq]
            unfold Um
            rw [if_neg (by rw [i1]; rintro (q | q); (exact absurd q (by decide)); (exact i2 q)), hl0]
          · rw [setR_ne z]
        rw [this, det_r0 hi25]
      have e2 : TNf T el.length f = 0 := hno (fun S m1 a1 => by
        obtain ⟨_, pb, h2, h3⟩ := (hT.2 S).mp m1
        rw [hpr S a1, hpa] at h2
        have := Option.some.inj h2
        subst this
        have := h3 i r hii.1 hrr.1
        rw [hii.2, hrr.2] at this
        exact i2 this)
      rw [e1, e2]; rfl
theorem M_S1 {el : List (Nat × Nat)} {P : Nat} {hb : Nat → Bool} {T : List Int64} (hE : El25 el) (hP : P ≤ 25) (hpl : ∀ (i a b : Nat), el[i]? = some (a, b) → plH P hb a = true ∧ plH P hb b = true) (hT : TLs el (plH P hb) T) : ∀ (d j : Nat) (f : Nat → Int32), j + d = el.length → (∀ i, i < el.length → f i = 0 ∨ f i = 1 ∨ f i = 2) → (∀ i, i < j → f i ≠ 0) → (∀ i, j ≤ i → i < el.length → f i ≠ 1) → MainP el P hb T f
  | 0, j, f, hj, h012, hdec, _ => M_base hE hP hpl hT (fun i hi => by
    rcases h012 i hi with u | u | u
    · exact absurd u (hdec i (by omega))
    · exact Or.inl u
    · exact Or.inr u)
  | d + 1, j, f, hj, h012, hdec, hin => by
    by_cases z : f j = 0
    · have u012 : ∀ v : Int32, (v = 1 ∨ v = 2) → ∀ i, i < el.length → upd f j v i = 0 ∨ upd f j v i = 1 ∨ upd f j v i = 2 := fun v hv i hi => by
        by_cases y : i = j
        · rw [y, upd_s]; exact Or.inr hv
        · rw [upd_n y]; exact h012 i hi
      have udec : ∀ v : Int32, (v = 1 ∨ v = 2) → ∀ i, i < j + 1 → upd f j v i ≠ 0 := fun v hv i hi => by
        by_cases y : i = j
        · rw [y, upd_s]; rcases hv with u | u <;> rw [u] <;> decide
        · rw [upd_n y]; exact hdec i (by omega)
      have uin : ∀ v : Int32, ∀ i, j + 1 ≤ i → i < el.length → upd f j v i ≠ 1 := fun v i h1 h2 => by rw [upd_n (by omega)]; exact hin i (by omega) h2
      exact R_fwd hE hP hpl (by omega) z (fun i h1 h2 => hin i (by omega) h2)
        (M_S1 hE hP hpl hT d (j + 1) _ (by omega) (u012 1 (Or.inl rfl)) (udec 1 (Or.inl rfl)) (uin 1))
        (M_S1 hE hP hpl hT d (j + 1) _ (by omega) (u012 2 (Or.inr rfl)) (udec 2 (Or.inr rfl)) (uin 2))
    · exact M_S1 hE hP hpl hT d (j + 1) f (by omega) h012 (fun i hi => by
        by_cases y : i = j
        · rw [y]; exact z
        · exact hdec i (by omega)) (fun i h1 h2 => hin i (by omega) h2)
theorem M_S2 {el : List (Nat × Nat)} {P : Nat} {hb : Nat → Bool} {T : List Int64} {q0 : Nat} (hE : El25 el) (hP : P ≤ 25) (hpl : ∀ (i a b : Nat), el[i]? = some (a, b) → plH P hb a = true ∧ plH P hb b = true) (hT : TLs el (plH P hb) T) (hq0 : plH P hb q0 = true) : ∀ (m : Nat) (f : Nat → Int32), m ≤ el.length → (∀ i, i < el.length → f i = 0 ∨ f i = 1 ∨ f i = 2) → (∀ i, m ≤ i → i < el.length → f i ≠ 1) → MainP el P hb T f
  | 0, f, _, h012, hin => M_S1 hE hP hpl hT el.length 0 f (by omega) h012 (fun i hi => absurd hi (Nat.not_lt_zero _)) hin
  | m + 1, f, hm, h012, hin => by
    by_cases z : f m = 1
    · have u012 : ∀ v : Int32, (v = 0 ∨ v = 2) → ∀ i, i < el.length → upd f m v i = 0 ∨ upd f m v i = 1 ∨ upd f m v i = 2 := fun v hv i hi => by
        by_cases y : i = m
        · rw [y, upd_s]; rcases hv with u | u
          · exact Or.inl u
          · exact Or.inr (Or.inr u)
        · rw [upd_n y]; exact h012 i hi
      have uin : ∀ v : Int32, (v = 0 ∨ v = 2) → ∀ i, m ≤ i → i < el.length → upd f m v i ≠ 1 := fun v hv i h1 h2 => by
        by_cases y : i = m
        · rw [y, upd_s]; rcases hv with u | u <;> rw [u] <;> decide
        · rw [upd_n y]; exact hin i (by omega) h2
      have hback := R_bwd (f := upd f m 0) (e := m) hE hP hpl hq0 (by omega) upd_s (fun i h1 h2 => uin 0 (Or.inl rfl) i (by omega) h2)
        (M_S2 hE hP hpl hT hq0 m (upd f m 0) (by omega) (u012 0 (Or.inl rfl)) (uin 0 (Or.inl rfl)))
        (by rw [upd_upd]; exact M_S2 hE hP hpl hT hq0 m (upd f m 2) (by omega) (u012 2 (Or.inr rfl)) (uin 2 (Or.inr rfl)))
      rw [upd_upd] at hback
      have : upd f m 1 = f := by
        funext i
        by_cases y : i = m
        · rw [y, upd_s, z]
        · rw [upd_n y]
      rw [this] at hback
      exact hback
    · exact M_S2 hE hP hpl hT hq0 m f (by omega) h012 (fun i h1 h2 => by
        by_cases y : i = m
        · rw [y]; exact z
        · exact hin i (by omega) h2)
