/-! THE E LAYER: the kit's rows over one packed context, so that a row of a walk names its decode row and little else.
Locals are a list whose first entry counts (a store puts one in front), the world is the kit's list of cells. -/
def lu : List (Nat × Option Value) → Nat → Option Value
  | [], _ => none
  | (j, v) :: r, i => cond (Nat.beq j i) v (lu r i)
def lu_k (lv : List (Nat × Option Value)) : Nat → Bool
  | 0 => true
  | k + 1 => match lu lv k with
    | some v => Nat.beq v.category 1
    | none => true
def est (lv : List (Nat × Option Value)) (i : Nat) (v : Value) : List (Nat × Option Value) := (i, some v) :: cond (lu_k lv i) lv ((i - 1, none) :: lv)
def est2 (lv : List (Nat × Option Value)) (i : Nat) (v : Value) : List (Nat × Option Value) := (i, some v) :: (i + 1, none) :: cond (lu_k lv i) lv ((i - 1, none) :: lv)
def eL (ls : Array Slot) (nL : Nat) (lv : List (Nat × Option Value)) : Prop := ls.size = nL ∧ lv_wf ls ∧ ∀ (i : Nat) (v : Value), lu lv i = some v → ls[i]? = some (.val v)
def eL_l (nL : Nat) (lv : List (Nat × Option Value)) : List (Nat × Value) := (List.range nL).filterMap (fun i => (lu lv i).map (fun v => (i, v)))
theorem eL_all {ls : Array Slot} {nL : Nat} {lv : List (Nat × Option Value)} (h : eL ls nL lv) : lv_has ls nL (eL_l nL lv) := by
  refine ⟨h.1, h.2.1, fun q hq => ?_⟩
  obtain ⟨i, -, hi⟩ := List.mem_filterMap.mp hq
  cases hv : lu lv i with
  | none => rw [hv] at hi; cases hi
  | some v => rw [hv] at hi; cases hi; exact h.2.2 i v hv
theorem eL_mem {ls : Array Slot} {nL : Nat} {lv : List (Nat × Option Value)} (h : eL ls nL lv) {i : Nat} {v : Value} (hv : lu lv i = some v) : (i, v) ∈ eL_l nL lv := by
  refine List.mem_filterMap.mpr ⟨i, List.mem_range.mpr ?_, by rw [hv]; rfl⟩
  have h1 := lv_lt (h.2.2 i v hv)
  rw [h.1] at h1
  exact h1
theorem lu_cons {j i : Nat} {v : Option Value} {r : List (Nat × Option Value)} : lu ((j, v) :: r) i = if j = i then v else lu r i := by
  show cond (Nat.beq j i) v (lu r i) = _
  by_cases h : j = i
  · subst h
    simp
  · have hb : Nat.beq j i = false := by
      cases hb : Nat.beq j i with
      | false => rfl
      | true => exact absurd (Nat.eq_of_beq_eq_true hb) h
    rw [hb, if_neg h]
    rfl
theorem lu_keep {lv : List (Nat × Option Value)} {i j : Nat} {w : Value} (h : lu (cond (lu_k lv i) lv ((i - 1, none) :: lv)) j = some w) : lu lv j = some w ∧ ¬ (j + 1 = i ∧ w.category = 2) := by
  cases hk : lu_k lv i with
  | true =>
    rw [hk] at h
    refine ⟨h, fun hj => ?_⟩
    obtain ⟨h1, h2⟩ := hj
    subst h1
    have h' : lu lv j = some w := h
    have h3 : Nat.beq w.category 1 = true := by
      have h4 : lu_k lv (j + 1) = (match lu lv j with
        | some v => Nat.beq v.category 1
        | none => true) := rfl
      rw [h4, h'] at hk
      exact hk
    have h5 := Nat.eq_of_beq_eq_true h3
    omega
  | false =>
    rw [hk] at h
    have h' : lu ((i - 1, none) :: lv) j = some w := h
    rw [lu_cons] at h'
    by_cases hj : i - 1 = j
    · rw [if_pos hj] at h'; cases h'
    · rw [if_neg hj] at h'
      exact ⟨h', fun q => hj (by omega)⟩
theorem eL_st1 {ls ls' : Array Slot} {nL i : Nat} {v : Value} {lv : List (Nat × Option Value)} (h : eL ls nL lv) (hl : lv_has ls' nL ((i, v) :: (eL_l nL lv).filter (fun q => !(q.1 == i) && !(q.1 + 1 == i && q.2.category == 2)))) : eL ls' nL (est lv i v) := by
  refine ⟨hl.1, hl.2.1, fun j w hw => ?_⟩
  unfold est at hw
  rw [lu_cons] at hw
  by_cases hj : i = j
  · rw [if_pos hj] at hw
    cases hw
    subst hj
    exact hl.2.2 (i, v) List.mem_cons_self
  · rw [if_neg hj] at hw
    obtain ⟨h1, h2⟩ := lu_keep hw
    refine hl.2.2 (j, w) (List.mem_cons_of_mem _ (List.mem_filter.mpr ⟨eL_mem h h1, ?_⟩))
    have h3 : ¬ j = i := fun q => hj q.symm
    simp only [Bool.and_eq_true, Bool.not_eq_true', beq_eq_false_iff_ne, ne_eq, Bool.and_eq_false_iff]
    refine ⟨h3, ?_⟩
    by_cases hj2 : j + 1 = i
    · exact Or.inr (fun q => h2 ⟨hj2, q⟩)
    · exact Or.inl hj2
theorem eL_st2 {ls ls' : Array Slot} {nL i : Nat} {v : Value} {lv : List (Nat × Option Value)} (h : eL ls nL lv) (hl : lv_has ls' nL ((i, v) :: (eL_l nL lv).filter (fun q => !(q.1 == i) && (!(q.1 == i + 1) && !(q.1 + 1 == i && q.2.category == 2))))) : eL ls' nL (est2 lv i v) := by
  refine ⟨hl.1, hl.2.1, fun j w hw => ?_⟩
  unfold est2 at hw
  rw [lu_cons] at hw
  by_cases hj : i = j
  · rw [if_pos hj] at hw
    cases hw
    subst hj
    exact hl.2.2 (i, v) List.mem_cons_self
  · rw [if_neg hj, lu_cons] at hw
    by_cases hj1 : i + 1 = j
    · rw [if_pos hj1] at hw; cases hw
    · rw [if_neg hj1] at hw
      obtain ⟨h1, h2⟩ := lu_keep hw
      refine hl.2.2 (j, w) (List.mem_cons_of_mem _ (List.mem_filter.mpr ⟨eL_mem h h1, ?_⟩))
      have h3 : ¬ j = i := fun q => hj q.symm
      have h4 : ¬ j = i + 1 := fun q => hj1 q.symm
      simp only [Bool.and_eq_true, Bool.not_eq_true', beq_eq_false_iff_ne, ne_eq, Bool.and_eq_false_iff]
      refine ⟨h3, h4, ?_⟩
      by_cases hj2 : j + 1 = i
      · exact Or.inr (fun q => h2 ⟨hj2, q⟩)
      · exact Or.inl hj2
/-- fewer locals, or others that are looked up alike -/
theorem eL_sub {ls : Array Slot} {nL : Nat} {lv lv' : List (Nat × Option Value)} (h : eL ls nL lv) (hs : ∀ q ∈ lv', ∀ v, q.2 = some v → lu lv q.1 = some v) : eL ls nL lv' := by
  refine ⟨h.1, h.2.1, fun i v hv => h.2.2 i v ?_⟩
  clear h
  induction lv' with
  | nil => cases hv
  | cons a r ih =>
    obtain ⟨j, w⟩ := a
    rw [lu_cons] at hv
    by_cases hj : j = i
    · rw [if_pos hj] at hv
      subst hj
      exact hs (j, w) List.mem_cons_self v hv
    · rw [if_neg hj] at hv
      exact ih (fun q hq => hs q (List.mem_cons_of_mem _ hq)) hv
def lu_all (lv : List (Nat × Option Value)) : List (Nat × Value) → Prop
  | [] => True
  | (i, v) :: r => lu lv i = some v ∧ lu_all lv r
def lu_o (l : List (Nat × Value)) : List (Nat × Option Value) := l.map (fun q => (q.1, some q.2))
theorem lu_all_sub {lv : List (Nat × Option Value)} {l : List (Nat × Value)} (h : lu_all lv l) : ∀ q ∈ lu_o l, ∀ v, q.2 = some v → lu lv q.1 = some v := by
  induction l with
  | nil => intro q hq; cases hq
  | cons a r ih =>
    obtain ⟨i, w⟩ := a
    intro q hq v hv
    rcases List.mem_cons.mp hq with rfl | hq
    · cases hv; exact h.1
    · exact ih h.2 q hq v hv
theorem eL_entry (vs : List Value) {n : Nat} (h : (lg_sl vs).length ≤ n) : eL ((lg_sl vs ++ List.replicate (n - (lg_sl vs).length) Slot.unset).toArray) n (lu_o (lv_args 0 vs)) := by
  have h1 := lv_entry vs h
  refine ⟨h1.1, h1.2.1, fun i v hv => ?_⟩
  refine h1.2.2 (i, v) ?_
  generalize lv_args 0 vs = l at hv
  induction l with
  | nil => cases hv
  | cons a r ih =>
    obtain ⟨j, w⟩ := a
    have hv' : lu ((j, some w) :: lu_o r) i = some v := hv
    rw [lu_cons] at hv'
    by_cases hj : j = i
    · rw [if_pos hj] at hv'
      cases hv'
      subst hj
      exact List.mem_cons_self
    · rw [if_neg hj] at hv'
      exact List.mem_cons_of_mem _ (ih hv')
abbrev eT : Type := Program × Launch × Env × Room × State × MethodId × Array Value × List Frame × Method × Code × (Nat → Prop) × Nat × va_G × List vw_C × (State → Prop)
def E (κ : eT) (lv : List (Nat × Option Value)) (st : List Value) (ws : va_W) (k n pc : Nat) : Prop :=
  match κ with
  | (p, l, e, R, s, m, args, below, meth, c, A, nL, D, cl, Q) => ∀ (H : Heap) (locs : List Loc) (ls : Array Slot), eL ls nL lv → va_P D cl ws H → va_D A ws → va_S A s.heap H locs → W p l e R s m args below meth c H locs k n Q (F0 m pc ls st)
/-- what holds all through a method's body -/
def Cb (κ : eT) (cc : ByteArray) (nL : Nat) (own : String) (Ts : List Cond) (R : Room) (l : Launch) (D : va_G) (cl : List vw_C) (tys : List (ClassId × FieldType)) (nw : List Cond) : Prop :=
  match κ with
  | (p, l', _, R', s, m, args, _, _, c, A, nL', D', cl', _) => l' = l ∧ R' = R ∧ nL' = nL ∧ D' = D ∧ cl' = cl ∧ p.tables.exec = Jvm.exec ∧ c.code = cc ∧ c.maxLocals = nL ∧ s.vm.findClass own = some m.cls ∧ (∀ w ∈ Ts, w.before args s = true) ∧ (∀ w ∈ Ts, goodWord w = true) ∧ va_K D cl tys s ∧ (∀ w ∈ nw, va_Nw w s) ∧ (∀ q : Nat, s.heap.size ≤ q → A q)
section EROWS
variable {κ : eT} {cc : ByteArray} {nL : Nat} {own : String} {Ts : List Cond} {R : Room} {l : Launch} {D : va_G} {cl : List vw_C} {tys : List (ClassId × FieldType)} {nw : List Cond} {lv : List (Nat × Option Value)} {st : List Value} {ws : va_W} {k n pc : Nat}
/-- the same locals, looked up alike; the same world, written otherwise -/
theorem e_lv (l' : List (Nat × Value)) (h : lu_all lv l') (kk : E κ (lu_o l') st ws k n pc) : E κ lv st ws k n pc := by
  obtain ⟨p, l0, e, R0, s, m, args, below, meth, c, A, nL0, D0, cl0, Q⟩ := κ
  exact fun H locs ls hl hP hD hS => kk H locs ls (eL_sub hl (lu_all_sub h)) hP hD hS
theorem e_ws (ws' : va_W) (h : ws = ws') (kk : E κ lv st ws' k n pc) : E κ lv st ws k n pc := by
  subst h
  exact kk
theorem e_st (st' : List Value) (h : st = st') (kk : E κ lv st' ws k n pc) : E κ lv st ws k n pc := by
  subst h
  exact kk
theorem e_ti {x : Int32} (kk : ∀ y : Int32, y = x → E κ lv (.int y :: st) ws k n pc) : E κ lv (.int x :: st) ws k n pc := kk x rfl
theorem e_tl {x : Int64} (kk : ∀ y : Int64, y = x → E κ lv (.long y :: st) ws k n pc) : E κ lv (.long x :: st) ws k n pc := kk x rfl
theorem e_wide {k' n' : Nat} (h1 : k ≤ k') (h2 : n ≤ n') (kk : E κ lv st ws k' n' pc) : E κ lv st ws k n pc := by
  obtain ⟨p, l0, e, R0, s, m, args, below, meth, c, A, nL0, D0, cl0, Q⟩ := κ
  exact fun H locs ls hl hP hD hS => W.widen h1 h2 (kk H locs ls hl hP hD hS)
theorem e_iconst {z : Int} {v : Int32} (C : Cb κ cc nL own Ts R l D cl tys nw) (hdg : decode cc pc = .ok (.iconst z, 1)) (hv : Int32.ofInt z = v) (kk : E κ lv (.int v :: st) ws k n (pc + 1)) : E κ lv (st) ws k n pc := by
  obtain ⟨p, l0, e, R0, s, m, args, below, meth, c, A, nL0, D0, cl0, Q⟩ := κ
  obtain ⟨rfl, rfl, rfl, rfl, rfl, hx, hb, hml, hown, hts, hgT, hK, hnw, hA⟩ := C
  exact fun H locs ls hl hP hD hS => lv_iconst hx hb hdg hv (kk H locs ls hl hP hD hS)
theorem e_bipush {z : Int} {v : Int32} (C : Cb κ cc nL own Ts R l D cl tys nw) (hdg : decode cc pc = .ok (.bipush z, 2)) (hv : (Int8.ofInt z).toInt32 = v) (kk : E κ lv (.int v :: st) ws k n (pc + 2)) : E κ lv (st) ws k n pc := by
  obtain ⟨p, l0, e, R0, s, m, args, below, meth, c, A, nL0, D0, cl0, Q⟩ := κ
  obtain ⟨rfl, rfl, rfl, rfl, rfl, hx, hb, hml, hown, hts, hgT, hK, hnw, hA⟩ := C
  exact fun H locs ls hl hP hD hS => lv_bipush hx hb hdg hv (kk H locs ls hl hP hD hS)
theorem e_sipush {z : Int} {v : Int32} (C : Cb κ cc nL own Ts R l D cl tys nw) (hdg : decode cc pc = .ok (.sipush z, 3)) (hv : (Int16.ofInt z).toInt32 = v) (kk : E κ lv (.int v :: st) ws k n (pc + 3)) : E κ lv (st) ws k n pc := by
  obtain ⟨p, l0, e, R0, s, m, args, below, meth, c, A, nL0, D0, cl0, Q⟩ := κ
  obtain ⟨rfl, rfl, rfl, rfl, rfl, hx, hb, hml, hown, hts, hgT, hK, hnw, hA⟩ := C
  exact fun H locs ls hl hP hD hS => lv_sipush hx hb hdg hv (kk H locs ls hl hP hD hS)
theorem e_lconst {z : Fin 2} {v : Int64} (C : Cb κ cc nL own Ts R l D cl tys nw) (hdg : decode cc pc = .ok (.lconst z, 1)) (hv : Int64.ofNat (z : Nat) = v) (kk : E κ lv (.long v :: st) ws k n (pc + 1)) : E κ lv (st) ws k n pc := by
  obtain ⟨p, l0, e, R0, s, m, args, below, meth, c, A, nL0, D0, cl0, Q⟩ := κ
  obtain ⟨rfl, rfl, rfl, rfl, rfl, hx, hb, hml, hown, hts, hgT, hK, hnw, hA⟩ := C
  exact fun H locs ls hl hP hD hS => lv_lconst hx hb hdg hv (kk H locs ls hl hP hD hS)
theorem e_iload_n {j : Fin 4} {i : Nat} {x : Int32} (C : Cb κ cc nL own Ts R l D cl tys nw) (hdg : decode cc pc = .ok (.iload_n j, 1)) (hi : (j : Nat) = i) (hv : lu lv i = some (.int x)) (kk : E κ lv (.int x :: st) ws k n (pc + 1)) : E κ lv st ws k n pc := by
  obtain ⟨p, l0, e, R0, s, m, args, below, meth, c, A, nL0, D0, cl0, Q⟩ := κ
  obtain ⟨rfl, rfl, rfl, rfl, rfl, hx, hb, hml, hown, hts, hgT, hK, hnw, hA⟩ := C
  exact fun H locs ls hl hP hD hS => lv_iload_n hx hb hdg hi (hl.2.2 i _ hv) (kk H locs ls hl hP hD hS)
theorem e_iload {i : Nat} {x : Int32} (C : Cb κ cc nL own Ts R l D cl tys nw) (hdg : decode cc pc = .ok (.iload i, 2)) (hv : lu lv i = some (.int x)) (kk : E κ lv (.int x :: st) ws k n (pc + 2)) : E κ lv st ws k n pc := by
  obtain ⟨p, l0, e, R0, s, m, args, below, meth, c, A, nL0, D0, cl0, Q⟩ := κ
  obtain ⟨rfl, rfl, rfl, rfl, rfl, hx, hb, hml, hown, hts, hgT, hK, hnw, hA⟩ := C
  exact fun H locs ls hl hP hD hS => lv_iload hx hb hdg (hl.2.2 i _ hv) (kk H locs ls hl hP hD hS)
theorem e_istore_n {j : Fin 4} {i : Nat} {x : Int32} (C : Cb κ cc nL own Ts R l D cl tys nw) (hdg : decode cc pc = .ok (.istore_n j, 1)) (hi : (j : Nat) = i) (hn : i < nL) (kk : E κ (est lv i (.int x)) st ws k n (pc + 1)) : E κ lv (.int x :: st) ws k n pc := by
  obtain ⟨p, l0, e, R0, s, m, args, below, meth, c, A, nL0, D0, cl0, Q⟩ := κ
  obtain ⟨rfl, rfl, rfl, rfl, rfl, hx, hb, hml, hown, hts, hgT, hK, hnw, hA⟩ := C
  exact fun H locs ls hl hP hD hS => lv_istore_n hx hb hdg hi (eL_all hl) hn rfl (fun ls' hl' => kk H locs ls' (eL_st1 hl hl') hP hD hS)
theorem e_istore {i : Nat} {x : Int32} (C : Cb κ cc nL own Ts R l D cl tys nw) (hdg : decode cc pc = .ok (.istore i, 2)) (hn : i < nL) (kk : E κ (est lv i (.int x)) st ws k n (pc + 2)) : E κ lv (.int x :: st) ws k n pc := by
  obtain ⟨p, l0, e, R0, s, m, args, below, meth, c, A, nL0, D0, cl0, Q⟩ := κ
  obtain ⟨rfl, rfl, rfl, rfl, rfl, hx, hb, hml, hown, hts, hgT, hK, hnw, hA⟩ := C
  exact fun H locs ls hl hP hD hS => lv_istore hx hb hdg (eL_all hl) hn rfl (fun ls' hl' => kk H locs ls' (eL_st1 hl hl') hP hD hS)
theorem e_lload_n {j : Fin 4} {i : Nat} {x : Int64} (C : Cb κ cc nL own Ts R l D cl tys nw) (hdg : decode cc pc = .ok (.lload_n j, 1)) (hi : (j : Nat) = i) (hv : lu lv i = some (.long x)) (kk : E κ lv (.long x :: st) ws k n (pc + 1)) : E κ lv st ws k n pc := by
  obtain ⟨p, l0, e, R0, s, m, args, below, meth, c, A, nL0, D0, cl0, Q⟩ := κ
  obtain ⟨rfl, rfl, rfl, rfl, rfl, hx, hb, hml, hown, hts, hgT, hK, hnw, hA⟩ := C
  exact fun H locs ls hl hP hD hS => lv_lload_n hx hb hdg hi (hl.2.2 i _ hv) (kk H locs ls hl hP hD hS)
theorem e_lload {i : Nat} {x : Int64} (C : Cb κ cc nL own Ts R l D cl tys nw) (hdg : decode cc pc = .ok (.lload i, 2)) (hv : lu lv i = some (.long x)) (kk : E κ lv (.long x :: st) ws k n (pc + 2)) : E κ lv st ws k n pc := by
  obtain ⟨p, l0, e, R0, s, m, args, below, meth, c, A, nL0, D0, cl0, Q⟩ := κ
  obtain ⟨rfl, rfl, rfl, rfl, rfl, hx, hb, hml, hown, hts, hgT, hK, hnw, hA⟩ := C
  exact fun H locs ls hl hP hD hS => lv_lload hx hb hdg (hl.2.2 i _ hv) (kk H locs ls hl hP hD hS)
theorem e_lstore_n {j : Fin 4} {i : Nat} {x : Int64} (C : Cb κ cc nL own Ts R l D cl tys nw) (hdg : decode cc pc = .ok (.lstore_n j, 1)) (hi : (j : Nat) = i) (hn : i + 1 < nL) (kk : E κ (est2 lv i (.long x)) st ws k n (pc + 1)) : E κ lv (.long x :: st) ws k n pc := by
  obtain ⟨p, l0, e, R0, s, m, args, below, meth, c, A, nL0, D0, cl0, Q⟩ := κ
  obtain ⟨rfl, rfl, rfl, rfl, rfl, hx, hb, hml, hown, hts, hgT, hK, hnw, hA⟩ := C
  exact fun H locs ls hl hP hD hS => lv_lstore_n hx hb hdg hi (eL_all hl) hn rfl (fun ls' hl' => kk H locs ls' (eL_st2 hl hl') hP hD hS)
theorem e_lstore {i : Nat} {x : Int64} (C : Cb κ cc nL own Ts R l D cl tys nw) (hdg : decode cc pc = .ok (.lstore i, 2)) (hn : i + 1 < nL) (kk : E κ (est2 lv i (.long x)) st ws k n (pc + 2)) : E κ lv (.long x :: st) ws k n pc := by
  obtain ⟨p, l0, e, R0, s, m, args, below, meth, c, A, nL0, D0, cl0, Q⟩ := κ
  obtain ⟨rfl, rfl, rfl, rfl, rfl, hx, hb, hml, hown, hts, hgT, hK, hnw, hA⟩ := C
  exact fun H locs ls hl hP hD hS => lv_lstore hx hb hdg (eL_all hl) hn rfl (fun ls' hl' => kk H locs ls' (eL_st2 hl hl') hP hD hS)
theorem e_aload_n {j : Fin 4} {i : Nat} {x : Nat} (C : Cb κ cc nL own Ts R l D cl tys nw) (hdg : decode cc pc = .ok (.aload_n j, 1)) (hi : (j : Nat) = i) (hv : lu lv i = some (.ref x)) (kk : E κ lv (.ref x :: st) ws k n (pc + 1)) : E κ lv st ws k n pc := by
  obtain ⟨p, l0, e, R0, s, m, args, below, meth, c, A, nL0, D0, cl0, Q⟩ := κ
  obtain ⟨rfl, rfl, rfl, rfl, rfl, hx, hb, hml, hown, hts, hgT, hK, hnw, hA⟩ := C
  exact fun H locs ls hl hP hD hS => lv_aload_n hx hb hdg hi (hl.2.2 i _ hv) (kk H locs ls hl hP hD hS)
theorem e_aload {i : Nat} {x : Nat} (C : Cb κ cc nL own Ts R l D cl tys nw) (hdg : decode cc pc = .ok (.aload i, 2)) (hv : lu lv i = some (.ref x)) (kk : E κ lv (.ref x :: st) ws k n (pc + 2)) : E κ lv st ws k n pc := by
  obtain ⟨p, l0, e, R0, s, m, args, below, meth, c, A, nL0, D0, cl0, Q⟩ := κ
  obtain ⟨rfl, rfl, rfl, rfl, rfl, hx, hb, hml, hown, hts, hgT, hK, hnw, hA⟩ := C
  exact fun H locs ls hl hP hD hS => lv_aload hx hb hdg (hl.2.2 i _ hv) (kk H locs ls hl hP hD hS)
theorem e_astore_n {j : Fin 4} {i : Nat} {x : Nat} (C : Cb κ cc nL own Ts R l D cl tys nw) (hdg : decode cc pc = .ok (.astore_n j, 1)) (hi : (j : Nat) = i) (hn : i < nL) (kk : E κ (est lv i (.ref x)) st ws k n (pc + 1)) : E κ lv (.ref x :: st) ws k n pc := by
  obtain ⟨p, l0, e, R0, s, m, args, below, meth, c, A, nL0, D0, cl0, Q⟩ := κ
  obtain ⟨rfl, rfl, rfl, rfl, rfl, hx, hb, hml, hown, hts, hgT, hK, hnw, hA⟩ := C
  exact fun H locs ls hl hP hD hS => lv_astore_n hx hb hdg hi (eL_all hl) hn rfl (fun ls' hl' => kk H locs ls' (eL_st1 hl hl') hP hD hS)
theorem e_astore {i : Nat} {x : Nat} (C : Cb κ cc nL own Ts R l D cl tys nw) (hdg : decode cc pc = .ok (.astore i, 2)) (hn : i < nL) (kk : E κ (est lv i (.ref x)) st ws k n (pc + 2)) : E κ lv (.ref x :: st) ws k n pc := by
  obtain ⟨p, l0, e, R0, s, m, args, below, meth, c, A, nL0, D0, cl0, Q⟩ := κ
  obtain ⟨rfl, rfl, rfl, rfl, rfl, hx, hb, hml, hown, hts, hgT, hK, hnw, hA⟩ := C
  exact fun H locs ls hl hP hD hS => lv_astore hx hb hdg (eL_all hl) hn rfl (fun ls' hl' => kk H locs ls' (eL_st1 hl hl') hP hD hS)
theorem e_iinc {i : Nat} {z : Int} {x v : Int32} (C : Cb κ cc nL own Ts R l D cl tys nw) (hdg : decode cc pc = .ok (.iinc i z, 3)) (hv : lu lv i = some (.int x)) (hz : x + Int32.ofInt z = v) (hn : i < nL) (kk : E κ (est lv i (.int v)) st ws k n (pc + 3)) : E κ lv st ws k n pc := by
  obtain ⟨p, l0, e, R0, s, m, args, below, meth, c, A, nL0, D0, cl0, Q⟩ := κ
  obtain ⟨rfl, rfl, rfl, rfl, rfl, hx, hb, hml, hown, hts, hgT, hK, hnw, hA⟩ := C
  intro H locs ls hl hP hD hS
  obtain ⟨q, hq⟩ := List.getElem?_of_mem (eL_mem hl hv)
  exact lv_iinc hx hb hdg (eL_all hl) hq hz hn rfl (fun ls' hl' => kk H locs ls' (eL_st1 hl hl') hP hD hS)
theorem e_iadd {x y : Int32} (C : Cb κ cc nL own Ts R l D cl tys nw) (hdg : decode cc pc = .ok (.iadd, 1))  (kk : E κ lv (.int (x + y) :: st) ws k n (pc + 1)) : E κ lv (.int y :: .int x :: st) ws k n pc := by
  obtain ⟨p, l0, e, R0, s, m, args, below, meth, c, A, nL0, D0, cl0, Q⟩ := κ
  obtain ⟨rfl, rfl, rfl, rfl, rfl, hx, hb, hml, hown, hts, hgT, hK, hnw, hA⟩ := C
  exact fun H locs ls hl hP hD hS => lv_iadd hx hb hdg  (kk H locs ls hl hP hD hS)
theorem e_isub {x y : Int32} (C : Cb κ cc nL own Ts R l D cl tys nw) (hdg : decode cc pc = .ok (.isub, 1))  (kk : E κ lv (.int (x - y) :: st) ws k n (pc + 1)) : E κ lv (.int y :: .int x :: st) ws k n pc := by
  obtain ⟨p, l0, e, R0, s, m, args, below, meth, c, A, nL0, D0, cl0, Q⟩ := κ
  obtain ⟨rfl, rfl, rfl, rfl, rfl, hx, hb, hml, hown, hts, hgT, hK, hnw, hA⟩ := C
  exact fun H locs ls hl hP hD hS => lv_isub hx hb hdg  (kk H locs ls hl hP hD hS)
theorem e_imul {x y : Int32} (C : Cb κ cc nL own Ts R l D cl tys nw) (hdg : decode cc pc = .ok (.imul, 1))  (kk : E κ lv (.int (x * y) :: st) ws k n (pc + 1)) : E κ lv (.int y :: .int x :: st) ws k n pc := by
  obtain ⟨p, l0, e, R0, s, m, args, below, meth, c, A, nL0, D0, cl0, Q⟩ := κ
  obtain ⟨rfl, rfl, rfl, rfl, rfl, hx, hb, hml, hown, hts, hgT, hK, hnw, hA⟩ := C
  exact fun H locs ls hl hP hD hS => lv_imul hx hb hdg  (kk H locs ls hl hP hD hS)
theorem e_iand {x y : Int32} (C : Cb κ cc nL own Ts R l D cl tys nw) (hdg : decode cc pc = .ok (.iand, 1))  (kk : E κ lv (.int (x &&& y) :: st) ws k n (pc + 1)) : E κ lv (.int y :: .int x :: st) ws k n pc := by
  obtain ⟨p, l0, e, R0, s, m, args, below, meth, c, A, nL0, D0, cl0, Q⟩ := κ
  obtain ⟨rfl, rfl, rfl, rfl, rfl, hx, hb, hml, hown, hts, hgT, hK, hnw, hA⟩ := C
  exact fun H locs ls hl hP hD hS => lv_iand hx hb hdg  (kk H locs ls hl hP hD hS)
theorem e_ior {x y : Int32} (C : Cb κ cc nL own Ts R l D cl tys nw) (hdg : decode cc pc = .ok (.ior, 1))  (kk : E κ lv (.int (x ||| y) :: st) ws k n (pc + 1)) : E κ lv (.int y :: .int x :: st) ws k n pc := by
  obtain ⟨p, l0, e, R0, s, m, args, below, meth, c, A, nL0, D0, cl0, Q⟩ := κ
  obtain ⟨rfl, rfl, rfl, rfl, rfl, hx, hb, hml, hown, hts, hgT, hK, hnw, hA⟩ := C
  exact fun H locs ls hl hP hD hS => lv_ior hx hb hdg  (kk H locs ls hl hP hD hS)
theorem e_ixor {x y : Int32} (C : Cb κ cc nL own Ts R l D cl tys nw) (hdg : decode cc pc = .ok (.ixor, 1))  (kk : E κ lv (.int (x ^^^ y) :: st) ws k n (pc + 1)) : E κ lv (.int y :: .int x :: st) ws k n pc := by
  obtain ⟨p, l0, e, R0, s, m, args, below, meth, c, A, nL0, D0, cl0, Q⟩ := κ
  obtain ⟨rfl, rfl, rfl, rfl, rfl, hx, hb, hml, hown, hts, hgT, hK, hnw, hA⟩ := C
  exact fun H locs ls hl hP hD hS => lv_ixor hx hb hdg  (kk H locs ls hl hP hD hS)
theorem e_ishl {x y : Int32} (C : Cb κ cc nL own Ts R l D cl tys nw) (hdg : decode cc pc = .ok (.ishl, 1))  (kk : E κ lv (.int (x <<< (y &&& 31)) :: st) ws k n (pc + 1)) : E κ lv (.int y :: .int x :: st) ws k n pc := by
  obtain ⟨p, l0, e, R0, s, m, args, below, meth, c, A, nL0, D0, cl0, Q⟩ := κ
  obtain ⟨rfl, rfl, rfl, rfl, rfl, hx, hb, hml, hown, hts, hgT, hK, hnw, hA⟩ := C
  exact fun H locs ls hl hP hD hS => lv_ishl hx hb hdg  (kk H locs ls hl hP hD hS)
theorem e_ishr {x y : Int32} (C : Cb κ cc nL own Ts R l D cl tys nw) (hdg : decode cc pc = .ok (.ishr, 1))  (kk : E κ lv (.int (x >>> (y &&& 31)) :: st) ws k n (pc + 1)) : E κ lv (.int y :: .int x :: st) ws k n pc := by
  obtain ⟨p, l0, e, R0, s, m, args, below, meth, c, A, nL0, D0, cl0, Q⟩ := κ
  obtain ⟨rfl, rfl, rfl, rfl, rfl, hx, hb, hml, hown, hts, hgT, hK, hnw, hA⟩ := C
  exact fun H locs ls hl hP hD hS => lv_ishr hx hb hdg  (kk H locs ls hl hP hD hS)
theorem e_idiv {x y : Int32} (C : Cb κ cc nL own Ts R l D cl tys nw) (hdg : decode cc pc = .ok (.idiv, 1)) (hne : ¬ y = 0) (kk : E κ lv (.int (x / y) :: st) ws k n (pc + 1)) : E κ lv (.int y :: .int x :: st) ws k n pc := by
  obtain ⟨p, l0, e, R0, s, m, args, below, meth, c, A, nL0, D0, cl0, Q⟩ := κ
  obtain ⟨rfl, rfl, rfl, rfl, rfl, hx, hb, hml, hown, hts, hgT, hK, hnw, hA⟩ := C
  exact fun H locs ls hl hP hD hS => lv_idiv hx hb hdg hne (kk H locs ls hl hP hD hS)
theorem e_irem {x y : Int32} (C : Cb κ cc nL own Ts R l D cl tys nw) (hdg : decode cc pc = .ok (.irem, 1)) (hne : ¬ y = 0) (kk : E κ lv (.int (x - x / y * y) :: st) ws k n (pc + 1)) : E κ lv (.int y :: .int x :: st) ws k n pc := by
  obtain ⟨p, l0, e, R0, s, m, args, below, meth, c, A, nL0, D0, cl0, Q⟩ := κ
  obtain ⟨rfl, rfl, rfl, rfl, rfl, hx, hb, hml, hown, hts, hgT, hK, hnw, hA⟩ := C
  exact fun H locs ls hl hP hD hS => lv_irem hx hb hdg hne (kk H locs ls hl hP hD hS)
theorem e_ineg {x : Int32} (C : Cb κ cc nL own Ts R l D cl tys nw) (hdg : decode cc pc = .ok (.ineg, 1))  (kk : E κ lv (.int (-x) :: st) ws k n (pc + 1)) : E κ lv (.int x :: st) ws k n pc := by
  obtain ⟨p, l0, e, R0, s, m, args, below, meth, c, A, nL0, D0, cl0, Q⟩ := κ
  obtain ⟨rfl, rfl, rfl, rfl, rfl, hx, hb, hml, hown, hts, hgT, hK, hnw, hA⟩ := C
  exact fun H locs ls hl hP hD hS => lv_ineg hx hb hdg  (kk H locs ls hl hP hD hS)
theorem e_ladd {x y : Int64} (C : Cb κ cc nL own Ts R l D cl tys nw) (hdg : decode cc pc = .ok (.ladd, 1))  (kk : E κ lv (.long (x + y) :: st) ws k n (pc + 1)) : E κ lv (.long y :: .long x :: st) ws k n pc := by
  obtain ⟨p, l0, e, R0, s, m, args, below, meth, c, A, nL0, D0, cl0, Q⟩ := κ
  obtain ⟨rfl, rfl, rfl, rfl, rfl, hx, hb, hml, hown, hts, hgT, hK, hnw, hA⟩ := C
  exact fun H locs ls hl hP hD hS => lv_ladd hx hb hdg  (kk H locs ls hl hP hD hS)
theorem e_lsub {x y : Int64} (C : Cb κ cc nL own Ts R l D cl tys nw) (hdg : decode cc pc = .ok (.lsub, 1))  (kk : E κ lv (.long (x - y) :: st) ws k n (pc + 1)) : E κ lv (.long y :: .long x :: st) ws k n pc := by
  obtain ⟨p, l0, e, R0, s, m, args, below, meth, c, A, nL0, D0, cl0, Q⟩ := κ
  obtain ⟨rfl, rfl, rfl, rfl, rfl, hx, hb, hml, hown, hts, hgT, hK, hnw, hA⟩ := C
  exact fun H locs ls hl hP hD hS => lv_lsub hx hb hdg  (kk H locs ls hl hP hD hS)
theorem e_lmul {x y : Int64} (C : Cb κ cc nL own Ts R l D cl tys nw) (hdg : decode cc pc = .ok (.lmul, 1))  (kk : E κ lv (.long (x * y) :: st) ws k n (pc + 1)) : E κ lv (.long y :: .long x :: st) ws k n pc := by
  obtain ⟨p, l0, e, R0, s, m, args, below, meth, c, A, nL0, D0, cl0, Q⟩ := κ
  obtain ⟨rfl, rfl, rfl, rfl, rfl, hx, hb, hml, hown, hts, hgT, hK, hnw, hA⟩ := C
  exact fun H locs ls hl hP hD hS => lv_lmul hx hb hdg  (kk H locs ls hl hP hD hS)
theorem e_land {x y : Int64} (C : Cb κ cc nL own Ts R l D cl tys nw) (hdg : decode cc pc = .ok (.land, 1))  (kk : E κ lv (.long (x &&& y) :: st) ws k n (pc + 1)) : E κ lv (.long y :: .long x :: st) ws k n pc := by
  obtain ⟨p, l0, e, R0, s, m, args, below, meth, c, A, nL0, D0, cl0, Q⟩ := κ
  obtain ⟨rfl, rfl, rfl, rfl, rfl, hx, hb, hml, hown, hts, hgT, hK, hnw, hA⟩ := C
  exact fun H locs ls hl hP hD hS => lv_land hx hb hdg  (kk H locs ls hl hP hD hS)
theorem e_lor {x y : Int64} (C : Cb κ cc nL own Ts R l D cl tys nw) (hdg : decode cc pc = .ok (.lor, 1))  (kk : E κ lv (.long (x ||| y) :: st) ws k n (pc + 1)) : E κ lv (.long y :: .long x :: st) ws k n pc := by
  obtain ⟨p, l0, e, R0, s, m, args, below, meth, c, A, nL0, D0, cl0, Q⟩ := κ
  obtain ⟨rfl, rfl, rfl, rfl, rfl, hx, hb, hml, hown, hts, hgT, hK, hnw, hA⟩ := C
  exact fun H locs ls hl hP hD hS => lv_lor hx hb hdg  (kk H locs ls hl hP hD hS)
theorem e_lxor {x y : Int64} (C : Cb κ cc nL own Ts R l D cl tys nw) (hdg : decode cc pc = .ok (.lxor, 1))  (kk : E κ lv (.long (x ^^^ y) :: st) ws k n (pc + 1)) : E κ lv (.long y :: .long x :: st) ws k n pc := by
  obtain ⟨p, l0, e, R0, s, m, args, below, meth, c, A, nL0, D0, cl0, Q⟩ := κ
  obtain ⟨rfl, rfl, rfl, rfl, rfl, hx, hb, hml, hown, hts, hgT, hK, hnw, hA⟩ := C
  exact fun H locs ls hl hP hD hS => lv_lxor hx hb hdg  (kk H locs ls hl hP hD hS)
theorem e_ldiv {x y : Int64} (C : Cb κ cc nL own Ts R l D cl tys nw) (hdg : decode cc pc = .ok (.ldiv, 1)) (hne : ¬ y = 0) (kk : E κ lv (.long (x / y) :: st) ws k n (pc + 1)) : E κ lv (.long y :: .long x :: st) ws k n pc := by
  obtain ⟨p, l0, e, R0, s, m, args, below, meth, c, A, nL0, D0, cl0, Q⟩ := κ
  obtain ⟨rfl, rfl, rfl, rfl, rfl, hx, hb, hml, hown, hts, hgT, hK, hnw, hA⟩ := C
  exact fun H locs ls hl hP hD hS => lv_ldiv hx hb hdg hne (kk H locs ls hl hP hD hS)
theorem e_lrem {x y : Int64} (C : Cb κ cc nL own Ts R l D cl tys nw) (hdg : decode cc pc = .ok (.lrem, 1)) (hne : ¬ y = 0) (kk : E κ lv (.long (x - x / y * y) :: st) ws k n (pc + 1)) : E κ lv (.long y :: .long x :: st) ws k n pc := by
  obtain ⟨p, l0, e, R0, s, m, args, below, meth, c, A, nL0, D0, cl0, Q⟩ := κ
  obtain ⟨rfl, rfl, rfl, rfl, rfl, hx, hb, hml, hown, hts, hgT, hK, hnw, hA⟩ := C
  exact fun H locs ls hl hP hD hS => lv_lrem hx hb hdg hne (kk H locs ls hl hP hD hS)
theorem e_lneg {x : Int64} (C : Cb κ cc nL own Ts R l D cl tys nw) (hdg : decode cc pc = .ok (.lneg, 1))  (kk : E κ lv (.long (-x) :: st) ws k n (pc + 1)) : E κ lv (.long x :: st) ws k n pc := by
  obtain ⟨p, l0, e, R0, s, m, args, below, meth, c, A, nL0, D0, cl0, Q⟩ := κ
  obtain ⟨rfl, rfl, rfl, rfl, rfl, hx, hb, hml, hown, hts, hgT, hK, hnw, hA⟩ := C
  exact fun H locs ls hl hP hD hS => lv_lneg hx hb hdg  (kk H locs ls hl hP hD hS)
theorem e_i2l {x : Int32} (C : Cb κ cc nL own Ts R l D cl tys nw) (hdg : decode cc pc = .ok (.i2l, 1))  (kk : E κ lv (.long x.toInt64 :: st) ws k n (pc + 1)) : E κ lv (.int x :: st) ws k n pc := by
  obtain ⟨p, l0, e, R0, s, m, args, below, meth, c, A, nL0, D0, cl0, Q⟩ := κ
  obtain ⟨rfl, rfl, rfl, rfl, rfl, hx, hb, hml, hown, hts, hgT, hK, hnw, hA⟩ := C
  exact fun H locs ls hl hP hD hS => lv_i2l hx hb hdg rfl (kk H locs ls hl hP hD hS)
theorem e_l2i {x : Int64} (C : Cb κ cc nL own Ts R l D cl tys nw) (hdg : decode cc pc = .ok (.l2i, 1))  (kk : E κ lv (.int x.toInt32 :: st) ws k n (pc + 1)) : E κ lv (.long x :: st) ws k n pc := by
  obtain ⟨p, l0, e, R0, s, m, args, below, meth, c, A, nL0, D0, cl0, Q⟩ := κ
  obtain ⟨rfl, rfl, rfl, rfl, rfl, hx, hb, hml, hown, hts, hgT, hK, hnw, hA⟩ := C
  exact fun H locs ls hl hP hD hS => lv_l2i hx hb hdg rfl (kk H locs ls hl hP hD hS)
def jushr (x y : Int32) : Int32 := (x.toUInt32 >>> (y.toUInt32 &&& Int32.toUInt32 31)).toInt32
def jlushr (x : Int64) (y : Int32) : Int64 := (x.toUInt64 >>> (y.toInt64.toUInt64 &&& Int64.toUInt64 63)).toInt64
theorem e_iushr {x y : Int32} (C : Cb κ cc nL own Ts R l D cl tys nw) (hdg : decode cc pc = .ok (.iushr, 1))  (kk : E κ lv (.int (jushr x y) :: st) ws k n (pc + 1)) : E κ lv (.int y :: .int x :: st) ws k n pc := by
  obtain ⟨p, l0, e, R0, s, m, args, below, meth, c, A, nL0, D0, cl0, Q⟩ := κ
  obtain ⟨rfl, rfl, rfl, rfl, rfl, hx, hb, hml, hown, hts, hgT, hK, hnw, hA⟩ := C
  exact fun H locs ls hl hP hD hS => lv_iushr hx hb hdg rfl (kk H locs ls hl hP hD hS)
theorem e_lushr {x : Int64} {y : Int32} (C : Cb κ cc nL own Ts R l D cl tys nw) (hdg : decode cc pc = .ok (.lushr, 1))  (kk : E κ lv (.long (jlushr x y) :: st) ws k n (pc + 1)) : E κ lv (.int y :: .long x :: st) ws k n pc := by
  obtain ⟨p, l0, e, R0, s, m, args, below, meth, c, A, nL0, D0, cl0, Q⟩ := κ
  obtain ⟨rfl, rfl, rfl, rfl, rfl, hx, hb, hml, hown, hts, hgT, hK, hnw, hA⟩ := C
  exact fun H locs ls hl hP hD hS => lv_lushr hx hb hdg rfl (kk H locs ls hl hP hD hS)
theorem e_lshl {x : Int64} {y : Int32} (C : Cb κ cc nL own Ts R l D cl tys nw) (hdg : decode cc pc = .ok (.lshl, 1))  (kk : E κ lv (.long (x <<< (y.toInt64 &&& 63)) :: st) ws k n (pc + 1)) : E κ lv (.int y :: .long x :: st) ws k n pc := by
  obtain ⟨p, l0, e, R0, s, m, args, below, meth, c, A, nL0, D0, cl0, Q⟩ := κ
  obtain ⟨rfl, rfl, rfl, rfl, rfl, hx, hb, hml, hown, hts, hgT, hK, hnw, hA⟩ := C
  exact fun H locs ls hl hP hD hS => lv_lshl hx hb hdg rfl (kk H locs ls hl hP hD hS)
theorem e_lshr {x : Int64} {y : Int32} (C : Cb κ cc nL own Ts R l D cl tys nw) (hdg : decode cc pc = .ok (.lshr, 1))  (kk : E κ lv (.long (x >>> (y.toInt64 &&& 63)) :: st) ws k n (pc + 1)) : E κ lv (.int y :: .long x :: st) ws k n pc := by
  obtain ⟨p, l0, e, R0, s, m, args, below, meth, c, A, nL0, D0, cl0, Q⟩ := κ
  obtain ⟨rfl, rfl, rfl, rfl, rfl, hx, hb, hml, hown, hts, hgT, hK, hnw, hA⟩ := C
  exact fun H locs ls hl hP hD hS => lv_lshr hx hb hdg rfl (kk H locs ls hl hP hD hS)
theorem e_lcmp {x y : Int64} (C : Cb κ cc nL own Ts R l D cl tys nw) (hdg : decode cc pc = .ok (.lcmp, 1))  (kk : E κ lv (.int (lg_cmp x y) :: st) ws k n (pc + 1)) : E κ lv (.long y :: .long x :: st) ws k n pc := by
  obtain ⟨p, l0, e, R0, s, m, args, below, meth, c, A, nL0, D0, cl0, Q⟩ := κ
  obtain ⟨rfl, rfl, rfl, rfl, rfl, hx, hb, hml, hown, hts, hgT, hK, hnw, hA⟩ := C
  exact fun H locs ls hl hP hD hS => W.lcmp hx hb hdg  (kk H locs ls hl hP hD hS)
theorem e_dup {a : Value} (C : Cb κ cc nL own Ts R l D cl tys nw) (hdg : decode cc pc = .ok (.dup, 1)) (h1 : a.category = 1) (kk : E κ lv (a :: a :: st) ws k n (pc + 1)) : E κ lv (a :: st) ws k n pc := by
  obtain ⟨p, l0, e, R0, s, m, args, below, meth, c, A, nL0, D0, cl0, Q⟩ := κ
  obtain ⟨rfl, rfl, rfl, rfl, rfl, hx, hb, hml, hown, hts, hgT, hK, hnw, hA⟩ := C
  exact fun H locs ls hl hP hD hS => lv_dup hx hb hdg h1 (kk H locs ls hl hP hD hS)
theorem e_pop {a : Value} (C : Cb κ cc nL own Ts R l D cl tys nw) (hdg : decode cc pc = .ok (.pop, 1)) (h1 : a.category = 1) (kk : E κ lv (st) ws k n (pc + 1)) : E κ lv (a :: st) ws k n pc := by
  obtain ⟨p, l0, e, R0, s, m, args, below, meth, c, A, nL0, D0, cl0, Q⟩ := κ
  obtain ⟨rfl, rfl, rfl, rfl, rfl, hx, hb, hml, hown, hts, hgT, hK, hnw, hA⟩ := C
  exact fun H locs ls hl hP hD hS => lv_pop hx hb hdg h1 (kk H locs ls hl hP hD hS)
theorem e_pop2 {a : Value} (C : Cb κ cc nL own Ts R l D cl tys nw) (hdg : decode cc pc = .ok (.pop2, 1)) (h1 : a.category = 2) (kk : E κ lv (st) ws k n (pc + 1)) : E κ lv (a :: st) ws k n pc := by
  obtain ⟨p, l0, e, R0, s, m, args, below, meth, c, A, nL0, D0, cl0, Q⟩ := κ
  obtain ⟨rfl, rfl, rfl, rfl, rfl, hx, hb, hml, hown, hts, hgT, hK, hnw, hA⟩ := C
  exact fun H locs ls hl hP hD hS => lv_pop2_2 hx hb hdg h1 (kk H locs ls hl hP hD hS)
theorem e_dup_x1 {a b : Value} (C : Cb κ cc nL own Ts R l D cl tys nw) (hdg : decode cc pc = .ok (.dup_x1, 1)) (h1 : a.category = 1) (h2 : b.category = 1) (kk : E κ lv (a :: b :: a :: st) ws k n (pc + 1)) : E κ lv (a :: b :: st) ws k n pc := by
  obtain ⟨p, l0, e, R0, s, m, args, below, meth, c, A, nL0, D0, cl0, Q⟩ := κ
  obtain ⟨rfl, rfl, rfl, rfl, rfl, hx, hb, hml, hown, hts, hgT, hK, hnw, hA⟩ := C
  exact fun H locs ls hl hP hD hS => lv_dup_x1 hx hb hdg h1 h2 (kk H locs ls hl hP hD hS)
theorem e_dup_x2 {a b d : Value} (C : Cb κ cc nL own Ts R l D cl tys nw) (hdg : decode cc pc = .ok (.dup_x2, 1)) (h1 : a.category = 1) (h2 : b.category = 1) (h3 : d.category = 1) (kk : E κ lv (a :: b :: d :: a :: st) ws k n (pc + 1)) : E κ lv (a :: b :: d :: st) ws k n pc := by
  obtain ⟨p, l0, e, R0, s, m, args, below, meth, c, A, nL0, D0, cl0, Q⟩ := κ
  obtain ⟨rfl, rfl, rfl, rfl, rfl, hx, hb, hml, hown, hts, hgT, hK, hnw, hA⟩ := C
  exact fun H locs ls hl hP hD hS => lv_dup_x2 hx hb hdg h1 h2 h3 (kk H locs ls hl hP hD hS)
theorem e_dup2_11 {a b : Value} (C : Cb κ cc nL own Ts R l D cl tys nw) (hdg : decode cc pc = .ok (.dup2, 1)) (h1 : a.category = 1) (h2 : b.category = 1) (kk : E κ lv (a :: b :: a :: b :: st) ws k n (pc + 1)) : E κ lv (a :: b :: st) ws k n pc := by
  obtain ⟨p, l0, e, R0, s, m, args, below, meth, c, A, nL0, D0, cl0, Q⟩ := κ
  obtain ⟨rfl, rfl, rfl, rfl, rfl, hx, hb, hml, hown, hts, hgT, hK, hnw, hA⟩ := C
  exact fun H locs ls hl hP hD hS => lv_dup2_11 hx hb hdg h1 h2 (kk H locs ls hl hP hD hS)
theorem e_dup2_2 {a : Value} (C : Cb κ cc nL own Ts R l D cl tys nw) (hdg : decode cc pc = .ok (.dup2, 1)) (h1 : a.category = 2) (kk : E κ lv (a :: a :: st) ws k n (pc + 1)) : E κ lv (a :: st) ws k n pc := by
  obtain ⟨p, l0, e, R0, s, m, args, below, meth, c, A, nL0, D0, cl0, Q⟩ := κ
  obtain ⟨rfl, rfl, rfl, rfl, rfl, hx, hb, hml, hown, hts, hgT, hK, hnw, hA⟩ := C
  exact fun H locs ls hl hP hD hS => lv_dup2_2 hx hb hdg h1 (kk H locs ls hl hP hD hS)
theorem e_dup2_x1 {a b : Value} (C : Cb κ cc nL own Ts R l D cl tys nw) (hdg : decode cc pc = .ok (.dup2_x1, 1)) (h1 : a.category = 2) (h2 : b.category = 1) (kk : E κ lv (a :: b :: a :: st) ws k n (pc + 1)) : E κ lv (a :: b :: st) ws k n pc := by
  obtain ⟨p, l0, e, R0, s, m, args, below, meth, c, A, nL0, D0, cl0, Q⟩ := κ
  obtain ⟨rfl, rfl, rfl, rfl, rfl, hx, hb, hml, hown, hts, hgT, hK, hnw, hA⟩ := C
  exact fun H locs ls hl hP hD hS => lv_dup2_x1_2 hx hb hdg h1 h2 (kk H locs ls hl hP hD hS)
theorem e_dup2_x2 {a b d : Value} (C : Cb κ cc nL own Ts R l D cl tys nw) (hdg : decode cc pc = .ok (.dup2_x2, 1)) (h1 : a.category = 2) (h2 : b.category = 1) (h3 : d.category = 1) (kk : E κ lv (a :: b :: d :: a :: st) ws k n (pc + 1)) : E κ lv (a :: b :: d :: st) ws k n pc := by
  obtain ⟨p, l0, e, R0, s, m, args, below, meth, c, A, nL0, D0, cl0, Q⟩ := κ
  obtain ⟨rfl, rfl, rfl, rfl, rfl, hx, hb, hml, hown, hts, hgT, hK, hnw, hA⟩ := C
  exact fun H locs ls hl hP hD hS => lv_dup2_x2_2 hx hb hdg h1 h2 h3 (kk H locs ls hl hP hD hS)
theorem e_null  (C : Cb κ cc nL own Ts R l D cl tys nw) (hdg : decode cc pc = .ok (.aconst_null, 1))  (kk : E κ lv (.null :: st) ws k n (pc + 1)) : E κ lv (st) ws k n pc := by
  obtain ⟨p, l0, e, R0, s, m, args, below, meth, c, A, nL0, D0, cl0, Q⟩ := κ
  obtain ⟨rfl, rfl, rfl, rfl, rfl, hx, hb, hml, hown, hts, hgT, hK, hnw, hA⟩ := C
  exact fun H locs ls hl hP hD hS => lv_null hx hb hdg  (kk H locs ls hl hP hD hS)
theorem e_ldc {ix : Nat} {v : Int32} (C : Cb κ cc nL own Ts R l D cl tys nw) (hw : Jvm.Cond.constant own ix v ∈ Ts) (hdg : decode cc pc = .ok (.ldc ix, 2)) (kk : E κ lv (.int v :: st) ws k n (pc + 2)) : E κ lv st ws k n pc := by
  obtain ⟨p, l0, e, R0, s, m, args, below, meth, c, A, nL0, D0, cl0, Q⟩ := κ
  obtain ⟨rfl, rfl, rfl, rfl, rfl, hx, hb, hml, hown, hts, hgT, hK, hnw, hA⟩ := C
  exact fun H locs ls hl hP hD hS => lv_ldc hx hb hown (hts _ hw) hdg (kk H locs ls hl hP hD hS)
theorem e_ldc2 {ix : Nat} {v : Int64} (C : Cb κ cc nL own Ts R l D cl tys nw) (hw : Jvm.Cond.constantLong own ix v ∈ Ts) (hdg : decode cc pc = .ok (.ldc2_w ix, 3)) (kk : E κ lv (.long v :: st) ws k n (pc + 3)) : E κ lv st ws k n pc := by
  obtain ⟨p, l0, e, R0, s, m, args, below, meth, c, A, nL0, D0, cl0, Q⟩ := κ
  obtain ⟨rfl, rfl, rfl, rfl, rfl, hx, hb, hml, hown, hts, hgT, hK, hnw, hA⟩ := C
  exact fun H locs ls hl hP hD hS => lv_ldc2 hx hb hown (hts _ hw) hdg (kk H locs ls hl hP hD hS)
theorem e_if_eq {x : Int32} {off : Int} {tgt : Nat} (C : Cb κ cc nL own Ts R l D cl tys nw) (hdg : decode cc pc = .ok (.ifCond .eq off, 3)) (ht : (pc : Int) + off = (tgt : Int)) (kt : x = 0 → E κ lv st ws k n tgt) (kf : ¬ x = 0 → E κ lv st ws k n (pc + 3)) : E κ lv (.int x :: st) ws k n pc := by
  obtain ⟨p, l0, e, R0, s, m, args, below, meth, c, A, nL0, D0, cl0, Q⟩ := κ
  obtain ⟨rfl, rfl, rfl, rfl, rfl, hx, hb, hml, hown, hts, hgT, hK, hnw, hA⟩ := C
  exact fun H locs ls hl hP hD hS => lv_if_eq hx hb hdg ht (fun q => kt q H locs ls hl hP hD hS) (fun q => kf q H locs ls hl hP hD hS)
theorem e_icmp_eq {x y : Int32} {off : Int} {tgt : Nat} (C : Cb κ cc nL own Ts R l D cl tys nw) (hdg : decode cc pc = .ok (.if_icmp .eq off, 3)) (ht : (pc : Int) + off = (tgt : Int)) (kt : x = y → E κ lv st ws k n tgt) (kf : ¬ x = y → E κ lv st ws k n (pc + 3)) : E κ lv (.int y :: .int x :: st) ws k n pc := by
  obtain ⟨p, l0, e, R0, s, m, args, below, meth, c, A, nL0, D0, cl0, Q⟩ := κ
  obtain ⟨rfl, rfl, rfl, rfl, rfl, hx, hb, hml, hown, hts, hgT, hK, hnw, hA⟩ := C
  exact fun H locs ls hl hP hD hS => lv_icmp_eq hx hb hdg ht (fun q => kt q H locs ls hl hP hD hS) (fun q => kf q H locs ls hl hP hD hS)
theorem e_if_ne {x : Int32} {off : Int} {tgt : Nat} (C : Cb κ cc nL own Ts R l D cl tys nw) (hdg : decode cc pc = .ok (.ifCond .ne off, 3)) (ht : (pc : Int) + off = (tgt : Int)) (kt : ¬ x = 0 → E κ lv st ws k n tgt) (kf : x = 0 → E κ lv st ws k n (pc + 3)) : E κ lv (.int x :: st) ws k n pc := by
  obtain ⟨p, l0, e, R0, s, m, args, below, meth, c, A, nL0, D0, cl0, Q⟩ := κ
  obtain ⟨rfl, rfl, rfl, rfl, rfl, hx, hb, hml, hown, hts, hgT, hK, hnw, hA⟩ := C
  exact fun H locs ls hl hP hD hS => lv_if_ne hx hb hdg ht (fun q => kt q H locs ls hl hP hD hS) (fun q => kf q H locs ls hl hP hD hS)
theorem e_icmp_ne {x y : Int32} {off : Int} {tgt : Nat} (C : Cb κ cc nL own Ts R l D cl tys nw) (hdg : decode cc pc = .ok (.if_icmp .ne off, 3)) (ht : (pc : Int) + off = (tgt : Int)) (kt : ¬ x = y → E κ lv st ws k n tgt) (kf : x = y → E κ lv st ws k n (pc + 3)) : E κ lv (.int y :: .int x :: st) ws k n pc := by
  obtain ⟨p, l0, e, R0, s, m, args, below, meth, c, A, nL0, D0, cl0, Q⟩ := κ
  obtain ⟨rfl, rfl, rfl, rfl, rfl, hx, hb, hml, hown, hts, hgT, hK, hnw, hA⟩ := C
  exact fun H locs ls hl hP hD hS => lv_icmp_ne hx hb hdg ht (fun q => kt q H locs ls hl hP hD hS) (fun q => kf q H locs ls hl hP hD hS)
theorem e_if_lt {x : Int32} {off : Int} {tgt : Nat} (C : Cb κ cc nL own Ts R l D cl tys nw) (hdg : decode cc pc = .ok (.ifCond .lt off, 3)) (ht : (pc : Int) + off = (tgt : Int)) (kt : x < 0 → E κ lv st ws k n tgt) (kf : ¬ x < 0 → E κ lv st ws k n (pc + 3)) : E κ lv (.int x :: st) ws k n pc := by
  obtain ⟨p, l0, e, R0, s, m, args, below, meth, c, A, nL0, D0, cl0, Q⟩ := κ
  obtain ⟨rfl, rfl, rfl, rfl, rfl, hx, hb, hml, hown, hts, hgT, hK, hnw, hA⟩ := C
  exact fun H locs ls hl hP hD hS => lv_if_lt hx hb hdg ht (fun q => kt q H locs ls hl hP hD hS) (fun q => kf q H locs ls hl hP hD hS)
theorem e_icmp_lt {x y : Int32} {off : Int} {tgt : Nat} (C : Cb κ cc nL own Ts R l D cl tys nw) (hdg : decode cc pc = .ok (.if_icmp .lt off, 3)) (ht : (pc : Int) + off = (tgt : Int)) (kt : x < y → E κ lv st ws k n tgt) (kf : ¬ x < y → E κ lv st ws k n (pc + 3)) : E κ lv (.int y :: .int x :: st) ws k n pc := by
  obtain ⟨p, l0, e, R0, s, m, args, below, meth, c, A, nL0, D0, cl0, Q⟩ := κ
  obtain ⟨rfl, rfl, rfl, rfl, rfl, hx, hb, hml, hown, hts, hgT, hK, hnw, hA⟩ := C
  exact fun H locs ls hl hP hD hS => lv_icmp_lt hx hb hdg ht (fun q => kt q H locs ls hl hP hD hS) (fun q => kf q H locs ls hl hP hD hS)
theorem e_if_ge {x : Int32} {off : Int} {tgt : Nat} (C : Cb κ cc nL own Ts R l D cl tys nw) (hdg : decode cc pc = .ok (.ifCond .ge off, 3)) (ht : (pc : Int) + off = (tgt : Int)) (kt : 0 ≤ x → E κ lv st ws k n tgt) (kf : ¬ 0 ≤ x → E κ lv st ws k n (pc + 3)) : E κ lv (.int x :: st) ws k n pc := by
  obtain ⟨p, l0, e, R0, s, m, args, below, meth, c, A, nL0, D0, cl0, Q⟩ := κ
  obtain ⟨rfl, rfl, rfl, rfl, rfl, hx, hb, hml, hown, hts, hgT, hK, hnw, hA⟩ := C
  exact fun H locs ls hl hP hD hS => lv_if_ge hx hb hdg ht (fun q => kt q H locs ls hl hP hD hS) (fun q => kf q H locs ls hl hP hD hS)
theorem e_icmp_ge {x y : Int32} {off : Int} {tgt : Nat} (C : Cb κ cc nL own Ts R l D cl tys nw) (hdg : decode cc pc = .ok (.if_icmp .ge off, 3)) (ht : (pc : Int) + off = (tgt : Int)) (kt : y ≤ x → E κ lv st ws k n tgt) (kf : ¬ y ≤ x → E κ lv st ws k n (pc + 3)) : E κ lv (.int y :: .int x :: st) ws k n pc := by
  obtain ⟨p, l0, e, R0, s, m, args, below, meth, c, A, nL0, D0, cl0, Q⟩ := κ
  obtain ⟨rfl, rfl, rfl, rfl, rfl, hx, hb, hml, hown, hts, hgT, hK, hnw, hA⟩ := C
  exact fun H locs ls hl hP hD hS => lv_icmp_ge hx hb hdg ht (fun q => kt q H locs ls hl hP hD hS) (fun q => kf q H locs ls hl hP hD hS)
theorem e_if_gt {x : Int32} {off : Int} {tgt : Nat} (C : Cb κ cc nL own Ts R l D cl tys nw) (hdg : decode cc pc = .ok (.ifCond .gt off, 3)) (ht : (pc : Int) + off = (tgt : Int)) (kt : 0 < x → E κ lv st ws k n tgt) (kf : ¬ 0 < x → E κ lv st ws k n (pc + 3)) : E κ lv (.int x :: st) ws k n pc := by
  obtain ⟨p, l0, e, R0, s, m, args, below, meth, c, A, nL0, D0, cl0, Q⟩ := κ
  obtain ⟨rfl, rfl, rfl, rfl, rfl, hx, hb, hml, hown, hts, hgT, hK, hnw, hA⟩ := C
  exact fun H locs ls hl hP hD hS => lv_if_gt hx hb hdg ht (fun q => kt q H locs ls hl hP hD hS) (fun q => kf q H locs ls hl hP hD hS)
theorem e_icmp_gt {x y : Int32} {off : Int} {tgt : Nat} (C : Cb κ cc nL own Ts R l D cl tys nw) (hdg : decode cc pc = .ok (.if_icmp .gt off, 3)) (ht : (pc : Int) + off = (tgt : Int)) (kt : y < x → E κ lv st ws k n tgt) (kf : ¬ y < x → E κ lv st ws k n (pc + 3)) : E κ lv (.int y :: .int x :: st) ws k n pc := by
  obtain ⟨p, l0, e, R0, s, m, args, below, meth, c, A, nL0, D0, cl0, Q⟩ := κ
  obtain ⟨rfl, rfl, rfl, rfl, rfl, hx, hb, hml, hown, hts, hgT, hK, hnw, hA⟩ := C
  exact fun H locs ls hl hP hD hS => lv_icmp_gt hx hb hdg ht (fun q => kt q H locs ls hl hP hD hS) (fun q => kf q H locs ls hl hP hD hS)
theorem e_if_le {x : Int32} {off : Int} {tgt : Nat} (C : Cb κ cc nL own Ts R l D cl tys nw) (hdg : decode cc pc = .ok (.ifCond .le off, 3)) (ht : (pc : Int) + off = (tgt : Int)) (kt : x ≤ 0 → E κ lv st ws k n tgt) (kf : ¬ x ≤ 0 → E κ lv st ws k n (pc + 3)) : E κ lv (.int x :: st) ws k n pc := by
  obtain ⟨p, l0, e, R0, s, m, args, below, meth, c, A, nL0, D0, cl0, Q⟩ := κ
  obtain ⟨rfl, rfl, rfl, rfl, rfl, hx, hb, hml, hown, hts, hgT, hK, hnw, hA⟩ := C
  exact fun H locs ls hl hP hD hS => lv_if_le hx hb hdg ht (fun q => kt q H locs ls hl hP hD hS) (fun q => kf q H locs ls hl hP hD hS)
theorem e_icmp_le {x y : Int32} {off : Int} {tgt : Nat} (C : Cb κ cc nL own Ts R l D cl tys nw) (hdg : decode cc pc = .ok (.if_icmp .le off, 3)) (ht : (pc : Int) + off = (tgt : Int)) (kt : x ≤ y → E κ lv st ws k n tgt) (kf : ¬ x ≤ y → E κ lv st ws k n (pc + 3)) : E κ lv (.int y :: .int x :: st) ws k n pc := by
  obtain ⟨p, l0, e, R0, s, m, args, below, meth, c, A, nL0, D0, cl0, Q⟩ := κ
  obtain ⟨rfl, rfl, rfl, rfl, rfl, hx, hb, hml, hown, hts, hgT, hK, hnw, hA⟩ := C
  exact fun H locs ls hl hP hD hS => lv_icmp_le hx hb hdg ht (fun q => kt q H locs ls hl hP hD hS) (fun q => kf q H locs ls hl hP hD hS)
theorem e_goto {off : Int} {tgt : Nat} (C : Cb κ cc nL own Ts R l D cl tys nw) (hdg : decode cc pc = .ok (.goto off, 3)) (ht : (pc : Int) + off = (tgt : Int)) (kk : E κ lv st ws k n tgt) : E κ lv st ws k n pc := by
  obtain ⟨p, l0, e, R0, s, m, args, below, meth, c, A, nL0, D0, cl0, Q⟩ := κ
  obtain ⟨rfl, rfl, rfl, rfl, rfl, hx, hb, hml, hown, hts, hgT, hK, hnw, hA⟩ := C
  exact fun H locs ls hl hP hD hS => lv_goto hx hb hdg ht (kk H locs ls hl hP hD hS)
theorem e_lookup {dflt : Int} {ps : Array (Int × Int)} {len : Nat} {x : Int32} {off : Int} {tgt : Nat} (C : Cb κ cc nL own Ts R l D cl tys nw) (hdg : decode cc pc = .ok (.lookupswitch dflt ps, len)) (hp : (ps.toList.zip (ps.toList.drop 1)).all (fun (a, next) => a.1 < next.1) = true) (ho : Op.lookupswitch.offset ps.toList dflt x.toInt = off) (ht : (pc : Int) + off = (tgt : Int)) (kk : E κ lv st ws k n tgt) : E κ lv (.int x :: st) ws k n pc := by
  obtain ⟨p, l0, e, R0, s, m, args, below, meth, c, A, nL0, D0, cl0, Q⟩ := κ
  obtain ⟨rfl, rfl, rfl, rfl, rfl, hx, hb, hml, hown, hts, hgT, hK, hnw, hA⟩ := C
  exact fun H locs ls hl hP hD hS => lv_lookup hx hb hdg hp ho ht (kk H locs ls hl hP hD hS)
theorem e_tabOut {dflt lo hi : Int} {offs : Array Int} {len : Nat} {x : Int32} {tgt : Nat} (C : Cb κ cc nL own Ts R l D cl tys nw) (hdg : decode cc pc = .ok (.tableswitch dflt lo hi offs, len)) (h : x.toInt < lo ∨ hi < x.toInt) (ht : (pc : Int) + dflt = (tgt : Int)) (kk : E κ lv st ws k n tgt) : E κ lv (.int x :: st) ws k n pc := by
  obtain ⟨p, l0, e, R0, s, m, args, below, meth, c, A, nL0, D0, cl0, Q⟩ := κ
  obtain ⟨rfl, rfl, rfl, rfl, rfl, hx, hb, hml, hown, hts, hgT, hK, hnw, hA⟩ := C
  exact fun H locs ls hl hP hD hS => lv_tableOut hx hb hdg h ht (kk H locs ls hl hP hD hS)
theorem e_tabIn {dflt lo hi : Int} {offs : Array Int} {len : Nat} {x : Int32} {off : Int} {tgt : Nat} (C : Cb κ cc nL own Ts R l D cl tys nw) (hdg : decode cc pc = .ok (.tableswitch dflt lo hi offs, len)) (h1 : ¬ x.toInt < lo) (h2 : ¬ hi < x.toInt) (ho : offs[(x.toInt - lo).toNat]? = some off) (ht : (pc : Int) + off = (tgt : Int)) (kk : E κ lv st ws k n tgt) : E κ lv (.int x :: st) ws k n pc := by
  obtain ⟨p, l0, e, R0, s, m, args, below, meth, c, A, nL0, D0, cl0, Q⟩ := κ
  obtain ⟨rfl, rfl, rfl, rfl, rfl, hx, hb, hml, hown, hts, hgT, hK, hnw, hA⟩ := C
  exact fun H locs ls hl hP hD hS => lv_tableIn hx hb hdg h1 h2 ho ht (kk H locs ls hl hP hD hS)
theorem e_get {Cn : String} {T : u_T} {N ci ix a : Nat} {fs : List Value} {v : Value} (C : Cb κ cc nL own Ts R l D cl tys nw) (hin : ∀ w ∈ u_ws Cn T N, w ∈ Ts) (q0 : Nat) (he : ws[q0]? = some (a, .inr (ci, fs))) (hc : cl[ci]? = some (Cn, T, N)) (kf : Nat) (hk : kf < N) (hw : Cond.fieldLink own ix (T kf).1 (T kf).2.1 (T kf).2.2.1 ∈ Ts) (hv : fs[kf]? = some v) (hdg : decode cc pc = .ok (.getfield ix, 3)) (kk : E κ lv (v :: st) ws k n (pc + 3)) : E κ lv (.ref a :: st) ws k n pc := by
  obtain ⟨p, l0, e, R0, s, m, args, below, meth, c, A, nL0, D0, cl0, Q⟩ := κ
  obtain ⟨rfl, rfl, rfl, rfl, rfl, hx, hb, hml, hown, hts, hgT, hK, hnw, hA⟩ := C
  exact fun H locs ls hl hP hD hS => va_get hx hb hts hin hown hK hP q0 he hc kf hk (hts _ hw) (fun _ h9 => h9) hv hdg (kk H locs ls hl hP hD hS)
theorem e_getN {Cn host : String} {T : u_T} {N ci ix a : Nat} {fs : List Value} {v : Value} (C : Cb κ cc nL own Ts R l D cl tys nw) (hin : ∀ w ∈ u_ws Cn T N, w ∈ Ts) (q0 : Nat) (he : ws[q0]? = some (a, .inr (ci, fs))) (hc : cl[ci]? = some (Cn, T, N)) (kf : Nat) (hk : kf < N) (hw : Cond.fieldLinkNest own ix (T kf).1 (T kf).2.1 (T kf).2.2.1 host ∈ nw) (hv : fs[kf]? = some v) (hdg : decode cc pc = .ok (.getfield ix, 3)) (kk : E κ lv (v :: st) ws k n (pc + 3)) : E κ lv (.ref a :: st) ws k n pc := by
  obtain ⟨p, l0, e, R0, s, m, args, below, meth, c, A, nL0, D0, cl0, Q⟩ := κ
  obtain ⟨rfl, rfl, rfl, rfl, rfl, hx, hb, hml, hown, hts, hgT, hK, hnw, hA⟩ := C
  exact fun H locs ls hl hP hD hS => va_getN hx hb hts hin hown hK hP q0 he hc kf hk (va_Nw.use rfl (hnw _ hw)) (fun _ h9 => h9) hv hdg (kk H locs ls hl hP hD hS)
theorem e_put {Cn : String} {T : u_T} {N ci ix a : Nat} {fs : List Value} {v : Value} (C : Cb κ cc nL own Ts R l D cl tys nw) (hin : ∀ w ∈ u_ws Cn T N, w ∈ Ts) (ty0 : Nat → FieldType) (hty : ∀ k, k < N → parseFieldDescriptor (T k).2.2.1 = some (ty0 k)) (hnm : ∀ a, a < N → ∀ b, b < N → a ≠ b → (T a).2.1 ≠ (T b).2.1) (q0 : Nat) (he : ws[q0]? = some (a, .inr (ci, fs))) (hc : cl[ci]? = some (Cn, T, N)) (kf : Nat) (hk : kf < N) (hw : Cond.fieldLink own ix (T kf).1 (T kf).2.1 (T kf).2.2.1 ∈ Ts) (hfin : (T kf).2.2.2 = false) (hn : narrow (ty0 kf) v = v) (hfit : fits (ty0 kf) v = true) (hlen : kf < fs.length) (hdg : decode cc pc = .ok (.putfield ix, 3)) (kk : E κ lv st (ws.set q0 (a, .inr (ci, fs.set kf v))) k n (pc + 3)) : E κ lv (v :: .ref a :: st) ws k n pc := by
  obtain ⟨p, l0, e, R0, s, m, args, below, meth, c, A, nL0, D0, cl0, Q⟩ := κ
  obtain ⟨rfl, rfl, rfl, rfl, rfl, hx, hb, hml, hown, hts, hgT, hK, hnw, hA⟩ := C
  exact fun H locs ls hl hP hD hS => va_put hx hb hts hin ty0 hty hnm hown hK hP hD hS q0 he hc kf hk (hts _ hw) (fun _ h9 => h9) hfin (hty kf hk) hn hfit hlen hdg (fun H1 locs1 hP1 hD1 hS1 => kk H1 locs1 ls hl hP1 hD1 hS1)
theorem e_putN {Cn host : String} {T : u_T} {N ci ix a : Nat} {fs : List Value} {v : Value} (C : Cb κ cc nL own Ts R l D cl tys nw) (hin : ∀ w ∈ u_ws Cn T N, w ∈ Ts) (ty0 : Nat → FieldType) (hty : ∀ k, k < N → parseFieldDescriptor (T k).2.2.1 = some (ty0 k)) (hnm : ∀ a, a < N → ∀ b, b < N → a ≠ b → (T a).2.1 ≠ (T b).2.1) (q0 : Nat) (he : ws[q0]? = some (a, .inr (ci, fs))) (hc : cl[ci]? = some (Cn, T, N)) (kf : Nat) (hk : kf < N) (hw : Cond.fieldLinkNest own ix (T kf).1 (T kf).2.1 (T kf).2.2.1 host ∈ nw) (hfin : (T kf).2.2.2 = false) (hn : narrow (ty0 kf) v = v) (hfit : fits (ty0 kf) v = true) (hlen : kf < fs.length) (hdg : decode cc pc = .ok (.putfield ix, 3)) (kk : E κ lv st (ws.set q0 (a, .inr (ci, fs.set kf v))) k n (pc + 3)) : E κ lv (v :: .ref a :: st) ws k n pc := by
  obtain ⟨p, l0, e, R0, s, m, args, below, meth, c, A, nL0, D0, cl0, Q⟩ := κ
  obtain ⟨rfl, rfl, rfl, rfl, rfl, hx, hb, hml, hown, hts, hgT, hK, hnw, hA⟩ := C
  exact fun H locs ls hl hP hD hS => va_putN hx hb hts hin ty0 hty hnm hown hK hP hD hS q0 he hc kf hk (va_Nw.use rfl (hnw _ hw)) (fun _ h9 => h9) hfin (hty kf hk) hn hfit hlen hdg (fun H1 locs1 hP1 hD1 hS1 => kk H1 locs1 ls hl hP1 hD1 hS1)
def eIn (κ : eT) (nm : String) : Prop := match κ with
  | (_, _, _, _, _, _, _, _, meth, _, _, _, _, _, _) => meth.name = nm
theorem e_putF {Cn : String} {T : u_T} {N ci ix a : Nat} {fs : List Value} {v : Value} (C : Cb κ cc nL own Ts R l D cl tys nw) (I : eIn κ "<init>") (hin : ∀ w ∈ u_ws Cn T N, w ∈ Ts) (ty0 : Nat → FieldType) (hty : ∀ k, k < N → parseFieldDescriptor (T k).2.2.1 = some (ty0 k)) (hnm : ∀ a, a < N → ∀ b, b < N → a ≠ b → (T a).2.1 ≠ (T b).2.1) (q0 : Nat) (he : ws[q0]? = some (a, .inr (ci, fs))) (hc : cl[ci]? = some (Cn, T, N)) (kf : Nat) (hk : kf < N) (hw : Cond.fieldLink own ix (T kf).1 (T kf).2.1 (T kf).2.2.1 ∈ Ts) (hfin : (T kf).2.2.2 = true) (hdecl : (T kf).1 = own) (hn : narrow (ty0 kf) v = v) (hfit : fits (ty0 kf) v = true) (hlen : kf < fs.length) (hdg : decode cc pc = .ok (.putfield ix, 3)) (kk : E κ lv st (ws.set q0 (a, .inr (ci, fs.set kf v))) k n (pc + 3)) : E κ lv (v :: .ref a :: st) ws k n pc := by
  obtain ⟨p, l0, e, R0, s, m, args, below, meth, c, A, nL0, D0, cl0, Q⟩ := κ
  obtain ⟨rfl, rfl, rfl, rfl, rfl, hx, hb, hml, hown, hts, hgT, hK, hnw, hA⟩ := C
  exact fun H locs ls hl hP hD hS => va_putF hx hb hts hin ty0 hty hnm hown hK hP hD hS q0 he hc kf hk (hts _ hw) (fun _ h9 => h9) hfin I hdecl (hty kf hk) hn hfit hlen hdg (fun H1 locs1 hP1 hD1 hS1 => kk H1 locs1 ls hl hP1 hD1 hS1)
theorem e_new {Cn : String} {T : u_T} {N ci ix : Nat} {fs : List Value} (C : Cb κ cc nL own Ts R l D cl tys nw) (hin : ∀ w ∈ u_ws Cn T N, w ∈ Ts) (ty : Nat → FieldType) (hty : ∀ k, k < N → parseFieldDescriptor (T k).2.2.1 = some (ty k)) (hw1 : Cond.classLink own ix Cn ∈ Ts) (hw2 : Cond.instantiable Cn N ∈ Ts) (hw3 : Cond.initialized Cn ∈ Ts) (hc : cl[ci]? = some (Cn, T, N)) (hfs : ∀ j, j < N → defaultValue (ty j) = vp_V fs j) (hcells : k + 1 ≤ R.cells) (hslots : n + N ≤ R.slots) (hdg : decode cc pc = .ok (.new ix, 3)) (kk : ∀ q : Nat, E κ lv (.ref q :: st) (ws ++ [(q, .inr (ci, fs))]) (k + 1) (n + N) (pc + 3)) : E κ lv st ws k n pc := by
  obtain ⟨p, l0, e, R0, s, m, args, below, meth, c, A, nL0, D0, cl0, Q⟩ := κ
  obtain ⟨rfl, rfl, rfl, rfl, rfl, hx, hb, hml, hown, hts, hgT, hK, hnw, hA⟩ := C
  exact fun H locs ls hl hP hD hS => va_new hx hb hts hin ty hty hown (hts _ hw1) (hts _ hw2) (hts _ hw3) hK hP hD hS hA hc hfs hcells hslots hdg (fun q H1 hP1 hD1 hS1 => kk q H1 locs ls hl hP1 hD1 hS1)
theorem e_newI {x : Int32} {N : Nat} {cA : ClassId} (C : Cb κ cc nL own Ts R l D cl tys nw) (t0 : Nat) (ht0 : tys[t0]? = some (cA, .int)) (hw : Cond.arrayClass .int ∈ Ts) (hx0 : ¬ x < 0) (hN : x.toNatClampNeg = N) (hby : N * componentBytes .int ≤ 536870912) (hcells : k + 1 ≤ R.cells) (hslots : n + N ≤ R.slots) (hdg : decode cc pc = .ok (.newarray .int, 2)) (kk : ∀ q : Nat, E κ lv (.ref q :: st) (ws ++ [(q, .inl (cA, (N, .inl (fun _ => 0))))]) (k + 1) (n + N) (pc + 2)) : E κ lv (.int x :: st) ws k n pc := by
  obtain ⟨p, l0, e, R0, s, m, args, below, meth, c, A, nL0, D0, cl0, Q⟩ := κ
  obtain ⟨rfl, rfl, rfl, rfl, rfl, hx, hb, hml, hown, hts, hgT, hK, hnw, hA⟩ := C
  intro H locs ls hl hP hD hS
  refine va_newa (atype := .int) (ty := .int) (a0 := (N, .inl (fun _ => 0))) hx hb (hts _ hw) rfl hK hP hD hS hA (fun _ => rfl) hx0 hN hby hcells hslots hdg (fun q cB H1 hK1 hP1 hD1 hS1 => ?_)
  have h1 := (hK1.2 tys.length (cB, .int) (by simp)).2
  have h2 := (hK.2 t0 (cA, .int) ht0).2
  have h3 : s.vm.findClass _ = some cB := h1
  have h4 : s.vm.findClass _ = some cA := h2
  obtain rfl : cB = cA := Option.some.inj (h3.symm.trans h4)
  exact kk q H1 locs ls hl hP1 hD1 hS1
theorem e_newJ {x : Int32} {N : Nat} {cA : ClassId} (C : Cb κ cc nL own Ts R l D cl tys nw) (t0 : Nat) (ht0 : tys[t0]? = some (cA, .long)) (hw : Cond.arrayClass .long ∈ Ts) (hx0 : ¬ x < 0) (hN : x.toNatClampNeg = N) (hby : N * componentBytes .long ≤ 536870912) (hcells : k + 1 ≤ R.cells) (hslots : n + N ≤ R.slots) (hdg : decode cc pc = .ok (.newarray .long, 2)) (kk : ∀ q : Nat, E κ lv (.ref q :: st) (ws ++ [(q, .inl (cA, (N, .inr (.inl (fun _ => 0)))))]) (k + 1) (n + N) (pc + 2)) : E κ lv (.int x :: st) ws k n pc := by
  obtain ⟨p, l0, e, R0, s, m, args, below, meth, c, A, nL0, D0, cl0, Q⟩ := κ
  obtain ⟨rfl, rfl, rfl, rfl, rfl, hx, hb, hml, hown, hts, hgT, hK, hnw, hA⟩ := C
  intro H locs ls hl hP hD hS
  refine va_newa (atype := .long) (ty := .long) (a0 := (N, .inr (.inl (fun _ => 0)))) hx hb (hts _ hw) rfl hK hP hD hS hA (fun _ => rfl) hx0 hN hby hcells hslots hdg (fun q cB H1 hK1 hP1 hD1 hS1 => ?_)
  have h1 := (hK1.2 tys.length (cB, .long) (by simp)).2
  have h2 := (hK.2 t0 (cA, .long) ht0).2
  have h3 : s.vm.findClass _ = some cB := h1
  have h4 : s.vm.findClass _ = some cA := h2
  obtain rfl : cB = cA := Option.some.inj (h3.symm.trans h4)
  exact kk q H1 locs ls hl hP1 hD1 hS1
theorem e_newZ {x : Int32} {N : Nat} {cA : ClassId} (C : Cb κ cc nL own Ts R l D cl tys nw) (t0 : Nat) (ht0 : tys[t0]? = some (cA, .boolean)) (hw : Cond.arrayClass .boolean ∈ Ts) (hx0 : ¬ x < 0) (hN : x.toNatClampNeg = N) (hby : N * componentBytes .boolean ≤ 536870912) (hcells : k + 1 ≤ R.cells) (hslots : n + N ≤ R.slots) (hdg : decode cc pc = .ok (.newarray .boolean, 2)) (kk : ∀ q : Nat, E κ lv (.ref q :: st) (ws ++ [(q, .inl (cA, (N, .inl (fun _ => 0))))]) (k + 1) (n + N) (pc + 2)) : E κ lv (.int x :: st) ws k n pc := by
  obtain ⟨p, l0, e, R0, s, m, args, below, meth, c, A, nL0, D0, cl0, Q⟩ := κ
  obtain ⟨rfl, rfl, rfl, rfl, rfl, hx, hb, hml, hown, hts, hgT, hK, hnw, hA⟩ := C
  intro H locs ls hl hP hD hS
  refine va_newa (atype := .boolean) (ty := .boolean) (a0 := (N, .inl (fun _ => 0))) hx hb (hts _ hw) rfl hK hP hD hS hA (fun _ => rfl) hx0 hN hby hcells hslots hdg (fun q cB H1 hK1 hP1 hD1 hS1 => ?_)
  have h1 := (hK1.2 tys.length (cB, .boolean) (by simp)).2
  have h2 := (hK.2 t0 (cA, .boolean) ht0).2
  have h3 : s.vm.findClass _ = some cB := h1
  have h4 : s.vm.findClass _ = some cA := h2
  obtain rfl : cB = cA := Option.some.inj (h3.symm.trans h4)
  exact kk q H1 locs ls hl hP1 hD1 hS1
theorem e_newB {x : Int32} {N : Nat} {cA : ClassId} (C : Cb κ cc nL own Ts R l D cl tys nw) (t0 : Nat) (ht0 : tys[t0]? = some (cA, .byte)) (hw : Cond.arrayClass .byte ∈ Ts) (hx0 : ¬ x < 0) (hN : x.toNatClampNeg = N) (hby : N * componentBytes .byte ≤ 536870912) (hcells : k + 1 ≤ R.cells) (hslots : n + N ≤ R.slots) (hdg : decode cc pc = .ok (.newarray .byte, 2)) (kk : ∀ q : Nat, E κ lv (.ref q :: st) (ws ++ [(q, .inl (cA, (N, .inl (fun _ => 0))))]) (k + 1) (n + N) (pc + 2)) : E κ lv (.int x :: st) ws k n pc := by
  obtain ⟨p, l0, e, R0, s, m, args, below, meth, c, A, nL0, D0, cl0, Q⟩ := κ
  obtain ⟨rfl, rfl, rfl, rfl, rfl, hx, hb, hml, hown, hts, hgT, hK, hnw, hA⟩ := C
  intro H locs ls hl hP hD hS
  refine va_newa (atype := .byte) (ty := .byte) (a0 := (N, .inl (fun _ => 0))) hx hb (hts _ hw) rfl hK hP hD hS hA (fun _ => rfl) hx0 hN hby hcells hslots hdg (fun q cB H1 hK1 hP1 hD1 hS1 => ?_)
  have h1 := (hK1.2 tys.length (cB, .byte) (by simp)).2
  have h2 := (hK.2 t0 (cA, .byte) ht0).2
  have h3 : s.vm.findClass _ = some cB := h1
  have h4 : s.vm.findClass _ = some cA := h2
  obtain rfl : cB = cA := Option.some.inj (h3.symm.trans h4)
  exact kk q H1 locs ls hl hP1 hD1 hS1
theorem e_iald {a N : Nat} {cA : ClassId} {f : Nat → Int32} {i : Int32} (C : Cb κ cc nL own Ts R l D cl tys nw) (q0 t0 : Nat) (ha : ws[q0]? = some (a, .inl (cA, N, .inl f))) (ht : tys[t0]? = some (cA, .int)) (hi : vp_in i N) (hdg : decode cc pc = .ok (.iaload, 1)) (kk : E κ lv (.int (f i.toNatClampNeg) :: st) ws k n (pc + 1)) : E κ lv (.int i :: .ref a :: st) ws k n pc := by
  obtain ⟨p, l0, e, R0, s, m, args, below, meth, c, A, nL0, D0, cl0, Q⟩ := κ
  obtain ⟨rfl, rfl, rfl, rfl, rfl, hx, hb, hml, hown, hts, hgT, hK, hnw, hA⟩ := C
  exact fun H locs ls hl hP hD hS => va_iald hx hb hK hP q0 t0 ha ht hi hdg (kk H locs ls hl hP hD hS)
theorem e_bald {a N : Nat} {cA : ClassId} {f : Nat → Int32} {i : Int32} (C : Cb κ cc nL own Ts R l D cl tys nw) (q0 t0 : Nat) (ha : ws[q0]? = some (a, .inl (cA, N, .inl f))) (ht : tys[t0]? = some (cA, .byte)) (hi : vp_in i N) (hdg : decode cc pc = .ok (.baload, 1)) (kk : E κ lv (.int (f i.toNatClampNeg) :: st) ws k n (pc + 1)) : E κ lv (.int i :: .ref a :: st) ws k n pc := by
  obtain ⟨p, l0, e, R0, s, m, args, below, meth, c, A, nL0, D0, cl0, Q⟩ := κ
  obtain ⟨rfl, rfl, rfl, rfl, rfl, hx, hb, hml, hown, hts, hgT, hK, hnw, hA⟩ := C
  exact fun H locs ls hl hP hD hS => va_bald hx hb hK hP q0 t0 ha ht hi hdg (kk H locs ls hl hP hD hS)
theorem e_zald {a N : Nat} {cA : ClassId} {f : Nat → Int32} {i : Int32} (C : Cb κ cc nL own Ts R l D cl tys nw) (q0 t0 : Nat) (ha : ws[q0]? = some (a, .inl (cA, N, .inl f))) (ht : tys[t0]? = some (cA, .boolean)) (hi : vp_in i N) (hdg : decode cc pc = .ok (.baload, 1)) (kk : E κ lv (.int (f i.toNatClampNeg) :: st) ws k n (pc + 1)) : E κ lv (.int i :: .ref a :: st) ws k n pc := by
  obtain ⟨p, l0, e, R0, s, m, args, below, meth, c, A, nL0, D0, cl0, Q⟩ := κ
  obtain ⟨rfl, rfl, rfl, rfl, rfl, hx, hb, hml, hown, hts, hgT, hK, hnw, hA⟩ := C
  exact fun H locs ls hl hP hD hS => va_zald hx hb hK hP q0 t0 ha ht hi hdg (kk H locs ls hl hP hD hS)
theorem e_lald {a N : Nat} {cA : ClassId} {f : Nat → Int64} {i : Int32} (C : Cb κ cc nL own Ts R l D cl tys nw) (q0 t0 : Nat) (ha : ws[q0]? = some (a, .inl (cA, N, .inr (.inl f)))) (ht : tys[t0]? = some (cA, .long)) (hi : vp_in i N) (hdg : decode cc pc = .ok (.laload, 1)) (kk : E κ lv (.long (f i.toNatClampNeg) :: st) ws k n (pc + 1)) : E κ lv (.int i :: .ref a :: st) ws k n pc := by
  obtain ⟨p, l0, e, R0, s, m, args, below, meth, c, A, nL0, D0, cl0, Q⟩ := κ
  obtain ⟨rfl, rfl, rfl, rfl, rfl, hx, hb, hml, hown, hts, hgT, hK, hnw, hA⟩ := C
  exact fun H locs ls hl hP hD hS => va_lald hx hb hK hP q0 t0 ha ht hi hdg (kk H locs ls hl hP hD hS)
theorem e_iast {a N : Nat} {cA : ClassId} {f : Nat → Int32} {i : Int32} {x : Int32} (C : Cb κ cc nL own Ts R l D cl tys nw) (q0 t0 : Nat) (ha : ws[q0]? = some (a, .inl (cA, N, .inl f))) (ht : tys[t0]? = some (cA, .int)) (hi : vp_in i N) (hdg : decode cc pc = .ok (.iastore, 1)) (kk : E κ lv st (ws.set q0 (a, .inl (cA, N, .inl (upd f i.toNatClampNeg x)))) k n (pc + 1)) : E κ lv (.int x :: .int i :: .ref a :: st) ws k n pc := by
  obtain ⟨p, l0, e, R0, s, m, args, below, meth, c, A, nL0, D0, cl0, Q⟩ := κ
  obtain ⟨rfl, rfl, rfl, rfl, rfl, hx, hb, hml, hown, hts, hgT, hK, hnw, hA⟩ := C
  exact fun H locs ls hl hP hD hS => va_iast hx hb hK hP hD hS q0 t0 ha ht hi hdg (fun H1 locs1 hP1 hD1 hS1 => kk H1 locs1 ls hl hP1 hD1 hS1)
theorem e_last {a N : Nat} {cA : ClassId} {f : Nat → Int64} {i : Int32} {x : Int64} (C : Cb κ cc nL own Ts R l D cl tys nw) (q0 t0 : Nat) (ha : ws[q0]? = some (a, .inl (cA, N, .inr (.inl f)))) (ht : tys[t0]? = some (cA, .long)) (hi : vp_in i N) (hdg : decode cc pc = .ok (.lastore, 1)) (kk : E κ lv st (ws.set q0 (a, .inl (cA, N, .inr (.inl (vp_updL f i.toNatClampNeg x))))) k n (pc + 1)) : E κ lv (.long x :: .int i :: .ref a :: st) ws k n pc := by
  obtain ⟨p, l0, e, R0, s, m, args, below, meth, c, A, nL0, D0, cl0, Q⟩ := κ
  obtain ⟨rfl, rfl, rfl, rfl, rfl, hx, hb, hml, hown, hts, hgT, hK, hnw, hA⟩ := C
  exact fun H locs ls hl hP hD hS => va_last hx hb hK hP hD hS q0 t0 ha ht hi hdg (fun H1 locs1 hP1 hD1 hS1 => kk H1 locs1 ls hl hP1 hD1 hS1)
theorem e_alen {a : Nat} {cA : ClassId} {x : vp_A} {ty : FieldType} {v : Int32} (C : Cb κ cc nL own Ts R l D cl tys nw) (q0 t0 : Nat) (ha : ws[q0]? = some (a, .inl (cA, x))) (ht : tys[t0]? = some (cA, ty)) (hv : Int32.ofNat x.1 = v) (hdg : decode cc pc = .ok (.arraylength, 1)) (kk : E κ lv (.int v :: st) ws k n (pc + 1)) : E κ lv (.ref a :: st) ws k n pc := by
  obtain ⟨p, l0, e, R0, s, m, args, below, meth, c, A, nL0, D0, cl0, Q⟩ := κ
  obtain ⟨rfl, rfl, rfl, rfl, rfl, hx, hb, hml, hown, hts, hgT, hK, hnw, hA⟩ := C
  exact fun H locs ls hl hP hD hS => va_alen hx hb hK hP q0 t0 ha ht hv hdg (kk H locs ls hl hP hD hS)
theorem e_objInit {ix a : Nat} (C : Cb κ cc nL own Ts R l D cl tys nw) (hw1 : Cond.methodLink own ix Lib.objectInit ∈ Ts) (hw2 : Cond.instanceMethod Lib.objectInit ∈ Ts) (hw3 : Cond.code Lib.objectInit ⟨#[0xb1]⟩ 1 none ∈ Ts) (hdg : decode cc pc = .ok (.invokespecial ix, 3)) (hf : 1 ≤ R.frames) (hlo : (st.map fun v => v.category).sum + 12 ≤ R.locals) (kk : E κ lv st ws k n (pc + 3)) : E κ lv (.ref a :: st) ws k n pc := by
  obtain ⟨p, l0, e, R0, s, m, args, below, meth, c, A, nL0, D0, cl0, Q⟩ := κ
  obtain ⟨rfl, rfl, rfl, rfl, rfl, hx, hb, hml, hown, hts, hgT, hK, hnw, hA⟩ := C
  exact fun H locs ls hl hP hD hS => W.objInit hx hb hown (hts _ hw1) (hts _ hw2) (hts _ hw3) rfl (by rw [hml]; exact hl.1) rfl hdg hf (by have h0 : (F0 m pc ls (.ref a :: st)).monitorRoom = 0 := rfl; rw [h0]; omega) (kk H locs ls hl hP hD hS)
theorem e_mmax {ix : Nat} {x y : Int32} (C : Cb κ cc nL own Ts R l D cl tys nw) (hw1 : Cond.methodLink own ix Lib.Math.max.name ∈ Ts) (hw2 : Cond.static Lib.Math.max.name ∈ Ts) (hw3 : Cond.initialized "java/lang/Math" ∈ Ts) (hw4 : Cond.code Lib.Math.max.name Lib.Math.max.code 2 (some .int) ∈ Ts) (hf : 1 ≤ R.frames) (hlo : (st.map fun v => v.category).sum + 13 ≤ R.locals) (hc : k ≤ R.cells) (hs : n ≤ R.slots) (hdg : decode cc pc = .ok (.invokestatic ix, 3)) (kk : E κ lv (.int (if x < y then y else x) :: st) ws k n (pc + 3)) : E κ lv (.int y :: .int x :: st) ws k n pc := by
  obtain ⟨p, l0, e, R0, s, m, args, below, meth, c, A, nL0, D0, cl0, Q⟩ := κ
  obtain ⟨rfl, rfl, rfl, rfl, rfl, hx, hb, hml, hown, hts, hgT, hK, hnw, hA⟩ := C
  exact fun H locs ls hl hP hD hS => va_mmax hx hb (hml.trans hl.1.symm) hown (hts _ hw1) (hts _ hw2) (hts _ hw3) (hts _ hw4) hf hlo hc hs hdg (kk H locs ls hl hP hD hS)
theorem e_mmin {ix : Nat} {x y : Int32} (C : Cb κ cc nL own Ts R l D cl tys nw) (hw1 : Cond.methodLink own ix Lib.Math.min.name ∈ Ts) (hw2 : Cond.static Lib.Math.min.name ∈ Ts) (hw3 : Cond.initialized "java/lang/Math" ∈ Ts) (hw4 : Cond.code Lib.Math.min.name Lib.Math.min.code 2 (some .int) ∈ Ts) (hf : 1 ≤ R.frames) (hlo : (st.map fun v => v.category).sum + 13 ≤ R.locals) (hc : k ≤ R.cells) (hs : n ≤ R.slots) (hdg : decode cc pc = .ok (.invokestatic ix, 3)) (kk : E κ lv (.int (if y < x then y else x) :: st) ws k n (pc + 3)) : E κ lv (.int y :: .int x :: st) ws k n pc := by
  obtain ⟨p, l0, e, R0, s, m, args, below, meth, c, A, nL0, D0, cl0, Q⟩ := κ
  obtain ⟨rfl, rfl, rfl, rfl, rfl, hx, hb, hml, hown, hts, hgT, hK, hnw, hA⟩ := C
  exact fun H locs ls hl hP hD hS => va_mmin hx hb (hml.trans hl.1.symm) hown (hts _ hw1) (hts _ hw2) (hts _ hw3) (hts _ hw4) hf hlo hc hs hdg (kk H locs ls hl hP hD hS)
/-! contracts and calls -/
def nwk : Cond → Bool
  | .fieldLinkNest .. => true
  | .methodLinkNest .. => true
  | .declares .. => true
  | _ => false
theorem nw_same {w : Cond} (h : nwk w = true) {u U : State} (hv : u.vm = U.vm) (hz : va_Nw w u) : va_Nw w U := by
  cases w <;> first | exact va_Nw.same rfl hv hz | (simp [nwk] at h)
theorem nw_warm {w : Cond} (h : nwk w = true) {s U : State} (hW : s.WarmedH U.vm) (hz : va_Nw w s) : va_Nw w U := by
  cases w <;> first | exact va_Nw.warmF hW hz | exact va_Nw.warmM hW hz | exact va_Nw.warmD hW hz | (simp [nwk] at h)
def Pg (D : va_G) (cl : List vw_C) (tys : List (ClassId × FieldType)) (nw : List Cond) (av : List Value) (w0 : va_W) (sz : Nat) : Array Value → State → Prop := va_Pc av (fun U => U.heap.size = sz ∧ va_P D cl w0 U.heap ∧ va_K D cl tys U ∧ (∀ w ∈ nw, va_Nw w U) ∧ va_D (fun _ => True) w0)
def Qg (D : va_G) (cl : List vw_C) (post : Option Value → va_W → Prop) (A : Nat → Prop) : Array Value → State → Outcome → State → Prop := fun _ st oc t => (∃ (v : Option Value) (w1 : va_W), oc = .returned v ∧ post v w1 ∧ va_P D cl w1 t.heap ∧ va_D A w1) ∧ va_F A st t
/-- the contract of a method: from the world w0 with the arguments av it comes to an answer and a world with post; mc cells of ms slots are new -/
def MC (l : Launch) (Ts : List Cond) (y : MethodName) (cc : ByteArray) (nL : Nat) (ret : Option FieldType) (fr lo : Nat) (D : va_G) (cl : List vw_C) (tys : List (ClassId × FieldType)) (nw : List Cond) (av : List Value) (w0 : va_W) (mc ms : Nat) (post : Option Value → va_W → Prop) : Prop :=
  ∀ sz : Nat, Met l y (Cond.code y cc nL ret :: Ts) { frames := fr, cells := mc, slots := ms, locals := lo } (Pg D cl tys nw av w0 sz) (Qg D cl post (va_A w0 sz)) mc ms (va_A w0 sz)
theorem good_cons {Ts : List Cond} {w0 : Cond} (h : w0 ∈ Ts) (hg : ∀ w ∈ Ts, goodWord w = true) : GoodIn Ts (w0 :: Ts) := by
  intro w hw
  have h1 : w ∈ Ts := by
    rcases List.mem_cons.mp hw with rfl | q
    · exact h
    · exact q
  exact ⟨h1, good_of_word (hg w h1)⟩
def Rt (κ : eT) (ret : Option FieldType) (post : Option Value → va_W → Prop) (mc ms : Nat) : Prop := match κ with
  | (_, _, _, _, s, _, args, below, meth, _, A, _, D, cl, Q) => meth.sig.returnType = ret ∧ meth.locks = false ∧ Q = MQ below (Qg D cl post A) args s mc ms A
theorem MC.of {l : Launch} {Ts : List Cond} {y : MethodName} {cc : ByteArray} {nL : Nat} {ret : Option FieldType} {fr lo : Nat} {D : va_G} {cl : List vw_C} {tys : List (ClassId × FieldType)} {nw : List Cond} {av : List Value} {w0 : va_W} {mc ms : Nat} {post : Option Value → va_W → Prop} (hy : plainName y.cls = true) (hgT : ∀ w ∈ Ts, goodWord w = true) (hav : (lg_sl av).length ≤ nL)
    (body : ∀ κ : eT, Cb κ cc nL y.cls Ts { frames := fr, cells := mc, slots := ms, locals := lo } l D cl tys nw → Rt κ ret post mc ms → eIn κ y.name → E κ (lu_o (lv_args 0 av)) [] w0 0 0 0) : MC l Ts y cc nL ret fr lo D cl tys nw av w0 mc ms post := by
  intro sz
  refine Met.ofW (cc := cc) (maxL := nL) (ret := ret) hy rfl ?_
  intro p e s m args below meth c s₁ B hml hv
  obtain ⟨rfl, hsz, hP, hK, hN, hD0⟩ := hv
  subst hsz
  rw [lg_entry_eq]
  exact body (p, l, e, _, s, m, av.toArray, below, meth, c, va_A w0 s.heap.size, nL, D, cl, _) ⟨rfl, rfl, rfl, rfl, rfl, B.exec, B.bytes, hml, findClass_of_methodNamed B.named, fun w hw => atoms_spec (ws := Cond.code y cc nL ret :: Ts) B.pre w (List.mem_cons_of_mem _ hw), hgT, hK, hN, fun q h => Or.inr h⟩ ⟨B.returns, B.notSynchronized, rfl⟩ (name_of_methodNamed B.named B.method).1 s.heap [] _ (eL_entry av hav) hP hD0.self va_S.rf
/-- what the tables say of a method that is called: an instance's, a static one, a constructor, one that stands for an abstract one -/
def mNo (y : MethodName) (n : Nat) : Prop := y.cls ≠ "java/lang/invoke/MethodHandle" ∧ y.cls ≠ "java/lang/invoke/VarHandle" ∧ (parseMethodDescriptor y.desc).map (fun d => d.parameters.length) = some n
def mV (Ts : List Cond) (C : String) (y : MethodName) (cc : ByteArray) (nL : Nat) (ret : Option FieldType) (n : Nat) : Prop := Cond.code y cc nL ret ∈ Ts ∧ Cond.instanceMethod y ∈ Ts ∧ Cond.selects C y y ∈ Ts ∧ Cond.initialized y.cls ∈ Ts ∧ mNo y n
def mS (Ts : List Cond) (y : MethodName) (cc : ByteArray) (nL : Nat) (ret : Option FieldType) (n : Nat) : Prop := Cond.code y cc nL ret ∈ Ts ∧ Cond.static y ∈ Ts ∧ Cond.initialized y.cls ∈ Ts ∧ mNo y n
def mI (Ts : List Cond) (y : MethodName) (cc : ByteArray) (nL : Nat) (n : Nat) : Prop := Cond.code y cc nL none ∈ Ts ∧ Cond.instanceMethod y ∈ Ts ∧ Cond.initialized y.cls ∈ Ts ∧ y.name = "<init>" ∧ mNo y n
def mA (Ts nw : List Cond) (C owner : String) (x y : MethodName) (cc : ByteArray) (nL : Nat) (ret : Option FieldType) (n : Nat) : Prop := Cond.code y cc nL ret ∈ Ts ∧ Cond.sameMethod x.cls owner x.name x.desc ∈ Ts ∧ Cond.selects C x y ∈ Ts ∧ Cond.instanceMethod y ∈ Ts ∧ Cond.initialized y.cls ∈ Ts ∧ Cond.declares ⟨owner, x.name, x.desc⟩ ∈ nw ∧ owner ≠ "java/lang/invoke/MethodHandle" ∧ owner ≠ "java/lang/invoke/VarHandle" ∧ (parseMethodDescriptor x.desc).map (fun d => d.parameters.length) = some n
theorem aG {Ts nw : List Cond} {C owner own : String} {x y : MethodName} {cc : ByteArray} {nL n ix : Nat} {ret : Option FieldType} (hv : mA Ts nw C owner x y cc nL ret n) (hw : Cond.methodLink own ix x ∈ Ts) (hg : ∀ w ∈ Ts, goodWord w = true) : GoodIn Ts (va_wsU own ix C owner x y (Cond.code y cc nL ret :: Ts)) := by
  intro w h
  have h1 : w ∈ Ts := by
    rcases List.mem_append.mp h with q | q
    · simp only [List.mem_cons, List.not_mem_nil, or_false] at q
      rcases q with rfl | rfl | rfl | rfl | rfl
      · exact hw
      · exact hv.2.1
      · exact hv.2.2.1
      · exact hv.2.2.2.1
      · exact hv.2.2.2.2.1
    · rcases List.mem_cons.mp q with rfl | q
      · exact hv.1
      · exact q
  exact ⟨h1, good_of_word (hg w h1)⟩
theorem va_P_in {D : va_G} {cl : List vw_C} {ws wc : va_W} {H : Heap} (h : va_P D cl ws H) (isC : List Nat) (hC : isC.map (fun i => ws[i]?) = wc.map some) : va_P D cl wc H := by
  intro k q hk
  have h1 : (isC.map (fun i => ws[i]?))[k]? = some (some q) := by rw [hC, List.getElem?_map, hk]; rfl
  rw [List.getElem?_map] at h1
  cases hi : isC[k]? with
  | none => rw [hi] at h1; cases h1
  | some i => rw [hi] at h1; exact h i q (Option.some.inj h1)
theorem w_call {p : Program} {l : Launch} {e : Env} {R : Room} {s : State} {m : MethodId} {args : Array Value} {below : List Frame} {meth : Method} {c : Code} {H : Heap} {locs : List Loc} {cells slots : Nat} {Q : State → Prop} {pc : Nat} {ls : Array Slot} {rest st0 : List Value} {a : Array Value} {A0 : Nat → Prop} {mc ms : Nat} {D : va_G} {cl : List vw_C} {ws wc wr : va_W} {post : Option Value → va_W → Prop}
    (hr : va_Run p l e R s m args below meth c H locs cells slots mc ms (F0 m pc ls st0) rest (Qg D cl post (va_A wc H.size) a) (va_A wc H.size)) (hP : va_P D cl ws H) (hD : va_D A0 ws) (hS : va_S A0 s.heap H locs) (hA : ∀ q : Nat, s.heap.size ≤ q → A0 q) (isC isR : List Nat) (hC : isC.map (fun i => ws[i]?) = wc.map some) (hR : isR.map (fun i => ws[i]?) = wr.map some) (hn : va_nd isR = true) (hdis : ∀ i ∈ isR, i ∉ isC)
    (kk : ∀ (v : Option Value) (w1 : va_W) (H1 : Heap) (locs1 : List Loc), post v w1 → va_P D cl (wr ++ w1) H1 → va_D A0 (wr ++ w1) → va_S A0 s.heap H1 locs1 → W p l e R s m args below meth c H1 locs1 (cells + mc) (slots + ms) Q (F0 m (pc + 3) ls (v.toList ++ rest))) : W p l e R s m args below meth c H locs cells slots Q (F0 m pc ls st0) := by
  intro T hT X
  have hF := va_free (wc := wc) hD hS hA isC hC
  obtain ⟨v, st₀, t, T', L, h0, X', hL, e1, e2, ⟨⟨v', w1, hv, hp, hP1, hD1⟩, hz, hk⟩, st⟩ := hr T hT X
  cases hv
  rw [h0] at hz hk
  obtain ⟨g1, g2⟩ := va_join (wr := wr) (w1 := w1) hP hD isC isR hC hR hn hdis hk hF hP1 hD1
  obtain ⟨t2, a1, b1⟩ := kk v w1 T'.heap (locs ++ L) hp (by rw [e1]; exact g1) g2
    ⟨Nat.le_trans hS.1 (by rw [e1]; exact hz), fun q h1 h2 => by rw [e1, hk q (Nat.lt_of_lt_of_le h1 hS.1) (fun z => h2 (hF q z))]; exact hS.2.1 q h1 h2, fun q hq => by
      rcases List.mem_append.mp hq with h | h
      · exact hS.2.2 q h
      · exact hF _ (hL q h)⟩ T' rfl X'
  exact ⟨t2, st t2 a1, b1⟩
theorem Pg_blind {D : va_G} {cl : List vw_C} {tys : List (ClassId × FieldType)} {nw : List Cond} {av : List Value} {w0 : va_W} {sz : Nat} (hnk : ∀ w ∈ nw, nwk w = true) : FrameBlind (Pg D cl tys nw av w0 sz) := by
  intro a U g mk q
  obtain ⟨q0, q1, qP, qK, qN, qD⟩ := q
  exact ⟨q0, q1, qP, va_K.moved (u := U) (U := U.calling g mk a) (Vm.Alike.refl U.vm) qK, fun w hw => nw_same (u := U) (U := U.calling g mk a) (hnk w hw) rfl (qN w hw), qD⟩
theorem Pg_pre {D : va_G} {cl : List vw_C} {tys : List (ClassId × FieldType)} {nw : List Cond} {av : List Value} {wc : va_W} {s : State} {H : Heap} {A : Nat → Prop} (hnk : ∀ w ∈ nw, nwk w = true) (hK : va_K D cl tys s) (hnw : ∀ w ∈ nw, va_Nw w s) (hP : va_P D cl wc H) (hD : va_D A wc) : ∀ U : State, U.heap = H → s.WarmedH U.vm → Pg D cl tys nw av wc H.size av.toArray U := by
  intro U hU hW
  exact ⟨rfl, by rw [hU], by rw [hU]; exact hP, va_K.moved hW.alike hK, fun w hw => nw_warm (hnk w hw) hW (hnw w hw), hD.weaken (fun _ _ _ _ => trivial)⟩
theorem e_iret {v : Int32} {ty : FieldType} {post : Option Value → va_W → Prop} {mc ms : Nat} (C : Cb κ cc nL own Ts R l D cl tys nw) (Z : Rt κ (some ty) post mc ms) (hn : narrow ty (.int v) = .int v) (h1 : k ≤ mc) (h2 : n ≤ ms) (h : post (some (.int v)) ws) (hdg : decode cc pc = .ok (.ireturn, 1)) : E κ lv [.int v] ws k n pc := by
  obtain ⟨p, l0, e, R0, s, m, args, below, meth, c, A, nL0, D0, cl0, Q⟩ := κ
  obtain ⟨rfl, rfl, rfl, rfl, rfl, hx, hb, hml, hown, hts, hgT, hK, hnw, hA⟩ := C
  obtain ⟨hr, hlk, rfl⟩ := Z
  exact fun H locs ls hl hP hD hS => W.widen h1 h2 (W.zret hx hb hr hn (fun t ht hW => ⟨⟨_, ws, rfl, h, by rw [ht]; exact hP, hD⟩, hS.F ht⟩) hS.2.2 hdg (hlocks := hlk))
theorem e_lret {v : Int64} {post : Option Value → va_W → Prop} {mc ms : Nat} (C : Cb κ cc nL own Ts R l D cl tys nw) (Z : Rt κ (some .long) post mc ms)  (h1 : k ≤ mc) (h2 : n ≤ ms) (h : post (some (.long v)) ws) (hdg : decode cc pc = .ok (.lreturn, 1)) : E κ lv [.long v] ws k n pc := by
  obtain ⟨p, l0, e, R0, s, m, args, below, meth, c, A, nL0, D0, cl0, Q⟩ := κ
  obtain ⟨rfl, rfl, rfl, rfl, rfl, hx, hb, hml, hown, hts, hgT, hK, hnw, hA⟩ := C
  obtain ⟨hr, hlk, rfl⟩ := Z
  exact fun H locs ls hl hP hD hS => W.widen h1 h2 (W.lret hx hb hr (fun t ht hW => ⟨⟨_, ws, rfl, h, by rw [ht]; exact hP, hD⟩, hS.F ht⟩) hS.2.2 hdg (hlocks := hlk))
theorem e_vret  {post : Option Value → va_W → Prop} {mc ms : Nat} (C : Cb κ cc nL own Ts R l D cl tys nw) (Z : Rt κ none post mc ms)  (h1 : k ≤ mc) (h2 : n ≤ ms) (h : post none ws) (hdg : decode cc pc = .ok (.return_, 1)) : E κ lv [] ws k n pc := by
  obtain ⟨p, l0, e, R0, s, m, args, below, meth, c, A, nL0, D0, cl0, Q⟩ := κ
  obtain ⟨rfl, rfl, rfl, rfl, rfl, hx, hb, hml, hown, hts, hgT, hK, hnw, hA⟩ := C
  obtain ⟨hr, hlk, rfl⟩ := Z
  exact fun H locs ls hl hP hD hS => W.widen h1 h2 (W.vret hx hb hr (fun t ht hW => ⟨⟨_, ws, rfl, h, by rw [ht]; exact hP, hD⟩, hS.F ht⟩) hS.2.2 hdg (hlocks := hlk))
theorem e_aret {v : Nat} {ty : FieldType} {post : Option Value → va_W → Prop} {mc ms : Nat} (C : Cb κ cc nL own Ts R l D cl tys nw) (Z : Rt κ (some ty) post mc ms) (hrt : (∃ n, ty = .object n) ∨ ∃ t, ty = .array t) (h1 : k ≤ mc) (h2 : n ≤ ms) (h : post (some (.ref v)) ws) (hdg : decode cc pc = .ok (.areturn, 1)) : E κ lv [.ref v] ws k n pc := by
  obtain ⟨p, l0, e, R0, s, m, args, below, meth, c, A, nL0, D0, cl0, Q⟩ := κ
  obtain ⟨rfl, rfl, rfl, rfl, rfl, hx, hb, hml, hown, hts, hgT, hK, hnw, hA⟩ := C
  obtain ⟨hr, hlk, rfl⟩ := Z
  exact fun H locs ls hl hP hD hS => W.widen h1 h2 (W.aret hx hb hr hrt (Or.inr ⟨_, rfl⟩) (fun t ht hW => ⟨⟨_, ws, rfl, h, by rw [ht]; exact hP, hD⟩, hS.F ht⟩) hS.2.2 hdg (hlocks := hlk))
theorem e_callV {y : MethodName} {bytes : ByteArray} {maxL fr lo mc ms ix : Nat} {ret : Option FieldType} {post : Option Value → va_W → Prop} {wc wr : va_W} {As st0 : List Value} {b ci : Nat} {fs : List Value} {qc : vw_C} (C : Cb κ cc nL own Ts R l D cl tys nw) (hM : MC l Ts y bytes maxL ret fr lo D cl tys nw (.ref b :: As) wc mc ms post) (hv : mV Ts qc.1 y bytes maxL ret As.length) (hw : Cond.methodLink own ix y ∈ Ts) (q0 : Nat) (hc : cl[ci]? = some qc) (he : ws[q0]? = some (b, .inr (ci, fs))) (hnk : ∀ w ∈ nw, nwk w = true) (hf : k + mc ≤ R.cells ∧ n + ms ≤ R.slots) (hR : fr + 1 ≤ R.frames ∧ 8 + (maxL + 11) + lo ≤ R.locals) (isC isR : List Nat) (hC : isC.map (fun i => ws[i]?) = wc.map some) (hRr : isR.map (fun i => ws[i]?) = wr.map some) (hnC : va_nd isC = true) (hnR : va_nd isR = true) (hdis : ∀ i ∈ isR, i ∉ isC) (hst : (st.map fun v => v.category).sum ≤ 8) (hs : st0 = As.reverse ++ .ref b :: st) (hdg : decode cc pc = .ok (.invokevirtual ix, 3)) (kk : ∀ (v : Option Value) (w1 : va_W), post v w1 → E κ lv (v.toList ++ st) (wr ++ w1) (k + mc) (n + ms) (pc + 3)) : E κ lv st0 ws k n pc := by
  obtain ⟨p, l0, e, R0, s, m, args, below, meth, c, A, nL0, D0, cl0, Q⟩ := κ
  obtain ⟨rfl, rfl, rfl, rfl, rfl, hx, hb, hml, hown, hts, hgT, hK, hnw, hA⟩ := C
  subst hs
  exact fun H locs ls hl hP hD hS => w_call (va_runV (As := As) (rest := st) ⟨hx, hb, hml, hown, hts⟩ (hM H.size) ⟨callB_of As.length hts (good_cons hv.1 hgT) rfl rfl rfl (hts _ hv.2.2.2.1) (hts _ hw) hv.2.2.2.2 hR, hts _ hv.2.1, hts _ hv.2.2.1⟩ ⟨Pg_blind hnk, va_recv hK hP hc he, Pg_pre hnk hK hnw (va_P_in hP isC hC) (hD.sub isC hnC hC)⟩ rfl rfl hl.1 rfl (lv_room hst) hdg hf) hP hD hS hA isC isR hC hRr hnR hdis (fun v w1 H1 locs1 hp hP1 hD1 hS1 => kk v w1 hp H1 locs1 ls hl hP1 hD1 hS1)
theorem e_callVN {y : MethodName} {bytes : ByteArray} {maxL fr lo mc ms ix : Nat} {ret : Option FieldType} {post : Option Value → va_W → Prop} {wc wr : va_W} {As st0 : List Value} {b ci : Nat} {fs : List Value} {qc : vw_C} {host : String} (C : Cb κ cc nL own Ts R l D cl tys nw) (hM : MC l Ts y bytes maxL ret fr lo D cl tys nw (.ref b :: As) wc mc ms post) (hv : mV Ts qc.1 y bytes maxL ret As.length) (hw : Cond.methodLinkNest own ix y host ∈ nw) (q0 : Nat) (hc : cl[ci]? = some qc) (he : ws[q0]? = some (b, .inr (ci, fs))) (hnk : ∀ w ∈ nw, nwk w = true) (hf : k + mc ≤ R.cells ∧ n + ms ≤ R.slots) (hR : fr + 1 ≤ R.frames ∧ 8 + (maxL + 11) + lo ≤ R.locals) (isC isR : List Nat) (hC : isC.map (fun i => ws[i]?) = wc.map some) (hRr : isR.map (fun i => ws[i]?) = wr.map some) (hnC : va_nd isC = true) (hnR : va_nd isR = true) (hdis : ∀ i ∈ isR, i ∉ isC) (hst : (st.map fun v => v.category).sum ≤ 8) (hs : st0 = As.reverse ++ .ref b :: st) (hdg : decode cc pc = .ok (.invokevirtual ix, 3)) (kk : ∀ (v : Option Value) (w1 : va_W), post v w1 → E κ lv (v.toList ++ st) (wr ++ w1) (k + mc) (n + ms) (pc + 3)) : E κ lv st0 ws k n pc := by
  obtain ⟨p, l0, e, R0, s, m, args, below, meth, c, A, nL0, D0, cl0, Q⟩ := κ
  obtain ⟨rfl, rfl, rfl, rfl, rfl, hx, hb, hml, hown, hts, hgT, hK, hnw, hA⟩ := C
  subst hs
  exact fun H locs ls hl hP hD hS => w_call (va_runVN (As := As) (rest := st) ⟨hx, hb, hml, hown, hts⟩ (hM H.size) ⟨va_cnB As.length hts (good_cons hv.1 hgT) rfl rfl rfl (hnw _ hw) (hts _ hv.2.2.2.1) hv.2.2.2.2 hR, hts _ hv.2.1, hts _ hv.2.2.1⟩ ⟨Pg_blind hnk, va_recv hK hP hc he, Pg_pre hnk hK hnw (va_P_in hP isC hC) (hD.sub isC hnC hC)⟩ rfl rfl hl.1 rfl (lv_room hst) hdg hf) hP hD hS hA isC isR hC hRr hnR hdis (fun v w1 H1 locs1 hp hP1 hD1 hS1 => kk v w1 hp H1 locs1 ls hl hP1 hD1 hS1)
theorem e_callS {y : MethodName} {bytes : ByteArray} {maxL fr lo mc ms ix : Nat} {ret : Option FieldType} {post : Option Value → va_W → Prop} {wc wr : va_W} {As st0 : List Value}  (C : Cb κ cc nL own Ts R l D cl tys nw) (hM : MC l Ts y bytes maxL ret fr lo D cl tys nw As wc mc ms post) (hv : mS Ts y bytes maxL ret As.length) (hw : Cond.methodLink own ix y ∈ Ts) (hnk : ∀ w ∈ nw, nwk w = true) (hf : k + mc ≤ R.cells ∧ n + ms ≤ R.slots) (hR : fr + 1 ≤ R.frames ∧ 8 + (maxL + 11) + lo ≤ R.locals) (isC isR : List Nat) (hC : isC.map (fun i => ws[i]?) = wc.map some) (hRr : isR.map (fun i => ws[i]?) = wr.map some) (hnC : va_nd isC = true) (hnR : va_nd isR = true) (hdis : ∀ i ∈ isR, i ∉ isC) (hst : (st.map fun v => v.category).sum ≤ 8) (hs : st0 = As.reverse ++ st) (hdg : decode cc pc = .ok (.invokestatic ix, 3)) (kk : ∀ (v : Option Value) (w1 : va_W), post v w1 → E κ lv (v.toList ++ st) (wr ++ w1) (k + mc) (n + ms) (pc + 3)) : E κ lv st0 ws k n pc := by
  obtain ⟨p, l0, e, R0, s, m, args, below, meth, c, A, nL0, D0, cl0, Q⟩ := κ
  obtain ⟨rfl, rfl, rfl, rfl, rfl, hx, hb, hml, hown, hts, hgT, hK, hnw, hA⟩ := C
  subst hs
  exact fun H locs ls hl hP hD hS => w_call (va_runS (As := As) (rest := st) ⟨hx, hb, hml, hown, hts⟩ (hM H.size) ⟨callB_of As.length hts (good_cons hv.1 hgT) rfl rfl rfl (hts _ hv.2.2.1) (hts _ hw) hv.2.2.2 hR, hts _ hv.2.1⟩ ⟨Pg_blind hnk, Pg_pre hnk hK hnw (va_P_in hP isC hC) (hD.sub isC hnC hC)⟩ rfl rfl hl.1 rfl (lv_room hst) hdg hf) hP hD hS hA isC isR hC hRr hnR hdis (fun v w1 H1 locs1 hp hP1 hD1 hS1 => kk v w1 hp H1 locs1 ls hl hP1 hD1 hS1)
theorem e_callSN {y : MethodName} {bytes : ByteArray} {maxL fr lo mc ms ix : Nat} {ret : Option FieldType} {post : Option Value → va_W → Prop} {wc wr : va_W} {As st0 : List Value} {host : String} (C : Cb κ cc nL own Ts R l D cl tys nw) (hM : MC l Ts y bytes maxL ret fr lo D cl tys nw As wc mc ms post) (hv : mS Ts y bytes maxL ret As.length) (hw : Cond.methodLinkNest own ix y host ∈ nw) (hnk : ∀ w ∈ nw, nwk w = true) (hf : k + mc ≤ R.cells ∧ n + ms ≤ R.slots) (hR : fr + 1 ≤ R.frames ∧ 8 + (maxL + 11) + lo ≤ R.locals) (isC isR : List Nat) (hC : isC.map (fun i => ws[i]?) = wc.map some) (hRr : isR.map (fun i => ws[i]?) = wr.map some) (hnC : va_nd isC = true) (hnR : va_nd isR = true) (hdis : ∀ i ∈ isR, i ∉ isC) (hst : (st.map fun v => v.category).sum ≤ 8) (hs : st0 = As.reverse ++ st) (hdg : decode cc pc = .ok (.invokestatic ix, 3)) (kk : ∀ (v : Option Value) (w1 : va_W), post v w1 → E κ lv (v.toList ++ st) (wr ++ w1) (k + mc) (n + ms) (pc + 3)) : E κ lv st0 ws k n pc := by
  obtain ⟨p, l0, e, R0, s, m, args, below, meth, c, A, nL0, D0, cl0, Q⟩ := κ
  obtain ⟨rfl, rfl, rfl, rfl, rfl, hx, hb, hml, hown, hts, hgT, hK, hnw, hA⟩ := C
  subst hs
  exact fun H locs ls hl hP hD hS => w_call (va_runSN (As := As) (rest := st) ⟨hx, hb, hml, hown, hts⟩ (hM H.size) ⟨va_cnB As.length hts (good_cons hv.1 hgT) rfl rfl rfl (hnw _ hw) (hts _ hv.2.2.1) hv.2.2.2 hR, hts _ hv.2.1, trivial⟩ ⟨Pg_blind hnk, Pg_pre hnk hK hnw (va_P_in hP isC hC) (hD.sub isC hnC hC)⟩ rfl rfl hl.1 rfl (lv_room hst) hdg hf) hP hD hS hA isC isR hC hRr hnR hdis (fun v w1 H1 locs1 hp hP1 hD1 hS1 => kk v w1 hp H1 locs1 ls hl hP1 hD1 hS1)
theorem e_callI {y : MethodName} {bytes : ByteArray} {maxL fr lo mc ms ix : Nat} {ret : Option FieldType} {post : Option Value → va_W → Prop} {wc wr : va_W} {As st0 : List Value} {b : Nat} (C : Cb κ cc nL own Ts R l D cl tys nw) (hM : MC l Ts y bytes maxL none fr lo D cl tys nw (.ref b :: As) wc mc ms post) (hv : mI Ts y bytes maxL As.length) (hw : Cond.methodLink own ix y ∈ Ts) (hnk : ∀ w ∈ nw, nwk w = true) (hf : k + mc ≤ R.cells ∧ n + ms ≤ R.slots) (hR : fr + 1 ≤ R.frames ∧ 8 + (maxL + 11) + lo ≤ R.locals) (isC isR : List Nat) (hC : isC.map (fun i => ws[i]?) = wc.map some) (hRr : isR.map (fun i => ws[i]?) = wr.map some) (hnC : va_nd isC = true) (hnR : va_nd isR = true) (hdis : ∀ i ∈ isR, i ∉ isC) (hst : (st.map fun v => v.category).sum ≤ 8) (hs : st0 = As.reverse ++ .ref b :: st) (hdg : decode cc pc = .ok (.invokespecial ix, 3)) (kk : ∀ (v : Option Value) (w1 : va_W), post v w1 → E κ lv (v.toList ++ st) (wr ++ w1) (k + mc) (n + ms) (pc + 3)) : E κ lv st0 ws k n pc := by
  obtain ⟨p, l0, e, R0, s, m, args, below, meth, c, A, nL0, D0, cl0, Q⟩ := κ
  obtain ⟨rfl, rfl, rfl, rfl, rfl, hx, hb, hml, hown, hts, hgT, hK, hnw, hA⟩ := C
  subst hs
  exact fun H locs ls hl hP hD hS => w_call (va_runI (As := As) (rest := st) ⟨hx, hb, hml, hown, hts⟩ (hM H.size) ⟨callB_of As.length hts (good_cons hv.1 hgT) rfl rfl rfl (hts _ hv.2.2.1) (hts _ hw) hv.2.2.2.2 hR, hv.2.2.2.1, hts _ hv.2.1⟩ ⟨Pg_blind hnk, Pg_pre hnk hK hnw (va_P_in hP isC hC) (hD.sub isC hnC hC)⟩ rfl rfl hl.1 rfl (lv_room hst) hdg hf) hP hD hS hA isC isR hC hRr hnR hdis (fun v w1 H1 locs1 hp hP1 hD1 hS1 => kk v w1 hp H1 locs1 ls hl hP1 hD1 hS1)
theorem e_callIN {y : MethodName} {bytes : ByteArray} {maxL fr lo mc ms ix : Nat} {ret : Option FieldType} {post : Option Value → va_W → Prop} {wc wr : va_W} {As st0 : List Value} {b : Nat} {host : String} (C : Cb κ cc nL own Ts R l D cl tys nw) (hM : MC l Ts y bytes maxL none fr lo D cl tys nw (.ref b :: As) wc mc ms post) (hv : mI Ts y bytes maxL As.length) (hw : Cond.methodLinkNest own ix y host ∈ nw) (hnk : ∀ w ∈ nw, nwk w = true) (hf : k + mc ≤ R.cells ∧ n + ms ≤ R.slots) (hR : fr + 1 ≤ R.frames ∧ 8 + (maxL + 11) + lo ≤ R.locals) (isC isR : List Nat) (hC : isC.map (fun i => ws[i]?) = wc.map some) (hRr : isR.map (fun i => ws[i]?) = wr.map some) (hnC : va_nd isC = true) (hnR : va_nd isR = true) (hdis : ∀ i ∈ isR, i ∉ isC) (hst : (st.map fun v => v.category).sum ≤ 8) (hs : st0 = As.reverse ++ .ref b :: st) (hdg : decode cc pc = .ok (.invokespecial ix, 3)) (kk : ∀ (v : Option Value) (w1 : va_W), post v w1 → E κ lv (v.toList ++ st) (wr ++ w1) (k + mc) (n + ms) (pc + 3)) : E κ lv st0 ws k n pc := by
  obtain ⟨p, l0, e, R0, s, m, args, below, meth, c, A, nL0, D0, cl0, Q⟩ := κ
  obtain ⟨rfl, rfl, rfl, rfl, rfl, hx, hb, hml, hown, hts, hgT, hK, hnw, hA⟩ := C
  subst hs
  exact fun H locs ls hl hP hD hS => w_call (va_runIN (As := As) (rest := st) ⟨hx, hb, hml, hown, hts⟩ (hM H.size) ⟨va_cnB As.length hts (good_cons hv.1 hgT) rfl rfl rfl (hnw _ hw) (hts _ hv.2.2.1) hv.2.2.2.2 hR, hv.2.2.2.1, hts _ hv.2.1⟩ ⟨Pg_blind hnk, Pg_pre hnk hK hnw (va_P_in hP isC hC) (hD.sub isC hnC hC)⟩ rfl rfl hl.1 rfl (lv_room hst) hdg hf) hP hD hS hA isC isR hC hRr hnR hdis (fun v w1 H1 locs1 hp hP1 hD1 hS1 => kk v w1 hp H1 locs1 ls hl hP1 hD1 hS1)
theorem e_callA {y : MethodName} {bytes : ByteArray} {maxL fr lo mc ms ix : Nat} {ret : Option FieldType} {post : Option Value → va_W → Prop} {wc wr : va_W} {As st0 : List Value} {b ci : Nat} {fs : List Value} {qc : vw_C} {x : MethodName} {owner : String} (C : Cb κ cc nL own Ts R l D cl tys nw) (hM : MC l Ts y bytes maxL ret fr lo D cl tys nw (.ref b :: As) wc mc ms post) (hv : mA Ts nw qc.1 owner x y bytes maxL ret As.length) (hw : Cond.methodLink own ix x ∈ Ts) (q0 : Nat) (hc : cl[ci]? = some qc) (he : ws[q0]? = some (b, .inr (ci, fs))) (hnk : ∀ w ∈ nw, nwk w = true) (hf : k + mc ≤ R.cells ∧ n + ms ≤ R.slots) (hR : fr + 1 ≤ R.frames ∧ 8 + (maxL + 11) + lo ≤ R.locals) (isC isR : List Nat) (hC : isC.map (fun i => ws[i]?) = wc.map some) (hRr : isR.map (fun i => ws[i]?) = wr.map some) (hnC : va_nd isC = true) (hnR : va_nd isR = true) (hdis : ∀ i ∈ isR, i ∉ isC) (hst : (st.map fun v => v.category).sum ≤ 8) (hs : st0 = As.reverse ++ .ref b :: st) (hdg : decode cc pc = .ok (.invokevirtual ix, 3)) (kk : ∀ (v : Option Value) (w1 : va_W), post v w1 → E κ lv (v.toList ++ st) (wr ++ w1) (k + mc) (n + ms) (pc + 3)) : E κ lv st0 ws k n pc := by
  obtain ⟨p, l0, e, R0, s, m, args, below, meth, c, A, nL0, D0, cl0, Q⟩ := κ
  obtain ⟨rfl, rfl, rfl, rfl, rfl, hx, hb, hml, hown, hts, hgT, hK, hnw, hA⟩ := C
  subst hs
  exact fun H locs ls hl hP hD hS => w_call (va_runU (As := As) (rest := st) ⟨hx, hb, hml, hown, hts⟩ (hM H.size) (va_cwA As.length hts (aG hv hw hgT) rfl rfl rfl (hnw _ hv.2.2.2.2.2.1) hv.2.2.2.2.2.2 hR) ⟨Pg_blind hnk, va_recv hK hP hc he, Pg_pre hnk hK hnw (va_P_in hP isC hC) (hD.sub isC hnC hC)⟩ rfl rfl hl.1 rfl (lv_room hst) hdg hf) hP hD hS hA isC isR hC hRr hnR hdis (fun v w1 H1 locs1 hp hP1 hD1 hS1 => kk v w1 hp H1 locs1 ls hl hP1 hD1 hS1)
/-- the cells of the world in another order, or fewer of them -/
theorem e_perm {st' : List Value} {ws' : va_W} (is : List Nat) (hst : st = st') (h : is.map (fun i => ws[i]?) = ws'.map some) (hn : va_nd is = true) (kk : E κ lv st' ws' k n pc) : E κ lv st ws k n pc := by
  subst hst
  obtain ⟨p, l0, e, R0, s, m, args, below, meth, c, A, nL0, D0, cl0, Q⟩ := κ
  exact fun H locs ls hl hP hD hS => kk H locs ls hl (va_P_in hP is h) (hD.sub is hn h) hS
end EROWS
