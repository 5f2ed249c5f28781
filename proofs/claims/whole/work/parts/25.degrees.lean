/-! THE REFERENCE'S SETS BY DEGREES: what listDegrees adds, said by recursion -/
def dgU (dg : Nat → Nat) (a b : Nat) : Nat → Nat := upN (upN dg a (dg a + 1)) b (upN dg a (dg a + 1) b + 1)
def dgC (el : List (Nat × Nat)) (c : Nat → Nat) : Nat → Nat → Nat
  | 0 => fun _ => 0
  | e + 1 => if c e = 1 then (match el[e]? with | some q => dgU (dgC el c e) q.1 q.2 | none => dgC el c e) else dgC el c e
def stC (c : Nat → Nat) : Nat → Int64
  | 0 => 0
  | e + 1 => if c e = 1 then stC c e ||| bitL e else stC c e
def gdF (due : Nat) (la : Nat → Int32) (dg : Nat → Nat) (a b e : Nat) : Bool := decide (dg a ≤ due) && decide (dg b ≤ due) && (!decide (la a = nI e) || decide (dg a = due)) && (!decide (la b = nI e) || decide (dg b = due))
def ldR (el : List (Nat × Nat)) (due : Nat) (la : Nat → Int32) : Nat → Nat → (Nat → Nat) → Int64 → List Int64
  | 0, _, _, set => [set]
  | k + 1, e, dg, set => match el[e]? with
    | none => []
    | some q => (if gdF due la dg q.1 q.2 e = true then ldR el due la k (e + 1) dg set else []) ++ (if gdF due la (dgU dg q.1 q.2) q.1 q.2 e = true then ldR el due la k (e + 1) (dgU dg q.1 q.2) (set ||| bitL e) else [])
def ld1 (el : List (Nat × Nat)) (due : Nat) (la : Nat → Int32) (k e : Nat) (dg : Nat → Nat) (set : Int64) : List Int64 := match el[e]? with
  | none => []
  | some q => if gdF due la (dgU dg q.1 q.2) q.1 q.2 e = true then ldR el due la k (e + 1) (dgU dg q.1 q.2) (set ||| bitL e) else []
def ldT (el : List (Nat × Nat)) (due : Nat) (la : Nat → Int32) (c : Nat → Nat) : Nat → List Int64
  | 0 => []
  | e + 1 => if c e = 1 then ldT el due la c e else ld1 el due la (el.length - (e + 1)) e (dgC el c e) (stC c e) ++ ldT el due la c e
def lTop (el : List (Nat × Nat)) (due : Nat) (la : Nat → Int32) (c : Nat → Nat) (e ph : Nat) : List Int64 := if e = el.length then [stC c e] else if ph = 0 then ldR el due la (el.length - e) e (dgC el c e) (stC c e) else if ph = 1 then ld1 el due la (el.length - (e + 1)) e (dgC el c e) (stC c e) else []
def lF : Nat → Nat
  | 0 => 1
  | k + 1 => 3 + 2 * lF k
def lM (E : Nat) (c : Nat → Nat) : Nat → Nat
  | 0 => 0
  | e + 1 => (if c e = 1 then 1 else 2 + lF (E - (e + 1))) + lM E c e
def lT (E e ph : Nat) : Nat := if e = E then 1 else if ph = 0 then lF (E - e) else if ph = 1 then 2 + lF (E - (e + 1)) else 1
def lRem (el : List (Nat × Nat)) (due : Nat) (la : Nat → Int32) (c : Nat → Nat) (ph : Nat) : Nat → List Int64
  | 0 => []
  | e + 1 => lTop el due la c e ph ++ ldT el due la c e
def lMs (E : Nat) (c : Nat → Nat) (ph : Nat) : Nat → Nat
  | 0 => 0
  | e + 1 => lT E e ph + lM E c e
def yF (E ph : Nat) : Nat → Nat
  | 0 => 0
  | e + 1 => if e < E ∧ ph = 2 then e + 1 else e
theorem dgC_congr {el : List (Nat × Nat)} {c c' : Nat → Nat} : ∀ {e : Nat}, (∀ i, i < e → c i = c' i) → dgC el c e = dgC el c' e
  | 0, _ => rfl
  | e + 1, h => by
    have ih := dgC_congr (el := el) (e := e) (fun i hi => h i (Nat.lt_succ_of_lt hi))
    show (if c e = 1 then _ else _) = (if c' e = 1 then _ else _)
    rw [h e (Nat.lt_succ_self e), ih]
theorem stC_congr {c c' : Nat → Nat} : ∀ {e : Nat}, (∀ i, i < e → c i = c' i) → stC c e = stC c' e
  | 0, _ => rfl
  | e + 1, h => by
    have ih := stC_congr (e := e) (fun i hi => h i (Nat.lt_succ_of_lt hi))
    show (if c e = 1 then _ else _) = (if c' e = 1 then _ else _)
    rw [h e (Nat.lt_succ_self e), ih]
theorem ldT_congr {el : List (Nat × Nat)} {due : Nat} {la : Nat → Int32} {c c' : Nat → Nat} : ∀ {e : Nat}, (∀ i, i < e → c i = c' i) → ldT el due la c e = ldT el due la c' e
  | 0, _ => rfl
  | e + 1, h => by
    have h2 : ∀ i, i < e → c i = c' i := fun i hi => h i (Nat.lt_succ_of_lt hi)
    show (if c e = 1 then _ else _) = (if c' e = 1 then _ else _)
    rw [h e (Nat.lt_succ_self e), ldT_congr h2, dgC_congr h2, stC_congr h2]
theorem lM_congr {E : Nat} {c c' : Nat → Nat} : ∀ {e : Nat}, (∀ i, i < e → c i = c' i) → lM E c e = lM E c' e
  | 0, _ => rfl
  | e + 1, h => by
    show (if c e = 1 then _ else _) + _ = (if c' e = 1 then _ else _) + _
    rw [h e (Nat.lt_succ_self e), lM_congr (fun i hi => h i (Nat.lt_succ_of_lt hi))]
theorem dgU_le {dg : Nat → Nat} {a b p m : Nat} (h : ∀ p, dg p ≤ m) : dgU dg a b p ≤ m + 2 := by
  unfold dgU upN
  have h1 := h a
  have h2 := h b
  have h3 := h p
  by_cases x : p = b
  · rw [if_pos x]
    by_cases y : b = a
    · rw [if_pos y]; omega
    · rw [if_neg y]; omega
  · rw [if_neg x]
    by_cases y : p = a
    · rw [if_pos y]; omega
    · rw [if_neg y]; omega
theorem dgC_le {el : List (Nat × Nat)} {c : Nat → Nat} : ∀ (e p : Nat), dgC el c e p ≤ 2 * e
  | 0, _ => Nat.le_refl _
  | e + 1, p => by
    have ih := dgC_le (el := el) (c := c) e
    show (if c e = 1 then (match el[e]? with | some q => dgU (dgC el c e) q.1 q.2 | none => dgC el c e) else dgC el c e) p ≤ 2 * (e + 1)
    by_cases x : c e = 1
    · rw [if_pos x]
      cases el[e]? with
      | none => have := ih p; show dgC el c e p ≤ _; omega
      | some q => have := dgU_le (a := q.1) (b := q.2) (p := p) ih; show dgU _ _ _ p ≤ _; omega
    · rw [if_neg x]; have := ih p; omega
theorem do_deg {fde : Nat → Int32} {dg : Nat → Nat} {a b : Nat} (h : ∀ p, p < 25 → fde p = nI (dg p)) (ha : a < 25) (hb : b < 25) : ∀ p, p < 25 → upd (upd fde a (fde a + 1)) b (upd fde a (fde a + 1) b + 1) p = nI (dgU dg a b p) := by
  have h1 : ∀ p, p < 25 → upd fde a (fde a + 1) p = nI (upN dg a (dg a + 1) p) := by
    intro p hp
    by_cases x : p = a
    · subst x; rw [pk_us, upN_s, h p hp, nI_1]
    · rw [pk_un x, upN_n x, h p hp]
  intro p hp
  unfold dgU
  by_cases x : p = b
  · subst x; rw [pk_us, upN_s, h1 p hp, nI_1]
  · rw [pk_un x, upN_n x, h1 p hp]
theorem undo_deg {fde : Nat → Int32} {dg : Nat → Nat} {a b : Nat} (h : ∀ p, p < 25 → fde p = nI (dgU dg a b p)) (ha : a < 25) (hb : b < 25) (hab : a ≠ b) : ∀ p, p < 25 → upd (upd fde a (fde a - 1)) b (upd fde a (fde a - 1) b - 1) p = nI (dg p) := by
  have e1 : dgU dg a b a = dg a + 1 := by unfold dgU; rw [upN_n hab, upN_s]
  have e2 : dgU dg a b b = dg b + 1 := by unfold dgU; rw [upN_s, upN_n (Ne.symm hab)]
  intro p hp
  by_cases x : p = b
  · subst x
    rw [pk_us, pk_un (Ne.symm hab), h p hp, e2, nI_pred]
  · rw [pk_un x]
    by_cases y : p = a
    · subst y
      rw [pk_us, h p hp, e1, nI_pred]
    · rw [pk_un y, h p hp]
      unfold dgU
      rw [upN_n x, upN_n y]
theorem bitL_bv : ∀ e, e < 64 → (bitL e).toBitVec = BitVec.twoPow 64 e := by decide +kernel
theorem stC_bit {c : Nat → Nat} {j : Nat} (hj : j < 64) : ∀ {e : Nat}, e ≤ j → (stC c e).toBitVec.getLsbD j = false
  | 0, _ => by show (0 : Int64).toBitVec.getLsbD j = false; simp
  | e + 1, h => by
    have ih := stC_bit (c := c) hj (e := e) (by omega)
    show (if c e = 1 then stC c e ||| bitL e else stC c e).toBitVec.getLsbD j = false
    by_cases x : c e = 1
    · rw [if_pos x]
      show ((stC c e).toBitVec ||| (bitL e).toBitVec).getLsbD j = false
      rw [BitVec.getLsbD_or, ih, bitL_bv e (by omega), BitVec.getLsbD_twoPow]
      simp
      omega
    · rw [if_neg x]; exact ih
theorem st_undo {c : Nat → Nat} {e : Nat} (he : e < 64) : (stC c e ||| bitL e) &&& (bitL e ^^^ -1) = stC c e := by
  apply Int64.toBitVec_inj.mp
  show ((stC c e).toBitVec ||| (bitL e).toBitVec) &&& ((bitL e).toBitVec ^^^ (-1 : Int64).toBitVec) = (stC c e).toBitVec
  rw [bitL_bv e he]
  apply BitVec.eq_of_getLsbD_eq
  intro i hi
  have h1 : (-1 : Int64).toBitVec = BitVec.allOnes 64 := by decide
  rw [h1, BitVec.getLsbD_and, BitVec.getLsbD_or, BitVec.getLsbD_xor, BitVec.getLsbD_twoPow, BitVec.getLsbD_allOnes]
  by_cases x : i = e
  · subst x
    rw [stC_bit he (Nat.le_refl _)]
    simp
  · have h2 : ¬ e = i := fun z => x z.symm
    simp [hi, he, h2]
def ept (el : List (Nat × Nat)) (t : Nat) : Nat := match el[t / 2]? with
  | some q => if t % 2 = 0 then q.1 else q.2
  | none => 0
def laL (el : List (Nat × Nat)) : Nat → Nat → Int32
  | 0 => fun _ => -1
  | t + 1 => upd (laL el t) (ept el t) (nI (t / 2))
def loneF (hb : Nat → Bool) (la : Nat → Int32) : Nat → Bool
  | 0 => false
  | n + 1 => loneF hb la n || (!hb n && decide (la n < 0))
theorem loneF_of {hb : Nat → Bool} {la : Nat → Int32} {i : Nat} (h : hb i = false) (h2 : la i < 0) : ∀ {n : Nat}, i < n → loneF hb la n = true
  | n + 1, hn => by
    show (loneF hb la n || (!hb n && decide (la n < 0))) = true
    rcases Nat.lt_or_ge i n with q | q
    · rw [loneF_of h h2 q]; rfl
    · rw [show n = i by omega, h, decide_eq_true h2]; simp
def ldAll (el : List (Nat × Nat)) (hb : Nat → Bool) (n due : Nat) : List Int64 := if loneF hb (laL el (2 * el.length)) n = true then [] else ldR el due (laL el (2 * el.length)) el.length 0 (fun _ => 0) 0