/-! WHAT A CHOICE MAY BE, AND THE RULE OF DEGREES -/
def b2 (x y : Bool) : Nat := (if x = true then 1 else 0) + (if y = true then 2 else 0)
theorem b2_lt (x y : Bool) : b2 x y < 4 := by cases x <;> cases y <;> decide
theorem b2_t0 (x y : Bool) : (b2 x y).testBit 0 = x := by cases x <;> cases y <;> decide
theorem b2_t1 (x y : Bool) : (b2 x y).testBit 1 = y := by cases x <;> cases y <;> decide
theorem b2_of {c : Nat} (h : c < 4) : b2 (c.testBit 0) (c.testBit 1) = c := by
  have key : ∀ c, c < 4 → b2 (c.testBit 0) (c.testBit 1) = c := by decide
  exact key c h
theorem two_bits {x : Int64} {p : Nat} (hp : p < 25) : (jlushr x (2 * nI p)).toInt32 &&& 3 = nI (b2 (gB x (2 * p)) (gB x (2 * p + 1))) := by
  rw [show (2 : Int32) * nI p = nI (2 * p) from pk_mul 2 p]
  apply gI_ext
  intro i hi
  have h1 : gI (jlushr x (nI (2 * p))).toInt32 i = gB x (2 * p + i) := by
    show ((jlushr x (nI (2 * p))).toBitVec.signExtend 32).getLsbD i = _
    rw [BitVec.getLsbD_signExtend, decide_eq_true hi, Bool.true_and, if_pos (by omega)]
    exact gB_jl (by omega)
  have h3 : gI 3 i = decide (i < 2) := by
    have key : ∀ i, i < 32 → gI 3 i = decide (i < 2) := by decide
    exact key i hi
  have h4 : ∀ (a b : Bool), gI (nI (b2 a b)) i = if i = 0 then a else if i = 1 then b else false := by
    have key : ∀ i, i < 32 → ∀ (a b : Bool), gI (nI (b2 a b)) i = if i = 0 then a else if i = 1 then b else false := by decide
    exact key i hi
  rw [gI_and, h1, h3, h4]
  by_cases z : i = 0
  · rw [if_pos z, z]; simp
  · rw [if_neg z]
    by_cases y : i = 1
    · rw [if_pos y, y]; simp
    · rw [if_neg y, decide_eq_false (by omega), Bool.and_false]
theorem opn_ok {op : Int64} {p c : Nat} (hp : p < 25) (hc : c < 4) : (nI c &&& (openChoicesF op (nI p) ^^^ -1) = 0) ↔ ((c.testBit 0 = true → gB op (2 * p) = true) ∧ (c.testBit 1 = true → gB op (2 * p + 1) = true)) := by
  unfold openChoicesF
  rw [two_bits hp]
  have key : ∀ c, c < 4 → ∀ (a b : Bool), (nI c &&& (nI (b2 a b) ^^^ -1) = 0) ↔ ((c.testBit 0 = true → a = true) ∧ (c.testBit 1 = true → b = true)) := by decide
  exact key c hc _ _
theorem alF_ok {inn out : Int64} {p c : Nat} (hp : p < 25) (hc : c < 4) : alF inn out p c = true ↔ ((gB inn (2 * p) = true → c.testBit 0 = true) ∧ (gB inn (2 * p + 1) = true → c.testBit 1 = true)) ∧ ((c.testBit 0 = true → gB out (2 * p) = false) ∧ (c.testBit 1 = true → gB out (2 * p + 1) = false)) := by
  unfold alF mskF
  rw [two_bits hp, two_bits hp]
  have key : ∀ (a b d e : Bool), ∀ c, c < 4 → ((decide (nI c &&& nI (b2 a b) = nI (b2 a b)) && decide (nI c &&& nI (b2 d e) = 0)) = true ↔ ((a = true → c.testBit 0 = true) ∧ (b = true → c.testBit 1 = true)) ∧ ((c.testBit 0 = true → d = false) ∧ (c.testBit 1 = true → e = false))) := by
    intro a b d e
    cases a <;> cases b <;> cases d <;> cases e <;> decide
  exact key _ _ _ _ c hc
/-- the choices of a set of slots, from place p on -/
def sqX (X : Nat → Bool) (p : Nat) : Nat → List Nat
  | 0 => []
  | k + 1 => b2 (X (2 * p)) (X (2 * p + 1)) :: sqX X (p + 1) k
theorem sqX_len (X : Nat → Bool) : ∀ (k p : Nat), (sqX X p k).length = k
  | 0, _ => rfl
  | k + 1, p => by show (sqX X (p + 1) k).length + 1 = _; rw [sqX_len X k]
theorem sqX_get (X : Nat → Bool) : ∀ (k p q : Nat), q < k → (sqX X p k)[q]? = some (b2 (X (2 * (p + q))) (X (2 * (p + q) + 1)))
  | 0, _, _, h => absurd h (Nat.not_lt_zero _)
  | k + 1, p, q, h => by
    cases q with
    | zero => rfl
    | succ q =>
      show (sqX X (p + 1) k)[q]? = _
      rw [sqX_get X k (p + 1) q (by omega), show p + 1 + q = p + (q + 1) by omega]
theorem XS_sqX {X : Nat → Bool} {P j : Nat} (hj : j / 2 < P) : XS (sqX X 0 P) j = X j := by
  unfold XS
  rw [sqX_get X P 0 _ hj, Nat.zero_add]
  show (b2 _ _).testBit (j % 2) = _
  rcases (show j % 2 = 0 ∨ j % 2 = 1 by omega) with z | z
  · rw [z, b2_t0, show 2 * (j / 2) = j by omega]
  · rw [z, b2_t1, show 2 * (j / 2) + 1 = j by omega]
theorem sqX_XS {s : List Nat} (h4 : ∀ (q c : Nat), s[q]? = some c → c < 4) : sqX (XS s) 0 s.length = s := by
  apply List.ext_getElem?
  intro q
  rcases Nat.lt_or_ge q s.length with z | z
  · rw [sqX_get _ _ _ _ z, Nat.zero_add]
    obtain ⟨c, hc⟩ : ∃ c, s[q]? = some c := ⟨_, List.getElem?_eq_getElem z⟩
    rw [hc]
    unfold XS
    rw [show 2 * q / 2 = q by omega, show (2 * q + 1) / 2 = q by omega, show 2 * q % 2 = 0 by omega, show (2 * q + 1) % 2 = 1 by omega, hc]
    show some (b2 (c.testBit 0) (c.testBit 1)) = some c
    rw [b2_of (h4 q c hc)]
  · rw [List.getElem?_eq_none (by rw [sqX_len]; omega), List.getElem?_eq_none z]
/-- what is asked of the choice at a place, apart from the rule -/
def okX (op inn out : Int64) (X : Nat → Bool) (q : Nat) : Prop := (∀ j, j / 2 = q → X j = true → gB op j = true ∧ gB out j = false) ∧ (∀ j, j / 2 = q → gB inn j = true → X j = true)
theorem okX_iff {op inn out : Int64} {X : Nat → Bool} {q : Nat} (hq : q < 25) : okX op inn out X q ↔ (nI (b2 (X (2 * q)) (X (2 * q + 1))) &&& (openChoicesF op (nI q) ^^^ -1) = 0) ∧ alF inn out q (b2 (X (2 * q)) (X (2 * q + 1))) = true := by
  rw [opn_ok hq (b2_lt _ _), alF_ok hq (b2_lt _ _), b2_t0, b2_t1]
  unfold okX
  constructor
  · rintro ⟨h1, h2⟩
    exact ⟨⟨fun h => (h1 (2 * q) (by omega) h).1, fun h => (h1 (2 * q + 1) (by omega) h).1⟩, ⟨h2 (2 * q) (by omega), h2 (2 * q + 1) (by omega)⟩, ⟨fun h => (h1 (2 * q) (by omega) h).2, fun h => (h1 (2 * q + 1) (by omega) h).2⟩⟩
  · rintro ⟨⟨h1, h2⟩, ⟨h3, h4⟩, ⟨h5, h6⟩⟩
    constructor
    · intro j hj hx
      rcases (show j = 2 * q ∨ j = 2 * q + 1 by omega) with z | z
      · subst z; exact ⟨h1 hx, h5 hx⟩
      · subst z; exact ⟨h2 hx, h6 hx⟩
    · intro j hj hx
      rcases (show j = 2 * q ∨ j = 2 * q + 1 by omega) with z | z
      · subst z; exact h3 hx
      · subst z; exact h4 hx
/-- the rule of degrees, in numbers -/
def bs2 (k : Nat) : Nat := k % 2 + k / 2 % 2
def cdN (due n c z : Nat) : Int32 := if bs2 ((if c = 0 then 2 * n else n) / 2 ^ c % 4) + bs2 z = due then nI ((if c = 0 then 2 * n else n) - (if c = 0 then 2 * n else n) / 2 ^ c % 4 * 2 ^ c + z * 2 ^ c) else -1
def cafDd (due before column choice : Int32) : Int32 :=
  if bcF (jushr (if column = 0 then before <<< ((1 : Int32) &&& 31) else before) column &&& 3) + bcF choice = due then
    ((if column = 0 then before <<< ((1 : Int32) &&& 31) else before) &&& ((3 <<< (column &&& 31)) ^^^ -1)) ||| (choice <<< (column &&& 31))
  else -1
set_option maxRecDepth 100000 in
theorem cafDd_N : ∀ due, due < 3 → ∀ c, c < 5 → ∀ z, z < 4 → ∀ n, n < 64 → cafDd (nI due) (nI n) (nI c) (nI z) = cdN due n c z := by
  have key : (List.range 3).all (fun due => (List.range 5).all (fun c => (List.range 4).all (fun z => (List.range 64).all (fun n => decide (cafDd (nI due) (nI n) (nI c) (nI z) = cdN due n c z))))) = true := by decide +kernel
  intro due h1 c h2 z h3 n h4
  exact of_decide_eq_true (List.all_eq_true.mp (List.all_eq_true.mp (List.all_eq_true.mp (List.all_eq_true.mp key due (List.mem_range.mpr h1)) c (List.mem_range.mpr h2)) z (List.mem_range.mpr h3)) n (List.mem_range.mpr h4))
