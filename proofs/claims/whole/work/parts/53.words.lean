/-! LINES: words of brackets and ends -/
def sy (n j : Nat) : Nat := n / 4 ^ j % 4
def gw : Nat → Nat → Nat → Nat → Bool
  | 0, d, e, n => d == 0 && e == 0 && n == 0
  | k + 1, d, e, n => if n % 4 = 0 then gw k d e (n / 4) else if n % 4 = 1 then gw k (d + 1) e (n / 4) else if n % 4 = 2 then (match d with | 0 => false | d' + 1 => gw k d' e (n / 4)) else (match e with | 0 => false | e' + 1 => gw k d e' (n / 4))
def gwd : Nat → Nat → Nat → List Nat
  | 0, d, e => if d = 0 ∧ e = 0 then [0] else []
  | k + 1, d, e => (gwd k d e).map (fun x => 4 * x) ++ ((gwd k (d + 1) e).map (fun x => 4 * x + 1) ++ ((match d with | 0 => [] | d' + 1 => (gwd k d' e).map (fun x => 4 * x + 2)) ++ (match e with | 0 => [] | e' + 1 => (gwd k d e').map (fun x => 4 * x + 3))))
theorem mem_mp4 {L : List Nat} {r n : Nat} (hr : r < 4) : n ∈ L.map (fun x => 4 * x + r) ↔ n % 4 = r ∧ n / 4 ∈ L := by
  rw [List.mem_map]
  constructor
  · rintro ⟨x, hx, rfl⟩
    exact ⟨by omega, by rw [show (4 * x + r) / 4 = x by omega]; exact hx⟩
  · rintro ⟨h1, h2⟩
    exact ⟨n / 4, h2, by omega⟩
theorem mem_gwd : ∀ {k d e n : Nat}, n ∈ gwd k d e ↔ gw k d e n = true
  | 0, d, e, n => by
    unfold gwd gw
    by_cases z : d = 0 ∧ e = 0
    · rw [if_pos z, z.1, z.2]; simp
    · rw [if_neg z]
      constructor
      · intro h; exact absurd h List.not_mem_nil
      · intro h
        rw [Bool.and_eq_true, Bool.and_eq_true, beq_iff_eq, beq_iff_eq] at h
        exact absurd h.1 z
  | k + 1, d, e, n => by
    unfold gwd gw
    rw [List.mem_append, List.mem_append, List.mem_append]
    have e0 : n ∈ (gwd k d e).map (fun x => 4 * x) ↔ n % 4 = 0 ∧ gw k d e (n / 4) = true := by
      rw [← mem_gwd]; exact mem_mp4 (r := 0) (by decide)
    have e1 : n ∈ (gwd k (d + 1) e).map (fun x => 4 * x + 1) ↔ n % 4 = 1 ∧ gw k (d + 1) e (n / 4) = true := by
      rw [← mem_gwd]; exact mem_mp4 (by decide)
    rw [e0, e1]
    have e2 : n ∈ (match d with | 0 => [] | d' + 1 => (gwd k d' e).map (fun x => 4 * x + 2)) ↔ n % 4 = 2 ∧ (match d with | 0 => false | d' + 1 => gw k d' e (n / 4)) = true := by
      cases d with
      | zero => simp
      | succ d' => dsimp only; rw [← mem_gwd]; exact mem_mp4 (by decide)
    have e3 : n ∈ (match e with | 0 => [] | e' + 1 => (gwd k d e').map (fun x => 4 * x + 3)) ↔ n % 4 = 3 ∧ (match e with | 0 => false | e' + 1 => gw k d e' (n / 4)) = true := by
      cases e with
      | zero => simp
      | succ e' => dsimp only; rw [← mem_gwd]; exact mem_mp4 (by decide)
    rw [e2, e3]
    have h4 : n % 4 < 4 := Nat.mod_lt _ (by decide)
    cases d <;> cases e <;> rcases (by omega : n % 4 = 0 ∨ n % 4 = 1 ∨ n % 4 = 2 ∨ n % 4 = 3) with z | z | z | z <;> simp [z]
theorem gw_lt : ∀ {k d e n : Nat}, gw k d e n = true → n < 4 ^ k
  | 0, d, e, n, h => by
    unfold gw at h
    rw [Bool.and_eq_true, beq_iff_eq] at h
    rw [h.2]; decide
  | k + 1, d, e, n, h => by
    have : n / 4 < 4 ^ k := by
      unfold gw at h
      by_cases z : n % 4 = 0
      · rw [if_pos z] at h; exact gw_lt h
      rw [if_neg z] at h
      by_cases z : n % 4 = 1
      · rw [if_pos z] at h; exact gw_lt h
      rw [if_neg z] at h
      by_cases z : n % 4 = 2
      · rw [if_pos z] at h
        cases d with
        | zero => exact Bool.noConfusion h
        | succ d => exact gw_lt h
      rw [if_neg z] at h
      cases e with
      | zero => exact Bool.noConfusion h
      | succ e => exact gw_lt h
    rw [Nat.pow_succ]
    omega
/-- the colours along the frontier, as the brackets ask -/
def rs : Nat → Nat → (Nat → Bool) → Nat → List Bool → Bool
  | 0, _, _, _, st => st.isEmpty
  | k + 1, n, v, j, st => if n % 4 = 1 then rs k (n / 4) v (j + 1) (v j :: st) else if n % 4 = 2 then (match st with | [] => false | x :: t => (x == v j) && rs k (n / 4) v (j + 1) t) else rs k (n / 4) v (j + 1) st
def Rsp (n : Nat) (v : Nat → Bool) : Bool := rs 6 n v 0 []
/-- the word without two of its symbols -/
def rstN (m c : Nat) : Nat := m - m / 4 ^ c % 16 * 4 ^ c
def lnR (lp c m z : Nat) : Int32 :=
  if (if sy m c = 0 then 0 else 1) + (if sy m (c + 1) = 0 then 0 else 1) + bs2 z = 0 then nI (rstN m c)
  else if (if sy m c = 0 then 0 else 1) + (if sy m (c + 1) = 0 then 0 else 1) + bs2 z = 2 then (if z = 0 then joinedF (nI lp) (nI m) (nI (2 * c)) else if z = 3 then nI (rstN m c + 9 * 4 ^ c) else if z = 1 then nI (rstN m c + (sy m c + sy m (c + 1)) * 4 ^ c) else nI (rstN m c + (sy m c + sy m (c + 1)) * 4 ^ (c + 1))) else -1
def GW : List Nat := gwd 6 0 0 ++ (gwd 6 0 1 ++ gwd 6 0 2)
set_option maxRecDepth 1000000 in
theorem caf2_chk : (List.range 2).all (fun lp => (List.range 5).all (fun c => (List.range 4).all (fun z => GW.all (fun m => decide (caf2 (nI lp) (nI z) (nI (2 * c)) (nI m) = lnR lp c m z))))) = true := by decide +kernel
set_option maxRecDepth 1000000 in
theorem wend_chk : (List.range 5).all (fun c => (gwd 6 0 0 ++ gwd 6 0 1).all (fun m => decide (withEndF (nI m) (nI (2 * c)) = if sy m c = 0 then nI (m + 3 * 4 ^ c) else if sy m (c + 1) = 0 then nI (m + 3 * 4 ^ (c + 1)) else -1))) = true := by decide +kernel
/-- what joining two symbols makes -/
def jnN (m c : Nat) : Nat := (joinedF 0 (nI m) (nI (2 * c))).toNatClampNeg
def jchk (e c m : Nat) : Bool :=
  if sy m c = 0 ∨ sy m (c + 1) = 0 then true
  else if sy m c = 1 ∧ sy m (c + 1) = 2 then decide (joinedF 0 (nI m) (nI (2 * c)) = -1) && decide (joinedF 1 (nI m) (nI (2 * c)) = if rstN m c = 0 then 4096 else -1) && Rsp m (fun j => (3 * 2 ^ c).testBit j)
  else if sy m c = 3 ∧ sy m (c + 1) = 3 then decide (joinedF 1 (nI m) (nI (2 * c)) = -1) && decide (joinedF 0 (nI m) (nI (2 * c)) = if rstN m c = 0 then 4096 else -1) && Rsp m (fun j => (3 * 2 ^ c).testBit j)
  else decide (joinedF 0 (nI m) (nI (2 * c)) = nI (jnN m c)) && decide (joinedF 1 (nI m) (nI (2 * c)) = nI (jnN m c)) && gw 6 0 e (jnN m c) && !Rsp m (fun j => (3 * 2 ^ c).testBit j)
    && (List.range 6).all (fun j => decide (sy (jnN m c) j = 0 ↔ (j = c ∨ j = c + 1 ∨ sy m j = 0)))
    && (List.range 64).all (fun b => if b / 2 ^ c % 4 = 0 then (Rsp (jnN m c) (fun j => b.testBit j)) == (Rsp m (fun j => b.testBit j) || Rsp m (fun j => (b + 3 * 2 ^ c).testBit j)) else true)
set_option maxRecDepth 1000000 in
theorem join_chk : (List.range 3).all (fun e => (List.range 5).all (fun c => (gwd 6 0 e).all (fun m => jchk e c m))) = true := by decide +kernel
def mchk (e c m z : Nat) : Bool :=
  if (if sy m c = 0 then 0 else 1) + (if sy m (c + 1) = 0 then 0 else 1) + bs2 z = 2 ∧ z ≠ 0 then (if z = 3 then gw 6 0 e (rstN m c + 9 * 4 ^ c) else if z = 1 then gw 6 0 e (rstN m c + (sy m c + sy m (c + 1)) * 4 ^ c) else gw 6 0 e (rstN m c + (sy m c + sy m (c + 1)) * 4 ^ (c + 1))) else true
set_option maxRecDepth 1000000 in
theorem move_chk : (List.range 3).all (fun e => (List.range 5).all (fun c => (List.range 4).all (fun z => (gwd 6 0 e).all (fun m => mchk e c m z)))) = true := by decide +kernel
set_option maxRecDepth 1000000 in
theorem wend_gw : (List.range 2).all (fun e => (List.range 5).all (fun c => (gwd 6 0 e).all (fun m => (if sy m c = 0 then gw 6 0 (e + 1) (m + 3 * 4 ^ c) else if sy m (c + 1) = 0 then gw 6 0 (e + 1) (m + 3 * 4 ^ (c + 1)) else true)))) = true := by decide +kernel
theorem gwd_len : (gwd 6 0 0).length ≤ 135 ∧ (gwd 6 0 1).length ≤ 135 ∧ (gwd 6 0 2).length ≤ 135 := by decide +kernel
