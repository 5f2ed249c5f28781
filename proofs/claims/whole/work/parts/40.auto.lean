/-! THE TABLE AS AN AUTOMATON: what is counted is the list of its runs -/
def nxA (caf : Nat → Int32 → Int32 → Int32) (op : Nat → Int32) (p : Nat) (code : Int32) (c : Nat) : Int32 := lfY (caf p code) (op p) c
def AL (nx : Nat → Int32 → Nat → Int32) (isw : Int32 → Bool) (ok : Nat → Nat → Bool) : Nat → Nat → Int32 → List (List Nat)
  | 0, _, code => if isw code = true then [[]] else []
  | k + 1, p, code => [0, 1, 2, 3].flatMap (fun c => if ok p c = true ∧ nx p code c ≠ -1 then (AL nx isw ok k (p + 1) (nx p code c)).map (c :: ·) else [])
theorem AL_len (nx : Nat → Int32 → Nat → Int32) (isw : Int32 → Bool) (ok : Nat → Nat → Bool) : ∀ (k p : Nat) (code : Int32), (AL nx isw ok k p code).length ≤ 4 ^ k
  | 0, p, code => by
    unfold AL
    by_cases z : isw code = true
    · rw [if_pos z]; exact Nat.le_refl _
    · rw [if_neg z]; exact Nat.zero_le _
  | k + 1, p, code => by
    have h : ∀ c, (if ok p c = true ∧ nx p code c ≠ -1 then (AL nx isw ok k (p + 1) (nx p code c)).map (c :: ·) else []).length ≤ 4 ^ k := by
      intro c
      by_cases z : ok p c = true ∧ nx p code c ≠ -1
      · rw [if_pos z, List.length_map]; exact AL_len nx isw ok k _ _
      · rw [if_neg z]; exact Nat.zero_le _
    have h0 := h 0
    have h1 := h 1
    have h2 := h 2
    have h3 := h 3
    show ([0, 1, 2, 3].flatMap _).length ≤ _
    simp only [List.flatMap_cons, List.flatMap_nil, List.length_append, List.append_nil, Nat.pow_succ]
    omega
theorem nodup_len {α : Type} [DecidableEq α] : ∀ {l m : List α}, l.Nodup → (∀ x, x ∈ l → x ∈ m) → l.length ≤ m.length
  | [], _, _, _ => Nat.zero_le _
  | a :: l, m, hn, hs => by
    have ha : a ∈ m := hs a List.mem_cons_self
    have h2 := nodup_len (l := l) (m := m.erase a) (List.nodup_cons.mp hn).2 (fun x hx => (List.mem_erase_of_ne (fun (e : x = a) => (List.nodup_cons.mp hn).1 (by rw [← e]; exact hx))).mpr (hs x (List.mem_cons_of_mem a hx)))
    rw [List.length_erase_of_mem ha] at h2
    have : 0 < m.length := List.length_pos_of_mem ha
    show l.length + 1 ≤ _
    omega
theorem ixOf_lt {x : Int32} : ∀ {l : List Int32}, x ∈ l → ixOf x l < l.length
  | a :: l, h => by
    unfold ixOf
    by_cases c : a = x
    · rw [if_pos c]; exact Nat.succ_pos _
    · rw [if_neg c]
      rcases List.mem_cons.mp h with q | q
      · exact absurd q.symm c
      · exact Nat.succ_lt_succ (ixOf_lt q)
/-- a code joins a layer that has room for it -/
theorem insF_ok {mo : Nat} {cs S : List Int32} {x : Int32} (hn : cs.Nodup) (hs : ∀ y, y ∈ cs → y ∈ S) (hx : x ∈ S) (hS : S.length ≤ mo) : ∃ cs2, insF mo cs x = (ixOf x cs2, cs2) ∧ cs2.Nodup ∧ (∀ y, y ∈ cs2 → y ∈ S) ∧ x ∈ cs2 ∧ (∃ t, cs2 = cs ++ t) := by
  unfold insF
  by_cases h : ixOf x cs < cs.length
  · rw [if_pos h]
    exact ⟨cs, rfl, hn, hs, List.mem_of_getElem? (ixOf_get h), [], (List.append_nil _).symm⟩
  · rw [if_neg h]
    have hx2 : x ∉ cs := fun q => h (ixOf_lt q)
    have hn2 : (cs ++ [x]).Nodup := by
      rw [List.nodup_append]
      refine ⟨hn, List.pairwise_singleton _ _, ?_⟩
      intro a ha b hb
      rw [List.mem_singleton] at hb
      rw [hb]
      exact fun e => hx2 (e ▸ ha)
    have hs2 : ∀ y, y ∈ cs ++ [x] → y ∈ S := by
      intro y hy
      rcases List.mem_append.mp hy with q | q
      · exact hs y q
      · rw [List.mem_singleton.mp q]; exact hx
    have h3 := nodup_len hn2 hs2
    rw [List.length_append] at h3
    have h4 : [x].length = 1 := rfl
    rw [if_pos (show cs.length < mo by omega)]
    refine ⟨cs ++ [x], ?_, hn2, hs2, List.mem_append_right _ (List.mem_singleton.mpr rfl), [x], rfl⟩
    have h5 : ∀ (l : List Int32), x ∉ l → ixOf x (l ++ [x]) = l.length := by
      intro l
      induction l with
      | nil => intro _; show (if x = x then 0 else _) = 0; rw [if_pos rfl]
      | cons a l ih =>
        intro hl
        show (if a = x then 0 else ixOf x (l ++ [x]) + 1) = l.length + 1
        rw [if_neg (fun (e : a = x) => hl (by rw [e]; exact List.mem_cons_self)), ih (fun q => hl (List.mem_cons_of_mem a q))]
    rw [h5 cs hx2]
theorem ixOf_app {x : Int32} {t : List Int32} : ∀ {l : List Int32}, x ∈ l → ixOf x (l ++ t) = ixOf x l
  | a :: l, h => by
    show (if a = x then 0 else ixOf x (l ++ t) + 1) = (if a = x then 0 else ixOf x l + 1)
    by_cases c : a = x
    · rw [if_pos c, if_pos c]
    · rw [if_neg c, if_neg c]
      rcases List.mem_cons.mp h with q | q
      · exact absurd q.symm c
      · rw [ixOf_app q]
/-- where the four choices lead, packed -/
def ldP (a b c d : Nat) : Nat := a + 256 * b + 65536 * c + 16777216 * d
theorem or_pack {s l i : Nat} (hi : i ≤ 3) (hs : s < 2 ^ (8 * i)) (hl : l < 256) : nI s ||| (nI l <<< ((8 * nI i) &&& 31)) = nI (s + 2 ^ (8 * i) * l) := by
  have h1 : ((8 * nI i) &&& 31) = nI (8 * i) := by
    have h2 : ∀ i, i ≤ 3 → ((8 * nI i) &&& 31) = nI (8 * i) := by decide
    exact h2 i hi
  have h3 : ((nI (8 * i)).toBitVec.smod 32).toNat = 8 * i := by
    have h4 : ∀ i, i ≤ 3 → ((nI (8 * i)).toBitVec.smod 32).toNat = 8 * i := by decide
    exact h4 i hi
  have h5 : l * 2 ^ (8 * i) < 2 ^ 32 := by
    have : 2 ^ (8 * i) ≤ 2 ^ 24 := Nat.pow_le_pow_right (by decide) (by omega)
    calc l * 2 ^ (8 * i) ≤ 255 * 2 ^ 24 := Nat.mul_le_mul (by omega) this
      _ < 2 ^ 32 := by decide
  rw [h1, pk_shlN _ (8 * i) h3 h5, nI_or]
  have h := Nat.two_pow_add_eq_or_of_lt (i := 8 * i) (b := s) hs l
  rw [Nat.mul_comm l, Nat.or_comm, ← h, Nat.add_comm]
theorem ldP_get {a b c d : Nat} (ha : a < 256) (hb : b < 256) (hc : c < 256) (hd : d < 256) : ∀ i, i < 4 → (jushr (nI (ldP a b c d)) (8 * nI i)).toBitVec.toNat % 2 ^ 8 = if i = 0 then a else if i = 1 then b else if i = 2 then c else d := by
  have hlt : ldP a b c d < 2 ^ 32 := by unfold ldP; omega
  have key : ∀ i, i < 4 → (jushr (nI (ldP a b c d)) (8 * nI i)) = nI (ldP a b c d / 2 ^ (8 * i)) := by
    intro i hi
    refine pk_ushrN hlt (8 * nI i) (8 * i) ?_
    have h2 : ∀ i, i < 4 → (((8 * nI i).toUInt32 &&& Int32.toUInt32 31).toBitVec % 32).toNat = 8 * i := by decide
    exact h2 i hi
  intro i hi
  rw [key i hi, pk_tn (Nat.lt_of_le_of_lt (Nat.div_le_self _ _) hlt)]
  unfold ldP
  rcases (show i = 0 ∨ i = 1 ∨ i = 2 ∨ i = 3 by omega) with z | z | z | z
  · subst z; rw [if_pos rfl]; simp only [Nat.mul_zero, Nat.pow_zero, Nat.div_one]; omega
  · subst z; rw [if_neg (by decide), if_pos rfl]; simp only [Nat.mul_one]; omega
  · subst z; rw [if_neg (by decide), if_neg (by decide), if_pos rfl]; simp only [Nat.reduceMul]; omega
  · subst z; rw [if_neg (by decide), if_neg (by decide), if_neg (by decide)]; simp only [Nat.reduceMul]; omega
def ldC (cs : List Int32) (y : Int32) : Nat := if y = -1 then 255 else ixOf y cs
/-- one code's four choices, joined to the next layer -/
theorem lfF_ok {mo : Nat} {caf : Int32 → Int32} {op : Int32} {cs S : List Int32} (hn : cs.Nodup) (hs : ∀ y, y ∈ cs → y ∈ S) (hx : ∀ c, c < 4 → lfY caf op c ≠ -1 → lfY caf op c ∈ S) (hS : S.length ≤ mo) (hmo : mo ≤ 254) :
    ∃ cs2, (lfF mo caf op cs).2 = cs2 ∧ cs2.Nodup ∧ (∀ y, y ∈ cs2 → y ∈ S) ∧ (∃ t, cs2 = cs ++ t) ∧ (∀ c, c < 4 → lfY caf op c ≠ -1 → lfY caf op c ∈ cs2) ∧ (lfF mo caf op cs).1 = nI (ldP (ldC cs2 (lfY caf op 0)) (ldC cs2 (lfY caf op 1)) (ldC cs2 (lfY caf op 2)) (ldC cs2 (lfY caf op 3))) := by
  have step : ∀ (i : Nat) (cs : List Int32), i < 4 → cs.Nodup → (∀ y, y ∈ cs → y ∈ S) → ∃ cs2, lfR mo cs (lfY caf op i) = (ldC cs2 (lfY caf op i), cs2) ∧ cs2.Nodup ∧ (∀ y, y ∈ cs2 → y ∈ S) ∧ (∃ t, cs2 = cs ++ t) ∧ (lfY caf op i ≠ -1 → lfY caf op i ∈ cs2) := by
    intro i cs hi hn hs
    unfold lfR ldC
    by_cases z : lfY caf op i = -1
    · rw [if_pos z]
      exact ⟨cs, by rw [if_pos z], hn, hs, ⟨[], (List.append_nil _).symm⟩, fun y => absurd z y⟩
    · rw [if_neg z]
      obtain ⟨cs2, h1, h2, h3, h4, h5⟩ := insF_ok hn hs (hx i hi z) hS
      exact ⟨cs2, by rw [h1, if_neg z], h2, h3, h5, fun _ => h4⟩
  obtain ⟨c0, e0, n0, s0, ⟨t0, a0⟩, m0⟩ := step 0 cs (by decide) hn hs
  obtain ⟨c1, e1, n1, s1, ⟨t1, a1⟩, m1⟩ := step 1 c0 (by decide) n0 s0
  obtain ⟨c2, e2, n2, s2, ⟨t2, a2⟩, m2⟩ := step 2 c1 (by decide) n1 s1
  obtain ⟨c3, e3, n3, s3, ⟨t3, a3⟩, m3⟩ := step 3 c2 (by decide) n2 s2
  have hl : ∀ (l : List Int32) (y : Int32), (∀ z, z ∈ l → z ∈ S) → l.Nodup → (y ≠ -1 → y ∈ l) → ldC l y < 256 := by
    intro l y hl hnl hy
    unfold ldC
    by_cases z : y = -1
    · rw [if_pos z]; decide
    · rw [if_neg z]
      have h1 := ixOf_lt (hy z)
      have h2 := nodup_len hnl hl
      omega
  have up : ∀ (l t : List Int32) (y : Int32), (y ≠ -1 → y ∈ l) → ldC (l ++ t) y = ldC l y := by
    intro l t y hy
    unfold ldC
    by_cases z : y = -1
    · rw [if_pos z, if_pos z]
    · rw [if_neg z, if_neg z, ixOf_app (hy z)]
  have g1 : ldC c3 (lfY caf op 0) = ldC c0 (lfY caf op 0) := by rw [a3, a2, a1, List.append_assoc, List.append_assoc, up _ _ _ m0]
  have g2 : ldC c3 (lfY caf op 1) = ldC c1 (lfY caf op 1) := by rw [a3, a2, List.append_assoc, up _ _ _ m1]
  have g3 : ldC c3 (lfY caf op 2) = ldC c2 (lfY caf op 2) := by rw [a3, up _ _ _ m2]
  have b0 := hl c0 _ s0 n0 m0
  have b1 := hl c1 _ s1 n1 m1
  have b2 := hl c2 _ s2 n2 m2
  have b3 := hl c3 _ s3 n3 m3
  have hF : lfF mo caf op cs = (nI (ldP (ldC c0 (lfY caf op 0)) (ldC c1 (lfY caf op 1)) (ldC c2 (lfY caf op 2)) (ldC c3 (lfY caf op 3))), c3) := by
    show lfS mo caf op 3 (lfS mo caf op 2 (lfS mo caf op 1 (lfS mo caf op 0 (0, cs)))) = _
    have q0 : lfS mo caf op 0 (0, cs) = (nI (ldC c0 (lfY caf op 0)), c0) := by
      unfold lfS
      rw [e0]
      show ((0 : Int32) ||| (nI _ <<< _), _) = _
      rw [show (0 : Int32) = nI 0 from rfl, or_pack (by decide) (by decide) b0, Nat.zero_add, Nat.mul_zero, Nat.pow_zero, Nat.one_mul]
    have q1 : lfS mo caf op 1 (nI (ldC c0 (lfY caf op 0)), c0) = (nI (ldC c0 (lfY caf op 0) + 256 * ldC c1 (lfY caf op 1)), c1) := by
      unfold lfS
      rw [e1]
      show (nI _ ||| (nI _ <<< _), _) = _
      rw [or_pack (by decide) (by simpa using b0) b1]
    have q2 : lfS mo caf op 2 (nI (ldC c0 (lfY caf op 0) + 256 * ldC c1 (lfY caf op 1)), c1) = (nI (ldC c0 (lfY caf op 0) + 256 * ldC c1 (lfY caf op 1) + 65536 * ldC c2 (lfY caf op 2)), c2) := by
      unfold lfS
      rw [e2]
      show (nI _ ||| (nI _ <<< _), _) = _
      rw [or_pack (by decide) (show _ < 65536 by omega) b2]
    have q3 : lfS mo caf op 3 (nI (ldC c0 (lfY caf op 0) + 256 * ldC c1 (lfY caf op 1) + 65536 * ldC c2 (lfY caf op 2)), c2) = (nI (ldP (ldC c0 (lfY caf op 0)) (ldC c1 (lfY caf op 1)) (ldC c2 (lfY caf op 2)) (ldC c3 (lfY caf op 3))), c3) := by
      unfold lfS
      rw [e3]
      show (nI _ ||| (nI _ <<< _), _) = _
      rw [or_pack (by decide) (show _ < 16777216 by omega) b3]
      rfl
    rw [q0, q1, q2, q3]
  refine ⟨c3, by rw [hF], n3, s3, ⟨t0 ++ t1 ++ t2 ++ t3, by rw [a3, a2, a1, a0]; simp only [List.append_assoc]⟩, ?_, by rw [hF, g1, g2, g3]⟩
  intro c hc hy
  rcases (show c = 0 ∨ c = 1 ∨ c = 2 ∨ c = 3 by omega) with z | z | z | z
  · subst z; rw [a3, a2, a1]; exact List.mem_append_left _ (List.mem_append_left _ (List.mem_append_left _ (m0 hy)))
  · subst z; rw [a3, a2]; exact List.mem_append_left _ (List.mem_append_left _ (m1 hy))
  · subst z; rw [a3]; exact List.mem_append_left _ (m2 hy)
  · subst z; exact m3 hy
