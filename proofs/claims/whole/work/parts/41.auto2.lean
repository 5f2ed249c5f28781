/-! THE TABLE'S LAYERS, THEIR WEIGHTS AND THE WAY OF AN INDEX -/
def pkC (caf : Int32 → Int32 → Int32) (op : Int32) (cs2 : List Int32) (x : Int32) : Int32 := nI (ldP (ldC cs2 (lfY (caf x) op 0)) (ldC cs2 (lfY (caf x) op 1)) (ldC cs2 (lfY (caf x) op 2)) (ldC cs2 (lfY (caf x) op 3)))
theorem ldC_app {l t : List Int32} {y : Int32} (hy : y ≠ -1 → y ∈ l) : ldC (l ++ t) y = ldC l y := by
  unfold ldC
  by_cases z : y = -1
  · rw [if_pos z, if_pos z]
  · rw [if_neg z, if_neg z, ixOf_app (hy z)]
theorem row_ok {mo : Nat} {caf : Int32 → Int32 → Int32} {op : Int32} {S : List Int32} (hS : S.length ≤ mo) (hmo : mo ≤ 254) : ∀ (l pk cs : List Int32), cs.Nodup → (∀ y, y ∈ cs → y ∈ S) → (∀ x, x ∈ l → ∀ c, c < 4 → lfY (caf x) op c ≠ -1 → lfY (caf x) op c ∈ S) →
    ∃ cs2 t, l.foldl (rowS mo caf op) (pk, cs) = (pk ++ l.map (pkC caf op cs2), cs2) ∧ cs2.Nodup ∧ (∀ y, y ∈ cs2 → y ∈ S) ∧ cs2 = cs ++ t ∧ (∀ x, x ∈ l → ∀ c, c < 4 → lfY (caf x) op c ≠ -1 → lfY (caf x) op c ∈ cs2)
  | [], pk, cs, hn, hs, _ => ⟨cs, [], by rw [List.map_nil, List.append_nil]; rfl, hn, hs, (List.append_nil _).symm, fun x hx => absurd hx List.not_mem_nil⟩
  | x :: l, pk, cs, hn, hs, hx => by
    obtain ⟨c1, e1, n1, s1, ⟨t1, a1⟩, m1, p1⟩ := lfF_ok (caf := caf x) (op := op) (mo := mo) hn hs (hx x List.mem_cons_self) hS hmo
    obtain ⟨c2, t2, e2, n2, s2, a2, m2⟩ := row_ok hS hmo l (pk ++ [(lfF mo (caf x) op cs).1]) c1 n1 s1 (fun y hy => hx y (List.mem_cons_of_mem x hy))
    refine ⟨c2, t1 ++ t2, ?_, n2, s2, by rw [a2, a1, List.append_assoc], ?_⟩
    · show l.foldl (rowS mo caf op) (rowS mo caf op (pk, cs) x) = _
      have h1 : rowS mo caf op (pk, cs) x = (pk ++ [(lfF mo (caf x) op cs).1], c1) := by
        unfold rowS
        rw [e1]
      rw [h1, e2, List.map_cons, List.append_assoc]
      have h2 : (lfF mo (caf x) op cs).1 = pkC caf op c2 x := by
        rw [p1]
        unfold pkC
        rw [a2, ldC_app (m1 0 (by decide)), ldC_app (m1 1 (by decide)), ldC_app (m1 2 (by decide)), ldC_app (m1 3 (by decide))]
      rw [h2]
      rfl
    · intro y hy c hc hne
      rcases List.mem_cons.mp hy with q | q
      · rw [q] at hne ⊢
        rw [a2]
        exact List.mem_append_left _ (m1 c hc hne)
      · exact m2 y q c hc hne
/-- what the codes of each layer are known to lie in -/
def Cap (P mo : Nat) (caf : Nat → Int32 → Int32 → Int32) (op : Nat → Int32) (first : Int32) (SS : Nat → List Int32) : Prop := mo ≤ 254 ∧ 0 < mo ∧ first ∈ SS 0 ∧ (∀ p, p ≤ P → (SS p).length ≤ mo) ∧ (∀ p, p < P → ∀ x, x ∈ SS p → ∀ c, c < 4 → nxA caf op p x c ≠ -1 → nxA caf op p x c ∈ SS (p + 1))
theorem Cap.hmo {P mo : Nat} {caf : Nat → Int32 → Int32 → Int32} {op : Nat → Int32} {first : Int32} {SS : Nat → List Int32} (h : Cap P mo caf op first SS) : mo ≤ 254 := h.1
theorem Cap.h0 {P mo : Nat} {caf : Nat → Int32 → Int32 → Int32} {op : Nat → Int32} {first : Int32} {SS : Nat → List Int32} (h : Cap P mo caf op first SS) : first ∈ SS 0 := h.2.2.1
theorem Cap.hl {P mo : Nat} {caf : Nat → Int32 → Int32 → Int32} {op : Nat → Int32} {first : Int32} {SS : Nat → List Int32} (h : Cap P mo caf op first SS) : ∀ p, p ≤ P → (SS p).length ≤ mo := h.2.2.2.1
theorem Cap.hs {P mo : Nat} {caf : Nat → Int32 → Int32 → Int32} {op : Nat → Int32} {first : Int32} {SS : Nat → List Int32} (h : Cap P mo caf op first SS) : ∀ p, p < P → ∀ x, x ∈ SS p → ∀ c, c < 4 → nxA caf op p x c ≠ -1 → nxA caf op p x c ∈ SS (p + 1) := h.2.2.2.2
theorem lay_ok {P mo : Nat} {caf : Nat → Int32 → Int32 → Int32} {op : Nat → Int32} {first : Int32} {SS : Nat → List Int32} (hC : Cap P mo caf op first SS) : ∀ p, p ≤ P → (layF mo caf op first p).Nodup ∧ (∀ x, x ∈ layF mo caf op first p → x ∈ SS p)
  | 0, _ => ⟨List.pairwise_singleton _ _, fun x hx => by rw [List.mem_singleton.mp hx]; exact hC.h0⟩
  | p + 1, hp => by
    have ih := lay_ok hC p (by omega)
    obtain ⟨c2, t2, e2, n2, s2, a2, m2⟩ := row_ok (mo := mo) (caf := caf p) (op := op p) (hC.hl (p + 1) hp) hC.hmo (layF mo caf op first p) [] [] List.nodup_nil (fun y hy => absurd hy List.not_mem_nil) (fun x hx c hc hne => hC.hs p (by omega) x (ih.2 x hx) c hc hne)
    show (rowF mo (caf p) (op p) (layF mo caf op first p)).2.Nodup ∧ _
    unfold rowF
    rw [e2]
    exact ⟨n2, fun x hx => s2 x (by
      have : x ∈ (rowF mo (caf p) (op p) (layF mo caf op first p)).2 := hx
      unfold rowF at this
      rw [e2] at this
      exact this)⟩
theorem pak_ok {P mo : Nat} {caf : Nat → Int32 → Int32 → Int32} {op : Nat → Int32} {first : Int32} {SS : Nat → List Int32} (hC : Cap P mo caf op first SS) {p : Nat} (hp : p < P) : pakF mo caf op first p = (layF mo caf op first p).map (pkC (caf p) (op p) (layF mo caf op first (p + 1))) ∧ (∀ x, x ∈ layF mo caf op first p → ∀ c, c < 4 → nxA caf op p x c ≠ -1 → nxA caf op p x c ∈ layF mo caf op first (p + 1)) := by
  have ih := lay_ok hC p (by omega)
  obtain ⟨c2, t2, e2, n2, s2, a2, m2⟩ := row_ok (mo := mo) (caf := caf p) (op := op p) (hC.hl (p + 1) hp) hC.hmo (layF mo caf op first p) [] [] List.nodup_nil (fun y hy => absurd hy List.not_mem_nil) (fun x hx c hc hne => hC.hs p (by omega) x (ih.2 x hx) c hc hne)
  have h1 : layF mo caf op first (p + 1) = c2 := by
    show (rowF mo (caf p) (op p) (layF mo caf op first p)).2 = c2
    unfold rowF
    rw [e2]
  rw [h1]
  refine ⟨?_, m2⟩
  unfold pakF rowF
  rw [e2, List.nil_append]
theorem layLn {P mo : Nat} {caf : Nat → Int32 → Int32 → Int32} {op : Nat → Int32} {first : Int32} {SS : Nat → List Int32} (hC : Cap P mo caf op first SS) {p : Nat} (hp : p ≤ P) : (layF mo caf op first p).length ≤ mo := Nat.le_trans (nodup_len (lay_ok hC p hp).1 (lay_ok hC p hp).2) (hC.hl p hp)
theorem ldC_lt {cs : List Int32} {y : Int32} (hl : cs.length ≤ 254) (hy : y ≠ -1 → y ∈ cs) : ldC cs y < 256 := by
  unfold ldC
  by_cases z : y = -1
  · rw [if_pos z]; decide
  · rw [if_neg z]; have := ixOf_lt (hy z); omega
/-- where a choice leads from the code x at place p -/
theorem ldN_ok {P mo : Nat} {caf : Nat → Int32 → Int32 → Int32} {op : Nat → Int32} {first : Int32} {SS : Nat → List Int32} (hC : Cap P mo caf op first SS) {p a : Nat} {x : Int32} (hp : p < P) (hx : (layF mo caf op first p)[a]? = some x) {c : Nat} (hc : c < 4) : ldN (flI mo (pakF mo caf op first)) mo p a c = ldC (layF mo caf op first (p + 1)) (nxA caf op p x c) := by
  have ha : a < (layF mo caf op first p).length := (List.getElem?_eq_some_iff.mp hx).1
  have hl := layLn hC (show p ≤ P by omega)
  have hl2 := layLn hC (show p + 1 ≤ P from hp)
  have hmo := hC.hmo
  have hd := ix_div (p := p) (mo := mo) (a := a) (by omega)
  have hk := pak_ok hC hp
  have hf : flI mo (pakF mo caf op first) (p * mo + a) = pkC (caf p) (op p) (layF mo caf op first (p + 1)) x := by
    unfold flI
    rw [hd.1, hd.2, hk.1, List.getElem?_map, hx]
    rfl
  have hm : ∀ c, c < 4 → (nxA caf op p x c ≠ -1 → nxA caf op p x c ∈ layF mo caf op first (p + 1)) := fun c hc => hk.2 x (List.mem_of_getElem? hx) c hc
  have hb : ∀ c, c < 4 → ldC (layF mo caf op first (p + 1)) (nxA caf op p x c) < 256 := fun c hc => ldC_lt (by omega) (hm c hc)
  unfold ldN
  rw [hf]
  unfold pkC
  refine (ldP_get (hb 0 (by decide)) (hb 1 (by decide)) (hb 2 (by decide)) (hb 3 (by decide)) c hc).trans ?_
  rcases (show c = 0 ∨ c = 1 ∨ c = 2 ∨ c = 3 by omega) with z | z | z | z
  · subst z; rfl
  · subst z; rfl
  · subst z; rfl
  · subst z; rfl
theorem itn4 {σ : Type} (f : Nat → σ → σ) (s : σ) : itn f 4 s = f 3 (f 2 (f 1 (f 0 s))) := rfl
def AL1 (nx : Nat → Int32 → Nat → Int32) (isw : Int32 → Bool) (ok : Nat → Nat → Bool) (k p : Nat) (code : Int32) (c : Nat) : List (List Nat) := if ok p c = true ∧ nx p code c ≠ -1 then (AL nx isw ok k (p + 1) (nx p code c)).map (c :: ·) else []
theorem AL_s (nx : Nat → Int32 → Nat → Int32) (isw : Int32 → Bool) (ok : Nat → Nat → Bool) (k p : Nat) (code : Int32) : AL nx isw ok (k + 1) p code = AL1 nx isw ok k p code 0 ++ (AL1 nx isw ok k p code 1 ++ (AL1 nx isw ok k p code 2 ++ AL1 nx isw ok k p code 3)) := by
  show [0, 1, 2, 3].flatMap _ = _
  simp only [List.flatMap_cons, List.flatMap_nil, List.append_nil]
  rfl
theorem wb_ok {P mo : Nat} {caf : Nat → Int32 → Int32 → Int32} {op : Nat → Int32} {first : Int32} {SS : Nat → List Int32} {isw : Int32 → Bool} {inn out : Int64} {NX : Nat → Int64} {k p : Nat} (hC : Cap P mo caf op first SS) (hp : p < P) (hN : ∀ j y, (layF mo caf op first (p + 1))[j]? = some y → NX j = lN (AL (nxA caf op) isw (alF inn out) k (p + 1) y).length) {a : Nat} {x : Int32} (hx : (layF mo caf op first p)[a]? = some x) {c : Nat} (hc : c < 4) :
    wbG NX (flI mo (pakF mo caf op first)) (szI (layF mo caf op first)) mo inn out p a c = lN (AL1 (nxA caf op) isw (alF inn out) k p x c).length := by
  have hl2 := layLn hC (show p + 1 ≤ P from hp)
  have hmo := hC.hmo
  unfold wbG AL1
  rw [ldN_ok hC hp hx hc]
  unfold ldC szI
  by_cases z : nxA caf op p x c = -1
  · rw [if_pos z, if_pos (by omega), if_neg (fun q => q.2 z)]; rfl
  · rw [if_neg z]
    have hm := (pak_ok hC hp).2 x (List.mem_of_getElem? hx) c hc z
    have hi := ixOf_lt hm
    rw [if_neg (by omega)]
    by_cases y : alF inn out p c = true
    · rw [if_pos y, if_pos ⟨y, z⟩, List.length_map]
      exact hN _ _ (ixOf_get hi)
    · rw [if_neg y, if_neg (fun q => y q.1)]; rfl
theorem Wt_ok {P mo : Nat} {caf : Nat → Int32 → Int32 → Int32} {op : Nat → Int32} {first : Int32} {SS : Nat → List Int32} {isw : Int32 → Bool} {inn out : Int64} (hC : Cap P mo caf op first SS) : ∀ (k : Nat), k ≤ P → ∀ (a : Nat) (x : Int32), (layF mo caf op first (P - k))[a]? = some x → cntI P mo (layF mo caf op first) (pakF mo caf op first) isw inn out k a = lN (AL (nxA caf op) isw (alF inn out) k (P - k) x).length
  | 0, _, a, x, hx => by
    show laI (layF mo caf op first) P isw a = _
    unfold laI AL
    rw [Nat.sub_zero] at hx
    rw [hx]
    show (if isw x = true then (1 : Int64) else 0) = _
    by_cases z : isw x = true
    · rw [if_pos z, if_pos z]; rfl
    · rw [if_neg z, if_neg z]; rfl
  | k + 1, hk, a, x, hx => by
    have ih := Wt_ok (isw := isw) (inn := inn) (out := out) hC k (by omega)
    have e : P - k = P - (k + 1) + 1 := by omega
    rw [e] at ih
    show wfG (fun a => cntI P mo (layF mo caf op first) (pakF mo caf op first) isw inn out k a) (flI mo (pakF mo caf op first)) (szI (layF mo caf op first)) mo inn out (P - (k + 1)) a = _
    unfold wfG
    rw [itn4, wb_ok hC (show P - (k + 1) < P by omega) ih hx (show 0 < 4 by decide), wb_ok hC (show P - (k + 1) < P by omega) ih hx (show 1 < 4 by decide), wb_ok hC (show P - (k + 1) < P by omega) ih hx (show 2 < 4 by decide), wb_ok hC (show P - (k + 1) < P by omega) ih hx (show 3 < 4 by decide), show (0 : Int64) = lN 0 from rfl, lN_add, lN_add, lN_add, lN_add, AL_s]
    simp only [List.length_append, Nat.zero_add, Nat.add_assoc]
/-- a run's choices, as a set of slots -/
def slW : List Nat → Nat → Int64
  | [], _ => 0
  | c :: cs, p => ((nI c).toInt64 <<< ((2 * nI p).toInt64 &&& 63)) ||| slW cs (p + 1)
theorem or0 (x : Int64) : x ||| 0 = x := by
  apply gB_ext
  intro i hi
  rw [gB_or, gB_0, Bool.or_false]
theorem or_as (x y z : Int64) : x ||| y ||| z = x ||| (y ||| z) := by
  apply gB_ext
  intro i hi
  rw [gB_or, gB_or, gB_or, gB_or, Bool.or_assoc]
theorem lt_cmp {a b : Nat} (ha : a < 2 ^ 63) (hb : b < 2 ^ 63) : lg_cmp (lN a) (lN b) < 0 ↔ a < b := by
  rw [lg_lN ha hb]
  by_cases h : b < a
  · rw [if_pos h]; exact ⟨fun z => absurd z (by decide), fun z => by omega⟩
  · rw [if_neg h]
    by_cases e : a = b
    · rw [if_pos e]; exact ⟨fun z => absurd z (by decide), fun z => by omega⟩
    · rw [if_neg e]; exact ⟨fun _ => by omega, fun _ => by decide⟩
/-- the choice of the way with r less ones -/
theorem ch_ok {wb : Nat → Int64} {n0 n1 n2 n3 r : Nat} (e0 : wb 0 = lN n0) (e1 : wb 1 = lN n1) (e2 : wb 2 = lN n2) (hb : n0 + n1 + n2 + n3 < 2 ^ 62) (hr : r < n0 + n1 + n2 + n3) :
    ∃ c q, chG wb 3 0 (lN r) = (c, lN q) ∧ c < 4 ∧ ((c = 0 ∧ q = r ∧ q < n0) ∨ (c = 1 ∧ r = n0 + q ∧ q < n1) ∨ (c = 2 ∧ r = n0 + n1 + q ∧ q < n2) ∨ (c = 3 ∧ r = n0 + n1 + n2 + q ∧ q < n3)) := by
  have s0 : chG wb 3 0 (lN r) = if lg_cmp (lN r) (wb 0) < 0 then (0, lN r) else chG wb 2 1 (lN r - wb 0) := rfl
  rw [s0, e0]
  by_cases h0 : r < n0
  · rw [if_pos ((lt_cmp (by omega) (by omega)).mpr h0)]
    exact ⟨0, r, rfl, by decide, Or.inl ⟨rfl, rfl, h0⟩⟩
  · rw [if_neg (fun z => h0 ((lt_cmp (by omega) (by omega)).mp z)), lN_sub (by omega)]
    have s1 : chG wb 2 1 (lN (r - n0)) = if lg_cmp (lN (r - n0)) (wb 1) < 0 then (1, lN (r - n0)) else chG wb 1 2 (lN (r - n0) - wb 1) := rfl
    rw [s1, e1]
    by_cases h1 : r - n0 < n1
    · rw [if_pos ((lt_cmp (by omega) (by omega)).mpr h1)]
      exact ⟨1, r - n0, rfl, by decide, Or.inr (Or.inl ⟨rfl, by omega, h1⟩)⟩
    · rw [if_neg (fun z => h1 ((lt_cmp (by omega) (by omega)).mp z)), lN_sub (by omega)]
      have s2 : chG wb 1 2 (lN (r - n0 - n1)) = if lg_cmp (lN (r - n0 - n1)) (wb 2) < 0 then (2, lN (r - n0 - n1)) else chG wb 0 3 (lN (r - n0 - n1) - wb 2) := rfl
      rw [s2, e2]
      by_cases h2 : r - n0 - n1 < n2
      · rw [if_pos ((lt_cmp (by omega) (by omega)).mpr h2)]
        exact ⟨2, r - n0 - n1, rfl, by decide, Or.inr (Or.inr (Or.inl ⟨rfl, by omega, h2⟩))⟩
      · rw [if_neg (fun z => h2 ((lt_cmp (by omega) (by omega)).mp z)), lN_sub (by omega)]
        exact ⟨3, r - n0 - n1 - n2, rfl, by decide, Or.inr (Or.inr (Or.inr ⟨rfl, by omega, by omega⟩))⟩
theorem wy_ok {P mo : Nat} {caf : Nat → Int32 → Int32 → Int32} {op : Nat → Int32} {first : Int32} {SS : Nat → List Int32} {isw : Int32 → Bool} {inn out : Int64} (hC : Cap P mo caf op first SS) (hP : P ≤ 25) : ∀ (k : Nat), k ≤ P → ∀ (a : Nat) (x : Int32), (layF mo caf op first (P - k))[a]? = some x → ∀ (r : Nat) (s : List Nat), (AL (nxA caf op) isw (alF inn out) k (P - k) x)[r]? = some s → ∀ way : Int64,
    wyG (fun i => cntI P mo (layF mo caf op first) (pakF mo caf op first) isw inn out (P - i / mo) (i % mo)) (flI mo (pakF mo caf op first)) (szI (layF mo caf op first)) mo inn out k (P - k) a (lN r) way = way ||| slW s (P - k)
  | 0, _, a, x, hx, r, s, hs, way => by
    show way = _
    have hm := List.mem_of_getElem? hs
    unfold AL at hm
    by_cases z : isw x = true
    · rw [if_pos z, List.mem_singleton] at hm
      rw [hm]
      exact (or0 way).symm
    · rw [if_neg z] at hm
      exact absurd hm List.not_mem_nil
  | k + 1, hk, a, x, hx, r, s, hs, way => by
    have hp : P - (k + 1) < P := by omega
    have e : P - k = P - (k + 1) + 1 := by omega
    have hmo := hC.hmo
    have hl2 := layLn hC (show P - (k + 1) + 1 ≤ P by omega)
    have ih := wy_ok (isw := isw) (inn := inn) (out := out) hC hP k (by omega)
    rw [e] at ih
    have hW := Wt_ok (isw := isw) (inn := inn) (out := out) hC k (by omega)
    rw [e] at hW
    generalize P - (k + 1) = p at *
    have hNX : ∀ j y, (layF mo caf op first (p + 1))[j]? = some y → (fun j => (fun i => cntI P mo (layF mo caf op first) (pakF mo caf op first) isw inn out (P - i / mo) (i % mo)) ((p + 1) * mo + j)) j = lN (AL (nxA caf op) isw (alF inn out) k (p + 1) y).length := by
      intro j y hy
      have hj : j < (layF mo caf op first (p + 1)).length := (List.getElem?_eq_some_iff.mp hy).1
      have hd := ix_div (p := p + 1) (mo := mo) (a := j) (by omega)
      show cntI P mo (layF mo caf op first) (pakF mo caf op first) isw inn out (P - ((p + 1) * mo + j) / mo) (((p + 1) * mo + j) % mo) = _
      rw [hd.1, hd.2, show P - (p + 1) = k by omega]
      exact hW j y hy
    have hwb := fun c (hc : c < 4) => wb_ok (isw := isw) (inn := inn) (out := out) hC hp hNX hx hc
    have hrl := (List.getElem?_eq_some_iff.mp hs).1
    have hb1 := AL_len (nxA caf op) isw (alF inn out) (k + 1) p x
    have hb2 : 4 ^ (k + 1) ≤ 4 ^ 25 := Nat.pow_le_pow_right (by decide) (by omega)
    have hb3 : (4 : Nat) ^ 25 < 2 ^ 62 := by decide
    rw [AL_s] at hs hrl hb1
    simp only [List.length_append] at hrl hb1
    obtain ⟨c, q, hch, hc4, hcase⟩ := ch_ok (n3 := (AL1 (nxA caf op) isw (alF inn out) k p x 3).length) (r := r) (hwb 0 (by decide)) (hwb 1 (by decide)) (hwb 2 (by decide)) (by omega) (by omega)
    have hq : (AL1 (nxA caf op) isw (alF inn out) k p x c)[q]? = some s := by
      rcases hcase with ⟨z1, z2, z3⟩ | ⟨z1, z2, z3⟩ | ⟨z1, z2, z3⟩ | ⟨z1, z2, z3⟩
      · subst z1; subst z2; rw [List.getElem?_append_left z3] at hs; exact hs
      · subst z1; subst z2; rw [List.getElem?_append_right (by omega), Nat.add_sub_cancel_left, List.getElem?_append_left z3] at hs; exact hs
      · subst z1; subst z2; rw [List.getElem?_append_right (by omega), List.getElem?_append_right (by omega), show ∀ a b c : Nat, a + b + c - a - b = c from fun a b c => by omega, List.getElem?_append_left z3] at hs; exact hs
      · subst z1; subst z2; rw [List.getElem?_append_right (by omega), List.getElem?_append_right (by omega), List.getElem?_append_right (by omega), show ∀ a b c d : Nat, a + b + c + d - a - b - c = d from fun a b c d => by omega] at hs; exact hs
    unfold AL1 at hq
    by_cases z : alF inn out p c = true ∧ nxA caf op p x c ≠ -1
    · rw [if_pos z, List.getElem?_map] at hq
      obtain ⟨s2, hs2, hse⟩ := Option.map_eq_some_iff.mp hq
      have hm := (pak_ok hC hp).2 x (List.mem_of_getElem? hx) c hc4 z.2
      have hi := ixOf_lt hm
      have hld : ldN (flI mo (pakF mo caf op first)) mo p a c = ixOf (nxA caf op p x c) (layF mo caf op first (p + 1)) := by
        rw [ldN_ok hC hp hx hc4]; unfold ldC; rw [if_neg z.2]
      unfold wyG
      rw [hch, hld]
      show (if szI (layF mo caf op first) (p + 1) ≤ ixOf _ _ then _ else _) = _
      rw [if_neg (show ¬ szI (layF mo caf op first) (p + 1) ≤ _ by unfold szI; omega), ih _ _ (ixOf_get hi) q s2 hs2, or_as, ← hse]
      rfl
    · rw [if_neg z] at hq
      exact absurd hq (by simp)
