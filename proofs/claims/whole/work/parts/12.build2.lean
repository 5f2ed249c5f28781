/-! THE TABLE: layers of codes, where the choices lead -/
def rowS (mo : Nat) (caf : Int32 → Int32 → Int32) (op : Int32) (s : List Int32 × List Int32) (code : Int32) : List Int32 × List Int32 := (s.1 ++ [(lfF mo (caf code) op s.2).1], (lfF mo (caf code) op s.2).2)
def rowF (mo : Nat) (caf : Int32 → Int32 → Int32) (op : Int32) (cs : List Int32) : List Int32 × List Int32 := cs.foldl (rowS mo caf op) ([], [])
def layF (mo : Nat) (caf : Nat → Int32 → Int32 → Int32) (op : Nat → Int32) (first : Int32) : Nat → List Int32
  | 0 => [first]
  | p + 1 => (rowF mo (caf p) (op p) (layF mo caf op first p)).2
def pakF (mo : Nat) (caf : Nat → Int32 → Int32 → Int32) (op : Nat → Int32) (first : Int32) (p : Nat) : List Int32 := (rowF mo (caf p) (op p) (layF mo caf op first p)).1
theorem row_take {mo : Nat} {caf : Int32 → Int32 → Int32} {op : Int32} {cs : List Int32} {i : Nat} {x : Int32} (h : cs[i]? = some x) : (cs.take (i + 1)).foldl (rowS mo caf op) ([], []) = rowS mo caf op ((cs.take i).foldl (rowS mo caf op) ([], [])) x := by
  rw [List.take_add_one, h, List.foldl_append]
  rfl
theorem app_get {l : List Int32} {y : Int32} {i : Nat} (hl : l.length = i) {j : Nat} {x : Int32} (h : (l ++ [y])[j]? = some x) : (j < i ∧ l[j]? = some x) ∨ (j = i ∧ y = x) := by
  subst hl
  rcases Nat.lt_trichotomy j l.length with q | q | q
  · rw [List.getElem?_append_left q] at h; exact Or.inl ⟨q, h⟩
  · subst q
    rw [List.getElem?_append_right (Nat.le_refl _), Nat.sub_self] at h
    exact Or.inr ⟨rfl, Option.some.inj h⟩
  · rw [List.getElem?_append_right (by omega)] at h
    have := (List.getElem?_eq_some_iff.mp h).1
    simp at this
    omega
theorem lf_len {mo : Nat} {caf : Int32 → Int32} {op : Int32} {cs : List Int32} (h : cs.length ≤ mo) : (lfF mo caf op cs).2.length ≤ mo := by
  have key : ∀ n, (itn (lfS mo caf op) n (0, cs)).2.length ≤ mo := by
    intro n
    induction n with
    | zero => exact h
    | succ n ih =>
      show (lfR mo (itn (lfS mo caf op) n (0, cs)).2 (lfY caf op n)).2.length ≤ mo
      unfold lfR
      by_cases c : lfY caf op n = -1
      · rw [if_pos c]; exact ih
      · rw [if_neg c]; exact insF_len ih
  exact key 4
theorem row_len {mo : Nat} {caf : Int32 → Int32 → Int32} {op : Int32} : ∀ (cs : List Int32) (s : List Int32 × List Int32), s.2.length ≤ mo → (cs.foldl (rowS mo caf op) s).2.length ≤ mo ∧ (cs.foldl (rowS mo caf op) s).1.length = s.1.length + cs.length
  | [], s, h => ⟨h, rfl⟩
  | x :: cs, s, h => by
    obtain ⟨h1, h2⟩ := row_len cs (rowS mo caf op s x) (lf_len h)
    refine ⟨h1, h2.trans ?_⟩
    show (s.1 ++ [_]).length + cs.length = _
    rw [List.length_append, List.length_cons]
    simp
    omega
theorem lay_len {mo : Nat} {caf : Nat → Int32 → Int32 → Int32} {op : Nat → Int32} {first : Int32} (h0 : 0 < mo) : ∀ q, (layF mo caf op first q).length ≤ mo
  | 0 => h0
  | q + 1 => (row_len _ _ (Nat.zero_le _)).1
theorem pak_len {mo : Nat} {caf : Nat → Int32 → Int32 → Int32} {op : Nat → Int32} {first : Int32} (q : Nat) : (pakF mo caf op first q).length = (layF mo caf op first q).length := by
  have h := (row_len (mo := mo) (caf := caf q) (op := op q) (layF mo caf op first q) ([], []) (Nat.zero_le _)).2
  rw [show ([] : List Int32).length + (layF mo caf op first q).length = (layF mo caf op first q).length from Nat.zero_add _] at h
  exact h
theorem LInv.new {L mo : Nat} {fbk fnc : Nat → Int32} {kv : Nat → Nat} (h1 : ∀ b, b < 512 → fbk b = nI (kv b)) (h2 : ∀ b, b < 512 → kv b < 256 * L) : LInv L mo [] fbk fnc := ⟨kv, h1, HInv.new h2, fun i x h => by simp at h, Nat.zero_le _⟩
theorem mod_up {p w : Nat} (h0 : 0 < w) (hw : w ≤ 5) (h : ¬ nI w ≤ nI (p % w) + 1) : nI (p % w) + 1 = nI ((p + 1) % w) := by
  have h1 : p % w < w := Nat.mod_lt _ h0
  rw [nI_1] at h ⊢
  have h2 : p % w + 1 < w := by
    rcases Nat.lt_or_ge (p % w + 1) w with q | q
    · exact q
    · exact absurd (nI_le q (by omega)) h
  rw [show (p + 1) % w = p % w + 1 by rw [Nat.add_mod, Nat.mod_eq_of_lt (a := 1) (by omega), Nat.mod_eq_of_lt (by omega)]]
theorem mod_dn {p w : Nat} (h0 : 0 < w) (hw : w ≤ 5) (h : nI w ≤ nI (p % w) + 1) : (0 : Int32) = nI ((p + 1) % w) := by
  have h1 : p % w < w := Nat.mod_lt _ h0
  rw [nI_1] at h
  have h2 := (nI_leI (by omega) (by omega)).mp h
  have h3 : (p + 1) % w = 0 := by
    rw [← Nat.mod_add_mod, show p % w + 1 = w by omega, Nat.mod_self]
  rw [h3]
  rfl
set_option maxHeartbeats 4000000 in
set_option maxRecDepth 100000 in
theorem M_LY_build_DG (l : Launch) (D : va_G) (cI cJ cZ : ClassId) (ly g ru sz ld wy bk cd nc : Nat) (P mo : Nat) (hP : P ≤ 25) (hmo : mo ≤ 136) (mh mn : Int64) (deg : Int32) (w : Nat) (hw : w ≤ 5) (hw0 : 0 < w) (h0 : 0 < mo) (ns : Nat) (ht ho : Int32) (op : Int64) (lpl ea eb : Int32) (fsz fld fbk fcd fnc : Nat → Int32) (fwy : Nat → Int64) : MK l D cI cJ cZ y_LY_build c_LY_build 4 none 5 133 [.ref ly] [oLY ly g ru (nI mo) sz ld wy bk cd nc (nI ns) mh mn, oGR g (nI w) ht (nI P) ho op lpl ea eb, oDG ru g deg, aI cI sz (P + 1) fsz, aI cI ld (P * mo) fld, aJ cJ wy ((P + 1) * mo) fwy, aI cI bk 512 fbk, aI cI cd mo fcd, aI cI nc mo fnc] 0 0 (fun v w1 => ∃ (cd2 nc2 : Nat) (nz : Int32) (fs fl : Nat → Int32) (fw : Nat → Int64) (fb fc fn : Nat → Int32), v = none ∧ w1 = [oLY ly g ru (nI mo) sz ld wy bk cd2 nc2 nz mh mn, oGR g (nI w) ht (nI P) ho op lpl ea eb, oDG ru g deg, aI cI sz (P + 1) fs, aI cI ld (P * mo) fl, aJ cJ wy ((P + 1) * mo) fw, aI cI bk 512 fb, aI cI cd2 mo fc, aI cI nc2 mo fn] ∧ (∀ q, q ≤ P → fs q = nI (layF mo (fun p => cafDK (nI P) ho deg p (p % w)) (fun p => openChoicesF op (nI p)) 0 q).length ∧ (layF mo (fun p => cafDK (nI P) ho deg p (p % w)) (fun p => openChoicesF op (nI p)) 0 q).length ≤ mo) ∧ (∀ q, q < P → ∀ (j : Nat) (x : Int32), (pakF mo (fun p => cafDK (nI P) ho deg p (p % w)) (fun p => openChoicesF op (nI p)) 0 q)[j]? = some x → fl (q * mo + j) = x) ∧ (∀ (j : Nat) (x : Int32), (layF mo (fun p => cafDK (nI P) ho deg p (p % w)) (fun p => openChoicesF op (nI p)) 0 P)[j]? = some x → fw (P * mo + j) = if isWayDG x = true then 1 else 0)) := by
  refine MC.of (by decide) bigW_good (Nat.le_of_ble_eq_true rfl) (fun κ C Z IN => ?_)
  have hPm : P * mo ≤ 3400 := Nat.mul_le_mul hP hmo
  have hPm1 : (P + 1) * mo ≤ 3536 := Nat.mul_le_mul (Nat.succ_le_succ hP) hmo
  have hpj : ∀ q, q ≤ P → ∀ (j : Nat) (y : Int32), (pakF mo (fun p => cafDK (nI P) ho deg p (p % w)) (fun p => openChoicesF op (nI p)) 0 q)[j]? = some y → j < mo := fun q _ j y hy => by have := (List.getElem?_eq_some_iff.mp hy).1; rw [pak_len] at this; exact Nat.lt_of_lt_of_le this (lay_len h0 q)
  refine e_aload_n C d_LY_build_0 rfl rfl ?_
  refine e_get C hin_LY 0 rfl rfl 6 (by decide) fl_LY_37 rfl d_LY_build_1 ?_
  refine e_iconst (v := 0) C d_LY_build_4 rfl ?_
  refine e_callS (As := [.ref bk, .int 0]) (st := []) (wc := [aI cI bk 512 fbk]) (wr := [oLY ly g ru (nI mo) sz ld wy bk cd nc (nI ns) mh mn, oGR g (nI w) ht (nI P) ho op lpl ea eb, oDG ru g deg, aI cI sz (P + 1) fsz, aI cI ld (P * mo) fld, aJ cJ wy ((P + 1) * mo) fwy, aI cI cd mo fcd, aI cI nc mo fnc]) C (M_JA_fill l D cI cJ cZ bk 512 (by decide) fbk 0) s_JA_fill ml_LY_46 nwW_ok ⟨Nat.le_of_ble_eq_true rfl, Nat.le_of_ble_eq_true rfl⟩ ⟨Nat.le_of_ble_eq_true rfl, Nat.le_of_ble_eq_true rfl⟩ [6] [0, 1, 2, 3, 4, 5, 7, 8] rfl rfl rfl rfl (by decide) (Nat.le_of_ble_eq_true rfl) rfl d_LY_build_5 (fun v w1 hp => ?_)
  obtain ⟨rfl, rfl⟩ := hp
  refine e_perm (st' := []) (ws' := [oLY ly g ru (nI mo) sz ld wy bk cd nc (nI ns) mh mn, oGR g (nI w) ht (nI P) ho op lpl ea eb, oDG ru g deg, aI cI sz (P + 1) fsz, aI cI ld (P * mo) fld, aJ cJ wy ((P + 1) * mo) fwy, aI cI bk 512 (fun q => if q < 512 then 0 else fbk q), aI cI cd mo fcd, aI cI nc mo fnc]) [0, 1, 2, 3, 4, 5, 8, 6, 7] rfl rfl rfl ?_
  refine e_aload_n C d_LY_build_8 rfl rfl ?_
  refine e_get C hin_LY 0 rfl rfl 7 (by decide) fl_LY_40 rfl d_LY_build_9 ?_
  refine e_iconst (v := 0) C d_LY_build_12 rfl ?_
  refine e_aload_n C d_LY_build_13 rfl rfl ?_
  refine e_get C hin_LY 0 rfl rfl 1 (by decide) fl_LY_13 rfl d_LY_build_14 ?_
  refine e_callA (As := []) (st := [.int 0, .ref cd]) (wc := [oDG ru g deg]) (wr := [oLY ly g ru (nI mo) sz ld wy bk cd nc (nI ns) mh mn, oGR g (nI w) ht (nI P) ho op lpl ea eb, aI cI sz (P + 1) fsz, aI cI ld (P * mo) fld, aJ cJ wy ((P + 1) * mo) fwy, aI cI bk 512 (fun q => if q < 512 then 0 else fbk q), aI cI cd mo fcd, aI cI nc mo fnc]) C (M_DG_firstCode l D cI cJ cZ ru g deg) a_DG_firstCode ml_LY_52 2 rfl rfl nwW_ok ⟨Nat.le_of_ble_eq_true rfl, Nat.le_of_ble_eq_true rfl⟩ ⟨Nat.le_of_ble_eq_true rfl, Nat.le_of_ble_eq_true rfl⟩ [2] [0, 1, 3, 4, 5, 6, 7, 8] rfl rfl rfl rfl (by decide) (Nat.le_of_ble_eq_true rfl) rfl d_LY_build_17 (fun v w1 hp => ?_)
  obtain ⟨rfl, rfl⟩ := hp
  refine e_perm (st' := [.int 0, .int 0, .ref cd]) (ws' := [oLY ly g ru (nI mo) sz ld wy bk cd nc (nI ns) mh mn, oGR g (nI w) ht (nI P) ho op lpl ea eb, oDG ru g deg, aI cI sz (P + 1) fsz, aI cI ld (P * mo) fld, aJ cJ wy ((P + 1) * mo) fwy, aI cI bk 512 (fun q => if q < 512 then 0 else fbk q), aI cI cd mo fcd, aI cI nc mo fnc]) [0, 1, 8, 2, 3, 4, 5, 6, 7] rfl rfl rfl ?_
  refine e_st [.int 0, .int (nI 0), .ref cd] rfl ?_
  refine e_iast C 7 0 rfl rfl (vp_in_nI (by omega) (by omega)) d_LY_build_20 ?_
  refine e_ws [oLY ly g ru (nI mo) sz ld wy bk cd nc (nI ns) mh mn, oGR g (nI w) ht (nI P) ho op lpl ea eb, oDG ru g deg, aI cI sz (P + 1) fsz, aI cI ld (P * mo) fld, aJ cJ wy ((P + 1) * mo) fwy, aI cI bk 512 (fun q => if q < 512 then 0 else fbk q), aI cI cd mo (upd fcd 0 0), aI cI nc mo fnc] (by rw [nI_clamp (by omega)]; rfl) ?_
  refine e_aload_n C d_LY_build_21 rfl rfl ?_
  refine e_get C hin_LY 0 rfl rfl 3 (by decide) fl_LY_26 rfl d_LY_build_22 ?_
  refine e_iconst (v := 0) C d_LY_build_25 rfl ?_
  refine e_iconst (v := 1) C d_LY_build_26 rfl ?_
  refine e_st [.int 1, .int (nI 0), .ref sz] rfl ?_
  refine e_iast C 3 0 rfl rfl (vp_in_nI (by omega) (by omega)) d_LY_build_27 ?_
  refine e_ws [oLY ly g ru (nI mo) sz ld wy bk cd nc (nI ns) mh mn, oGR g (nI w) ht (nI P) ho op lpl ea eb, oDG ru g deg, aI cI sz (P + 1) (upd fsz 0 1), aI cI ld (P * mo) fld, aJ cJ wy ((P + 1) * mo) fwy, aI cI bk 512 (fun q => if q < 512 then 0 else fbk q), aI cI cd mo (upd fcd 0 0), aI cI nc mo fnc] (by rw [nI_clamp (by omega)]; rfl) ?_
  refine e_iconst (v := 0) C d_LY_build_28 rfl ?_
  refine e_istore_n C d_LY_build_29 rfl (by decide) ?_
  refine e_iconst (v := 0) C d_LY_build_30 rfl ?_
  refine e_istore_n C d_LY_build_31 rfl (by decide) ?_
  have LO : ∀ (fuel : Nat) (p cd nc : Nat) (nz : Int32) (fs fl fb fc fn : Nat → Int32), p ≤ P → (∀ q, q ≤ p → fs q = nI (layF mo (fun p => cafDK (nI P) ho deg p (p % w)) (fun p => openChoicesF op (nI p)) 0 q).length ∧ (layF mo (fun p => cafDK (nI P) ho deg p (p % w)) (fun p => openChoicesF op (nI p)) 0 q).length ≤ mo) → (∀ q, q < p → ∀ (j : Nat) (x : Int32), (pakF mo (fun p => cafDK (nI P) ho deg p (p % w)) (fun p => openChoicesF op (nI p)) 0 q)[j]? = some x → fl (q * mo + j) = x) → (∀ (j : Nat) (x : Int32), (layF mo (fun p => cafDK (nI P) ho deg p (p % w)) (fun p => openChoicesF op (nI p)) 0 p)[j]? = some x → fc j = x) → (∃ kv : Nat → Nat, (∀ b, b < 512 → fb b = nI (kv b)) ∧ ∀ b, b < 512 → kv b < 256 * (p + 1)) →  P - p < fuel → E κ (lu_o [(0, .ref ly), (1, .int (nI (p % w))), (2, .int (nI p))]) [] [oLY ly g ru (nI mo) sz ld wy bk cd nc nz mh mn, oGR g (nI w) ht (nI P) ho op lpl ea eb, oDG ru g deg, aI cI sz (P + 1) fs, aI cI ld (P * mo) fl, aJ cJ wy ((P + 1) * mo) fwy, aI cI bk 512 fb, aI cI cd mo fc, aI cI nc mo fn] 0 0 32 := by
    intro fuel
    induction fuel with
    | zero => intro p cd nc nz fs fl fb fc fn hp hAs hBl hCc hEb hm; exact absurd hm (Nat.not_lt_zero _)
    | succ fuel ihLO =>
      intro p cd nc nz fs fl fb fc fn hp hAs hBl hCc hEb hm
      refine e_iload_n C d_LY_build_32 rfl rfl ?_
      refine e_aload_n C d_LY_build_33 rfl rfl ?_
      refine e_get C hin_LY 0 rfl rfl 0 (by decide) fl_LY_7 rfl d_LY_build_34 ?_
      refine e_getN C hin_GR 1 rfl rfl 2 (by decide) fn_LY_21 rfl d_LY_build_37 ?_
      refine e_icmp_ge (tgt := 134) C d_LY_build_40 (by decide) (fun h40 => ?_) (fun h40 => ?_)
      · -- 134
        have hpP : P = p := by have q := (nI_leI (by omega) (by omega)).mp h40; omega
        subst hpP
        have hlp := (hAs P (Nat.le_refl _)).2
        refine e_iconst (v := 0) C d_LY_build_134 rfl ?_
        refine e_istore_n C d_LY_build_135 rfl (by decide) ?_
        have LW : ∀ (fuel : Nat) (i : Nat) (fw : Nat → Int64), i ≤ (layF mo (fun p => cafDK (nI P) ho deg p (p % w)) (fun p => openChoicesF op (nI p)) 0 P).length → (∀ (j : Nat) (x : Int32), j < i → (layF mo (fun p => cafDK (nI P) ho deg p (p % w)) (fun p => openChoicesF op (nI p)) 0 P)[j]? = some x → fw (P * mo + j) = if isWayDG x = true then 1 else 0) →  (layF mo (fun p => cafDK (nI P) ho deg p (p % w)) (fun p => openChoicesF op (nI p)) 0 P).length - i < fuel → E κ (lu_o [(0, .ref ly), (2, .int (nI i))]) [] [oLY ly g ru (nI mo) sz ld wy bk cd nc nz mh mn, oGR g (nI w) ht (nI P) ho op lpl ea eb, oDG ru g deg, aI cI sz (P + 1) fs, aI cI ld (P * mo) fl, aJ cJ wy ((P + 1) * mo) fw, aI cI bk 512 fb, aI cI cd mo fc, aI cI nc mo fn] 0 0 136 := by
          intro fuel
          induction fuel with
          | zero => intro i fw hi hW hm; exact absurd hm (Nat.not_lt_zero _)
          | succ fuel ihLW =>
            intro i fw hi hW hm
            refine e_iload_n C d_LY_build_136 rfl rfl ?_
            refine e_aload_n C d_LY_build_137 rfl rfl ?_
            refine e_get C hin_LY 0 rfl rfl 3 (by decide) fl_LY_26 rfl d_LY_build_138 ?_
            refine e_aload_n C d_LY_build_141 rfl rfl ?_
            refine e_get C hin_LY 0 rfl rfl 0 (by decide) fl_LY_7 rfl d_LY_build_142 ?_
            refine e_getN C hin_GR 1 rfl rfl 2 (by decide) fn_LY_21 rfl d_LY_build_145 ?_
            refine e_iald C 3 0 rfl rfl (vp_in_nI (by omega) (by omega)) d_LY_build_148 ?_
            refine e_st [.int (fs P), .int (nI i)] (by rw [nI_clamp (by omega)]) ?_
            refine e_st [.int (nI (layF mo (fun p => cafDK (nI P) ho deg p (p % w)) (fun p => openChoicesF op (nI p)) 0 P).length), .int (nI i)] (by rw [(hAs P (Nat.le_refl _)).1]) ?_
            refine e_icmp_ge (tgt := 198) C d_LY_build_149 (by decide) (fun h149 => ?_) (fun h149 => ?_)
            · -- 198
              exact e_vret C Z (Nat.le_of_ble_eq_true rfl) (Nat.le_of_ble_eq_true rfl) (⟨cd, nc, nz, fs, fl, fw, fb, fc, fn, rfl, rfl, fun q hq => hAs q hq, fun q hq j x hx => hBl q hq j x hx, fun j x hx => hW j x (by have := (List.getElem?_eq_some_iff.mp hx).1; have q := (nI_leI (by omega) (by omega)).mp h149; omega) hx⟩) d_LY_build_198
            · -- 152
              have hil : i < (layF mo (fun p => cafDK (nI P) ho deg p (p % w)) (fun p => openChoicesF op (nI p)) 0 P).length := by rcases Nat.lt_or_ge i (layF mo (fun p => cafDK (nI P) ho deg p (p % w)) (fun p => openChoicesF op (nI p)) 0 P).length with q | q; exact q; exact absurd (nI_le q (by omega)) h149
              obtain ⟨x, hx⟩ : ∃ x, (layF mo (fun p => cafDK (nI P) ho deg p (p % w)) (fun p => openChoicesF op (nI p)) 0 P)[i]? = some x := ⟨_, List.getElem?_eq_getElem hil⟩
              have hpi := ix_lt (p := P) (P := P + 1) (mo := mo) (a := i) (by omega) (by omega)
              refine e_aload_n C d_LY_build_152 rfl rfl ?_
              refine e_get C hin_LY 0 rfl rfl 5 (by decide) fl_LY_33 rfl d_LY_build_153 ?_
              refine e_aload_n C d_LY_build_156 rfl rfl ?_
              refine e_get C hin_LY 0 rfl rfl 0 (by decide) fl_LY_7 rfl d_LY_build_157 ?_
              refine e_getN C hin_GR 1 rfl rfl 2 (by decide) fn_LY_21 rfl d_LY_build_160 ?_
              refine e_aload_n C d_LY_build_163 rfl rfl ?_
              refine e_get C hin_LY 0 rfl rfl 2 (by decide) fl_LY_17 rfl d_LY_build_164 ?_
              refine e_imul C d_LY_build_167 ?_
              refine e_iload_n C d_LY_build_168 rfl rfl ?_
              refine e_iadd C d_LY_build_169 ?_
              refine e_st [.int (nI (P * mo + i)), .ref wy] (by rw [pk_mul, nI_add]) ?_
              refine e_aload_n C d_LY_build_170 rfl rfl ?_
              refine e_get C hin_LY 0 rfl rfl 1 (by decide) fl_LY_13 rfl d_LY_build_171 ?_
              refine e_aload_n C d_LY_build_174 rfl rfl ?_
              refine e_get C hin_LY 0 rfl rfl 7 (by decide) fl_LY_40 rfl d_LY_build_175 ?_
              refine e_iload_n C d_LY_build_178 rfl rfl ?_
              refine e_iald C 7 0 rfl rfl (vp_in_nI (by omega) (by omega)) d_LY_build_179 ?_
              refine e_st [.int (fc i), .ref ru, .int (nI (P * mo + i)), .ref wy] (by rw [nI_clamp (by omega)]) ?_
              refine e_st [.int x, .ref ru, .int (nI (P * mo + i)), .ref wy] (by rw [hCc i x hx]) ?_
              refine e_callA (As := [.int x]) (st := [.int (nI (P * mo + i)), .ref wy]) (wc := [oDG ru g deg]) (wr := [oLY ly g ru (nI mo) sz ld wy bk cd nc nz mh mn, oGR g (nI w) ht (nI P) ho op lpl ea eb, aI cI sz (P + 1) fs, aI cI ld (P * mo) fl, aJ cJ wy ((P + 1) * mo) fw, aI cI bk 512 fb, aI cI cd mo fc, aI cI nc mo fn]) C (M_DG_isWay l D cI cJ cZ ru g deg x) a_DG_isWay ml_LY_71 2 rfl rfl nwW_ok ⟨Nat.le_of_ble_eq_true rfl, Nat.le_of_ble_eq_true rfl⟩ ⟨Nat.le_of_ble_eq_true rfl, Nat.le_of_ble_eq_true rfl⟩ [2] [0, 1, 3, 4, 5, 6, 7, 8] rfl rfl rfl rfl (by decide) (Nat.le_of_ble_eq_true rfl) rfl d_LY_build_180 (fun v w1 hp => ?_)
              obtain ⟨rfl, rfl⟩ := hp
              refine e_perm (st' := [.int (bI (isWayDG x)), .int (nI (P * mo + i)), .ref wy]) (ws' := [oLY ly g ru (nI mo) sz ld wy bk cd nc nz mh mn, oGR g (nI w) ht (nI P) ho op lpl ea eb, oDG ru g deg, aI cI sz (P + 1) fs, aI cI ld (P * mo) fl, aJ cJ wy ((P + 1) * mo) fw, aI cI bk 512 fb, aI cI cd mo fc, aI cI nc mo fn]) [0, 1, 8, 2, 3, 4, 5, 6, 7] rfl rfl rfl ?_
              refine e_lv [(0, .ref ly), (2, .int (nI i))] ⟨rfl, rfl, trivial⟩ ?_
              have J191 : ∀ (y191 : Int64), y191 = (if isWayDG x = true then 1 else 0) → E κ (lu_o [(0, .ref ly), (2, .int (nI i))]) [.long y191, .int (nI (P * mo + i)), .ref wy] [oLY ly g ru (nI mo) sz ld wy bk cd nc nz mh mn, oGR g (nI w) ht (nI P) ho op lpl ea eb, oDG ru g deg, aI cI sz (P + 1) fs, aI cI ld (P * mo) fl, aJ cJ wy ((P + 1) * mo) fw, aI cI bk 512 fb, aI cI cd mo fc, aI cI nc mo fn] 0 0 191 := by
                intro y191 ey191
                refine e_last C 5 1 rfl rfl (vp_in_nI (by omega) (by omega)) d_LY_build_191 ?_
                refine e_ws [oLY ly g ru (nI mo) sz ld wy bk cd nc nz mh mn, oGR g (nI w) ht (nI P) ho op lpl ea eb, oDG ru g deg, aI cI sz (P + 1) fs, aI cI ld (P * mo) fl, aJ cJ wy ((P + 1) * mo) (vp_updL fw (P * mo + i) y191), aI cI bk 512 fb, aI cI cd mo fc, aI cI nc mo fn] (by rw [nI_clamp (by omega)]; rfl) ?_
                refine e_iinc (v := (nI i) + 1) C d_LY_build_192 rfl rfl (by decide) ?_
                refine e_goto (tgt := 136) C d_LY_build_195 (by decide) ?_
                refine e_lv [(0, .ref ly), (2, .int (nI (i + 1)))] ⟨rfl, congrArg (fun z => some (Value.int z)) (nI_1 i), trivial⟩ ?_
                refine e_ws [oLY ly g ru (nI mo) sz ld wy bk cd nc nz mh mn, oGR g (nI w) ht (nI P) ho op lpl ea eb, oDG ru g deg, aI cI sz (P + 1) fs, aI cI ld (P * mo) fl, aJ cJ wy ((P + 1) * mo) (vp_updL fw (P * mo + i) y191), aI cI bk 512 fb, aI cI cd mo fc, aI cI nc mo fn] rfl ?_
                exact ihLW (i + 1) _ (by omega) (fun j y hj hy => by rcases Nat.lt_or_ge j i with z | z; (rw [pk_uLn (by omega)]; exact hW j y z hy); (rw [show j = i by omega] at hy ⊢; rw [pk_uLs, ey191, Option.some.inj (hx.symm.trans hy)])) (by omega)
              refine e_if_eq (tgt := 190) C d_LY_build_183 (by decide) (fun h183 => ?_) (fun h183 => ?_)
              · -- 190
                refine e_lconst (v := 0) C d_LY_build_190 rfl ?_
                refine e_lv [(0, .ref ly), (2, .int (nI i))] ⟨rfl, rfl, trivial⟩ ?_
                exact J191 0 (by (try simp only [bI_eq0, Bool.not_eq_false] at h183); first | rw [if_pos h183] | rw [if_neg (Bool.eq_false_iff.mp h183)])
              · -- 186
                refine e_lconst (v := 1) C d_LY_build_186 rfl ?_
                refine e_goto (tgt := 191) C d_LY_build_187 (by decide) ?_
                refine e_lv [(0, .ref ly), (2, .int (nI i))] ⟨rfl, rfl, trivial⟩ ?_
                exact J191 1 (by (try simp only [bI_eq0, Bool.not_eq_false] at h183); first | rw [if_pos h183] | rw [if_neg (Bool.eq_false_iff.mp h183)])
        refine e_lv [(0, .ref ly), (2, .int (nI 0))] ⟨rfl, rfl, trivial⟩ ?_
        refine e_ws [oLY ly g ru (nI mo) sz ld wy bk cd nc nz mh mn, oGR g (nI w) ht (nI P) ho op lpl ea eb, oDG ru g deg, aI cI sz (P + 1) fs, aI cI ld (P * mo) fl, aJ cJ wy ((P + 1) * mo) fwy, aI cI bk 512 fb, aI cI cd mo fc, aI cI nc mo fn] rfl ?_
        exact LW _ 0 fwy (Nat.zero_le _) (fun j x h => absurd h (Nat.not_lt_zero j)) (Nat.lt_succ_self _)
      · -- 43
        refine e_aload_n C d_LY_build_43 rfl rfl ?_
        refine e_iconst (v := 0) C d_LY_build_44 rfl ?_
        refine e_put C hin_LY ty_LY tyk_LY nm_LY 0 rfl rfl 9 (by decide) fl_LY_58 rfl rfl rfl (Nat.le_of_ble_eq_true rfl) d_LY_build_45 ?_
        refine e_ws [oLY ly g ru (nI mo) sz ld wy bk cd nc 0 mh mn, oGR g (nI w) ht (nI P) ho op lpl ea eb, oDG ru g deg, aI cI sz (P + 1) fs, aI cI ld (P * mo) fl, aJ cJ wy ((P + 1) * mo) fwy, aI cI bk 512 fb, aI cI cd mo fc, aI cI nc mo fn] rfl ?_
        refine e_iconst (v := 0) C d_LY_build_48 rfl ?_
        refine e_istore_n C d_LY_build_49 rfl (by decide) ?_
        have hpP : p + 1 ≤ P := by rcases Nat.lt_or_ge p P with q | q; exact q; exact absurd (nI_le q (by omega)) h40
        have hlp := (hAs p (Nat.le_refl _)).2
        have hwp : p % w < w := Nat.mod_lt _ hw0
        obtain ⟨kv, hkv1, hkv2⟩ := hEb
        have LI : ∀ (fuel : Nat) (i : Nat) (pks ct : List Int32) (f2 f3 f4 : Nat → Int32), i ≤ (layF mo (fun p => cafDK (nI P) ho deg p (p % w)) (fun p => openChoicesF op (nI p)) 0 p).length → ((layF mo (fun p => cafDK (nI P) ho deg p (p % w)) (fun p => openChoicesF op (nI p)) 0 p).take i).foldl (rowS mo ((fun p => cafDK (nI P) ho deg p (p % w)) p) ((fun p => openChoicesF op (nI p)) p)) ([], []) = (pks, ct) → pks.length = i → LInv (p + 1) mo ct f3 f4 → (∀ q, q < p → ∀ (j : Nat) (x : Int32), (pakF mo (fun p => cafDK (nI P) ho deg p (p % w)) (fun p => openChoicesF op (nI p)) 0 q)[j]? = some x → f2 (q * mo + j) = x) → (∀ (j : Nat) (x : Int32), pks[j]? = some x → f2 (p * mo + j) = x) →  (layF mo (fun p => cafDK (nI P) ho deg p (p % w)) (fun p => openChoicesF op (nI p)) 0 p).length - i < fuel → E κ (lu_o [(0, .ref ly), (1, .int (nI (p % w))), (2, .int (nI p)), (3, .int (nI i))]) [] [oLY ly g ru (nI mo) sz ld wy bk cd nc (nI ct.length) mh mn, oGR g (nI w) ht (nI P) ho op lpl ea eb, oDG ru g deg, aI cI sz (P + 1) fs, aI cI ld (P * mo) f2, aJ cJ wy ((P + 1) * mo) fwy, aI cI bk 512 f3, aI cI cd mo fc, aI cI nc mo f4] 0 0 50 := by
          intro fuel
          induction fuel with
          | zero => intro i pks ct f2 f3 f4 hi hS hpl hLI hB2 hB3 hm; exact absurd hm (Nat.not_lt_zero _)
          | succ fuel ihLI =>
            intro i pks ct f2 f3 f4 hi hS hpl hLI hB2 hB3 hm
            refine e_iload_n C d_LY_build_50 rfl rfl ?_
            refine e_aload_n C d_LY_build_51 rfl rfl ?_
            refine e_get C hin_LY 0 rfl rfl 3 (by decide) fl_LY_26 rfl d_LY_build_52 ?_
            refine e_iload_n C d_LY_build_55 rfl rfl ?_
            refine e_iald C 3 0 rfl rfl (vp_in_nI (by omega) (by omega)) d_LY_build_56 ?_
            refine e_st [.int (fs p), .int (nI i)] (by rw [nI_clamp (by omega)]) ?_
            refine e_st [.int (nI (layF mo (fun p => cafDK (nI P) ho deg p (p % w)) (fun p => openChoicesF op (nI p)) 0 p).length), .int (nI i)] (by rw [(hAs p (Nat.le_refl _)).1]) ?_
            refine e_icmp_ge (tgt := 91) C d_LY_build_57 (by decide) (fun h57 => ?_) (fun h57 => ?_)
            · -- 91
              have hil : i = (layF mo (fun p => cafDK (nI P) ho deg p (p % w)) (fun p => openChoicesF op (nI p)) 0 p).length := by have q := (nI_leI (by omega) (by omega)).mp h57; omega
              rw [hil, List.take_length] at hS
              have hrow : rowF mo ((fun p => cafDK (nI P) ho deg p (p % w)) p) ((fun p => openChoicesF op (nI p)) p) (layF mo (fun p => cafDK (nI P) ho deg p (p % w)) (fun p => openChoicesF op (nI p)) 0 p) = (pks, ct) := hS
              have hct : (layF mo (fun p => cafDK (nI P) ho deg p (p % w)) (fun p => openChoicesF op (nI p)) 0 (p + 1)) = ct := congrArg Prod.snd hrow
              have hpk : (pakF mo (fun p => cafDK (nI P) ho deg p (p % w)) (fun p => openChoicesF op (nI p)) 0 p) = pks := congrArg Prod.fst hrow
              obtain ⟨kv2, hv1, hv2, hv3, hv4⟩ := hLI
              have hAs2 : (∀ q, q ≤ (p + 1) → (upd fs (p + 1) (nI ct.length)) q = nI (layF mo (fun p => cafDK (nI P) ho deg p (p % w)) (fun p => openChoicesF op (nI p)) 0 q).length ∧ (layF mo (fun p => cafDK (nI P) ho deg p (p % w)) (fun p => openChoicesF op (nI p)) 0 q).length ≤ mo) := fun q hq => by rcases Nat.lt_or_ge q (p + 1) with z | z; (rw [pk_un (by omega)]; exact hAs q (by omega)); (rw [show q = p + 1 by omega, pk_us, hct]; exact ⟨rfl, hv4⟩)
              have hBl2 : (∀ q, q < (p + 1) → ∀ (j : Nat) (x : Int32), (pakF mo (fun p => cafDK (nI P) ho deg p (p % w)) (fun p => openChoicesF op (nI p)) 0 q)[j]? = some x → f2 (q * mo + j) = x) := fun q hq j y hy => by rcases Nat.lt_or_ge q p with z | z; exact hB2 q z j y hy; (rw [show q = p by omega] at hy ⊢; rw [hpk] at hy; exact hB3 j y hy)
              have hCc2 : (∀ (j : Nat) (x : Int32), (layF mo (fun p => cafDK (nI P) ho deg p (p % w)) (fun p => openChoicesF op (nI p)) 0 (p + 1))[j]? = some x → f4 j = x) := fun j y hy => hv3 j y (by rw [← hct]; exact hy)
              have hEb2 : (∃ kv : Nat → Nat, (∀ b, b < 512 → f3 b = nI (kv b)) ∧ ∀ b, b < 512 → kv b < 256 * ((p + 1) + 1)) := ⟨kv2, hv1, hv2.1⟩
              refine e_aload_n C d_LY_build_91 rfl rfl ?_
              refine e_get C hin_LY 0 rfl rfl 3 (by decide) fl_LY_26 rfl d_LY_build_92 ?_
              refine e_iload_n C d_LY_build_95 rfl rfl ?_
              refine e_iconst (v := 1) C d_LY_build_96 rfl ?_
              refine e_iadd C d_LY_build_97 ?_
              refine e_st [.int (nI (p + 1)), .ref sz] (by rw [nI_1]) ?_
              refine e_aload_n C d_LY_build_98 rfl rfl ?_
              refine e_get C hin_LY 0 rfl rfl 9 (by decide) fl_LY_58 rfl d_LY_build_99 ?_
              refine e_iast C 3 0 rfl rfl (vp_in_nI (by omega) (by omega)) d_LY_build_102 ?_
              refine e_ws [oLY ly g ru (nI mo) sz ld wy bk cd nc (nI ct.length) mh mn, oGR g (nI w) ht (nI P) ho op lpl ea eb, oDG ru g deg, aI cI sz (P + 1) (upd fs (p + 1) (nI ct.length)), aI cI ld (P * mo) f2, aJ cJ wy ((P + 1) * mo) fwy, aI cI bk 512 f3, aI cI cd mo fc, aI cI nc mo f4] (by rw [nI_clamp (by omega)]; rfl) ?_
              refine e_aload_n C d_LY_build_103 rfl rfl ?_
              refine e_callV (As := []) (st := []) (wc := [oLY ly g ru (nI mo) sz ld wy bk cd nc (nI ct.length) mh mn]) (wr := [oGR g (nI w) ht (nI P) ho op lpl ea eb, oDG ru g deg, aI cI sz (P + 1) (upd fs (p + 1) (nI ct.length)), aI cI ld (P * mo) f2, aJ cJ wy ((P + 1) * mo) fwy, aI cI bk 512 f3, aI cI cd mo fc, aI cI nc mo f4]) C (M_LY_swapCodes l D cI cJ cZ ly g ru sz ld wy bk cd nc P mo hP hmo ct.length mh mn) v_LY_swapCodes ml_LY_65 0 rfl rfl nwW_ok ⟨Nat.le_of_ble_eq_true rfl, Nat.le_of_ble_eq_true rfl⟩ ⟨Nat.le_of_ble_eq_true rfl, Nat.le_of_ble_eq_true rfl⟩ [0] [1, 2, 3, 4, 5, 6, 7, 8] rfl rfl rfl rfl (by decide) (Nat.le_of_ble_eq_true rfl) rfl d_LY_build_104 (fun v w1 hp => ?_)
              obtain ⟨rfl, rfl⟩ := hp
              refine e_perm (st' := []) (ws' := [oLY ly g ru (nI mo) sz ld wy bk nc cd (nI ct.length) mh mn, oGR g (nI w) ht (nI P) ho op lpl ea eb, oDG ru g deg, aI cI sz (P + 1) (upd fs (p + 1) (nI ct.length)), aI cI ld (P * mo) f2, aJ cJ wy ((P + 1) * mo) fwy, aI cI bk 512 f3, aI cI cd mo fc, aI cI nc mo f4]) [8, 0, 1, 2, 3, 4, 5, 6, 7] rfl rfl rfl ?_
              refine e_lv [(0, .ref ly), (1, .int (nI (p % w))), (2, .int (nI p)), (3, .int (nI i))] ⟨rfl, rfl, rfl, rfl, trivial⟩ ?_
              have J127 : ∀ (y127 : Int32), y127 = nI ((p + 1) % w) → E κ (lu_o [(0, .ref ly), (1, .int (nI (p % w))), (2, .int (nI p)), (3, .int (nI i))]) [.int y127] [oLY ly g ru (nI mo) sz ld wy bk nc cd (nI ct.length) mh mn, oGR g (nI w) ht (nI P) ho op lpl ea eb, oDG ru g deg, aI cI sz (P + 1) (upd fs (p + 1) (nI ct.length)), aI cI ld (P * mo) f2, aJ cJ wy ((P + 1) * mo) fwy, aI cI bk 512 f3, aI cI cd mo fc, aI cI nc mo f4] 0 0 127 := by
                intro y127 ey127
                refine e_istore_n C d_LY_build_127 rfl (by decide) ?_
                refine e_iinc (v := (nI p) + 1) C d_LY_build_128 rfl rfl (by decide) ?_
                refine e_goto (tgt := 32) C d_LY_build_131 (by decide) ?_
                refine e_lv [(0, .ref ly), (1, .int (nI ((p + 1) % w))), (2, .int (nI (p + 1)))] ⟨rfl, congrArg (fun z => some (Value.int z)) ey127, congrArg (fun z => some (Value.int z)) (nI_1 p), trivial⟩ ?_
                refine e_perm (st' := []) (ws' := [oLY ly g ru (nI mo) sz ld wy bk nc cd (nI ct.length) mh mn, oGR g (nI w) ht (nI P) ho op lpl ea eb, oDG ru g deg, aI cI sz (P + 1) (upd fs (p + 1) (nI ct.length)), aI cI ld (P * mo) f2, aJ cJ wy ((P + 1) * mo) fwy, aI cI bk 512 f3, aI cI nc mo f4, aI cI cd mo fc]) [0, 1, 2, 3, 4, 5, 6, 8, 7] rfl rfl rfl ?_
                exact ihLO (p + 1) nc cd _ _ f2 f3 f4 _ hpP hAs2 hBl2 hCc2 hEb2 (by omega)
              refine e_iload_n C d_LY_build_107 rfl rfl ?_
              refine e_iconst (v := 1) C d_LY_build_108 rfl ?_
              refine e_iadd C d_LY_build_109 ?_
              refine e_aload_n C d_LY_build_110 rfl rfl ?_
              refine e_get C hin_LY 0 rfl rfl 0 (by decide) fl_LY_7 rfl d_LY_build_111 ?_
              refine e_getN C hin_GR 1 rfl rfl 0 (by decide) fn_LY_68 rfl d_LY_build_114 ?_
              refine e_icmp_ge (tgt := 126) C d_LY_build_117 (by decide) (fun h117 => ?_) (fun h117 => ?_)
              · -- 126
                refine e_iconst (v := 0) C d_LY_build_126 rfl ?_
                refine e_lv [(0, .ref ly), (1, .int (nI (p % w))), (2, .int (nI p)), (3, .int (nI i))] ⟨rfl, rfl, rfl, rfl, trivial⟩ ?_
                exact J127 0 (mod_dn hw0 hw h117)
              · -- 120
                refine e_iload_n C d_LY_build_120 rfl rfl ?_
                refine e_iconst (v := 1) C d_LY_build_121 rfl ?_
                refine e_iadd C d_LY_build_122 ?_
                refine e_goto (tgt := 127) C d_LY_build_123 (by decide) ?_
                refine e_lv [(0, .ref ly), (1, .int (nI (p % w))), (2, .int (nI p)), (3, .int (nI i))] ⟨rfl, rfl, rfl, rfl, trivial⟩ ?_
                exact J127 ((nI (p % w)) + 1) (mod_up hw0 hw h117)
            · -- 60
              have hil : i < (layF mo (fun p => cafDK (nI P) ho deg p (p % w)) (fun p => openChoicesF op (nI p)) 0 p).length := by rcases Nat.lt_or_ge i (layF mo (fun p => cafDK (nI P) ho deg p (p % w)) (fun p => openChoicesF op (nI p)) 0 p).length with q | q; exact q; exact absurd (nI_le q (by omega)) h57
              obtain ⟨x, hx⟩ : ∃ x, (layF mo (fun p => cafDK (nI P) ho deg p (p % w)) (fun p => openChoicesF op (nI p)) 0 p)[i]? = some x := ⟨_, List.getElem?_eq_getElem hil⟩
              have hpi := ix_lt (p := p) (P := P) (mo := mo) (a := i) (by omega) (by omega)
              refine e_aload_n C d_LY_build_60 rfl rfl ?_
              refine e_get C hin_LY 0 rfl rfl 4 (by decide) fl_LY_30 rfl d_LY_build_61 ?_
              refine e_iload_n C d_LY_build_64 rfl rfl ?_
              refine e_aload_n C d_LY_build_65 rfl rfl ?_
              refine e_get C hin_LY 0 rfl rfl 2 (by decide) fl_LY_17 rfl d_LY_build_66 ?_
              refine e_imul C d_LY_build_69 ?_
              refine e_iload_n C d_LY_build_70 rfl rfl ?_
              refine e_iadd C d_LY_build_71 ?_
              refine e_st [.int (nI (p * mo + i)), .ref ld] (by rw [pk_mul, nI_add]) ?_
              refine e_aload_n C d_LY_build_72 rfl rfl ?_
              refine e_aload_n C d_LY_build_73 rfl rfl ?_
              refine e_get C hin_LY 0 rfl rfl 7 (by decide) fl_LY_40 rfl d_LY_build_74 ?_
              refine e_iload_n C d_LY_build_77 rfl rfl ?_
              refine e_iald C 7 0 rfl rfl (vp_in_nI (by omega) (by omega)) d_LY_build_78 ?_
              refine e_st [.int (fc i), .ref ly, .int (nI (p * mo + i)), .ref ld] (by rw [nI_clamp (by omega)]) ?_
              refine e_st [.int x, .ref ly, .int (nI (p * mo + i)), .ref ld] (by rw [hCc i x hx]) ?_
              refine e_iload_n C d_LY_build_79 rfl rfl ?_
              refine e_iload_n C d_LY_build_80 rfl rfl ?_
              refine e_callV (As := [.int x, .int (nI p), .int (nI (p % w))]) (st := [.int (nI (p * mo + i)), .ref ld]) (wc := [oLY ly g ru (nI mo) sz ld wy bk cd nc (nI ct.length) mh mn, aI cI bk 512 f3, aI cI nc mo f4, oGR g (nI w) ht (nI P) ho op lpl ea eb, oDG ru g deg]) (wr := [aI cI sz (P + 1) fs, aI cI ld (P * mo) f2, aJ cJ wy ((P + 1) * mo) fwy, aI cI cd mo fc]) C (M_LY_leadsFrom_DG l D cI cJ cZ ly g ru sz ld wy bk cd nc P mo hP hmo mh mn deg w hw ht (nI P) ho op lpl ea eb f3 f4 ct x p (p % w) (by omega) hwp hLI) v_LY_leadsFrom ml_LY_61 0 rfl rfl nwW_ok ⟨Nat.le_of_ble_eq_true rfl, Nat.le_of_ble_eq_true rfl⟩ ⟨Nat.le_of_ble_eq_true rfl, Nat.le_of_ble_eq_true rfl⟩ [0, 6, 8, 1, 2] [3, 4, 5, 7] rfl rfl rfl rfl (by decide) (Nat.le_of_ble_eq_true rfl) rfl d_LY_build_81 (fun v w1 hp => ?_)
              obtain ⟨f3b, f4b, rfl, rfl, hLI2⟩ := hp
              refine e_perm (st' := [.int ((lfF mo ((fun p => cafDK (nI P) ho deg p (p % w)) p x) ((fun p => openChoicesF op (nI p)) p) ct).1), .int (nI (p * mo + i)), .ref ld]) (ws' := [oLY ly g ru (nI mo) sz ld wy bk cd nc (nI (lfF mo ((fun p => cafDK (nI P) ho deg p (p % w)) p x) ((fun p => openChoicesF op (nI p)) p) ct).2.length) mh mn, oGR g (nI w) ht (nI P) ho op lpl ea eb, oDG ru g deg, aI cI sz (P + 1) fs, aI cI ld (P * mo) f2, aJ cJ wy ((P + 1) * mo) fwy, aI cI bk 512 f3b, aI cI cd mo fc, aI cI nc mo f4b]) [4, 7, 8, 0, 1, 2, 5, 3, 6] rfl rfl rfl ?_
              refine e_iast C 4 0 rfl rfl (vp_in_nI (by omega) (by omega)) d_LY_build_84 ?_
              refine e_ws [oLY ly g ru (nI mo) sz ld wy bk cd nc (nI (lfF mo ((fun p => cafDK (nI P) ho deg p (p % w)) p x) ((fun p => openChoicesF op (nI p)) p) ct).2.length) mh mn, oGR g (nI w) ht (nI P) ho op lpl ea eb, oDG ru g deg, aI cI sz (P + 1) fs, aI cI ld (P * mo) (upd f2 (p * mo + i) ((lfF mo ((fun p => cafDK (nI P) ho deg p (p % w)) p x) ((fun p => openChoicesF op (nI p)) p) ct).1)), aJ cJ wy ((P + 1) * mo) fwy, aI cI bk 512 f3b, aI cI cd mo fc, aI cI nc mo f4b] (by rw [nI_clamp (by omega)]; rfl) ?_
              refine e_iinc (v := (nI i) + 1) C d_LY_build_85 rfl rfl (by decide) ?_
              refine e_goto (tgt := 50) C d_LY_build_88 (by decide) ?_
              refine e_lv [(0, .ref ly), (1, .int (nI (p % w))), (2, .int (nI p)), (3, .int (nI (i + 1)))] ⟨rfl, rfl, rfl, congrArg (fun z => some (Value.int z)) (nI_1 i), trivial⟩ ?_
              refine e_ws [oLY ly g ru (nI mo) sz ld wy bk cd nc (nI (lfF mo ((fun p => cafDK (nI P) ho deg p (p % w)) p x) ((fun p => openChoicesF op (nI p)) p) ct).2.length) mh mn, oGR g (nI w) ht (nI P) ho op lpl ea eb, oDG ru g deg, aI cI sz (P + 1) fs, aI cI ld (P * mo) (upd f2 (p * mo + i) ((lfF mo ((fun p => cafDK (nI P) ho deg p (p % w)) p x) ((fun p => openChoicesF op (nI p)) p) ct).1)), aJ cJ wy ((P + 1) * mo) fwy, aI cI bk 512 f3b, aI cI cd mo fc, aI cI nc mo f4b] rfl ?_
              exact ihLI (i + 1) _ _ _ f3b f4b (by omega) (by rw [row_take hx, hS]; rfl) (by rw [List.length_append, hpl]; rfl) hLI2 (fun q hq j y hy => by rw [pk_un (fun e => ix_ne (p := p) (q := q) (mo := mo) (a := i) (i := j) hq (hpj q (by omega) j y hy) e.symm)]; exact hB2 q hq j y hy) (fun j y hy => by rcases app_get hpl hy with ⟨z1, z2⟩ | ⟨z1, z2⟩; (rw [pk_un (by omega)]; exact hB3 j y z2); (subst z1; rw [pk_us]; exact z2)) (by omega)
        refine e_lv [(0, .ref ly), (1, .int (nI (p % w))), (2, .int (nI p)), (3, .int (nI 0))] ⟨rfl, rfl, rfl, rfl, trivial⟩ ?_
        refine e_ws [oLY ly g ru (nI mo) sz ld wy bk cd nc (nI ([] : List Int32).length) mh mn, oGR g (nI w) ht (nI P) ho op lpl ea eb, oDG ru g deg, aI cI sz (P + 1) fs, aI cI ld (P * mo) fl, aJ cJ wy ((P + 1) * mo) fwy, aI cI bk 512 fb, aI cI cd mo fc, aI cI nc mo fn] rfl ?_
        exact LI _ 0 ([] : List Int32) ([] : List Int32) fl fb fn (Nat.zero_le _) rfl rfl (LInv.new hkv1 hkv2) hBl (fun j x h => by simp at h) (Nat.lt_succ_self _)
  refine e_lv [(0, .ref ly), (1, .int (nI (0 % w))), (2, .int (nI 0))] ⟨rfl, (by rw [Nat.zero_mod]; rfl), rfl, trivial⟩ ?_
  refine e_ws [oLY ly g ru (nI mo) sz ld wy bk cd nc (nI ns) mh mn, oGR g (nI w) ht (nI P) ho op lpl ea eb, oDG ru g deg, aI cI sz (P + 1) (upd fsz 0 1), aI cI ld (P * mo) fld, aJ cJ wy ((P + 1) * mo) fwy, aI cI bk 512 (fun q => if q < 512 then 0 else fbk q), aI cI cd mo (upd fcd 0 0), aI cI nc mo fnc] rfl ?_
  exact LO _ 0 cd nc (nI ns) (upd fsz 0 1) fld (fun q => if q < 512 then 0 else fbk q) (upd fcd 0 0) fnc (Nat.zero_le _) (fun q hq => by rw [show q = 0 by omega]; exact ⟨pk_us, h0⟩) (fun q hq => absurd hq (Nat.not_lt_zero q)) (fun j x hx => by cases j with | zero => exact (by rw [pk_us]; exact Option.some.inj hx) | succ j => exact absurd hx (by simp [layF])) ⟨fun _ => 0, fun b hb => by simp [hb]; rfl, fun b hb => by show 0 < _; omega⟩ (Nat.lt_succ_self _)

set_option maxHeartbeats 4000000 in
set_option maxRecDepth 100000 in
theorem M_LY_build_LN (l : Launch) (D : va_G) (cI cJ cZ : ClassId) (ly g ru sz ld wy bk cd nc : Nat) (P mo : Nat) (hP : P ≤ 25) (hmo : mo ≤ 136) (mh mn : Int64) (lp : Int32) (w : Nat) (hw : w ≤ 5) (hw0 : 0 < w) (h0 : 0 < mo) (ns : Nat) (ht ho : Int32) (op : Int64) (lpl ea eb : Int32) (fsz fld fbk fcd fnc : Nat → Int32) (fwy : Nat → Int64) : MK l D cI cJ cZ y_LY_build c_LY_build 4 none 5 133 [.ref ly] [oLY ly g ru (nI mo) sz ld wy bk cd nc (nI ns) mh mn, oGR g (nI w) ht (nI P) ho op lpl ea eb, oLN ru g lp, aI cI sz (P + 1) fsz, aI cI ld (P * mo) fld, aJ cJ wy ((P + 1) * mo) fwy, aI cI bk 512 fbk, aI cI cd mo fcd, aI cI nc mo fnc] 0 0 (fun v w1 => ∃ (cd2 nc2 : Nat) (nz : Int32) (fs fl : Nat → Int32) (fw : Nat → Int64) (fb fc fn : Nat → Int32), v = none ∧ w1 = [oLY ly g ru (nI mo) sz ld wy bk cd2 nc2 nz mh mn, oGR g (nI w) ht (nI P) ho op lpl ea eb, oLN ru g lp, aI cI sz (P + 1) fs, aI cI ld (P * mo) fl, aJ cJ wy ((P + 1) * mo) fw, aI cI bk 512 fb, aI cI cd2 mo fc, aI cI nc2 mo fn] ∧ (∀ q, q ≤ P → fs q = nI (layF mo (fun p => cafLK lp ea eb p (p % w)) (fun p => openChoicesF op (nI p)) 0 q).length ∧ (layF mo (fun p => cafLK lp ea eb p (p % w)) (fun p => openChoicesF op (nI p)) 0 q).length ≤ mo) ∧ (∀ q, q < P → ∀ (j : Nat) (x : Int32), (pakF mo (fun p => cafLK lp ea eb p (p % w)) (fun p => openChoicesF op (nI p)) 0 q)[j]? = some x → fl (q * mo + j) = x) ∧ (∀ (j : Nat) (x : Int32), (layF mo (fun p => cafLK lp ea eb p (p % w)) (fun p => openChoicesF op (nI p)) 0 P)[j]? = some x → fw (P * mo + j) = if isWayLN x = true then 1 else 0)) := by
  refine MC.of (by decide) bigW_good (Nat.le_of_ble_eq_true rfl) (fun κ C Z IN => ?_)
  have hPm : P * mo ≤ 3400 := Nat.mul_le_mul hP hmo
  have hPm1 : (P + 1) * mo ≤ 3536 := Nat.mul_le_mul (Nat.succ_le_succ hP) hmo
  have hpj : ∀ q, q ≤ P → ∀ (j : Nat) (y : Int32), (pakF mo (fun p => cafLK lp ea eb p (p % w)) (fun p => openChoicesF op (nI p)) 0 q)[j]? = some y → j < mo := fun q _ j y hy => by have := (List.getElem?_eq_some_iff.mp hy).1; rw [pak_len] at this; exact Nat.lt_of_lt_of_le this (lay_len h0 q)
  refine e_aload_n C d_LY_build_0 rfl rfl ?_
  refine e_get C hin_LY 0 rfl rfl 6 (by decide) fl_LY_37 rfl d_LY_build_1 ?_
  refine e_iconst (v := 0) C d_LY_build_4 rfl ?_
  refine e_callS (As := [.ref bk, .int 0]) (st := []) (wc := [aI cI bk 512 fbk]) (wr := [oLY ly g ru (nI mo) sz ld wy bk cd nc (nI ns) mh mn, oGR g (nI w) ht (nI P) ho op lpl ea eb, oLN ru g lp, aI cI sz (P + 1) fsz, aI cI ld (P * mo) fld, aJ cJ wy ((P + 1) * mo) fwy, aI cI cd mo fcd, aI cI nc mo fnc]) C (M_JA_fill l D cI cJ cZ bk 512 (by decide) fbk 0) s_JA_fill ml_LY_46 nwW_ok ⟨Nat.le_of_ble_eq_true rfl, Nat.le_of_ble_eq_true rfl⟩ ⟨Nat.le_of_ble_eq_true rfl, Nat.le_of_ble_eq_true rfl⟩ [6] [0, 1, 2, 3, 4, 5, 7, 8] rfl rfl rfl rfl (by decide) (Nat.le_of_ble_eq_true rfl) rfl d_LY_build_5 (fun v w1 hp => ?_)
  obtain ⟨rfl, rfl⟩ := hp
  refine e_perm (st' := []) (ws' := [oLY ly g ru (nI mo) sz ld wy bk cd nc (nI ns) mh mn, oGR g (nI w) ht (nI P) ho op lpl ea eb, oLN ru g lp, aI cI sz (P + 1) fsz, aI cI ld (P * mo) fld, aJ cJ wy ((P + 1) * mo) fwy, aI cI bk 512 (fun q => if q < 512 then 0 else fbk q), aI cI cd mo fcd, aI cI nc mo fnc]) [0, 1, 2, 3, 4, 5, 8, 6, 7] rfl rfl rfl ?_
  refine e_aload_n C d_LY_build_8 rfl rfl ?_
  refine e_get C hin_LY 0 rfl rfl 7 (by decide) fl_LY_40 rfl d_LY_build_9 ?_
  refine e_iconst (v := 0) C d_LY_build_12 rfl ?_
  refine e_aload_n C d_LY_build_13 rfl rfl ?_
  refine e_get C hin_LY 0 rfl rfl 1 (by decide) fl_LY_13 rfl d_LY_build_14 ?_
  refine e_callA (As := []) (st := [.int 0, .ref cd]) (wc := [oLN ru g lp]) (wr := [oLY ly g ru (nI mo) sz ld wy bk cd nc (nI ns) mh mn, oGR g (nI w) ht (nI P) ho op lpl ea eb, aI cI sz (P + 1) fsz, aI cI ld (P * mo) fld, aJ cJ wy ((P + 1) * mo) fwy, aI cI bk 512 (fun q => if q < 512 then 0 else fbk q), aI cI cd mo fcd, aI cI nc mo fnc]) C (M_LN_firstCode l D cI cJ cZ ru g lp) a_LN_firstCode ml_LY_52 2 rfl rfl nwW_ok ⟨Nat.le_of_ble_eq_true rfl, Nat.le_of_ble_eq_true rfl⟩ ⟨Nat.le_of_ble_eq_true rfl, Nat.le_of_ble_eq_true rfl⟩ [2] [0, 1, 3, 4, 5, 6, 7, 8] rfl rfl rfl rfl (by decide) (Nat.le_of_ble_eq_true rfl) rfl d_LY_build_17 (fun v w1 hp => ?_)
  obtain ⟨rfl, rfl⟩ := hp
  refine e_perm (st' := [.int 0, .int 0, .ref cd]) (ws' := [oLY ly g ru (nI mo) sz ld wy bk cd nc (nI ns) mh mn, oGR g (nI w) ht (nI P) ho op lpl ea eb, oLN ru g lp, aI cI sz (P + 1) fsz, aI cI ld (P * mo) fld, aJ cJ wy ((P + 1) * mo) fwy, aI cI bk 512 (fun q => if q < 512 then 0 else fbk q), aI cI cd mo fcd, aI cI nc mo fnc]) [0, 1, 8, 2, 3, 4, 5, 6, 7] rfl rfl rfl ?_
  refine e_st [.int 0, .int (nI 0), .ref cd] rfl ?_
  refine e_iast C 7 0 rfl rfl (vp_in_nI (by omega) (by omega)) d_LY_build_20 ?_
  refine e_ws [oLY ly g ru (nI mo) sz ld wy bk cd nc (nI ns) mh mn, oGR g (nI w) ht (nI P) ho op lpl ea eb, oLN ru g lp, aI cI sz (P + 1) fsz, aI cI ld (P * mo) fld, aJ cJ wy ((P + 1) * mo) fwy, aI cI bk 512 (fun q => if q < 512 then 0 else fbk q), aI cI cd mo (upd fcd 0 0), aI cI nc mo fnc] (by rw [nI_clamp (by omega)]; rfl) ?_
  refine e_aload_n C d_LY_build_21 rfl rfl ?_
  refine e_get C hin_LY 0 rfl rfl 3 (by decide) fl_LY_26 rfl d_LY_build_22 ?_
  refine e_iconst (v := 0) C d_LY_build_25 rfl ?_
  refine e_iconst (v := 1) C d_LY_build_26 rfl ?_
  refine e_st [.int 1, .int (nI 0), .ref sz] rfl ?_
  refine e_iast C 3 0 rfl rfl (vp_in_nI (by omega) (by omega)) d_LY_build_27 ?_
  refine e_ws [oLY ly g ru (nI mo) sz ld wy bk cd nc (nI ns) mh mn, oGR g (nI w) ht (nI P) ho op lpl ea eb, oLN ru g lp, aI cI sz (P + 1) (upd fsz 0 1), aI cI ld (P * mo) fld, aJ cJ wy ((P + 1) * mo) fwy, aI cI bk 512 (fun q => if q < 512 then 0 else fbk q), aI cI cd mo (upd fcd 0 0), aI cI nc mo fnc] (by rw [nI_clamp (by omega)]; rfl) ?_
  refine e_iconst (v := 0) C d_LY_build_28 rfl ?_
  refine e_istore_n C d_LY_build_29 rfl (by decide) ?_
  refine e_iconst (v := 0) C d_LY_build_30 rfl ?_
  refine e_istore_n C d_LY_build_31 rfl (by decide) ?_
  have LO : ∀ (fuel : Nat) (p cd nc : Nat) (nz : Int32) (fs fl fb fc fn : Nat → Int32), p ≤ P → (∀ q, q ≤ p → fs q = nI (layF mo (fun p => cafLK lp ea eb p (p % w)) (fun p => openChoicesF op (nI p)) 0 q).length ∧ (layF mo (fun p => cafLK lp ea eb p (p % w)) (fun p => openChoicesF op (nI p)) 0 q).length ≤ mo) → (∀ q, q < p → ∀ (j : Nat) (x : Int32), (pakF mo (fun p => cafLK lp ea eb p (p % w)) (fun p => openChoicesF op (nI p)) 0 q)[j]? = some x → fl (q * mo + j) = x) → (∀ (j : Nat) (x : Int32), (layF mo (fun p => cafLK lp ea eb p (p % w)) (fun p => openChoicesF op (nI p)) 0 p)[j]? = some x → fc j = x) → (∃ kv : Nat → Nat, (∀ b, b < 512 → fb b = nI (kv b)) ∧ ∀ b, b < 512 → kv b < 256 * (p + 1)) →  P - p < fuel → E κ (lu_o [(0, .ref ly), (1, .int (nI (p % w))), (2, .int (nI p))]) [] [oLY ly g ru (nI mo) sz ld wy bk cd nc nz mh mn, oGR g (nI w) ht (nI P) ho op lpl ea eb, oLN ru g lp, aI cI sz (P + 1) fs, aI cI ld (P * mo) fl, aJ cJ wy ((P + 1) * mo) fwy, aI cI bk 512 fb, aI cI cd mo fc, aI cI nc mo fn] 0 0 32 := by
    intro fuel
    induction fuel with
    | zero => intro p cd nc nz fs fl fb fc fn hp hAs hBl hCc hEb hm; exact absurd hm (Nat.not_lt_zero _)
    | succ fuel ihLO =>
      intro p cd nc nz fs fl fb fc fn hp hAs hBl hCc hEb hm
      refine e_iload_n C d_LY_build_32 rfl rfl ?_
      refine e_aload_n C d_LY_build_33 rfl rfl ?_
      refine e_get C hin_LY 0 rfl rfl 0 (by decide) fl_LY_7 rfl d_LY_build_34 ?_
      refine e_getN C hin_GR 1 rfl rfl 2 (by decide) fn_LY_21 rfl d_LY_build_37 ?_
      refine e_icmp_ge (tgt := 134) C d_LY_build_40 (by decide) (fun h40 => ?_) (fun h40 => ?_)
      · -- 134
        have hpP : P = p := by have q := (nI_leI (by omega) (by omega)).mp h40; omega
        subst hpP
        have hlp := (hAs P (Nat.le_refl _)).2
        refine e_iconst (v := 0) C d_LY_build_134 rfl ?_
        refine e_istore_n C d_LY_build_135 rfl (by decide) ?_
        have LW : ∀ (fuel : Nat) (i : Nat) (fw : Nat → Int64), i ≤ (layF mo (fun p => cafLK lp ea eb p (p % w)) (fun p => openChoicesF op (nI p)) 0 P).length → (∀ (j : Nat) (x : Int32), j < i → (layF mo (fun p => cafLK lp ea eb p (p % w)) (fun p => openChoicesF op (nI p)) 0 P)[j]? = some x → fw (P * mo + j) = if isWayLN x = true then 1 else 0) →  (layF mo (fun p => cafLK lp ea eb p (p % w)) (fun p => openChoicesF op (nI p)) 0 P).length - i < fuel → E κ (lu_o [(0, .ref ly), (2, .int (nI i))]) [] [oLY ly g ru (nI mo) sz ld wy bk cd nc nz mh mn, oGR g (nI w) ht (nI P) ho op lpl ea eb, oLN ru g lp, aI cI sz (P + 1) fs, aI cI ld (P * mo) fl, aJ cJ wy ((P + 1) * mo) fw, aI cI bk 512 fb, aI cI cd mo fc, aI cI nc mo fn] 0 0 136 := by
          intro fuel
          induction fuel with
          | zero => intro i fw hi hW hm; exact absurd hm (Nat.not_lt_zero _)
          | succ fuel ihLW =>
            intro i fw hi hW hm
            refine e_iload_n C d_LY_build_136 rfl rfl ?_
            refine e_aload_n C d_LY_build_137 rfl rfl ?_
            refine e_get C hin_LY 0 rfl rfl 3 (by decide) fl_LY_26 rfl d_LY_build_138 ?_
            refine e_aload_n C d_LY_build_141 rfl rfl ?_
            refine e_get C hin_LY 0 rfl rfl 0 (by decide) fl_LY_7 rfl d_LY_build_142 ?_
            refine e_getN C hin_GR 1 rfl rfl 2 (by decide) fn_LY_21 rfl d_LY_build_145 ?_
            refine e_iald C 3 0 rfl rfl (vp_in_nI (by omega) (by omega)) d_LY_build_148 ?_
            refine e_st [.int (fs P), .int (nI i)] (by rw [nI_clamp (by omega)]) ?_
            refine e_st [.int (nI (layF mo (fun p => cafLK lp ea eb p (p % w)) (fun p => openChoicesF op (nI p)) 0 P).length), .int (nI i)] (by rw [(hAs P (Nat.le_refl _)).1]) ?_
            refine e_icmp_ge (tgt := 198) C d_LY_build_149 (by decide) (fun h149 => ?_) (fun h149 => ?_)
            · -- 198
              exact e_vret C Z (Nat.le_of_ble_eq_true rfl) (Nat.le_of_ble_eq_true rfl) (⟨cd, nc, nz, fs, fl, fw, fb, fc, fn, rfl, rfl, fun q hq => hAs q hq, fun q hq j x hx => hBl q hq j x hx, fun j x hx => hW j x (by have := (List.getElem?_eq_some_iff.mp hx).1; have q := (nI_leI (by omega) (by omega)).mp h149; omega) hx⟩) d_LY_build_198
            · -- 152
              have hil : i < (layF mo (fun p => cafLK lp ea eb p (p % w)) (fun p => openChoicesF op (nI p)) 0 P).length := by rcases Nat.lt_or_ge i (layF mo (fun p => cafLK lp ea eb p (p % w)) (fun p => openChoicesF op (nI p)) 0 P).length with q | q; exact q; exact absurd (nI_le q (by omega)) h149
              obtain ⟨x, hx⟩ : ∃ x, (layF mo (fun p => cafLK lp ea eb p (p % w)) (fun p => openChoicesF op (nI p)) 0 P)[i]? = some x := ⟨_, List.getElem?_eq_getElem hil⟩
              have hpi := ix_lt (p := P) (P := P + 1) (mo := mo) (a := i) (by omega) (by omega)
              refine e_aload_n C d_LY_build_152 rfl rfl ?_
              refine e_get C hin_LY 0 rfl rfl 5 (by decide) fl_LY_33 rfl d_LY_build_153 ?_
              refine e_aload_n C d_LY_build_156 rfl rfl ?_
              refine e_get C hin_LY 0 rfl rfl 0 (by decide) fl_LY_7 rfl d_LY_build_157 ?_
              refine e_getN C hin_GR 1 rfl rfl 2 (by decide) fn_LY_21 rfl d_LY_build_160 ?_
              refine e_aload_n C d_LY_build_163 rfl rfl ?_
              refine e_get C hin_LY 0 rfl rfl 2 (by decide) fl_LY_17 rfl d_LY_build_164 ?_
              refine e_imul C d_LY_build_167 ?_
              refine e_iload_n C d_LY_build_168 rfl rfl ?_
              refine e_iadd C d_LY_build_169 ?_
              refine e_st [.int (nI (P * mo + i)), .ref wy] (by rw [pk_mul, nI_add]) ?_
              refine e_aload_n C d_LY_build_170 rfl rfl ?_
              refine e_get C hin_LY 0 rfl rfl 1 (by decide) fl_LY_13 rfl d_LY_build_171 ?_
              refine e_aload_n C d_LY_build_174 rfl rfl ?_
              refine e_get C hin_LY 0 rfl rfl 7 (by decide) fl_LY_40 rfl d_LY_build_175 ?_
              refine e_iload_n C d_LY_build_178 rfl rfl ?_
              refine e_iald C 7 0 rfl rfl (vp_in_nI (by omega) (by omega)) d_LY_build_179 ?_
              refine e_st [.int (fc i), .ref ru, .int (nI (P * mo + i)), .ref wy] (by rw [nI_clamp (by omega)]) ?_
              refine e_st [.int x, .ref ru, .int (nI (P * mo + i)), .ref wy] (by rw [hCc i x hx]) ?_
              refine e_callA (As := [.int x]) (st := [.int (nI (P * mo + i)), .ref wy]) (wc := [oLN ru g lp]) (wr := [oLY ly g ru (nI mo) sz ld wy bk cd nc nz mh mn, oGR g (nI w) ht (nI P) ho op lpl ea eb, aI cI sz (P + 1) fs, aI cI ld (P * mo) fl, aJ cJ wy ((P + 1) * mo) fw, aI cI bk 512 fb, aI cI cd mo fc, aI cI nc mo fn]) C (M_LN_isWay l D cI cJ cZ ru g lp x) a_LN_isWay ml_LY_71 2 rfl rfl nwW_ok ⟨Nat.le_of_ble_eq_true rfl, Nat.le_of_ble_eq_true rfl⟩ ⟨Nat.le_of_ble_eq_true rfl, Nat.le_of_ble_eq_true rfl⟩ [2] [0, 1, 3, 4, 5, 6, 7, 8] rfl rfl rfl rfl (by decide) (Nat.le_of_ble_eq_true rfl) rfl d_LY_build_180 (fun v w1 hp => ?_)
              obtain ⟨rfl, rfl⟩ := hp
              refine e_perm (st' := [.int (bI (isWayLN x)), .int (nI (P * mo + i)), .ref wy]) (ws' := [oLY ly g ru (nI mo) sz ld wy bk cd nc nz mh mn, oGR g (nI w) ht (nI P) ho op lpl ea eb, oLN ru g lp, aI cI sz (P + 1) fs, aI cI ld (P * mo) fl, aJ cJ wy ((P + 1) * mo) fw, aI cI bk 512 fb, aI cI cd mo fc, aI cI nc mo fn]) [0, 1, 8, 2, 3, 4, 5, 6, 7] rfl rfl rfl ?_
              refine e_lv [(0, .ref ly), (2, .int (nI i))] ⟨rfl, rfl, trivial⟩ ?_
              have J191 : ∀ (y191 : Int64), y191 = (if isWayLN x = true then 1 else 0) → E κ (lu_o [(0, .ref ly), (2, .int (nI i))]) [.long y191, .int (nI (P * mo + i)), .ref wy] [oLY ly g ru (nI mo) sz ld wy bk cd nc nz mh mn, oGR g (nI w) ht (nI P) ho op lpl ea eb, oLN ru g lp, aI cI sz (P + 1) fs, aI cI ld (P * mo) fl, aJ cJ wy ((P + 1) * mo) fw, aI cI bk 512 fb, aI cI cd mo fc, aI cI nc mo fn] 0 0 191 := by
                intro y191 ey191
                refine e_last C 5 1 rfl rfl (vp_in_nI (by omega) (by omega)) d_LY_build_191 ?_
                refine e_ws [oLY ly g ru (nI mo) sz ld wy bk cd nc nz mh mn, oGR g (nI w) ht (nI P) ho op lpl ea eb, oLN ru g lp, aI cI sz (P + 1) fs, aI cI ld (P * mo) fl, aJ cJ wy ((P + 1) * mo) (vp_updL fw (P * mo + i) y191), aI cI bk 512 fb, aI cI cd mo fc, aI cI nc mo fn] (by rw [nI_clamp (by omega)]; rfl) ?_
                refine e_iinc (v := (nI i) + 1) C d_LY_build_192 rfl rfl (by decide) ?_
                refine e_goto (tgt := 136) C d_LY_build_195 (by decide) ?_
                refine e_lv [(0, .ref ly), (2, .int (nI (i + 1)))] ⟨rfl, congrArg (fun z => some (Value.int z)) (nI_1 i), trivial⟩ ?_
                refine e_ws [oLY ly g ru (nI mo) sz ld wy bk cd nc nz mh mn, oGR g (nI w) ht (nI P) ho op lpl ea eb, oLN ru g lp, aI cI sz (P + 1) fs, aI cI ld (P * mo) fl, aJ cJ wy ((P + 1) * mo) (vp_updL fw (P * mo + i) y191), aI cI bk 512 fb, aI cI cd mo fc, aI cI nc mo fn] rfl ?_
                exact ihLW (i + 1) _ (by omega) (fun j y hj hy => by rcases Nat.lt_or_ge j i with z | z; (rw [pk_uLn (by omega)]; exact hW j y z hy); (rw [show j = i by omega] at hy ⊢; rw [pk_uLs, ey191, Option.some.inj (hx.symm.trans hy)])) (by omega)
              refine e_if_eq (tgt := 190) C d_LY_build_183 (by decide) (fun h183 => ?_) (fun h183 => ?_)
              · -- 190
                refine e_lconst (v := 0) C d_LY_build_190 rfl ?_
                refine e_lv [(0, .ref ly), (2, .int (nI i))] ⟨rfl, rfl, trivial⟩ ?_
                exact J191 0 (by (try simp only [bI_eq0, Bool.not_eq_false] at h183); first | rw [if_pos h183] | rw [if_neg (Bool.eq_false_iff.mp h183)])
              · -- 186
                refine e_lconst (v := 1) C d_LY_build_186 rfl ?_
                refine e_goto (tgt := 191) C d_LY_build_187 (by decide) ?_
                refine e_lv [(0, .ref ly), (2, .int (nI i))] ⟨rfl, rfl, trivial⟩ ?_
                exact J191 1 (by (try simp only [bI_eq0, Bool.not_eq_false] at h183); first | rw [if_pos h183] | rw [if_neg (Bool.eq_false_iff.mp h183)])
        refine e_lv [(0, .ref ly), (2, .int (nI 0))] ⟨rfl, rfl, trivial⟩ ?_
        refine e_ws [oLY ly g ru (nI mo) sz ld wy bk cd nc nz mh mn, oGR g (nI w) ht (nI P) ho op lpl ea eb, oLN ru g lp, aI cI sz (P + 1) fs, aI cI ld (P * mo) fl, aJ cJ wy ((P + 1) * mo) fwy, aI cI bk 512 fb, aI cI cd mo fc, aI cI nc mo fn] rfl ?_
        exact LW _ 0 fwy (Nat.zero_le _) (fun j x h => absurd h (Nat.not_lt_zero j)) (Nat.lt_succ_self _)
      · -- 43
        refine e_aload_n C d_LY_build_43 rfl rfl ?_
        refine e_iconst (v := 0) C d_LY_build_44 rfl ?_
        refine e_put C hin_LY ty_LY tyk_LY nm_LY 0 rfl rfl 9 (by decide) fl_LY_58 rfl rfl rfl (Nat.le_of_ble_eq_true rfl) d_LY_build_45 ?_
        refine e_ws [oLY ly g ru (nI mo) sz ld wy bk cd nc 0 mh mn, oGR g (nI w) ht (nI P) ho op lpl ea eb, oLN ru g lp, aI cI sz (P + 1) fs, aI cI ld (P * mo) fl, aJ cJ wy ((P + 1) * mo) fwy, aI cI bk 512 fb, aI cI cd mo fc, aI cI nc mo fn] rfl ?_
        refine e_iconst (v := 0) C d_LY_build_48 rfl ?_
        refine e_istore_n C d_LY_build_49 rfl (by decide) ?_
        have hpP : p + 1 ≤ P := by rcases Nat.lt_or_ge p P with q | q; exact q; exact absurd (nI_le q (by omega)) h40
        have hlp := (hAs p (Nat.le_refl _)).2
        have hwp : p % w < w := Nat.mod_lt _ hw0
        obtain ⟨kv, hkv1, hkv2⟩ := hEb
        have LI : ∀ (fuel : Nat) (i : Nat) (pks ct : List Int32) (f2 f3 f4 : Nat → Int32), i ≤ (layF mo (fun p => cafLK lp ea eb p (p % w)) (fun p => openChoicesF op (nI p)) 0 p).length → ((layF mo (fun p => cafLK lp ea eb p (p % w)) (fun p => openChoicesF op (nI p)) 0 p).take i).foldl (rowS mo ((fun p => cafLK lp ea eb p (p % w)) p) ((fun p => openChoicesF op (nI p)) p)) ([], []) = (pks, ct) → pks.length = i → LInv (p + 1) mo ct f3 f4 → (∀ q, q < p → ∀ (j : Nat) (x : Int32), (pakF mo (fun p => cafLK lp ea eb p (p % w)) (fun p => openChoicesF op (nI p)) 0 q)[j]? = some x → f2 (q * mo + j) = x) → (∀ (j : Nat) (x : Int32), pks[j]? = some x → f2 (p * mo + j) = x) →  (layF mo (fun p => cafLK lp ea eb p (p % w)) (fun p => openChoicesF op (nI p)) 0 p).length - i < fuel → E κ (lu_o [(0, .ref ly), (1, .int (nI (p % w))), (2, .int (nI p)), (3, .int (nI i))]) [] [oLY ly g ru (nI mo) sz ld wy bk cd nc (nI ct.length) mh mn, oGR g (nI w) ht (nI P) ho op lpl ea eb, oLN ru g lp, aI cI sz (P + 1) fs, aI cI ld (P * mo) f2, aJ cJ wy ((P + 1) * mo) fwy, aI cI bk 512 f3, aI cI cd mo fc, aI cI nc mo f4] 0 0 50 := by
          intro fuel
          induction fuel with
          | zero => intro i pks ct f2 f3 f4 hi hS hpl hLI hB2 hB3 hm; exact absurd hm (Nat.not_lt_zero _)
          | succ fuel ihLI =>
            intro i pks ct f2 f3 f4 hi hS hpl hLI hB2 hB3 hm
            refine e_iload_n C d_LY_build_50 rfl rfl ?_
            refine e_aload_n C d_LY_build_51 rfl rfl ?_
            refine e_get C hin_LY 0 rfl rfl 3 (by decide) fl_LY_26 rfl d_LY_build_52 ?_
            refine e_iload_n C d_LY_build_55 rfl rfl ?_
            refine e_iald C 3 0 rfl rfl (vp_in_nI (by omega) (by omega)) d_LY_build_56 ?_
            refine e_st [.int (fs p), .int (nI i)] (by rw [nI_clamp (by omega)]) ?_
            refine e_st [.int (nI (layF mo (fun p => cafLK lp ea eb p (p % w)) (fun p => openChoicesF op (nI p)) 0 p).length), .int (nI i)] (by rw [(hAs p (Nat.le_refl _)).1]) ?_
            refine e_icmp_ge (tgt := 91) C d_LY_build_57 (by decide) (fun h57 => ?_) (fun h57 => ?_)
            · -- 91
              have hil : i = (layF mo (fun p => cafLK lp ea eb p (p % w)) (fun p => openChoicesF op (nI p)) 0 p).length := by have q := (nI_leI (by omega) (by omega)).mp h57; omega
              rw [hil, List.take_length] at hS
              have hrow : rowF mo ((fun p => cafLK lp ea eb p (p % w)) p) ((fun p => openChoicesF op (nI p)) p) (layF mo (fun p => cafLK lp ea eb p (p % w)) (fun p => openChoicesF op (nI p)) 0 p) = (pks, ct) := hS
              have hct : (layF mo (fun p => cafLK lp ea eb p (p % w)) (fun p => openChoicesF op (nI p)) 0 (p + 1)) = ct := congrArg Prod.snd hrow
              have hpk : (pakF mo (fun p => cafLK lp ea eb p (p % w)) (fun p => openChoicesF op (nI p)) 0 p) = pks := congrArg Prod.fst hrow
              obtain ⟨kv2, hv1, hv2, hv3, hv4⟩ := hLI
              have hAs2 : (∀ q, q ≤ (p + 1) → (upd fs (p + 1) (nI ct.length)) q = nI (layF mo (fun p => cafLK lp ea eb p (p % w)) (fun p => openChoicesF op (nI p)) 0 q).length ∧ (layF mo (fun p => cafLK lp ea eb p (p % w)) (fun p => openChoicesF op (nI p)) 0 q).length ≤ mo) := fun q hq => by rcases Nat.lt_or_ge q (p + 1) with z | z; (rw [pk_un (by omega)]; exact hAs q (by omega)); (rw [show q = p + 1 by omega, pk_us, hct]; exact ⟨rfl, hv4⟩)
              have hBl2 : (∀ q, q < (p + 1) → ∀ (j : Nat) (x : Int32), (pakF mo (fun p => cafLK lp ea eb p (p % w)) (fun p => openChoicesF op (nI p)) 0 q)[j]? = some x → f2 (q * mo + j) = x) := fun q hq j y hy => by rcases Nat.lt_or_ge q p with z | z; exact hB2 q z j y hy; (rw [show q = p by omega] at hy ⊢; rw [hpk] at hy; exact hB3 j y hy)
              have hCc2 : (∀ (j : Nat) (x : Int32), (layF mo (fun p => cafLK lp ea eb p (p % w)) (fun p => openChoicesF op (nI p)) 0 (p + 1))[j]? = some x → f4 j = x) := fun j y hy => hv3 j y (by rw [← hct]; exact hy)
              have hEb2 : (∃ kv : Nat → Nat, (∀ b, b < 512 → f3 b = nI (kv b)) ∧ ∀ b, b < 512 → kv b < 256 * ((p + 1) + 1)) := ⟨kv2, hv1, hv2.1⟩
              refine e_aload_n C d_LY_build_91 rfl rfl ?_
              refine e_get C hin_LY 0 rfl rfl 3 (by decide) fl_LY_26 rfl d_LY_build_92 ?_
              refine e_iload_n C d_LY_build_95 rfl rfl ?_
              refine e_iconst (v := 1) C d_LY_build_96 rfl ?_
              refine e_iadd C d_LY_build_97 ?_
              refine e_st [.int (nI (p + 1)), .ref sz] (by rw [nI_1]) ?_
              refine e_aload_n C d_LY_build_98 rfl rfl ?_
              refine e_get C hin_LY 0 rfl rfl 9 (by decide) fl_LY_58 rfl d_LY_build_99 ?_
              refine e_iast C 3 0 rfl rfl (vp_in_nI (by omega) (by omega)) d_LY_build_102 ?_
              refine e_ws [oLY ly g ru (nI mo) sz ld wy bk cd nc (nI ct.length) mh mn, oGR g (nI w) ht (nI P) ho op lpl ea eb, oLN ru g lp, aI cI sz (P + 1) (upd fs (p + 1) (nI ct.length)), aI cI ld (P * mo) f2, aJ cJ wy ((P + 1) * mo) fwy, aI cI bk 512 f3, aI cI cd mo fc, aI cI nc mo f4] (by rw [nI_clamp (by omega)]; rfl) ?_
              refine e_aload_n C d_LY_build_103 rfl rfl ?_
              refine e_callV (As := []) (st := []) (wc := [oLY ly g ru (nI mo) sz ld wy bk cd nc (nI ct.length) mh mn]) (wr := [oGR g (nI w) ht (nI P) ho op lpl ea eb, oLN ru g lp, aI cI sz (P + 1) (upd fs (p + 1) (nI ct.length)), aI cI ld (P * mo) f2, aJ cJ wy ((P + 1) * mo) fwy, aI cI bk 512 f3, aI cI cd mo fc, aI cI nc mo f4]) C (M_LY_swapCodes l D cI cJ cZ ly g ru sz ld wy bk cd nc P mo hP hmo ct.length mh mn) v_LY_swapCodes ml_LY_65 0 rfl rfl nwW_ok ⟨Nat.le_of_ble_eq_true rfl, Nat.le_of_ble_eq_true rfl⟩ ⟨Nat.le_of_ble_eq_true rfl, Nat.le_of_ble_eq_true rfl⟩ [0] [1, 2, 3, 4, 5, 6, 7, 8] rfl rfl rfl rfl (by decide) (Nat.le_of_ble_eq_true rfl) rfl d_LY_build_104 (fun v w1 hp => ?_)
              obtain ⟨rfl, rfl⟩ := hp
              refine e_perm (st' := []) (ws' := [oLY ly g ru (nI mo) sz ld wy bk nc cd (nI ct.length) mh mn, oGR g (nI w) ht (nI P) ho op lpl ea eb, oLN ru g lp, aI cI sz (P + 1) (upd fs (p + 1) (nI ct.length)), aI cI ld (P * mo) f2, aJ cJ wy ((P + 1) * mo) fwy, aI cI bk 512 f3, aI cI cd mo fc, aI cI nc mo f4]) [8, 0, 1, 2, 3, 4, 5, 6, 7] rfl rfl rfl ?_
              refine e_lv [(0, .ref ly), (1, .int (nI (p % w))), (2, .int (nI p)), (3, .int (nI i))] ⟨rfl, rfl, rfl, rfl, trivial⟩ ?_
              have J127 : ∀ (y127 : Int32), y127 = nI ((p + 1) % w) → E κ (lu_o [(0, .ref ly), (1, .int (nI (p % w))), (2, .int (nI p)), (3, .int (nI i))]) [.int y127] [oLY ly g ru (nI mo) sz ld wy bk nc cd (nI ct.length) mh mn, oGR g (nI w) ht (nI P) ho op lpl ea eb, oLN ru g lp, aI cI sz (P + 1) (upd fs (p + 1) (nI ct.length)), aI cI ld (P * mo) f2, aJ cJ wy ((P + 1) * mo) fwy, aI cI bk 512 f3, aI cI cd mo fc, aI cI nc mo f4] 0 0 127 := by
                intro y127 ey127
                refine e_istore_n C d_LY_build_127 rfl (by decide) ?_
                refine e_iinc (v := (nI p) + 1) C d_LY_build_128 rfl rfl (by decide) ?_
                refine e_goto (tgt := 32) C d_LY_build_131 (by decide) ?_
                refine e_lv [(0, .ref ly), (1, .int (nI ((p + 1) % w))), (2, .int (nI (p + 1)))] ⟨rfl, congrArg (fun z => some (Value.int z)) ey127, congrArg (fun z => some (Value.int z)) (nI_1 p), trivial⟩ ?_
                refine e_perm (st' := []) (ws' := [oLY ly g ru (nI mo) sz ld wy bk nc cd (nI ct.length) mh mn, oGR g (nI w) ht (nI P) ho op lpl ea eb, oLN ru g lp, aI cI sz (P + 1) (upd fs (p + 1) (nI ct.length)), aI cI ld (P * mo) f2, aJ cJ wy ((P + 1) * mo) fwy, aI cI bk 512 f3, aI cI nc mo f4, aI cI cd mo fc]) [0, 1, 2, 3, 4, 5, 6, 8, 7] rfl rfl rfl ?_
                exact ihLO (p + 1) nc cd _ _ f2 f3 f4 _ hpP hAs2 hBl2 hCc2 hEb2 (by omega)
              refine e_iload_n C d_LY_build_107 rfl rfl ?_
              refine e_iconst (v := 1) C d_LY_build_108 rfl ?_
              refine e_iadd C d_LY_build_109 ?_
              refine e_aload_n C d_LY_build_110 rfl rfl ?_
              refine e_get C hin_LY 0 rfl rfl 0 (by decide) fl_LY_7 rfl d_LY_build_111 ?_
              refine e_getN C hin_GR 1 rfl rfl 0 (by decide) fn_LY_68 rfl d_LY_build_114 ?_
              refine e_icmp_ge (tgt := 126) C d_LY_build_117 (by decide) (fun h117 => ?_) (fun h117 => ?_)
              · -- 126
                refine e_iconst (v := 0) C d_LY_build_126 rfl ?_
                refine e_lv [(0, .ref ly), (1, .int (nI (p % w))), (2, .int (nI p)), (3, .int (nI i))] ⟨rfl, rfl, rfl, rfl, trivial⟩ ?_
                exact J127 0 (mod_dn hw0 hw h117)
              · -- 120
                refine e_iload_n C d_LY_build_120 rfl rfl ?_
                refine e_iconst (v := 1) C d_LY_build_121 rfl ?_
                refine e_iadd C d_LY_build_122 ?_
                refine e_goto (tgt := 127) C d_LY_build_123 (by decide) ?_
                refine e_lv [(0, .ref ly), (1, .int (nI (p % w))), (2, .int (nI p)), (3, .int (nI i))] ⟨rfl, rfl, rfl, rfl, trivial⟩ ?_
                exact J127 ((nI (p % w)) + 1) (mod_up hw0 hw h117)
            · -- 60
              have hil : i < (layF mo (fun p => cafLK lp ea eb p (p % w)) (fun p => openChoicesF op (nI p)) 0 p).length := by rcases Nat.lt_or_ge i (layF mo (fun p => cafLK lp ea eb p (p % w)) (fun p => openChoicesF op (nI p)) 0 p).length with q | q; exact q; exact absurd (nI_le q (by omega)) h57
              obtain ⟨x, hx⟩ : ∃ x, (layF mo (fun p => cafLK lp ea eb p (p % w)) (fun p => openChoicesF op (nI p)) 0 p)[i]? = some x := ⟨_, List.getElem?_eq_getElem hil⟩
              have hpi := ix_lt (p := p) (P := P) (mo := mo) (a := i) (by omega) (by omega)
              refine e_aload_n C d_LY_build_60 rfl rfl ?_
              refine e_get C hin_LY 0 rfl rfl 4 (by decide) fl_LY_30 rfl d_LY_build_61 ?_
              refine e_iload_n C d_LY_build_64 rfl rfl ?_
              refine e_aload_n C d_LY_build_65 rfl rfl ?_
              refine e_get C hin_LY 0 rfl rfl 2 (by decide) fl_LY_17 rfl d_LY_build_66 ?_
              refine e_imul C d_LY_build_69 ?_
              refine e_iload_n C d_LY_build_70 rfl rfl ?_
              refine e_iadd C d_LY_build_71 ?_
              refine e_st [.int (nI (p * mo + i)), .ref ld] (by rw [pk_mul, nI_add]) ?_
              refine e_aload_n C d_LY_build_72 rfl rfl ?_
              refine e_aload_n C d_LY_build_73 rfl rfl ?_
              refine e_get C hin_LY 0 rfl rfl 7 (by decide) fl_LY_40 rfl d_LY_build_74 ?_
              refine e_iload_n C d_LY_build_77 rfl rfl ?_
              refine e_iald C 7 0 rfl rfl (vp_in_nI (by omega) (by omega)) d_LY_build_78 ?_
              refine e_st [.int (fc i), .ref ly, .int (nI (p * mo + i)), .ref ld] (by rw [nI_clamp (by omega)]) ?_
              refine e_st [.int x, .ref ly, .int (nI (p * mo + i)), .ref ld] (by rw [hCc i x hx]) ?_
              refine e_iload_n C d_LY_build_79 rfl rfl ?_
              refine e_iload_n C d_LY_build_80 rfl rfl ?_
              refine e_callV (As := [.int x, .int (nI p), .int (nI (p % w))]) (st := [.int (nI (p * mo + i)), .ref ld]) (wc := [oLY ly g ru (nI mo) sz ld wy bk cd nc (nI ct.length) mh mn, aI cI bk 512 f3, aI cI nc mo f4, oGR g (nI w) ht (nI P) ho op lpl ea eb, oLN ru g lp]) (wr := [aI cI sz (P + 1) fs, aI cI ld (P * mo) f2, aJ cJ wy ((P + 1) * mo) fwy, aI cI cd mo fc]) C (M_LY_leadsFrom_LN l D cI cJ cZ ly g ru sz ld wy bk cd nc P mo hP hmo mh mn lp w hw ht (nI P) ho op lpl ea eb f3 f4 ct x p (p % w) (by omega) hwp hLI) v_LY_leadsFrom ml_LY_61 0 rfl rfl nwW_ok ⟨Nat.le_of_ble_eq_true rfl, Nat.le_of_ble_eq_true rfl⟩ ⟨Nat.le_of_ble_eq_true rfl, Nat.le_of_ble_eq_true rfl⟩ [0, 6, 8, 1, 2] [3, 4, 5, 7] rfl rfl rfl rfl (by decide) (Nat.le_of_ble_eq_true rfl) rfl d_LY_build_81 (fun v w1 hp => ?_)
              obtain ⟨f3b, f4b, rfl, rfl, hLI2⟩ := hp
              refine e_perm (st' := [.int ((lfF mo ((fun p => cafLK lp ea eb p (p % w)) p x) ((fun p => openChoicesF op (nI p)) p) ct).1), .int (nI (p * mo + i)), .ref ld]) (ws' := [oLY ly g ru (nI mo) sz ld wy bk cd nc (nI (lfF mo ((fun p => cafLK lp ea eb p (p % w)) p x) ((fun p => openChoicesF op (nI p)) p) ct).2.length) mh mn, oGR g (nI w) ht (nI P) ho op lpl ea eb, oLN ru g lp, aI cI sz (P + 1) fs, aI cI ld (P * mo) f2, aJ cJ wy ((P + 1) * mo) fwy, aI cI bk 512 f3b, aI cI cd mo fc, aI cI nc mo f4b]) [4, 7, 8, 0, 1, 2, 5, 3, 6] rfl rfl rfl ?_
              refine e_iast C 4 0 rfl rfl (vp_in_nI (by omega) (by omega)) d_LY_build_84 ?_
              refine e_ws [oLY ly g ru (nI mo) sz ld wy bk cd nc (nI (lfF mo ((fun p => cafLK lp ea eb p (p % w)) p x) ((fun p => openChoicesF op (nI p)) p) ct).2.length) mh mn, oGR g (nI w) ht (nI P) ho op lpl ea eb, oLN ru g lp, aI cI sz (P + 1) fs, aI cI ld (P * mo) (upd f2 (p * mo + i) ((lfF mo ((fun p => cafLK lp ea eb p (p % w)) p x) ((fun p => openChoicesF op (nI p)) p) ct).1)), aJ cJ wy ((P + 1) * mo) fwy, aI cI bk 512 f3b, aI cI cd mo fc, aI cI nc mo f4b] (by rw [nI_clamp (by omega)]; rfl) ?_
              refine e_iinc (v := (nI i) + 1) C d_LY_build_85 rfl rfl (by decide) ?_
              refine e_goto (tgt := 50) C d_LY_build_88 (by decide) ?_
              refine e_lv [(0, .ref ly), (1, .int (nI (p % w))), (2, .int (nI p)), (3, .int (nI (i + 1)))] ⟨rfl, rfl, rfl, congrArg (fun z => some (Value.int z)) (nI_1 i), trivial⟩ ?_
              refine e_ws [oLY ly g ru (nI mo) sz ld wy bk cd nc (nI (lfF mo ((fun p => cafLK lp ea eb p (p % w)) p x) ((fun p => openChoicesF op (nI p)) p) ct).2.length) mh mn, oGR g (nI w) ht (nI P) ho op lpl ea eb, oLN ru g lp, aI cI sz (P + 1) fs, aI cI ld (P * mo) (upd f2 (p * mo + i) ((lfF mo ((fun p => cafLK lp ea eb p (p % w)) p x) ((fun p => openChoicesF op (nI p)) p) ct).1)), aJ cJ wy ((P + 1) * mo) fwy, aI cI bk 512 f3b, aI cI cd mo fc, aI cI nc mo f4b] rfl ?_
              exact ihLI (i + 1) _ _ _ f3b f4b (by omega) (by rw [row_take hx, hS]; rfl) (by rw [List.length_append, hpl]; rfl) hLI2 (fun q hq j y hy => by rw [pk_un (fun e => ix_ne (p := p) (q := q) (mo := mo) (a := i) (i := j) hq (hpj q (by omega) j y hy) e.symm)]; exact hB2 q hq j y hy) (fun j y hy => by rcases app_get hpl hy with ⟨z1, z2⟩ | ⟨z1, z2⟩; (rw [pk_un (by omega)]; exact hB3 j y z2); (subst z1; rw [pk_us]; exact z2)) (by omega)
        refine e_lv [(0, .ref ly), (1, .int (nI (p % w))), (2, .int (nI p)), (3, .int (nI 0))] ⟨rfl, rfl, rfl, rfl, trivial⟩ ?_
        refine e_ws [oLY ly g ru (nI mo) sz ld wy bk cd nc (nI ([] : List Int32).length) mh mn, oGR g (nI w) ht (nI P) ho op lpl ea eb, oLN ru g lp, aI cI sz (P + 1) fs, aI cI ld (P * mo) fl, aJ cJ wy ((P + 1) * mo) fwy, aI cI bk 512 fb, aI cI cd mo fc, aI cI nc mo fn] rfl ?_
        exact LI _ 0 ([] : List Int32) ([] : List Int32) fl fb fn (Nat.zero_le _) rfl rfl (LInv.new hkv1 hkv2) hBl (fun j x h => by simp at h) (Nat.lt_succ_self _)
  refine e_lv [(0, .ref ly), (1, .int (nI (0 % w))), (2, .int (nI 0))] ⟨rfl, (by rw [Nat.zero_mod]; rfl), rfl, trivial⟩ ?_
  refine e_ws [oLY ly g ru (nI mo) sz ld wy bk cd nc (nI ns) mh mn, oGR g (nI w) ht (nI P) ho op lpl ea eb, oLN ru g lp, aI cI sz (P + 1) (upd fsz 0 1), aI cI ld (P * mo) fld, aJ cJ wy ((P + 1) * mo) fwy, aI cI bk 512 (fun q => if q < 512 then 0 else fbk q), aI cI cd mo (upd fcd 0 0), aI cI nc mo fnc] rfl ?_
  exact LO _ 0 cd nc (nI ns) (upd fsz 0 1) fld (fun q => if q < 512 then 0 else fbk q) (upd fcd 0 0) fnc (Nat.zero_le _) (fun q hq => by rw [show q = 0 by omega]; exact ⟨pk_us, h0⟩) (fun q hq => absurd hq (Nat.not_lt_zero q)) (fun j x hx => by cases j with | zero => exact (by rw [pk_us]; exact Option.some.inj hx) | succ j => exact absurd hx (by simp [layF])) ⟨fun _ => 0, fun b hb => by simp [hb]; rfl, fun b hb => by show 0 < _; omega⟩ (Nat.lt_succ_self _)

set_option maxHeartbeats 4000000 in
set_option maxRecDepth 100000 in
theorem M_LY_build_TR (l : Launch) (D : va_G) (cI cJ cZ : ClassId) (ly g ru sz ld wy bk cd nc : Nat) (P mo : Nat) (hP : P ≤ 25) (hmo : mo ≤ 136) (mh mn : Int64) (pcs : Nat) (w : Nat) (hw : w ≤ 5) (hw0 : 0 < w) (h0 : 0 < mo) (ns : Nat) (ht ho : Int32) (op : Int64) (lpl ea eb : Int32) (fsz fld fbk fcd fnc pf0 : Nat → Int32) (fwy : Nat → Int64) : MK l D cI cJ cZ y_LY_build c_LY_build 4 none 5 133 [.ref ly] [oLY ly g ru (nI mo) sz ld wy bk cd nc (nI ns) mh mn, oGR g (nI w) ht (nI P) ho op lpl ea eb, oTR ru g pcs, aI cI pcs w pf0, aI cI sz (P + 1) fsz, aI cI ld (P * mo) fld, aJ cJ wy ((P + 1) * mo) fwy, aI cI bk 512 fbk, aI cI cd mo fcd, aI cI nc mo fnc] 0 0 (fun v w1 => ∃ (cd2 nc2 : Nat) (nz : Int32) (fs fl : Nat → Int32) (fw : Nat → Int64) (fb fc fn pf : Nat → Int32), v = none ∧ w1 = [oLY ly g ru (nI mo) sz ld wy bk cd2 nc2 nz mh mn, oGR g (nI w) ht (nI P) ho op lpl ea eb, oTR ru g pcs, aI cI pcs w pf, aI cI sz (P + 1) fs, aI cI ld (P * mo) fl, aJ cJ wy ((P + 1) * mo) fw, aI cI bk 512 fb, aI cI cd2 mo fc, aI cI nc2 mo fn] ∧ (∀ q, q ≤ P → fs q = nI (layF mo (fun p => cafTK w (nI P) ho lpl p (p % w)) (fun p => openChoicesF op (nI p)) (codeF (fstT w (nI P) ho) w) q).length ∧ (layF mo (fun p => cafTK w (nI P) ho lpl p (p % w)) (fun p => openChoicesF op (nI p)) (codeF (fstT w (nI P) ho) w) q).length ≤ mo) ∧ (∀ q, q < P → ∀ (j : Nat) (x : Int32), (pakF mo (fun p => cafTK w (nI P) ho lpl p (p % w)) (fun p => openChoicesF op (nI p)) (codeF (fstT w (nI P) ho) w) q)[j]? = some x → fl (q * mo + j) = x) ∧ (∀ (j : Nat) (x : Int32), (layF mo (fun p => cafTK w (nI P) ho lpl p (p % w)) (fun p => openChoicesF op (nI p)) (codeF (fstT w (nI P) ho) w) P)[j]? = some x → fw (P * mo + j) = if isWayTR x = true then 1 else 0)) := by
  refine MC.of (by decide) bigW_good (Nat.le_of_ble_eq_true rfl) (fun κ C Z IN => ?_)
  have hPm : P * mo ≤ 3400 := Nat.mul_le_mul hP hmo
  have hPm1 : (P + 1) * mo ≤ 3536 := Nat.mul_le_mul (Nat.succ_le_succ hP) hmo
  have hpj : ∀ q, q ≤ P → ∀ (j : Nat) (y : Int32), (pakF mo (fun p => cafTK w (nI P) ho lpl p (p % w)) (fun p => openChoicesF op (nI p)) (codeF (fstT w (nI P) ho) w) q)[j]? = some y → j < mo := fun q _ j y hy => by have := (List.getElem?_eq_some_iff.mp hy).1; rw [pak_len] at this; exact Nat.lt_of_lt_of_le this (lay_len h0 q)
  refine e_aload_n C d_LY_build_0 rfl rfl ?_
  refine e_get C hin_LY 0 rfl rfl 6 (by decide) fl_LY_37 rfl d_LY_build_1 ?_
  refine e_iconst (v := 0) C d_LY_build_4 rfl ?_
  refine e_callS (As := [.ref bk, .int 0]) (st := []) (wc := [aI cI bk 512 fbk]) (wr := [oLY ly g ru (nI mo) sz ld wy bk cd nc (nI ns) mh mn, oGR g (nI w) ht (nI P) ho op lpl ea eb, oTR ru g pcs, aI cI pcs w pf0, aI cI sz (P + 1) fsz, aI cI ld (P * mo) fld, aJ cJ wy ((P + 1) * mo) fwy, aI cI cd mo fcd, aI cI nc mo fnc]) C (M_JA_fill l D cI cJ cZ bk 512 (by decide) fbk 0) s_JA_fill ml_LY_46 nwW_ok ⟨Nat.le_of_ble_eq_true rfl, Nat.le_of_ble_eq_true rfl⟩ ⟨Nat.le_of_ble_eq_true rfl, Nat.le_of_ble_eq_true rfl⟩ [7] [0, 1, 2, 3, 4, 5, 6, 8, 9] rfl rfl rfl rfl (by decide) (Nat.le_of_ble_eq_true rfl) rfl d_LY_build_5 (fun v w1 hp => ?_)
  obtain ⟨rfl, rfl⟩ := hp
  refine e_perm (st' := []) (ws' := [oLY ly g ru (nI mo) sz ld wy bk cd nc (nI ns) mh mn, oGR g (nI w) ht (nI P) ho op lpl ea eb, oTR ru g pcs, aI cI pcs w pf0, aI cI sz (P + 1) fsz, aI cI ld (P * mo) fld, aJ cJ wy ((P + 1) * mo) fwy, aI cI bk 512 (fun q => if q < 512 then 0 else fbk q), aI cI cd mo fcd, aI cI nc mo fnc]) [0, 1, 2, 3, 4, 5, 6, 9, 7, 8] rfl rfl rfl ?_
  refine e_aload_n C d_LY_build_8 rfl rfl ?_
  refine e_get C hin_LY 0 rfl rfl 7 (by decide) fl_LY_40 rfl d_LY_build_9 ?_
  refine e_iconst (v := 0) C d_LY_build_12 rfl ?_
  refine e_aload_n C d_LY_build_13 rfl rfl ?_
  refine e_get C hin_LY 0 rfl rfl 1 (by decide) fl_LY_13 rfl d_LY_build_14 ?_
  refine e_callA (As := []) (st := [.int 0, .ref cd]) (wc := [oTR ru g pcs, aI cI pcs w pf0, oGR g (nI w) ht (nI P) ho op lpl ea eb]) (wr := [oLY ly g ru (nI mo) sz ld wy bk cd nc (nI ns) mh mn, aI cI sz (P + 1) fsz, aI cI ld (P * mo) fld, aJ cJ wy ((P + 1) * mo) fwy, aI cI bk 512 (fun q => if q < 512 then 0 else fbk q), aI cI cd mo fcd, aI cI nc mo fnc]) C (M_TR_firstCode l D cI cJ cZ ru g pcs w hw pf0 ht (nI P) ho op lpl ea eb) a_TR_firstCode ml_LY_52 2 rfl rfl nwW_ok ⟨Nat.le_of_ble_eq_true rfl, Nat.le_of_ble_eq_true rfl⟩ ⟨Nat.le_of_ble_eq_true rfl, Nat.le_of_ble_eq_true rfl⟩ [2, 3, 1] [0, 4, 5, 6, 7, 8, 9] rfl rfl rfl rfl (by decide) (Nat.le_of_ble_eq_true rfl) rfl d_LY_build_17 (fun v w1 hp => ?_)
  obtain ⟨pf1, rfl, rfl⟩ := hp
  refine e_perm (st' := [.int (codeF (fstT w (nI P) ho) w), .int 0, .ref cd]) (ws' := [oLY ly g ru (nI mo) sz ld wy bk cd nc (nI ns) mh mn, oGR g (nI w) ht (nI P) ho op lpl ea eb, oTR ru g pcs, aI cI pcs w pf1, aI cI sz (P + 1) fsz, aI cI ld (P * mo) fld, aJ cJ wy ((P + 1) * mo) fwy, aI cI bk 512 (fun q => if q < 512 then 0 else fbk q), aI cI cd mo fcd, aI cI nc mo fnc]) [0, 9, 7, 8, 1, 2, 3, 4, 5, 6] rfl rfl rfl ?_
  refine e_st [.int (codeF (fstT w (nI P) ho) w), .int (nI 0), .ref cd] rfl ?_
  refine e_iast C 8 0 rfl rfl (vp_in_nI (by omega) (by omega)) d_LY_build_20 ?_
  refine e_ws [oLY ly g ru (nI mo) sz ld wy bk cd nc (nI ns) mh mn, oGR g (nI w) ht (nI P) ho op lpl ea eb, oTR ru g pcs, aI cI pcs w pf1, aI cI sz (P + 1) fsz, aI cI ld (P * mo) fld, aJ cJ wy ((P + 1) * mo) fwy, aI cI bk 512 (fun q => if q < 512 then 0 else fbk q), aI cI cd mo (upd fcd 0 (codeF (fstT w (nI P) ho) w)), aI cI nc mo fnc] (by rw [nI_clamp (by omega)]; rfl) ?_
  refine e_aload_n C d_LY_build_21 rfl rfl ?_
  refine e_get C hin_LY 0 rfl rfl 3 (by decide) fl_LY_26 rfl d_LY_build_22 ?_
  refine e_iconst (v := 0) C d_LY_build_25 rfl ?_
  refine e_iconst (v := 1) C d_LY_build_26 rfl ?_
  refine e_st [.int 1, .int (nI 0), .ref sz] rfl ?_
  refine e_iast C 4 0 rfl rfl (vp_in_nI (by omega) (by omega)) d_LY_build_27 ?_
  refine e_ws [oLY ly g ru (nI mo) sz ld wy bk cd nc (nI ns) mh mn, oGR g (nI w) ht (nI P) ho op lpl ea eb, oTR ru g pcs, aI cI pcs w pf1, aI cI sz (P + 1) (upd fsz 0 1), aI cI ld (P * mo) fld, aJ cJ wy ((P + 1) * mo) fwy, aI cI bk 512 (fun q => if q < 512 then 0 else fbk q), aI cI cd mo (upd fcd 0 (codeF (fstT w (nI P) ho) w)), aI cI nc mo fnc] (by rw [nI_clamp (by omega)]; rfl) ?_
  refine e_iconst (v := 0) C d_LY_build_28 rfl ?_
  refine e_istore_n C d_LY_build_29 rfl (by decide) ?_
  refine e_iconst (v := 0) C d_LY_build_30 rfl ?_
  refine e_istore_n C d_LY_build_31 rfl (by decide) ?_
  have LO : ∀ (fuel : Nat) (p cd nc : Nat) (nz : Int32) (fs fl fb fc fn pf : Nat → Int32), p ≤ P → (∀ q, q ≤ p → fs q = nI (layF mo (fun p => cafTK w (nI P) ho lpl p (p % w)) (fun p => openChoicesF op (nI p)) (codeF (fstT w (nI P) ho) w) q).length ∧ (layF mo (fun p => cafTK w (nI P) ho lpl p (p % w)) (fun p => openChoicesF op (nI p)) (codeF (fstT w (nI P) ho) w) q).length ≤ mo) → (∀ q, q < p → ∀ (j : Nat) (x : Int32), (pakF mo (fun p => cafTK w (nI P) ho lpl p (p % w)) (fun p => openChoicesF op (nI p)) (codeF (fstT w (nI P) ho) w) q)[j]? = some x → fl (q * mo + j) = x) → (∀ (j : Nat) (x : Int32), (layF mo (fun p => cafTK w (nI P) ho lpl p (p % w)) (fun p => openChoicesF op (nI p)) (codeF (fstT w (nI P) ho) w) p)[j]? = some x → fc j = x) → (∃ kv : Nat → Nat, (∀ b, b < 512 → fb b = nI (kv b)) ∧ ∀ b, b < 512 → kv b < 256 * (p + 1)) →  P - p < fuel → E κ (lu_o [(0, .ref ly), (1, .int (nI (p % w))), (2, .int (nI p))]) [] [oLY ly g ru (nI mo) sz ld wy bk cd nc nz mh mn, oGR g (nI w) ht (nI P) ho op lpl ea eb, oTR ru g pcs, aI cI pcs w pf, aI cI sz (P + 1) fs, aI cI ld (P * mo) fl, aJ cJ wy ((P + 1) * mo) fwy, aI cI bk 512 fb, aI cI cd mo fc, aI cI nc mo fn] 0 0 32 := by
    intro fuel
    induction fuel with
    | zero => intro p cd nc nz fs fl fb fc fn pf hp hAs hBl hCc hEb hm; exact absurd hm (Nat.not_lt_zero _)
    | succ fuel ihLO =>
      intro p cd nc nz fs fl fb fc fn pf hp hAs hBl hCc hEb hm
      refine e_iload_n C d_LY_build_32 rfl rfl ?_
      refine e_aload_n C d_LY_build_33 rfl rfl ?_
      refine e_get C hin_LY 0 rfl rfl 0 (by decide) fl_LY_7 rfl d_LY_build_34 ?_
      refine e_getN C hin_GR 1 rfl rfl 2 (by decide) fn_LY_21 rfl d_LY_build_37 ?_
      refine e_icmp_ge (tgt := 134) C d_LY_build_40 (by decide) (fun h40 => ?_) (fun h40 => ?_)
      · -- 134
        have hpP : P = p := by have q := (nI_leI (by omega) (by omega)).mp h40; omega
        subst hpP
        have hlp := (hAs P (Nat.le_refl _)).2
        refine e_iconst (v := 0) C d_LY_build_134 rfl ?_
        refine e_istore_n C d_LY_build_135 rfl (by decide) ?_
        have LW : ∀ (fuel : Nat) (i : Nat) (fw : Nat → Int64), i ≤ (layF mo (fun p => cafTK w (nI P) ho lpl p (p % w)) (fun p => openChoicesF op (nI p)) (codeF (fstT w (nI P) ho) w) P).length → (∀ (j : Nat) (x : Int32), j < i → (layF mo (fun p => cafTK w (nI P) ho lpl p (p % w)) (fun p => openChoicesF op (nI p)) (codeF (fstT w (nI P) ho) w) P)[j]? = some x → fw (P * mo + j) = if isWayTR x = true then 1 else 0) →  (layF mo (fun p => cafTK w (nI P) ho lpl p (p % w)) (fun p => openChoicesF op (nI p)) (codeF (fstT w (nI P) ho) w) P).length - i < fuel → E κ (lu_o [(0, .ref ly), (2, .int (nI i))]) [] [oLY ly g ru (nI mo) sz ld wy bk cd nc nz mh mn, oGR g (nI w) ht (nI P) ho op lpl ea eb, oTR ru g pcs, aI cI pcs w pf, aI cI sz (P + 1) fs, aI cI ld (P * mo) fl, aJ cJ wy ((P + 1) * mo) fw, aI cI bk 512 fb, aI cI cd mo fc, aI cI nc mo fn] 0 0 136 := by
          intro fuel
          induction fuel with
          | zero => intro i fw hi hW hm; exact absurd hm (Nat.not_lt_zero _)
          | succ fuel ihLW =>
            intro i fw hi hW hm
            refine e_iload_n C d_LY_build_136 rfl rfl ?_
            refine e_aload_n C d_LY_build_137 rfl rfl ?_
            refine e_get C hin_LY 0 rfl rfl 3 (by decide) fl_LY_26 rfl d_LY_build_138 ?_
            refine e_aload_n C d_LY_build_141 rfl rfl ?_
            refine e_get C hin_LY 0 rfl rfl 0 (by decide) fl_LY_7 rfl d_LY_build_142 ?_
            refine e_getN C hin_GR 1 rfl rfl 2 (by decide) fn_LY_21 rfl d_LY_build_145 ?_
            refine e_iald C 4 0 rfl rfl (vp_in_nI (by omega) (by omega)) d_LY_build_148 ?_
            refine e_st [.int (fs P), .int (nI i)] (by rw [nI_clamp (by omega)]) ?_
            refine e_st [.int (nI (layF mo (fun p => cafTK w (nI P) ho lpl p (p % w)) (fun p => openChoicesF op (nI p)) (codeF (fstT w (nI P) ho) w) P).length), .int (nI i)] (by rw [(hAs P (Nat.le_refl _)).1]) ?_
            refine e_icmp_ge (tgt := 198) C d_LY_build_149 (by decide) (fun h149 => ?_) (fun h149 => ?_)
            · -- 198
              exact e_vret C Z (Nat.le_of_ble_eq_true rfl) (Nat.le_of_ble_eq_true rfl) (⟨cd, nc, nz, fs, fl, fw, fb, fc, fn, pf, rfl, rfl, fun q hq => hAs q hq, fun q hq j x hx => hBl q hq j x hx, fun j x hx => hW j x (by have := (List.getElem?_eq_some_iff.mp hx).1; have q := (nI_leI (by omega) (by omega)).mp h149; omega) hx⟩) d_LY_build_198
            · -- 152
              have hil : i < (layF mo (fun p => cafTK w (nI P) ho lpl p (p % w)) (fun p => openChoicesF op (nI p)) (codeF (fstT w (nI P) ho) w) P).length := by rcases Nat.lt_or_ge i (layF mo (fun p => cafTK w (nI P) ho lpl p (p % w)) (fun p => openChoicesF op (nI p)) (codeF (fstT w (nI P) ho) w) P).length with q | q; exact q; exact absurd (nI_le q (by omega)) h149
              obtain ⟨x, hx⟩ : ∃ x, (layF mo (fun p => cafTK w (nI P) ho lpl p (p % w)) (fun p => openChoicesF op (nI p)) (codeF (fstT w (nI P) ho) w) P)[i]? = some x := ⟨_, List.getElem?_eq_getElem hil⟩
              have hpi := ix_lt (p := P) (P := P + 1) (mo := mo) (a := i) (by omega) (by omega)
              refine e_aload_n C d_LY_build_152 rfl rfl ?_
              refine e_get C hin_LY 0 rfl rfl 5 (by decide) fl_LY_33 rfl d_LY_build_153 ?_
              refine e_aload_n C d_LY_build_156 rfl rfl ?_
              refine e_get C hin_LY 0 rfl rfl 0 (by decide) fl_LY_7 rfl d_LY_build_157 ?_
              refine e_getN C hin_GR 1 rfl rfl 2 (by decide) fn_LY_21 rfl d_LY_build_160 ?_
              refine e_aload_n C d_LY_build_163 rfl rfl ?_
              refine e_get C hin_LY 0 rfl rfl 2 (by decide) fl_LY_17 rfl d_LY_build_164 ?_
              refine e_imul C d_LY_build_167 ?_
              refine e_iload_n C d_LY_build_168 rfl rfl ?_
              refine e_iadd C d_LY_build_169 ?_
              refine e_st [.int (nI (P * mo + i)), .ref wy] (by rw [pk_mul, nI_add]) ?_
              refine e_aload_n C d_LY_build_170 rfl rfl ?_
              refine e_get C hin_LY 0 rfl rfl 1 (by decide) fl_LY_13 rfl d_LY_build_171 ?_
              refine e_aload_n C d_LY_build_174 rfl rfl ?_
              refine e_get C hin_LY 0 rfl rfl 7 (by decide) fl_LY_40 rfl d_LY_build_175 ?_
              refine e_iload_n C d_LY_build_178 rfl rfl ?_
              refine e_iald C 8 0 rfl rfl (vp_in_nI (by omega) (by omega)) d_LY_build_179 ?_
              refine e_st [.int (fc i), .ref ru, .int (nI (P * mo + i)), .ref wy] (by rw [nI_clamp (by omega)]) ?_
              refine e_st [.int x, .ref ru, .int (nI (P * mo + i)), .ref wy] (by rw [hCc i x hx]) ?_
              refine e_callA (As := [.int x]) (st := [.int (nI (P * mo + i)), .ref wy]) (wc := [oTR ru g pcs]) (wr := [oLY ly g ru (nI mo) sz ld wy bk cd nc nz mh mn, oGR g (nI w) ht (nI P) ho op lpl ea eb, aI cI pcs w pf, aI cI sz (P + 1) fs, aI cI ld (P * mo) fl, aJ cJ wy ((P + 1) * mo) fw, aI cI bk 512 fb, aI cI cd mo fc, aI cI nc mo fn]) C (M_TR_isWay l D cI cJ cZ ru g pcs x) a_TR_isWay ml_LY_71 2 rfl rfl nwW_ok ⟨Nat.le_of_ble_eq_true rfl, Nat.le_of_ble_eq_true rfl⟩ ⟨Nat.le_of_ble_eq_true rfl, Nat.le_of_ble_eq_true rfl⟩ [2] [0, 1, 3, 4, 5, 6, 7, 8, 9] rfl rfl rfl rfl (by decide) (Nat.le_of_ble_eq_true rfl) rfl d_LY_build_180 (fun v w1 hp => ?_)
              obtain ⟨rfl, rfl⟩ := hp
              refine e_perm (st' := [.int (bI (isWayTR x)), .int (nI (P * mo + i)), .ref wy]) (ws' := [oLY ly g ru (nI mo) sz ld wy bk cd nc nz mh mn, oGR g (nI w) ht (nI P) ho op lpl ea eb, oTR ru g pcs, aI cI pcs w pf, aI cI sz (P + 1) fs, aI cI ld (P * mo) fl, aJ cJ wy ((P + 1) * mo) fw, aI cI bk 512 fb, aI cI cd mo fc, aI cI nc mo fn]) [0, 1, 9, 2, 3, 4, 5, 6, 7, 8] rfl rfl rfl ?_
              refine e_lv [(0, .ref ly), (2, .int (nI i))] ⟨rfl, rfl, trivial⟩ ?_
              have J191 : ∀ (y191 : Int64), y191 = (if isWayTR x = true then 1 else 0) → E κ (lu_o [(0, .ref ly), (2, .int (nI i))]) [.long y191, .int (nI (P * mo + i)), .ref wy] [oLY ly g ru (nI mo) sz ld wy bk cd nc nz mh mn, oGR g (nI w) ht (nI P) ho op lpl ea eb, oTR ru g pcs, aI cI pcs w pf, aI cI sz (P + 1) fs, aI cI ld (P * mo) fl, aJ cJ wy ((P + 1) * mo) fw, aI cI bk 512 fb, aI cI cd mo fc, aI cI nc mo fn] 0 0 191 := by
                intro y191 ey191
                refine e_last C 6 1 rfl rfl (vp_in_nI (by omega) (by omega)) d_LY_build_191 ?_
                refine e_ws [oLY ly g ru (nI mo) sz ld wy bk cd nc nz mh mn, oGR g (nI w) ht (nI P) ho op lpl ea eb, oTR ru g pcs, aI cI pcs w pf, aI cI sz (P + 1) fs, aI cI ld (P * mo) fl, aJ cJ wy ((P + 1) * mo) (vp_updL fw (P * mo + i) y191), aI cI bk 512 fb, aI cI cd mo fc, aI cI nc mo fn] (by rw [nI_clamp (by omega)]; rfl) ?_
                refine e_iinc (v := (nI i) + 1) C d_LY_build_192 rfl rfl (by decide) ?_
                refine e_goto (tgt := 136) C d_LY_build_195 (by decide) ?_
                refine e_lv [(0, .ref ly), (2, .int (nI (i + 1)))] ⟨rfl, congrArg (fun z => some (Value.int z)) (nI_1 i), trivial⟩ ?_
                refine e_ws [oLY ly g ru (nI mo) sz ld wy bk cd nc nz mh mn, oGR g (nI w) ht (nI P) ho op lpl ea eb, oTR ru g pcs, aI cI pcs w pf, aI cI sz (P + 1) fs, aI cI ld (P * mo) fl, aJ cJ wy ((P + 1) * mo) (vp_updL fw (P * mo + i) y191), aI cI bk 512 fb, aI cI cd mo fc, aI cI nc mo fn] rfl ?_
                exact ihLW (i + 1) _ (by omega) (fun j y hj hy => by rcases Nat.lt_or_ge j i with z | z; (rw [pk_uLn (by omega)]; exact hW j y z hy); (rw [show j = i by omega] at hy ⊢; rw [pk_uLs, ey191, Option.some.inj (hx.symm.trans hy)])) (by omega)
              refine e_if_eq (tgt := 190) C d_LY_build_183 (by decide) (fun h183 => ?_) (fun h183 => ?_)
              · -- 190
                refine e_lconst (v := 0) C d_LY_build_190 rfl ?_
                refine e_lv [(0, .ref ly), (2, .int (nI i))] ⟨rfl, rfl, trivial⟩ ?_
                exact J191 0 (by (try simp only [bI_eq0, Bool.not_eq_false] at h183); first | rw [if_pos h183] | rw [if_neg (Bool.eq_false_iff.mp h183)])
              · -- 186
                refine e_lconst (v := 1) C d_LY_build_186 rfl ?_
                refine e_goto (tgt := 191) C d_LY_build_187 (by decide) ?_
                refine e_lv [(0, .ref ly), (2, .int (nI i))] ⟨rfl, rfl, trivial⟩ ?_
                exact J191 1 (by (try simp only [bI_eq0, Bool.not_eq_false] at h183); first | rw [if_pos h183] | rw [if_neg (Bool.eq_false_iff.mp h183)])
        refine e_lv [(0, .ref ly), (2, .int (nI 0))] ⟨rfl, rfl, trivial⟩ ?_
        refine e_ws [oLY ly g ru (nI mo) sz ld wy bk cd nc nz mh mn, oGR g (nI w) ht (nI P) ho op lpl ea eb, oTR ru g pcs, aI cI pcs w pf, aI cI sz (P + 1) fs, aI cI ld (P * mo) fl, aJ cJ wy ((P + 1) * mo) fwy, aI cI bk 512 fb, aI cI cd mo fc, aI cI nc mo fn] rfl ?_
        exact LW _ 0 fwy (Nat.zero_le _) (fun j x h => absurd h (Nat.not_lt_zero j)) (Nat.lt_succ_self _)
      · -- 43
        refine e_aload_n C d_LY_build_43 rfl rfl ?_
        refine e_iconst (v := 0) C d_LY_build_44 rfl ?_
        refine e_put C hin_LY ty_LY tyk_LY nm_LY 0 rfl rfl 9 (by decide) fl_LY_58 rfl rfl rfl (Nat.le_of_ble_eq_true rfl) d_LY_build_45 ?_
        refine e_ws [oLY ly g ru (nI mo) sz ld wy bk cd nc 0 mh mn, oGR g (nI w) ht (nI P) ho op lpl ea eb, oTR ru g pcs, aI cI pcs w pf, aI cI sz (P + 1) fs, aI cI ld (P * mo) fl, aJ cJ wy ((P + 1) * mo) fwy, aI cI bk 512 fb, aI cI cd mo fc, aI cI nc mo fn] rfl ?_
        refine e_iconst (v := 0) C d_LY_build_48 rfl ?_
        refine e_istore_n C d_LY_build_49 rfl (by decide) ?_
        have hpP : p + 1 ≤ P := by rcases Nat.lt_or_ge p P with q | q; exact q; exact absurd (nI_le q (by omega)) h40
        have hlp := (hAs p (Nat.le_refl _)).2
        have hwp : p % w < w := Nat.mod_lt _ hw0
        obtain ⟨kv, hkv1, hkv2⟩ := hEb
        have LI : ∀ (fuel : Nat) (i : Nat) (pks ct : List Int32) (f2 f3 f4 pg : Nat → Int32), i ≤ (layF mo (fun p => cafTK w (nI P) ho lpl p (p % w)) (fun p => openChoicesF op (nI p)) (codeF (fstT w (nI P) ho) w) p).length → ((layF mo (fun p => cafTK w (nI P) ho lpl p (p % w)) (fun p => openChoicesF op (nI p)) (codeF (fstT w (nI P) ho) w) p).take i).foldl (rowS mo ((fun p => cafTK w (nI P) ho lpl p (p % w)) p) ((fun p => openChoicesF op (nI p)) p)) ([], []) = (pks, ct) → pks.length = i → LInv (p + 1) mo ct f3 f4 → (∀ q, q < p → ∀ (j : Nat) (x : Int32), (pakF mo (fun p => cafTK w (nI P) ho lpl p (p % w)) (fun p => openChoicesF op (nI p)) (codeF (fstT w (nI P) ho) w) q)[j]? = some x → f2 (q * mo + j) = x) → (∀ (j : Nat) (x : Int32), pks[j]? = some x → f2 (p * mo + j) = x) →  (layF mo (fun p => cafTK w (nI P) ho lpl p (p % w)) (fun p => openChoicesF op (nI p)) (codeF (fstT w (nI P) ho) w) p).length - i < fuel → E κ (lu_o [(0, .ref ly), (1, .int (nI (p % w))), (2, .int (nI p)), (3, .int (nI i))]) [] [oLY ly g ru (nI mo) sz ld wy bk cd nc (nI ct.length) mh mn, oGR g (nI w) ht (nI P) ho op lpl ea eb, oTR ru g pcs, aI cI pcs w pg, aI cI sz (P + 1) fs, aI cI ld (P * mo) f2, aJ cJ wy ((P + 1) * mo) fwy, aI cI bk 512 f3, aI cI cd mo fc, aI cI nc mo f4] 0 0 50 := by
          intro fuel
          induction fuel with
          | zero => intro i pks ct f2 f3 f4 pg hi hS hpl hLI hB2 hB3 hm; exact absurd hm (Nat.not_lt_zero _)
          | succ fuel ihLI =>
            intro i pks ct f2 f3 f4 pg hi hS hpl hLI hB2 hB3 hm
            refine e_iload_n C d_LY_build_50 rfl rfl ?_
            refine e_aload_n C d_LY_build_51 rfl rfl ?_
            refine e_get C hin_LY 0 rfl rfl 3 (by decide) fl_LY_26 rfl d_LY_build_52 ?_
            refine e_iload_n C d_LY_build_55 rfl rfl ?_
            refine e_iald C 4 0 rfl rfl (vp_in_nI (by omega) (by omega)) d_LY_build_56 ?_
            refine e_st [.int (fs p), .int (nI i)] (by rw [nI_clamp (by omega)]) ?_
            refine e_st [.int (nI (layF mo (fun p => cafTK w (nI P) ho lpl p (p % w)) (fun p => openChoicesF op (nI p)) (codeF (fstT w (nI P) ho) w) p).length), .int (nI i)] (by rw [(hAs p (Nat.le_refl _)).1]) ?_
            refine e_icmp_ge (tgt := 91) C d_LY_build_57 (by decide) (fun h57 => ?_) (fun h57 => ?_)
            · -- 91
              have hil : i = (layF mo (fun p => cafTK w (nI P) ho lpl p (p % w)) (fun p => openChoicesF op (nI p)) (codeF (fstT w (nI P) ho) w) p).length := by have q := (nI_leI (by omega) (by omega)).mp h57; omega
              rw [hil, List.take_length] at hS
              have hrow : rowF mo ((fun p => cafTK w (nI P) ho lpl p (p % w)) p) ((fun p => openChoicesF op (nI p)) p) (layF mo (fun p => cafTK w (nI P) ho lpl p (p % w)) (fun p => openChoicesF op (nI p)) (codeF (fstT w (nI P) ho) w) p) = (pks, ct) := hS
              have hct : (layF mo (fun p => cafTK w (nI P) ho lpl p (p % w)) (fun p => openChoicesF op (nI p)) (codeF (fstT w (nI P) ho) w) (p + 1)) = ct := congrArg Prod.snd hrow
              have hpk : (pakF mo (fun p => cafTK w (nI P) ho lpl p (p % w)) (fun p => openChoicesF op (nI p)) (codeF (fstT w (nI P) ho) w) p) = pks := congrArg Prod.fst hrow
              obtain ⟨kv2, hv1, hv2, hv3, hv4⟩ := hLI
              have hAs2 : (∀ q, q ≤ (p + 1) → (upd fs (p + 1) (nI ct.length)) q = nI (layF mo (fun p => cafTK w (nI P) ho lpl p (p % w)) (fun p => openChoicesF op (nI p)) (codeF (fstT w (nI P) ho) w) q).length ∧ (layF mo (fun p => cafTK w (nI P) ho lpl p (p % w)) (fun p => openChoicesF op (nI p)) (codeF (fstT w (nI P) ho) w) q).length ≤ mo) := fun q hq => by rcases Nat.lt_or_ge q (p + 1) with z | z; (rw [pk_un (by omega)]; exact hAs q (by omega)); (rw [show q = p + 1 by omega, pk_us, hct]; exact ⟨rfl, hv4⟩)
              have hBl2 : (∀ q, q < (p + 1) → ∀ (j : Nat) (x : Int32), (pakF mo (fun p => cafTK w (nI P) ho lpl p (p % w)) (fun p => openChoicesF op (nI p)) (codeF (fstT w (nI P) ho) w) q)[j]? = some x → f2 (q * mo + j) = x) := fun q hq j y hy => by rcases Nat.lt_or_ge q p with z | z; exact hB2 q z j y hy; (rw [show q = p by omega] at hy ⊢; rw [hpk] at hy; exact hB3 j y hy)
              have hCc2 : (∀ (j : Nat) (x : Int32), (layF mo (fun p => cafTK w (nI P) ho lpl p (p % w)) (fun p => openChoicesF op (nI p)) (codeF (fstT w (nI P) ho) w) (p + 1))[j]? = some x → f4 j = x) := fun j y hy => hv3 j y (by rw [← hct]; exact hy)
              have hEb2 : (∃ kv : Nat → Nat, (∀ b, b < 512 → f3 b = nI (kv b)) ∧ ∀ b, b < 512 → kv b < 256 * ((p + 1) + 1)) := ⟨kv2, hv1, hv2.1⟩
              refine e_aload_n C d_LY_build_91 rfl rfl ?_
              refine e_get C hin_LY 0 rfl rfl 3 (by decide) fl_LY_26 rfl d_LY_build_92 ?_
              refine e_iload_n C d_LY_build_95 rfl rfl ?_
              refine e_iconst (v := 1) C d_LY_build_96 rfl ?_
              refine e_iadd C d_LY_build_97 ?_
              refine e_st [.int (nI (p + 1)), .ref sz] (by rw [nI_1]) ?_
              refine e_aload_n C d_LY_build_98 rfl rfl ?_
              refine e_get C hin_LY 0 rfl rfl 9 (by decide) fl_LY_58 rfl d_LY_build_99 ?_
              refine e_iast C 4 0 rfl rfl (vp_in_nI (by omega) (by omega)) d_LY_build_102 ?_
              refine e_ws [oLY ly g ru (nI mo) sz ld wy bk cd nc (nI ct.length) mh mn, oGR g (nI w) ht (nI P) ho op lpl ea eb, oTR ru g pcs, aI cI pcs w pg, aI cI sz (P + 1) (upd fs (p + 1) (nI ct.length)), aI cI ld (P * mo) f2, aJ cJ wy ((P + 1) * mo) fwy, aI cI bk 512 f3, aI cI cd mo fc, aI cI nc mo f4] (by rw [nI_clamp (by omega)]; rfl) ?_
              refine e_aload_n C d_LY_build_103 rfl rfl ?_
              refine e_callV (As := []) (st := []) (wc := [oLY ly g ru (nI mo) sz ld wy bk cd nc (nI ct.length) mh mn]) (wr := [oGR g (nI w) ht (nI P) ho op lpl ea eb, oTR ru g pcs, aI cI pcs w pg, aI cI sz (P + 1) (upd fs (p + 1) (nI ct.length)), aI cI ld (P * mo) f2, aJ cJ wy ((P + 1) * mo) fwy, aI cI bk 512 f3, aI cI cd mo fc, aI cI nc mo f4]) C (M_LY_swapCodes l D cI cJ cZ ly g ru sz ld wy bk cd nc P mo hP hmo ct.length mh mn) v_LY_swapCodes ml_LY_65 0 rfl rfl nwW_ok ⟨Nat.le_of_ble_eq_true rfl, Nat.le_of_ble_eq_true rfl⟩ ⟨Nat.le_of_ble_eq_true rfl, Nat.le_of_ble_eq_true rfl⟩ [0] [1, 2, 3, 4, 5, 6, 7, 8, 9] rfl rfl rfl rfl (by decide) (Nat.le_of_ble_eq_true rfl) rfl d_LY_build_104 (fun v w1 hp => ?_)
              obtain ⟨rfl, rfl⟩ := hp
              refine e_perm (st' := []) (ws' := [oLY ly g ru (nI mo) sz ld wy bk nc cd (nI ct.length) mh mn, oGR g (nI w) ht (nI P) ho op lpl ea eb, oTR ru g pcs, aI cI pcs w pg, aI cI sz (P + 1) (upd fs (p + 1) (nI ct.length)), aI cI ld (P * mo) f2, aJ cJ wy ((P + 1) * mo) fwy, aI cI bk 512 f3, aI cI cd mo fc, aI cI nc mo f4]) [9, 0, 1, 2, 3, 4, 5, 6, 7, 8] rfl rfl rfl ?_
              refine e_lv [(0, .ref ly), (1, .int (nI (p % w))), (2, .int (nI p)), (3, .int (nI i))] ⟨rfl, rfl, rfl, rfl, trivial⟩ ?_
              have J127 : ∀ (y127 : Int32), y127 = nI ((p + 1) % w) → E κ (lu_o [(0, .ref ly), (1, .int (nI (p % w))), (2, .int (nI p)), (3, .int (nI i))]) [.int y127] [oLY ly g ru (nI mo) sz ld wy bk nc cd (nI ct.length) mh mn, oGR g (nI w) ht (nI P) ho op lpl ea eb, oTR ru g pcs, aI cI pcs w pg, aI cI sz (P + 1) (upd fs (p + 1) (nI ct.length)), aI cI ld (P * mo) f2, aJ cJ wy ((P + 1) * mo) fwy, aI cI bk 512 f3, aI cI cd mo fc, aI cI nc mo f4] 0 0 127 := by
                intro y127 ey127
                refine e_istore_n C d_LY_build_127 rfl (by decide) ?_
                refine e_iinc (v := (nI p) + 1) C d_LY_build_128 rfl rfl (by decide) ?_
                refine e_goto (tgt := 32) C d_LY_build_131 (by decide) ?_
                refine e_lv [(0, .ref ly), (1, .int (nI ((p + 1) % w))), (2, .int (nI (p + 1)))] ⟨rfl, congrArg (fun z => some (Value.int z)) ey127, congrArg (fun z => some (Value.int z)) (nI_1 p), trivial⟩ ?_
                refine e_perm (st' := []) (ws' := [oLY ly g ru (nI mo) sz ld wy bk nc cd (nI ct.length) mh mn, oGR g (nI w) ht (nI P) ho op lpl ea eb, oTR ru g pcs, aI cI pcs w pg, aI cI sz (P + 1) (upd fs (p + 1) (nI ct.length)), aI cI ld (P * mo) f2, aJ cJ wy ((P + 1) * mo) fwy, aI cI bk 512 f3, aI cI nc mo f4, aI cI cd mo fc]) [0, 1, 2, 3, 4, 5, 6, 7, 9, 8] rfl rfl rfl ?_
                exact ihLO (p + 1) nc cd _ _ f2 f3 f4 _ pg hpP hAs2 hBl2 hCc2 hEb2 (by omega)
              refine e_iload_n C d_LY_build_107 rfl rfl ?_
              refine e_iconst (v := 1) C d_LY_build_108 rfl ?_
              refine e_iadd C d_LY_build_109 ?_
              refine e_aload_n C d_LY_build_110 rfl rfl ?_
              refine e_get C hin_LY 0 rfl rfl 0 (by decide) fl_LY_7 rfl d_LY_build_111 ?_
              refine e_getN C hin_GR 1 rfl rfl 0 (by decide) fn_LY_68 rfl d_LY_build_114 ?_
              refine e_icmp_ge (tgt := 126) C d_LY_build_117 (by decide) (fun h117 => ?_) (fun h117 => ?_)
              · -- 126
                refine e_iconst (v := 0) C d_LY_build_126 rfl ?_
                refine e_lv [(0, .ref ly), (1, .int (nI (p % w))), (2, .int (nI p)), (3, .int (nI i))] ⟨rfl, rfl, rfl, rfl, trivial⟩ ?_
                exact J127 0 (mod_dn hw0 hw h117)
              · -- 120
                refine e_iload_n C d_LY_build_120 rfl rfl ?_
                refine e_iconst (v := 1) C d_LY_build_121 rfl ?_
                refine e_iadd C d_LY_build_122 ?_
                refine e_goto (tgt := 127) C d_LY_build_123 (by decide) ?_
                refine e_lv [(0, .ref ly), (1, .int (nI (p % w))), (2, .int (nI p)), (3, .int (nI i))] ⟨rfl, rfl, rfl, rfl, trivial⟩ ?_
                exact J127 ((nI (p % w)) + 1) (mod_up hw0 hw h117)
            · -- 60
              have hil : i < (layF mo (fun p => cafTK w (nI P) ho lpl p (p % w)) (fun p => openChoicesF op (nI p)) (codeF (fstT w (nI P) ho) w) p).length := by rcases Nat.lt_or_ge i (layF mo (fun p => cafTK w (nI P) ho lpl p (p % w)) (fun p => openChoicesF op (nI p)) (codeF (fstT w (nI P) ho) w) p).length with q | q; exact q; exact absurd (nI_le q (by omega)) h57
              obtain ⟨x, hx⟩ : ∃ x, (layF mo (fun p => cafTK w (nI P) ho lpl p (p % w)) (fun p => openChoicesF op (nI p)) (codeF (fstT w (nI P) ho) w) p)[i]? = some x := ⟨_, List.getElem?_eq_getElem hil⟩
              have hpi := ix_lt (p := p) (P := P) (mo := mo) (a := i) (by omega) (by omega)
              refine e_aload_n C d_LY_build_60 rfl rfl ?_
              refine e_get C hin_LY 0 rfl rfl 4 (by decide) fl_LY_30 rfl d_LY_build_61 ?_
              refine e_iload_n C d_LY_build_64 rfl rfl ?_
              refine e_aload_n C d_LY_build_65 rfl rfl ?_
              refine e_get C hin_LY 0 rfl rfl 2 (by decide) fl_LY_17 rfl d_LY_build_66 ?_
              refine e_imul C d_LY_build_69 ?_
              refine e_iload_n C d_LY_build_70 rfl rfl ?_
              refine e_iadd C d_LY_build_71 ?_
              refine e_st [.int (nI (p * mo + i)), .ref ld] (by rw [pk_mul, nI_add]) ?_
              refine e_aload_n C d_LY_build_72 rfl rfl ?_
              refine e_aload_n C d_LY_build_73 rfl rfl ?_
              refine e_get C hin_LY 0 rfl rfl 7 (by decide) fl_LY_40 rfl d_LY_build_74 ?_
              refine e_iload_n C d_LY_build_77 rfl rfl ?_
              refine e_iald C 8 0 rfl rfl (vp_in_nI (by omega) (by omega)) d_LY_build_78 ?_
              refine e_st [.int (fc i), .ref ly, .int (nI (p * mo + i)), .ref ld] (by rw [nI_clamp (by omega)]) ?_
              refine e_st [.int x, .ref ly, .int (nI (p * mo + i)), .ref ld] (by rw [hCc i x hx]) ?_
              refine e_iload_n C d_LY_build_79 rfl rfl ?_
              refine e_iload_n C d_LY_build_80 rfl rfl ?_
              refine e_callV (As := [.int x, .int (nI p), .int (nI (p % w))]) (st := [.int (nI (p * mo + i)), .ref ld]) (wc := [oLY ly g ru (nI mo) sz ld wy bk cd nc (nI ct.length) mh mn, aI cI bk 512 f3, aI cI nc mo f4, oGR g (nI w) ht (nI P) ho op lpl ea eb, oTR ru g pcs, aI cI pcs w pg]) (wr := [aI cI sz (P + 1) fs, aI cI ld (P * mo) f2, aJ cJ wy ((P + 1) * mo) fwy, aI cI cd mo fc]) C (M_LY_leadsFrom_TR l D cI cJ cZ ly g ru sz ld wy bk cd nc P mo hP hmo mh mn pcs w hw ht (nI P) ho op lpl ea eb f3 f4 pg ct x p (p % w) (by omega) hwp hLI) v_LY_leadsFrom ml_LY_61 0 rfl rfl nwW_ok ⟨Nat.le_of_ble_eq_true rfl, Nat.le_of_ble_eq_true rfl⟩ ⟨Nat.le_of_ble_eq_true rfl, Nat.le_of_ble_eq_true rfl⟩ [0, 7, 9, 1, 2, 3] [4, 5, 6, 8] rfl rfl rfl rfl (by decide) (Nat.le_of_ble_eq_true rfl) rfl d_LY_build_81 (fun v w1 hp => ?_)
              obtain ⟨f3b, f4b, pgb, rfl, rfl, hLI2⟩ := hp
              refine e_perm (st' := [.int ((lfF mo ((fun p => cafTK w (nI P) ho lpl p (p % w)) p x) ((fun p => openChoicesF op (nI p)) p) ct).1), .int (nI (p * mo + i)), .ref ld]) (ws' := [oLY ly g ru (nI mo) sz ld wy bk cd nc (nI (lfF mo ((fun p => cafTK w (nI P) ho lpl p (p % w)) p x) ((fun p => openChoicesF op (nI p)) p) ct).2.length) mh mn, oGR g (nI w) ht (nI P) ho op lpl ea eb, oTR ru g pcs, aI cI pcs w pgb, aI cI sz (P + 1) fs, aI cI ld (P * mo) f2, aJ cJ wy ((P + 1) * mo) fwy, aI cI bk 512 f3b, aI cI cd mo fc, aI cI nc mo f4b]) [4, 7, 8, 9, 0, 1, 2, 5, 3, 6] rfl rfl rfl ?_
              refine e_iast C 5 0 rfl rfl (vp_in_nI (by omega) (by omega)) d_LY_build_84 ?_
              refine e_ws [oLY ly g ru (nI mo) sz ld wy bk cd nc (nI (lfF mo ((fun p => cafTK w (nI P) ho lpl p (p % w)) p x) ((fun p => openChoicesF op (nI p)) p) ct).2.length) mh mn, oGR g (nI w) ht (nI P) ho op lpl ea eb, oTR ru g pcs, aI cI pcs w pgb, aI cI sz (P + 1) fs, aI cI ld (P * mo) (upd f2 (p * mo + i) ((lfF mo ((fun p => cafTK w (nI P) ho lpl p (p % w)) p x) ((fun p => openChoicesF op (nI p)) p) ct).1)), aJ cJ wy ((P + 1) * mo) fwy, aI cI bk 512 f3b, aI cI cd mo fc, aI cI nc mo f4b] (by rw [nI_clamp (by omega)]; rfl) ?_
              refine e_iinc (v := (nI i) + 1) C d_LY_build_85 rfl rfl (by decide) ?_
              refine e_goto (tgt := 50) C d_LY_build_88 (by decide) ?_
              refine e_lv [(0, .ref ly), (1, .int (nI (p % w))), (2, .int (nI p)), (3, .int (nI (i + 1)))] ⟨rfl, rfl, rfl, congrArg (fun z => some (Value.int z)) (nI_1 i), trivial⟩ ?_
              refine e_ws [oLY ly g ru (nI mo) sz ld wy bk cd nc (nI (lfF mo ((fun p => cafTK w (nI P) ho lpl p (p % w)) p x) ((fun p => openChoicesF op (nI p)) p) ct).2.length) mh mn, oGR g (nI w) ht (nI P) ho op lpl ea eb, oTR ru g pcs, aI cI pcs w pgb, aI cI sz (P + 1) fs, aI cI ld (P * mo) (upd f2 (p * mo + i) ((lfF mo ((fun p => cafTK w (nI P) ho lpl p (p % w)) p x) ((fun p => openChoicesF op (nI p)) p) ct).1)), aJ cJ wy ((P + 1) * mo) fwy, aI cI bk 512 f3b, aI cI cd mo fc, aI cI nc mo f4b] rfl ?_
              exact ihLI (i + 1) _ _ _ f3b f4b pgb (by omega) (by rw [row_take hx, hS]; rfl) (by rw [List.length_append, hpl]; rfl) hLI2 (fun q hq j y hy => by rw [pk_un (fun e => ix_ne (p := p) (q := q) (mo := mo) (a := i) (i := j) hq (hpj q (by omega) j y hy) e.symm)]; exact hB2 q hq j y hy) (fun j y hy => by rcases app_get hpl hy with ⟨z1, z2⟩ | ⟨z1, z2⟩; (rw [pk_un (by omega)]; exact hB3 j y z2); (subst z1; rw [pk_us]; exact z2)) (by omega)
        refine e_lv [(0, .ref ly), (1, .int (nI (p % w))), (2, .int (nI p)), (3, .int (nI 0))] ⟨rfl, rfl, rfl, rfl, trivial⟩ ?_
        refine e_ws [oLY ly g ru (nI mo) sz ld wy bk cd nc (nI ([] : List Int32).length) mh mn, oGR g (nI w) ht (nI P) ho op lpl ea eb, oTR ru g pcs, aI cI pcs w pf, aI cI sz (P + 1) fs, aI cI ld (P * mo) fl, aJ cJ wy ((P + 1) * mo) fwy, aI cI bk 512 fb, aI cI cd mo fc, aI cI nc mo fn] rfl ?_
        exact LI _ 0 ([] : List Int32) ([] : List Int32) fl fb fn pf (Nat.zero_le _) rfl rfl (LInv.new hkv1 hkv2) hBl (fun j x h => by simp at h) (Nat.lt_succ_self _)
  refine e_lv [(0, .ref ly), (1, .int (nI (0 % w))), (2, .int (nI 0))] ⟨rfl, (by rw [Nat.zero_mod]; rfl), rfl, trivial⟩ ?_
  refine e_ws [oLY ly g ru (nI mo) sz ld wy bk cd nc (nI ns) mh mn, oGR g (nI w) ht (nI P) ho op lpl ea eb, oTR ru g pcs, aI cI pcs w pf1, aI cI sz (P + 1) (upd fsz 0 1), aI cI ld (P * mo) fld, aJ cJ wy ((P + 1) * mo) fwy, aI cI bk 512 (fun q => if q < 512 then 0 else fbk q), aI cI cd mo (upd fcd 0 (codeF (fstT w (nI P) ho) w)), aI cI nc mo fnc] rfl ?_
  exact LO _ 0 cd nc (nI ns) (upd fsz 0 1) fld (fun q => if q < 512 then 0 else fbk q) (upd fcd 0 (codeF (fstT w (nI P) ho) w)) fnc pf1 (Nat.zero_le _) (fun q hq => by rw [show q = 0 by omega]; exact ⟨pk_us, h0⟩) (fun q hq => absurd hq (Nat.not_lt_zero q)) (fun j x hx => by cases j with | zero => exact (by rw [pk_us]; exact Option.some.inj hx) | succ j => exact absurd hx (by simp [layF])) ⟨fun _ => 0, fun b hb => by simp [hb]; rfl, fun b hb => by show 0 < _; omega⟩ (Nat.lt_succ_self _)
