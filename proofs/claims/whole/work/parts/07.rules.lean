/-! the library's bitCount and fill, and the three rules -/
def bc1 (x : Int32) : Int32 := x - (jushr x 1 &&& 1431655765)
def bc2 (x : Int32) : Int32 := (x &&& 858993459) + (jushr x 2 &&& 858993459)
def bc3 (x : Int32) : Int32 := (x + jushr x 4) &&& 252645135
def bc4 (x : Int32) : Int32 := x + jushr x 8
def bc5 (x : Int32) : Int32 := x + jushr x 16
def bcF (x : Int32) : Int32 := bc5 (bc4 (bc3 (bc2 (bc1 x)))) &&& 63
set_option maxHeartbeats 4000000 in
set_option maxRecDepth 100000 in
theorem M_JI_bitCount (l : Launch) (D : va_G) (cI cJ cZ : ClassId) (x : Int32) : MK l D cI cJ cZ y_JI_bitCount c_JI_bitCount 1 (some FieldType.int) 0 0 [.int x] [] 0 0 (rI (bcF x) []) := by
  refine MC.of (by decide) bigW_good (Nat.le_of_ble_eq_true rfl) (fun κ C Z IN => ?_)
  refine e_iload_n C d_JI_bitCount_0 rfl rfl ?_
  refine e_iload_n C d_JI_bitCount_1 rfl rfl ?_
  refine e_iconst (v := 1) C d_JI_bitCount_2 rfl ?_
  refine e_iushr C d_JI_bitCount_3 ?_
  refine e_ldcw C kl_JI_265 d_JI_bitCount_4 ?_
  refine e_iand C d_JI_bitCount_7 ?_
  refine e_isub C d_JI_bitCount_8 ?_
  refine e_ti (fun x9 ex9 => ?_)
  refine e_istore_n C d_JI_bitCount_9 rfl (by decide) ?_
  refine e_iload_n C d_JI_bitCount_10 rfl rfl ?_
  refine e_ldcw C kl_JI_266 d_JI_bitCount_11 ?_
  refine e_iand C d_JI_bitCount_14 ?_
  refine e_iload_n C d_JI_bitCount_15 rfl rfl ?_
  refine e_iconst (v := 2) C d_JI_bitCount_16 rfl ?_
  refine e_iushr C d_JI_bitCount_17 ?_
  refine e_ldcw C kl_JI_266 d_JI_bitCount_18 ?_
  refine e_iand C d_JI_bitCount_21 ?_
  refine e_iadd C d_JI_bitCount_22 ?_
  refine e_ti (fun x23 ex23 => ?_)
  refine e_istore_n C d_JI_bitCount_23 rfl (by decide) ?_
  refine e_iload_n C d_JI_bitCount_24 rfl rfl ?_
  refine e_iload_n C d_JI_bitCount_25 rfl rfl ?_
  refine e_iconst (v := 4) C d_JI_bitCount_26 rfl ?_
  refine e_iushr C d_JI_bitCount_27 ?_
  refine e_iadd C d_JI_bitCount_28 ?_
  refine e_ldcw C kl_JI_267 d_JI_bitCount_29 ?_
  refine e_iand C d_JI_bitCount_32 ?_
  refine e_ti (fun x33 ex33 => ?_)
  refine e_istore_n C d_JI_bitCount_33 rfl (by decide) ?_
  refine e_iload_n C d_JI_bitCount_34 rfl rfl ?_
  refine e_iload_n C d_JI_bitCount_35 rfl rfl ?_
  refine e_bipush (v := 8) C d_JI_bitCount_36 (by decide) ?_
  refine e_iushr C d_JI_bitCount_38 ?_
  refine e_iadd C d_JI_bitCount_39 ?_
  refine e_ti (fun x40 ex40 => ?_)
  refine e_istore_n C d_JI_bitCount_40 rfl (by decide) ?_
  refine e_iload_n C d_JI_bitCount_41 rfl rfl ?_
  refine e_iload_n C d_JI_bitCount_42 rfl rfl ?_
  refine e_bipush (v := 16) C d_JI_bitCount_43 (by decide) ?_
  refine e_iushr C d_JI_bitCount_45 ?_
  refine e_iadd C d_JI_bitCount_46 ?_
  refine e_ti (fun x47 ex47 => ?_)
  refine e_istore_n C d_JI_bitCount_47 rfl (by decide) ?_
  refine e_iload_n C d_JI_bitCount_48 rfl rfl ?_
  refine e_bipush (v := 63) C d_JI_bitCount_49 (by decide) ?_
  refine e_iand C d_JI_bitCount_51 ?_
  exact e_iret C Z rfl (Nat.le_of_ble_eq_true rfl) (Nat.le_of_ble_eq_true rfl) (⟨by subst ex47; subst ex40; subst ex33; subst ex23; subst ex9; rfl, rfl⟩) d_JI_bitCount_52

theorem fill_step (f : Nat → Int32) (i : Nat) (x : Int32) : upd (fun q => if q < i then x else f q) i x = fun q => if q < i + 1 then x else f q := by
  funext q
  unfold upd
  by_cases h : q = i
  · subst h; simp
  · by_cases h2 : q < i
    · have h3 : q < i + 1 := by omega
      simp [h, h2, h3]
    · have h3 : ¬ q < i + 1 := by omega
      simp [h, h2, h3]
set_option maxHeartbeats 4000000 in
set_option maxRecDepth 100000 in
theorem M_JA_fill (l : Launch) (D : va_G) (cI cJ cZ : ClassId) (a n : Nat) (hn : n < 2 ^ 31) (f : Nat → Int32) (x : Int32) : MK l D cI cJ cZ y_JA_fill c_JA_fill 4 none 0 0 [.ref a, .int x] [aI cI a n f] 0 0 (rV [aI cI a n (fun q => if q < n then x else f q)]) := by
  refine MC.of (by decide) bigW_good (Nat.le_of_ble_eq_true rfl) (fun κ C Z IN => ?_)
  refine e_iconst (v := 0) C d_JA_fill_0 rfl ?_
  refine e_istore_n C d_JA_fill_1 rfl (by decide) ?_
  refine e_aload_n C d_JA_fill_2 rfl rfl ?_
  refine e_alen C 0 0 rfl rfl rfl d_JA_fill_3 ?_
  refine e_istore_n C d_JA_fill_4 rfl (by decide) ?_
  have LP : ∀ (r : Nat) (i : Nat), i ≤ n →  n - i < r → E κ (lu_o [(0, .ref a), (1, .int x), (2, .int (nI i)), (3, .int (nI n))]) [] [aI cI a n (fun q => if q < i then x else f q)] 0 0 5 := by
    intro r
    induction r with
    | zero => intro i hi hm; exact absurd hm (Nat.not_lt_zero _)
    | succ r ihLP =>
      intro i hi hm
      refine e_iload_n C d_JA_fill_5 rfl rfl ?_
      refine e_iload_n C d_JA_fill_6 rfl rfl ?_
      refine e_icmp_ge (tgt := 20) C d_JA_fill_7 (by decide) (fun h7 => ?_) (fun h7 => ?_)
      · -- 20
        have hin : n = i := by have q := (nI_leI (by omega) (by omega)).mp h7; omega
        subst hin
        exact e_vret C Z (Nat.le_of_ble_eq_true rfl) (Nat.le_of_ble_eq_true rfl) (⟨rfl, rfl⟩) d_JA_fill_20
      · -- 10
        have hin : i < n := by rcases Nat.lt_or_ge i n with q | q; exact q; exact absurd (nI_le q (by omega)) h7
        refine e_aload_n C d_JA_fill_10 rfl rfl ?_
        refine e_iload_n C d_JA_fill_11 rfl rfl ?_
        refine e_iload_n C d_JA_fill_12 rfl rfl ?_
        refine e_iast C 0 0 rfl rfl (vp_in_nI hin hn) d_JA_fill_13 ?_
        refine e_ws [aI cI a n (upd (fun q => if q < i then x else f q) (nI i).toNatClampNeg x)] rfl ?_
        refine e_iinc (v := (nI i) + 1) C d_JA_fill_14 rfl rfl (by decide) ?_
        refine e_goto (tgt := 5) C d_JA_fill_17 (by decide) ?_
        refine e_lv [(0, .ref a), (1, .int x), (2, .int (nI (i + 1))), (3, .int (nI n))] ⟨rfl, rfl, congrArg (fun z => some (Value.int z)) (nI_1 i), rfl, trivial⟩ ?_
        refine e_ws [aI cI a n (fun q => if q < i + 1 then x else f q)] (by rw [nI_clamp (by omega), fill_step]) ?_
        exact ihLP (i + 1) (by omega) (by omega)
  refine e_lv [(0, .ref a), (1, .int x), (2, .int (nI 0)), (3, .int (nI n))] ⟨rfl, rfl, rfl, rfl, trivial⟩ ?_
  refine e_ws [aI cI a n (fun q => if q < 0 then x else f q)] (by simp) ?_
  exact LP _ 0 (Nat.zero_le _) (Nat.lt_succ_self _)

abbrev nDG (a : Nat) : Nat × va_E := (a, .inr (3, [.null, .int 0]))
abbrev nLN (a : Nat) : Nat × va_E := (a, .inr (4, [.null, .int 0]))
abbrev nTR (a : Nat) : Nat × va_E := (a, .inr (5, [.null, .null]))
abbrev gDG (a g : Nat) : Nat × va_E := (a, .inr (3, [.ref g, .int 0]))
abbrev gLN (a g : Nat) : Nat × va_E := (a, .inr (4, [.ref g, .int 0]))
abbrev gTR (a g : Nat) : Nat × va_E := (a, .inr (5, [.ref g, .null]))
set_option maxHeartbeats 4000000 in
set_option maxRecDepth 100000 in
theorem M_RU_init_DG (l : Launch) (D : va_G) (cI cJ cZ : ClassId) (r : Nat) : MK l D cI cJ cZ y_RU_init c_RU_init 1 none 1 20 [.ref r] [nDG r] 0 0 (rV [nDG r]) := by
  refine MC.of (by decide) bigW_good (Nat.le_of_ble_eq_true rfl) (fun κ C Z IN => ?_)
  refine e_aload_n C d_RU_init_0 rfl rfl ?_
  refine e_objInit C ml_RU_1 imm_objectInit cod_objectInit d_RU_init_1 (Nat.le_of_ble_eq_true rfl) (Nat.le_of_ble_eq_true rfl) ?_
  exact e_vret C Z (Nat.le_of_ble_eq_true rfl) (Nat.le_of_ble_eq_true rfl) (⟨rfl, rfl⟩) d_RU_init_4

set_option maxHeartbeats 4000000 in
set_option maxRecDepth 100000 in
theorem M_RU_init_LN (l : Launch) (D : va_G) (cI cJ cZ : ClassId) (r : Nat) : MK l D cI cJ cZ y_RU_init c_RU_init 1 none 1 20 [.ref r] [nLN r] 0 0 (rV [nLN r]) := by
  refine MC.of (by decide) bigW_good (Nat.le_of_ble_eq_true rfl) (fun κ C Z IN => ?_)
  refine e_aload_n C d_RU_init_0 rfl rfl ?_
  refine e_objInit C ml_RU_1 imm_objectInit cod_objectInit d_RU_init_1 (Nat.le_of_ble_eq_true rfl) (Nat.le_of_ble_eq_true rfl) ?_
  exact e_vret C Z (Nat.le_of_ble_eq_true rfl) (Nat.le_of_ble_eq_true rfl) (⟨rfl, rfl⟩) d_RU_init_4

set_option maxHeartbeats 4000000 in
set_option maxRecDepth 100000 in
theorem M_RU_init_TR (l : Launch) (D : va_G) (cI cJ cZ : ClassId) (r : Nat) : MK l D cI cJ cZ y_RU_init c_RU_init 1 none 1 20 [.ref r] [nTR r] 0 0 (rV [nTR r]) := by
  refine MC.of (by decide) bigW_good (Nat.le_of_ble_eq_true rfl) (fun κ C Z IN => ?_)
  refine e_aload_n C d_RU_init_0 rfl rfl ?_
  refine e_objInit C ml_RU_1 imm_objectInit cod_objectInit d_RU_init_1 (Nat.le_of_ble_eq_true rfl) (Nat.le_of_ble_eq_true rfl) ?_
  exact e_vret C Z (Nat.le_of_ble_eq_true rfl) (Nat.le_of_ble_eq_true rfl) (⟨rfl, rfl⟩) d_RU_init_4

set_option maxHeartbeats 4000000 in
set_option maxRecDepth 100000 in
theorem M_DG_init (l : Launch) (D : va_G) (cI cJ cZ : ClassId) (r g : Nat) (deg : Int32) : MK l D cI cJ cZ y_DG_init c_DG_init 3 none 2 40 [.ref r, .ref g, .int deg] [nDG r] 0 0 (rV [oDG r g deg]) := by
  refine MC.of (by decide) bigW_good (Nat.le_of_ble_eq_true rfl) (fun κ C Z IN => ?_)
  refine e_aload_n C d_DG_init_0 rfl rfl ?_
  refine e_callIN (ret := none) (As := []) (st := []) (wc := [nDG r]) (wr := []) C (M_RU_init_DG l D cI cJ cZ r) i_RU_init mn_DG_3 nwW_ok ⟨Nat.le_of_ble_eq_true rfl, Nat.le_of_ble_eq_true rfl⟩ ⟨Nat.le_of_ble_eq_true rfl, Nat.le_of_ble_eq_true rfl⟩ [0] [] rfl rfl rfl rfl (by decide) (Nat.le_of_ble_eq_true rfl) rfl d_DG_init_1 (fun v w1 hp => ?_)
  obtain ⟨rfl, rfl⟩ := hp
  refine e_perm (st' := []) (ws' := [nDG r]) [0] rfl rfl rfl ?_
  refine e_aload_n C d_DG_init_4 rfl rfl ?_
  refine e_aload_n C d_DG_init_5 rfl rfl ?_
  refine e_putF C IN hin_DG ty_DG tyk_DG nm_DG 0 rfl rfl 0 (by decide) fl_DG_9 rfl rfl rfl rfl (Nat.le_of_ble_eq_true rfl) d_DG_init_6 ?_
  refine e_ws [gDG r g] rfl ?_
  refine e_aload_n C d_DG_init_9 rfl rfl ?_
  refine e_iload_n C d_DG_init_10 rfl rfl ?_
  refine e_putF C IN hin_DG ty_DG tyk_DG nm_DG 0 rfl rfl 1 (by decide) fl_DG_15 rfl rfl rfl rfl (Nat.le_of_ble_eq_true rfl) d_DG_init_11 ?_
  refine e_ws [oDG r g deg] rfl ?_
  exact e_vret C Z (Nat.le_of_ble_eq_true rfl) (Nat.le_of_ble_eq_true rfl) (⟨rfl, rfl⟩) d_DG_init_14

set_option maxHeartbeats 4000000 in
set_option maxRecDepth 100000 in
theorem M_LN_init (l : Launch) (D : va_G) (cI cJ cZ : ClassId) (r g : Nat) (lp : Bool) : MK l D cI cJ cZ y_LN_init c_LN_init 3 none 2 40 [.ref r, .ref g, .int (bI lp)] [nLN r] 0 0 (rV [oLN r g (bI lp)]) := by
  refine MC.of (by decide) bigW_good (Nat.le_of_ble_eq_true rfl) (fun κ C Z IN => ?_)
  refine e_aload_n C d_LN_init_0 rfl rfl ?_
  refine e_callIN (ret := none) (As := []) (st := []) (wc := [nLN r]) (wr := []) C (M_RU_init_LN l D cI cJ cZ r) i_RU_init mn_LN_5 nwW_ok ⟨Nat.le_of_ble_eq_true rfl, Nat.le_of_ble_eq_true rfl⟩ ⟨Nat.le_of_ble_eq_true rfl, Nat.le_of_ble_eq_true rfl⟩ [0] [] rfl rfl rfl rfl (by decide) (Nat.le_of_ble_eq_true rfl) rfl d_LN_init_1 (fun v w1 hp => ?_)
  obtain ⟨rfl, rfl⟩ := hp
  refine e_perm (st' := []) (ws' := [nLN r]) [0] rfl rfl rfl ?_
  refine e_aload_n C d_LN_init_4 rfl rfl ?_
  refine e_aload_n C d_LN_init_5 rfl rfl ?_
  refine e_putF C IN hin_LN ty_LN tyk_LN nm_LN 0 rfl rfl 0 (by decide) fl_LN_11 rfl rfl rfl rfl (Nat.le_of_ble_eq_true rfl) d_LN_init_6 ?_
  refine e_ws [gLN r g] rfl ?_
  refine e_aload_n C d_LN_init_9 rfl rfl ?_
  refine e_iload_n C d_LN_init_10 rfl rfl ?_
  refine e_putF C IN hin_LN ty_LN tyk_LN nm_LN 0 rfl rfl 1 (by decide) fl_LN_15 rfl rfl (bI_nar lp) (bI_fit lp) (Nat.le_of_ble_eq_true rfl) d_LN_init_11 ?_
  refine e_ws [oLN r g (bI lp)] rfl ?_
  exact e_vret C Z (Nat.le_of_ble_eq_true rfl) (Nat.le_of_ble_eq_true rfl) (⟨rfl, rfl⟩) d_LN_init_14

def cafD (pl ho deg before place column choice : Int32) : Int32 :=
  if bcF (jushr (if column = 0 then before <<< ((1 : Int32) &&& 31) else before) column &&& 3) + bcF choice = (if isPlaceF pl ho place = true then deg else 0) then
    ((if column = 0 then before <<< ((1 : Int32) &&& 31) else before) &&& ((3 <<< (column &&& 31)) ^^^ -1)) ||| (choice <<< (column &&& 31))
  else -1
set_option maxHeartbeats 4000000 in
set_option maxRecDepth 100000 in
theorem M_DG_firstCode (l : Launch) (D : va_G) (cI cJ cZ : ClassId) (r g : Nat) (deg : Int32) : MK l D cI cJ cZ y_DG_firstCode c_DG_firstCode 1 (some FieldType.int) 0 0 [.ref r] [oDG r g deg] 0 0 (rI 0 [oDG r g deg]) := by
  refine MC.of (by decide) bigW_good (Nat.le_of_ble_eq_true rfl) (fun κ C Z IN => ?_)
  refine e_iconst (v := 0) C d_DG_firstCode_0 rfl ?_
  exact e_iret C Z rfl (Nat.le_of_ble_eq_true rfl) (Nat.le_of_ble_eq_true rfl) (⟨rfl, rfl⟩) d_DG_firstCode_1

set_option maxHeartbeats 4000000 in
set_option maxRecDepth 100000 in
theorem M_LN_firstCode (l : Launch) (D : va_G) (cI cJ cZ : ClassId) (r g : Nat) (lp : Int32) : MK l D cI cJ cZ y_LN_firstCode c_LN_firstCode 1 (some FieldType.int) 0 0 [.ref r] [oLN r g lp] 0 0 (rI 0 [oLN r g lp]) := by
  refine MC.of (by decide) bigW_good (Nat.le_of_ble_eq_true rfl) (fun κ C Z IN => ?_)
  refine e_iconst (v := 0) C d_LN_firstCode_0 rfl ?_
  exact e_iret C Z rfl (Nat.le_of_ble_eq_true rfl) (Nat.le_of_ble_eq_true rfl) (⟨rfl, rfl⟩) d_LN_firstCode_1

def isWayDG (x : Int32) : Bool := decide (x = 0)
set_option maxHeartbeats 4000000 in
set_option maxRecDepth 100000 in
theorem M_DG_isWay (l : Launch) (D : va_G) (cI cJ cZ : ClassId) (r g : Nat) (deg : Int32) (x : Int32) : MK l D cI cJ cZ y_DG_isWay c_DG_isWay 2 (some FieldType.boolean) 0 0 [.ref r, .int x] [oDG r g deg] 0 0 (rI (bI (isWayDG x)) [oDG r g deg]) := by
  refine MC.of (by decide) bigW_good (Nat.le_of_ble_eq_true rfl) (fun κ C Z IN => ?_)
  refine e_iload_n C d_DG_isWay_0 rfl rfl ?_
  refine e_if_ne (tgt := 8) C d_DG_isWay_1 (by decide) (fun h1 => ?_) (fun h1 => ?_)
  · -- 8
    refine e_iconst (v := 0) C d_DG_isWay_8 rfl ?_
    exact e_iret C Z rfl (Nat.le_of_ble_eq_true rfl) (Nat.le_of_ble_eq_true rfl) (⟨by (try simp only [bI_eq0, Bool.not_eq_false] at h1); simp [isWayDG, bI, h1], rfl⟩) d_DG_isWay_9
  · -- 4
    refine e_iconst (v := 1) C d_DG_isWay_4 rfl ?_
    refine e_goto (tgt := 9) C d_DG_isWay_5 (by decide) ?_
    exact e_iret C Z rfl (Nat.le_of_ble_eq_true rfl) (Nat.le_of_ble_eq_true rfl) (⟨by (try simp only [bI_eq0, Bool.not_eq_false] at h1); simp [isWayDG, bI, h1], rfl⟩) d_DG_isWay_9

def isWayLN (x : Int32) : Bool := decide (x = 4096)
set_option maxHeartbeats 4000000 in
set_option maxRecDepth 100000 in
theorem M_LN_isWay (l : Launch) (D : va_G) (cI cJ cZ : ClassId) (r g : Nat) (lp : Int32) (x : Int32) : MK l D cI cJ cZ y_LN_isWay c_LN_isWay 2 (some FieldType.boolean) 0 0 [.ref r, .int x] [oLN r g lp] 0 0 (rI (bI (isWayLN x)) [oLN r g lp]) := by
  refine MC.of (by decide) bigW_good (Nat.le_of_ble_eq_true rfl) (fun κ C Z IN => ?_)
  refine e_iload_n C d_LN_isWay_0 rfl rfl ?_
  refine e_sipush (v := 4096) C d_LN_isWay_1 (by decide) ?_
  refine e_icmp_ne (tgt := 11) C d_LN_isWay_4 (by decide) (fun h4 => ?_) (fun h4 => ?_)
  · -- 11
    refine e_iconst (v := 0) C d_LN_isWay_11 rfl ?_
    exact e_iret C Z rfl (Nat.le_of_ble_eq_true rfl) (Nat.le_of_ble_eq_true rfl) (⟨by (try simp only [bI_eq0, Bool.not_eq_false] at h4); simp [isWayLN, bI, h4], rfl⟩) d_LN_isWay_12
  · -- 7
    refine e_iconst (v := 1) C d_LN_isWay_7 rfl ?_
    refine e_goto (tgt := 12) C d_LN_isWay_8 (by decide) ?_
    exact e_iret C Z rfl (Nat.le_of_ble_eq_true rfl) (Nat.le_of_ble_eq_true rfl) (⟨by (try simp only [bI_eq0, Bool.not_eq_false] at h4); simp [isWayLN, bI, h4], rfl⟩) d_LN_isWay_12

def isWayTR (x : Int32) : Bool := decide (x = 0)
set_option maxHeartbeats 4000000 in
set_option maxRecDepth 100000 in
theorem M_TR_isWay (l : Launch) (D : va_G) (cI cJ cZ : ClassId) (r g pcs : Nat) (x : Int32) : MK l D cI cJ cZ y_TR_isWay c_TR_isWay 2 (some FieldType.boolean) 0 0 [.ref r, .int x] [oTR r g pcs] 0 0 (rI (bI (isWayTR x)) [oTR r g pcs]) := by
  refine MC.of (by decide) bigW_good (Nat.le_of_ble_eq_true rfl) (fun κ C Z IN => ?_)
  refine e_iload_n C d_TR_isWay_0 rfl rfl ?_
  refine e_if_ne (tgt := 8) C d_TR_isWay_1 (by decide) (fun h1 => ?_) (fun h1 => ?_)
  · -- 8
    refine e_iconst (v := 0) C d_TR_isWay_8 rfl ?_
    exact e_iret C Z rfl (Nat.le_of_ble_eq_true rfl) (Nat.le_of_ble_eq_true rfl) (⟨by (try simp only [bI_eq0, Bool.not_eq_false] at h1); simp [isWayTR, bI, h1], rfl⟩) d_TR_isWay_9
  · -- 4
    refine e_iconst (v := 1) C d_TR_isWay_4 rfl ?_
    refine e_goto (tgt := 9) C d_TR_isWay_5 (by decide) ?_
    exact e_iret C Z rfl (Nat.le_of_ble_eq_true rfl) (Nat.le_of_ble_eq_true rfl) (⟨by (try simp only [bI_eq0, Bool.not_eq_false] at h1); simp [isWayTR, bI, h1], rfl⟩) d_TR_isWay_9

set_option maxHeartbeats 4000000 in
set_option maxRecDepth 100000 in
theorem M_DG_codeAfter (l : Launch) (D : va_G) (cI cJ cZ : ClassId) (r g : Nat) (deg : Int32) (wd ht pl ho : Int32) (op : Int64) (lpl ea eb : Int32) (before place column choice : Int32) : MK l D cI cJ cZ y_DG_codeAfter c_DG_codeAfter 7 (some FieldType.int) 2 42 [.ref r, .int before, .int place, .int column, .int choice] [oDG r g deg, oGR g wd ht pl ho op lpl ea eb] 0 0 (rI (cafD pl ho deg before place column choice) [oDG r g deg, oGR g wd ht pl ho op lpl ea eb]) := by
  refine MC.of (by decide) bigW_good (Nat.le_of_ble_eq_true rfl) (fun κ C Z IN => ?_)
  refine e_iload_n C d_DG_codeAfter_0 rfl rfl ?_
  refine e_if_ne (tgt := 10) C d_DG_codeAfter_1 (by decide) (fun h1 => ?_) (fun h1 => ?_)
  · -- 10
    refine e_iload_n C d_DG_codeAfter_10 rfl rfl ?_
    refine e_istore C d_DG_codeAfter_11 (by decide) ?_
    refine e_aload_n C d_DG_codeAfter_13 rfl rfl ?_
    refine e_get C hin_DG 0 rfl rfl 0 (by decide) fl_DG_9 rfl d_DG_codeAfter_14 ?_
    refine e_iload_n C d_DG_codeAfter_17 rfl rfl ?_
    refine e_callVN (As := [.int place]) (st := []) (wc := [oGR g wd ht pl ho op lpl ea eb]) (wr := [oDG r g deg]) C (M_GR_isPlace l D cI cJ cZ g wd ht pl ho op lpl ea eb place) v_GR_isPlace mn_DG_19 1 rfl rfl nwW_ok ⟨Nat.le_of_ble_eq_true rfl, Nat.le_of_ble_eq_true rfl⟩ ⟨Nat.le_of_ble_eq_true rfl, Nat.le_of_ble_eq_true rfl⟩ [1] [0] rfl rfl rfl rfl (by decide) (Nat.le_of_ble_eq_true rfl) rfl d_DG_codeAfter_18 (fun v w1 hp => ?_)
    obtain ⟨rfl, rfl⟩ := hp
    refine e_perm (st' := [.int (bI (isPlaceF pl ho place))]) (ws' := [oDG r g deg, oGR g wd ht pl ho op lpl ea eb]) [0, 1] rfl rfl rfl ?_
    refine e_if_eq (tgt := 31) C d_DG_codeAfter_21 (by decide) (fun h21 => ?_) (fun h21 => ?_)
    · -- 31
      refine e_iconst (v := 0) C d_DG_codeAfter_31 rfl ?_
      refine e_istore C d_DG_codeAfter_32 (by decide) ?_
      refine e_iload C d_DG_codeAfter_34 rfl ?_
      refine e_iload_n C d_DG_codeAfter_36 rfl rfl ?_
      refine e_iushr C d_DG_codeAfter_37 ?_
      refine e_iconst (v := 3) C d_DG_codeAfter_38 rfl ?_
      refine e_iand C d_DG_codeAfter_39 ?_
      refine e_callS (As := [.int ((jushr before column) &&& 3)]) (st := []) (wc := []) (wr := [oDG r g deg, oGR g wd ht pl ho op lpl ea eb]) C (M_JI_bitCount l D cI cJ cZ ((jushr before column) &&& 3)) s_JI_bitCount ml_DG_25 nwW_ok ⟨Nat.le_of_ble_eq_true rfl, Nat.le_of_ble_eq_true rfl⟩ ⟨Nat.le_of_ble_eq_true rfl, Nat.le_of_ble_eq_true rfl⟩ [] [0, 1] rfl rfl rfl rfl (by decide) (Nat.le_of_ble_eq_true rfl) rfl d_DG_codeAfter_40 (fun v w1 hp => ?_)
      obtain ⟨rfl, rfl⟩ := hp
      refine e_perm (st' := [.int (bcF ((jushr before column) &&& 3))]) (ws' := [oDG r g deg, oGR g wd ht pl ho op lpl ea eb]) [0, 1] rfl rfl rfl ?_
      refine e_iload C d_DG_codeAfter_43 rfl ?_
      refine e_callS (As := [.int choice]) (st := [.int (bcF ((jushr before column) &&& 3))]) (wc := []) (wr := [oDG r g deg, oGR g wd ht pl ho op lpl ea eb]) C (M_JI_bitCount l D cI cJ cZ choice) s_JI_bitCount ml_DG_25 nwW_ok ⟨Nat.le_of_ble_eq_true rfl, Nat.le_of_ble_eq_true rfl⟩ ⟨Nat.le_of_ble_eq_true rfl, Nat.le_of_ble_eq_true rfl⟩ [] [0, 1] rfl rfl rfl rfl (by decide) (Nat.le_of_ble_eq_true rfl) rfl d_DG_codeAfter_45 (fun v w1 hp => ?_)
      obtain ⟨rfl, rfl⟩ := hp
      refine e_perm (st' := [.int (bcF choice), .int (bcF ((jushr before column) &&& 3))]) (ws' := [oDG r g deg, oGR g wd ht pl ho op lpl ea eb]) [0, 1] rfl rfl rfl ?_
      refine e_iadd C d_DG_codeAfter_48 ?_
      refine e_iload C d_DG_codeAfter_49 rfl ?_
      refine e_icmp_eq (tgt := 56) C d_DG_codeAfter_51 (by decide) (fun h51 => ?_) (fun h51 => ?_)
      · -- 56
        refine e_iload C d_DG_codeAfter_56 rfl ?_
        refine e_iconst (v := 3) C d_DG_codeAfter_58 rfl ?_
        refine e_iload_n C d_DG_codeAfter_59 rfl rfl ?_
        refine e_ishl C d_DG_codeAfter_60 ?_
        refine e_iconst (v := (-1)) C d_DG_codeAfter_61 rfl ?_
        refine e_ixor C d_DG_codeAfter_62 ?_
        refine e_iand C d_DG_codeAfter_63 ?_
        refine e_iload C d_DG_codeAfter_64 rfl ?_
        refine e_iload_n C d_DG_codeAfter_66 rfl rfl ?_
        refine e_ishl C d_DG_codeAfter_67 ?_
        refine e_ior C d_DG_codeAfter_68 ?_
        exact e_iret C Z rfl (Nat.le_of_ble_eq_true rfl) (Nat.le_of_ble_eq_true rfl) (⟨by (try simp only [bI_eq0, Bool.not_eq_false] at h1 h21 h51); unfold cafD; (first | rw [if_pos h1] | rw [if_neg h1] | rw [if_neg (Bool.eq_false_iff.mp h1)] | skip); (first | rw [if_pos h21] | rw [if_neg h21] | rw [if_neg (Bool.eq_false_iff.mp h21)] | skip); (first | rw [if_pos h51] | rw [if_neg h51] | rw [if_neg (Bool.eq_false_iff.mp h51)] | skip), rfl⟩) d_DG_codeAfter_69
      · -- 54
        refine e_iconst (v := (-1)) C d_DG_codeAfter_54 rfl ?_
        exact e_iret C Z rfl (Nat.le_of_ble_eq_true rfl) (Nat.le_of_ble_eq_true rfl) (⟨by (try simp only [bI_eq0, Bool.not_eq_false] at h1 h21 h51); unfold cafD; (first | rw [if_pos h1] | rw [if_neg h1] | rw [if_neg (Bool.eq_false_iff.mp h1)] | skip); (first | rw [if_pos h21] | rw [if_neg h21] | rw [if_neg (Bool.eq_false_iff.mp h21)] | skip); (first | rw [if_pos h51] | rw [if_neg h51] | rw [if_neg (Bool.eq_false_iff.mp h51)] | skip), rfl⟩) d_DG_codeAfter_55
    · -- 24
      refine e_aload_n C d_DG_codeAfter_24 rfl rfl ?_
      refine e_get C hin_DG 0 rfl rfl 1 (by decide) fl_DG_15 rfl d_DG_codeAfter_25 ?_
      refine e_goto (tgt := 32) C d_DG_codeAfter_28 (by decide) ?_
      refine e_istore C d_DG_codeAfter_32 (by decide) ?_
      refine e_iload C d_DG_codeAfter_34 rfl ?_
      refine e_iload_n C d_DG_codeAfter_36 rfl rfl ?_
      refine e_iushr C d_DG_codeAfter_37 ?_
      refine e_iconst (v := 3) C d_DG_codeAfter_38 rfl ?_
      refine e_iand C d_DG_codeAfter_39 ?_
      refine e_callS (As := [.int ((jushr before column) &&& 3)]) (st := []) (wc := []) (wr := [oDG r g deg, oGR g wd ht pl ho op lpl ea eb]) C (M_JI_bitCount l D cI cJ cZ ((jushr before column) &&& 3)) s_JI_bitCount ml_DG_25 nwW_ok ⟨Nat.le_of_ble_eq_true rfl, Nat.le_of_ble_eq_true rfl⟩ ⟨Nat.le_of_ble_eq_true rfl, Nat.le_of_ble_eq_true rfl⟩ [] [0, 1] rfl rfl rfl rfl (by decide) (Nat.le_of_ble_eq_true rfl) rfl d_DG_codeAfter_40 (fun v w1 hp => ?_)
      obtain ⟨rfl, rfl⟩ := hp
      refine e_perm (st' := [.int (bcF ((jushr before column) &&& 3))]) (ws' := [oDG r g deg, oGR g wd ht pl ho op lpl ea eb]) [0, 1] rfl rfl rfl ?_
      refine e_iload C d_DG_codeAfter_43 rfl ?_
      refine e_callS (As := [.int choice]) (st := [.int (bcF ((jushr before column) &&& 3))]) (wc := []) (wr := [oDG r g deg, oGR g wd ht pl ho op lpl ea eb]) C (M_JI_bitCount l D cI cJ cZ choice) s_JI_bitCount ml_DG_25 nwW_ok ⟨Nat.le_of_ble_eq_true rfl, Nat.le_of_ble_eq_true rfl⟩ ⟨Nat.le_of_ble_eq_true rfl, Nat.le_of_ble_eq_true rfl⟩ [] [0, 1] rfl rfl rfl rfl (by decide) (Nat.le_of_ble_eq_true rfl) rfl d_DG_codeAfter_45 (fun v w1 hp => ?_)
      obtain ⟨rfl, rfl⟩ := hp
      refine e_perm (st' := [.int (bcF choice), .int (bcF ((jushr before column) &&& 3))]) (ws' := [oDG r g deg, oGR g wd ht pl ho op lpl ea eb]) [0, 1] rfl rfl rfl ?_
      refine e_iadd C d_DG_codeAfter_48 ?_
      refine e_iload C d_DG_codeAfter_49 rfl ?_
      refine e_icmp_eq (tgt := 56) C d_DG_codeAfter_51 (by decide) (fun h51 => ?_) (fun h51 => ?_)
      · -- 56
        refine e_iload C d_DG_codeAfter_56 rfl ?_
        refine e_iconst (v := 3) C d_DG_codeAfter_58 rfl ?_
        refine e_iload_n C d_DG_codeAfter_59 rfl rfl ?_
        refine e_ishl C d_DG_codeAfter_60 ?_
        refine e_iconst (v := (-1)) C d_DG_codeAfter_61 rfl ?_
        refine e_ixor C d_DG_codeAfter_62 ?_
        refine e_iand C d_DG_codeAfter_63 ?_
        refine e_iload C d_DG_codeAfter_64 rfl ?_
        refine e_iload_n C d_DG_codeAfter_66 rfl rfl ?_
        refine e_ishl C d_DG_codeAfter_67 ?_
        refine e_ior C d_DG_codeAfter_68 ?_
        exact e_iret C Z rfl (Nat.le_of_ble_eq_true rfl) (Nat.le_of_ble_eq_true rfl) (⟨by (try simp only [bI_eq0, Bool.not_eq_false] at h1 h21 h51); unfold cafD; (first | rw [if_pos h1] | rw [if_neg h1] | rw [if_neg (Bool.eq_false_iff.mp h1)] | skip); (first | rw [if_pos h21] | rw [if_neg h21] | rw [if_neg (Bool.eq_false_iff.mp h21)] | skip); (first | rw [if_pos h51] | rw [if_neg h51] | rw [if_neg (Bool.eq_false_iff.mp h51)] | skip), rfl⟩) d_DG_codeAfter_69
      · -- 54
        refine e_iconst (v := (-1)) C d_DG_codeAfter_54 rfl ?_
        exact e_iret C Z rfl (Nat.le_of_ble_eq_true rfl) (Nat.le_of_ble_eq_true rfl) (⟨by (try simp only [bI_eq0, Bool.not_eq_false] at h1 h21 h51); unfold cafD; (first | rw [if_pos h1] | rw [if_neg h1] | rw [if_neg (Bool.eq_false_iff.mp h1)] | skip); (first | rw [if_pos h21] | rw [if_neg h21] | rw [if_neg (Bool.eq_false_iff.mp h21)] | skip); (first | rw [if_pos h51] | rw [if_neg h51] | rw [if_neg (Bool.eq_false_iff.mp h51)] | skip), rfl⟩) d_DG_codeAfter_55
  · -- 4
    refine e_iload_n C d_DG_codeAfter_4 rfl rfl ?_
    refine e_iconst (v := 1) C d_DG_codeAfter_5 rfl ?_
    refine e_ishl C d_DG_codeAfter_6 ?_
    refine e_goto (tgt := 11) C d_DG_codeAfter_7 (by decide) ?_
    refine e_istore C d_DG_codeAfter_11 (by decide) ?_
    refine e_aload_n C d_DG_codeAfter_13 rfl rfl ?_
    refine e_get C hin_DG 0 rfl rfl 0 (by decide) fl_DG_9 rfl d_DG_codeAfter_14 ?_
    refine e_iload_n C d_DG_codeAfter_17 rfl rfl ?_
    refine e_callVN (As := [.int place]) (st := []) (wc := [oGR g wd ht pl ho op lpl ea eb]) (wr := [oDG r g deg]) C (M_GR_isPlace l D cI cJ cZ g wd ht pl ho op lpl ea eb place) v_GR_isPlace mn_DG_19 1 rfl rfl nwW_ok ⟨Nat.le_of_ble_eq_true rfl, Nat.le_of_ble_eq_true rfl⟩ ⟨Nat.le_of_ble_eq_true rfl, Nat.le_of_ble_eq_true rfl⟩ [1] [0] rfl rfl rfl rfl (by decide) (Nat.le_of_ble_eq_true rfl) rfl d_DG_codeAfter_18 (fun v w1 hp => ?_)
    obtain ⟨rfl, rfl⟩ := hp
    refine e_perm (st' := [.int (bI (isPlaceF pl ho place))]) (ws' := [oDG r g deg, oGR g wd ht pl ho op lpl ea eb]) [0, 1] rfl rfl rfl ?_
    refine e_if_eq (tgt := 31) C d_DG_codeAfter_21 (by decide) (fun h21 => ?_) (fun h21 => ?_)
    · -- 31
      refine e_iconst (v := 0) C d_DG_codeAfter_31 rfl ?_
      refine e_istore C d_DG_codeAfter_32 (by decide) ?_
      refine e_iload C d_DG_codeAfter_34 rfl ?_
      refine e_iload_n C d_DG_codeAfter_36 rfl rfl ?_
      refine e_iushr C d_DG_codeAfter_37 ?_
      refine e_iconst (v := 3) C d_DG_codeAfter_38 rfl ?_
      refine e_iand C d_DG_codeAfter_39 ?_
      refine e_callS (As := [.int ((jushr (before <<< ((1 : Int32) &&& 31)) column) &&& 3)]) (st := []) (wc := []) (wr := [oDG r g deg, oGR g wd ht pl ho op lpl ea eb]) C (M_JI_bitCount l D cI cJ cZ ((jushr (before <<< ((1 : Int32) &&& 31)) column) &&& 3)) s_JI_bitCount ml_DG_25 nwW_ok ⟨Nat.le_of_ble_eq_true rfl, Nat.le_of_ble_eq_true rfl⟩ ⟨Nat.le_of_ble_eq_true rfl, Nat.le_of_ble_eq_true rfl⟩ [] [0, 1] rfl rfl rfl rfl (by decide) (Nat.le_of_ble_eq_true rfl) rfl d_DG_codeAfter_40 (fun v w1 hp => ?_)
      obtain ⟨rfl, rfl⟩ := hp
      refine e_perm (st' := [.int (bcF ((jushr (before <<< ((1 : Int32) &&& 31)) column) &&& 3))]) (ws' := [oDG r g deg, oGR g wd ht pl ho op lpl ea eb]) [0, 1] rfl rfl rfl ?_
      refine e_iload C d_DG_codeAfter_43 rfl ?_
      refine e_callS (As := [.int choice]) (st := [.int (bcF ((jushr (before <<< ((1 : Int32) &&& 31)) column) &&& 3))]) (wc := []) (wr := [oDG r g deg, oGR g wd ht pl ho op lpl ea eb]) C (M_JI_bitCount l D cI cJ cZ choice) s_JI_bitCount ml_DG_25 nwW_ok ⟨Nat.le_of_ble_eq_true rfl, Nat.le_of_ble_eq_true rfl⟩ ⟨Nat.le_of_ble_eq_true rfl, Nat.le_of_ble_eq_true rfl⟩ [] [0, 1] rfl rfl rfl rfl (by decide) (Nat.le_of_ble_eq_true rfl) rfl d_DG_codeAfter_45 (fun v w1 hp => ?_)
      obtain ⟨rfl, rfl⟩ := hp
      refine e_perm (st' := [.int (bcF choice), .int (bcF ((jushr (before <<< ((1 : Int32) &&& 31)) column) &&& 3))]) (ws' := [oDG r g deg, oGR g wd ht pl ho op lpl ea eb]) [0, 1] rfl rfl rfl ?_
      refine e_iadd C d_DG_codeAfter_48 ?_
      refine e_iload C d_DG_codeAfter_49 rfl ?_
      refine e_icmp_eq (tgt := 56) C d_DG_codeAfter_51 (by decide) (fun h51 => ?_) (fun h51 => ?_)
      · -- 56
        refine e_iload C d_DG_codeAfter_56 rfl ?_
        refine e_iconst (v := 3) C d_DG_codeAfter_58 rfl ?_
        refine e_iload_n C d_DG_codeAfter_59 rfl rfl ?_
        refine e_ishl C d_DG_codeAfter_60 ?_
        refine e_iconst (v := (-1)) C d_DG_codeAfter_61 rfl ?_
        refine e_ixor C d_DG_codeAfter_62 ?_
        refine e_iand C d_DG_codeAfter_63 ?_
        refine e_iload C d_DG_codeAfter_64 rfl ?_
        refine e_iload_n C d_DG_codeAfter_66 rfl rfl ?_
        refine e_ishl C d_DG_codeAfter_67 ?_
        refine e_ior C d_DG_codeAfter_68 ?_
        exact e_iret C Z rfl (Nat.le_of_ble_eq_true rfl) (Nat.le_of_ble_eq_true rfl) (⟨by (try simp only [bI_eq0, Bool.not_eq_false] at h1 h21 h51); unfold cafD; (first | rw [if_pos h1] | rw [if_neg h1] | rw [if_neg (Bool.eq_false_iff.mp h1)] | skip); (first | rw [if_pos h21] | rw [if_neg h21] | rw [if_neg (Bool.eq_false_iff.mp h21)] | skip); (first | rw [if_pos h51] | rw [if_neg h51] | rw [if_neg (Bool.eq_false_iff.mp h51)] | skip), rfl⟩) d_DG_codeAfter_69
      · -- 54
        refine e_iconst (v := (-1)) C d_DG_codeAfter_54 rfl ?_
        exact e_iret C Z rfl (Nat.le_of_ble_eq_true rfl) (Nat.le_of_ble_eq_true rfl) (⟨by (try simp only [bI_eq0, Bool.not_eq_false] at h1 h21 h51); unfold cafD; (first | rw [if_pos h1] | rw [if_neg h1] | rw [if_neg (Bool.eq_false_iff.mp h1)] | skip); (first | rw [if_pos h21] | rw [if_neg h21] | rw [if_neg (Bool.eq_false_iff.mp h21)] | skip); (first | rw [if_pos h51] | rw [if_neg h51] | rw [if_neg (Bool.eq_false_iff.mp h51)] | skip), rfl⟩) d_DG_codeAfter_55
    · -- 24
      refine e_aload_n C d_DG_codeAfter_24 rfl rfl ?_
      refine e_get C hin_DG 0 rfl rfl 1 (by decide) fl_DG_15 rfl d_DG_codeAfter_25 ?_
      refine e_goto (tgt := 32) C d_DG_codeAfter_28 (by decide) ?_
      refine e_istore C d_DG_codeAfter_32 (by decide) ?_
      refine e_iload C d_DG_codeAfter_34 rfl ?_
      refine e_iload_n C d_DG_codeAfter_36 rfl rfl ?_
      refine e_iushr C d_DG_codeAfter_37 ?_
      refine e_iconst (v := 3) C d_DG_codeAfter_38 rfl ?_
      refine e_iand C d_DG_codeAfter_39 ?_
      refine e_callS (As := [.int ((jushr (before <<< ((1 : Int32) &&& 31)) column) &&& 3)]) (st := []) (wc := []) (wr := [oDG r g deg, oGR g wd ht pl ho op lpl ea eb]) C (M_JI_bitCount l D cI cJ cZ ((jushr (before <<< ((1 : Int32) &&& 31)) column) &&& 3)) s_JI_bitCount ml_DG_25 nwW_ok ⟨Nat.le_of_ble_eq_true rfl, Nat.le_of_ble_eq_true rfl⟩ ⟨Nat.le_of_ble_eq_true rfl, Nat.le_of_ble_eq_true rfl⟩ [] [0, 1] rfl rfl rfl rfl (by decide) (Nat.le_of_ble_eq_true rfl) rfl d_DG_codeAfter_40 (fun v w1 hp => ?_)
      obtain ⟨rfl, rfl⟩ := hp
      refine e_perm (st' := [.int (bcF ((jushr (before <<< ((1 : Int32) &&& 31)) column) &&& 3))]) (ws' := [oDG r g deg, oGR g wd ht pl ho op lpl ea eb]) [0, 1] rfl rfl rfl ?_
      refine e_iload C d_DG_codeAfter_43 rfl ?_
      refine e_callS (As := [.int choice]) (st := [.int (bcF ((jushr (before <<< ((1 : Int32) &&& 31)) column) &&& 3))]) (wc := []) (wr := [oDG r g deg, oGR g wd ht pl ho op lpl ea eb]) C (M_JI_bitCount l D cI cJ cZ choice) s_JI_bitCount ml_DG_25 nwW_ok ⟨Nat.le_of_ble_eq_true rfl, Nat.le_of_ble_eq_true rfl⟩ ⟨Nat.le_of_ble_eq_true rfl, Nat.le_of_ble_eq_true rfl⟩ [] [0, 1] rfl rfl rfl rfl (by decide) (Nat.le_of_ble_eq_true rfl) rfl d_DG_codeAfter_45 (fun v w1 hp => ?_)
      obtain ⟨rfl, rfl⟩ := hp
      refine e_perm (st' := [.int (bcF choice), .int (bcF ((jushr (before <<< ((1 : Int32) &&& 31)) column) &&& 3))]) (ws' := [oDG r g deg, oGR g wd ht pl ho op lpl ea eb]) [0, 1] rfl rfl rfl ?_
      refine e_iadd C d_DG_codeAfter_48 ?_
      refine e_iload C d_DG_codeAfter_49 rfl ?_
      refine e_icmp_eq (tgt := 56) C d_DG_codeAfter_51 (by decide) (fun h51 => ?_) (fun h51 => ?_)
      · -- 56
        refine e_iload C d_DG_codeAfter_56 rfl ?_
        refine e_iconst (v := 3) C d_DG_codeAfter_58 rfl ?_
        refine e_iload_n C d_DG_codeAfter_59 rfl rfl ?_
        refine e_ishl C d_DG_codeAfter_60 ?_
        refine e_iconst (v := (-1)) C d_DG_codeAfter_61 rfl ?_
        refine e_ixor C d_DG_codeAfter_62 ?_
        refine e_iand C d_DG_codeAfter_63 ?_
        refine e_iload C d_DG_codeAfter_64 rfl ?_
        refine e_iload_n C d_DG_codeAfter_66 rfl rfl ?_
        refine e_ishl C d_DG_codeAfter_67 ?_
        refine e_ior C d_DG_codeAfter_68 ?_
        exact e_iret C Z rfl (Nat.le_of_ble_eq_true rfl) (Nat.le_of_ble_eq_true rfl) (⟨by (try simp only [bI_eq0, Bool.not_eq_false] at h1 h21 h51); unfold cafD; (first | rw [if_pos h1] | rw [if_neg h1] | rw [if_neg (Bool.eq_false_iff.mp h1)] | skip); (first | rw [if_pos h21] | rw [if_neg h21] | rw [if_neg (Bool.eq_false_iff.mp h21)] | skip); (first | rw [if_pos h51] | rw [if_neg h51] | rw [if_neg (Bool.eq_false_iff.mp h51)] | skip), rfl⟩) d_DG_codeAfter_69
      · -- 54
        refine e_iconst (v := (-1)) C d_DG_codeAfter_54 rfl ?_
        exact e_iret C Z rfl (Nat.le_of_ble_eq_true rfl) (Nat.le_of_ble_eq_true rfl) (⟨by (try simp only [bI_eq0, Bool.not_eq_false] at h1 h21 h51); unfold cafD; (first | rw [if_pos h1] | rw [if_neg h1] | rw [if_neg (Bool.eq_false_iff.mp h1)] | skip); (first | rw [if_pos h21] | rw [if_neg h21] | rw [if_neg (Bool.eq_false_iff.mp h21)] | skip); (first | rw [if_pos h51] | rw [if_neg h51] | rw [if_neg (Bool.eq_false_iff.mp h51)] | skip), rfl⟩) d_DG_codeAfter_55

def symF (code sh : Int32) : Int32 := jushr code sh &&& 3
def withEndF (code sh : Int32) : Int32 := if symF code sh = 0 then code ||| (3 <<< (sh &&& 31)) else if symF code (sh + 2) = 0 then code ||| (3 <<< ((sh + 2) &&& 31)) else -1
def wmD (code own at_ d : Int32) : Int32 := if symF code at_ = own then d + 1 else if symF code at_ + own = 3 then d + (-1) else d
def wmF (code rest own step becomes : Int32) : Nat → Int32 → Int32 → Int32
  | 0, _, _ => -1
  | q + 1, at_, d => if at_ < 0 then -1 else if 10 < at_ then -1 else if wmD code own at_ d = 0 then (rest &&& ((3 <<< (at_ &&& 31)) ^^^ -1)) ||| (becomes <<< (at_ &&& 31)) else wmF code rest own step becomes q (at_ + step) (wmD code own at_ d)
def withMateF (code rest shift becomes : Int32) : Int32 := wmF code rest (symF code shift) (if symF code shift = 1 then 2 else -2) becomes 8 shift 0
def wmOK (step : Int32) (q : Nat) (at_ : Int32) : Prop := (step = 2 ∧ ∃ a : Nat, at_ = nI a ∧ 10 < a + 2 * q ∧ a ≤ 14) ∨ (step = -2 ∧ (at_ < 0 ∨ ∃ a : Nat, at_ = nI a ∧ a < 2 * q ∧ a ≤ 14))
theorem wmF_out {code rest own step becomes at_ d : Int32} (q : Nat) (h : at_ < 0 ∨ 10 < at_) : wmF code rest own step becomes q at_ d = -1 := by
  cases q with
  | zero => rfl
  | succ q =>
    unfold wmF
    rcases h with h | h
    · rw [if_pos h]
    · by_cases h0 : at_ < 0
      · rw [if_pos h0]
      · rw [if_neg h0, if_pos h]
theorem nI_m2 {a : Nat} (h : 2 ≤ a) : nI a + (-2) = nI (a - 2) := by
  have h1 : nI a = nI (a - 2) + nI 2 := by rw [nI_add]; congr 1; omega
  rw [h1, Int32.add_assoc]
  have h2 : nI 2 + (-2) = 0 := by decide
  rw [h2, Int32.add_zero]
theorem wm_next {step at_ : Int32} {q : Nat} (h : wmOK step q at_) (h0 : ¬ at_ < 0) (h1 : ¬ 10 < at_) : ∃ q', q = q' + 1 ∧ wmOK step q' (at_ + step) := by
  rcases h with ⟨rfl, a, rfl, h2, h3⟩ | ⟨rfl, h2⟩
  · have h4 : ¬ 10 < a := fun z => h1 (nI_lt (a := 10) z (by omega))
    refine ⟨q - 1, by omega, Or.inl ⟨rfl, a + 2, nI_add a 2, by omega, by omega⟩⟩
  · rcases h2 with h2 | ⟨a, rfl, h2, h3⟩
    · exact absurd h2 h0
    · refine ⟨q - 1, by omega, Or.inr ⟨rfl, ?_⟩⟩
      by_cases ha : 2 ≤ a
      · exact Or.inr ⟨a - 2, nI_m2 ha, by omega, by omega⟩
      · refine Or.inl ?_
        have h5 : a = 0 ∨ a = 1 := by omega
        rcases h5 with rfl | rfl <;> decide
theorem wm_start {shift : Int32} {s : Nat} (hs : shift = nI s) (hl : s ≤ 12) (c : Prop) (step : Int32) (hst : step = 2 ∨ step = -2) : wmOK step 8 shift := by
  rcases hst with rfl | rfl
  · exact Or.inl ⟨rfl, s, hs, by omega, by omega⟩
  · exact Or.inr ⟨rfl, Or.inr ⟨s, hs, by omega, by omega⟩⟩
set_option maxHeartbeats 4000000 in
set_option maxRecDepth 100000 in
theorem M_LN_symbol (l : Launch) (D : va_G) (cI cJ cZ : ClassId) (code sh : Int32) : MK l D cI cJ cZ y_LN_symbol c_LN_symbol 2 (some FieldType.int) 0 0 [.int code, .int sh] [] 0 0 (rI (symF code sh) []) := by
  refine MC.of (by decide) bigW_good (Nat.le_of_ble_eq_true rfl) (fun κ C Z IN => ?_)
  refine e_iload_n C d_LN_symbol_0 rfl rfl ?_
  refine e_iload_n C d_LN_symbol_1 rfl rfl ?_
  refine e_iushr C d_LN_symbol_2 ?_
  refine e_iconst (v := 3) C d_LN_symbol_3 rfl ?_
  refine e_iand C d_LN_symbol_4 ?_
  exact e_iret C Z rfl (Nat.le_of_ble_eq_true rfl) (Nat.le_of_ble_eq_true rfl) (⟨rfl, rfl⟩) d_LN_symbol_5

set_option maxHeartbeats 4000000 in
set_option maxRecDepth 100000 in
theorem M_LN_withEnd (l : Launch) (D : va_G) (cI cJ cZ : ClassId) (code sh : Int32) : MK l D cI cJ cZ y_LN_withEnd c_LN_withEnd 2 (some FieldType.int) 1 21 [.int code, .int sh] [] 0 0 (rI (withEndF code sh) []) := by
  refine MC.of (by decide) bigW_good (Nat.le_of_ble_eq_true rfl) (fun κ C Z IN => ?_)
  refine e_iload_n C d_LN_withEnd_0 rfl rfl ?_
  refine e_iload_n C d_LN_withEnd_1 rfl rfl ?_
  refine e_callS (As := [.int code, .int sh]) (st := []) (wc := []) (wr := []) C (M_LN_symbol l D cI cJ cZ code sh) s_LN_symbol ml_LN_29 nwW_ok ⟨Nat.le_of_ble_eq_true rfl, Nat.le_of_ble_eq_true rfl⟩ ⟨Nat.le_of_ble_eq_true rfl, Nat.le_of_ble_eq_true rfl⟩ [] [] rfl rfl rfl rfl (by decide) (Nat.le_of_ble_eq_true rfl) rfl d_LN_withEnd_2 (fun v w1 hp => ?_)
  obtain ⟨rfl, rfl⟩ := hp
  refine e_perm (st' := [.int (symF code sh)]) (ws' := []) [] rfl rfl rfl ?_
  refine e_if_ne (tgt := 14) C d_LN_withEnd_5 (by decide) (fun h5 => ?_) (fun h5 => ?_)
  · -- 14
    refine e_iload_n C d_LN_withEnd_14 rfl rfl ?_
    refine e_iload_n C d_LN_withEnd_15 rfl rfl ?_
    refine e_iconst (v := 2) C d_LN_withEnd_16 rfl ?_
    refine e_iadd C d_LN_withEnd_17 ?_
    refine e_callS (As := [.int code, .int (sh + 2)]) (st := []) (wc := []) (wr := []) C (M_LN_symbol l D cI cJ cZ code (sh + 2)) s_LN_symbol ml_LN_29 nwW_ok ⟨Nat.le_of_ble_eq_true rfl, Nat.le_of_ble_eq_true rfl⟩ ⟨Nat.le_of_ble_eq_true rfl, Nat.le_of_ble_eq_true rfl⟩ [] [] rfl rfl rfl rfl (by decide) (Nat.le_of_ble_eq_true rfl) rfl d_LN_withEnd_18 (fun v w1 hp => ?_)
    obtain ⟨rfl, rfl⟩ := hp
    refine e_perm (st' := [.int (symF code (sh + 2))]) (ws' := []) [] rfl rfl rfl ?_
    refine e_if_ne (tgt := 34) C d_LN_withEnd_21 (by decide) (fun h21 => ?_) (fun h21 => ?_)
    · -- 34
      refine e_iconst (v := (-1)) C d_LN_withEnd_34 rfl ?_
      exact e_iret C Z rfl (Nat.le_of_ble_eq_true rfl) (Nat.le_of_ble_eq_true rfl) (⟨by (try simp only [bI_eq0, Bool.not_eq_false] at h5 h21); unfold withEndF; (first | rw [if_pos h5] | rw [if_neg h5] | rw [if_neg (Bool.eq_false_iff.mp h5)] | skip); (first | rw [if_pos h21] | rw [if_neg h21] | rw [if_neg (Bool.eq_false_iff.mp h21)] | skip), rfl⟩) d_LN_withEnd_35
    · -- 24
      refine e_iload_n C d_LN_withEnd_24 rfl rfl ?_
      refine e_iconst (v := 3) C d_LN_withEnd_25 rfl ?_
      refine e_iload_n C d_LN_withEnd_26 rfl rfl ?_
      refine e_iconst (v := 2) C d_LN_withEnd_27 rfl ?_
      refine e_iadd C d_LN_withEnd_28 ?_
      refine e_ishl C d_LN_withEnd_29 ?_
      refine e_ior C d_LN_withEnd_30 ?_
      refine e_goto (tgt := 35) C d_LN_withEnd_31 (by decide) ?_
      exact e_iret C Z rfl (Nat.le_of_ble_eq_true rfl) (Nat.le_of_ble_eq_true rfl) (⟨by (try simp only [bI_eq0, Bool.not_eq_false] at h5 h21); unfold withEndF; (first | rw [if_pos h5] | rw [if_neg h5] | rw [if_neg (Bool.eq_false_iff.mp h5)] | skip); (first | rw [if_pos h21] | rw [if_neg h21] | rw [if_neg (Bool.eq_false_iff.mp h21)] | skip), rfl⟩) d_LN_withEnd_35
  · -- 8
    refine e_iload_n C d_LN_withEnd_8 rfl rfl ?_
    refine e_iconst (v := 3) C d_LN_withEnd_9 rfl ?_
    refine e_iload_n C d_LN_withEnd_10 rfl rfl ?_
    refine e_ishl C d_LN_withEnd_11 ?_
    refine e_ior C d_LN_withEnd_12 ?_
    exact e_iret C Z rfl (Nat.le_of_ble_eq_true rfl) (Nat.le_of_ble_eq_true rfl) (⟨by (try simp only [bI_eq0, Bool.not_eq_false] at h5); unfold withEndF; (first | rw [if_pos h5] | rw [if_neg h5] | rw [if_neg (Bool.eq_false_iff.mp h5)] | skip), rfl⟩) d_LN_withEnd_13

set_option maxHeartbeats 4000000 in
set_option maxRecDepth 100000 in
theorem M_LN_withMate (l : Launch) (D : va_G) (cI cJ cZ : ClassId) (code rest shift becomes : Int32) (s : Nat) (hs : shift = nI s) (hl : s ≤ 12) : MK l D cI cJ cZ y_LN_withMate c_LN_withMate 9 (some FieldType.int) 1 21 [.int code, .int rest, .int shift, .int becomes] [] 0 0 (rI (withMateF code rest shift becomes) []) := by
  refine MC.of (by decide) bigW_good (Nat.le_of_ble_eq_true rfl) (fun κ C Z IN => ?_)
  refine e_iload_n C d_LN_withMate_0 rfl rfl ?_
  refine e_iload_n C d_LN_withMate_1 rfl rfl ?_
  refine e_callS (As := [.int code, .int shift]) (st := []) (wc := []) (wr := []) C (M_LN_symbol l D cI cJ cZ code shift) s_LN_symbol ml_LN_29 nwW_ok ⟨Nat.le_of_ble_eq_true rfl, Nat.le_of_ble_eq_true rfl⟩ ⟨Nat.le_of_ble_eq_true rfl, Nat.le_of_ble_eq_true rfl⟩ [] [] rfl rfl rfl rfl (by decide) (Nat.le_of_ble_eq_true rfl) rfl d_LN_withMate_2 (fun v w1 hp => ?_)
  obtain ⟨rfl, rfl⟩ := hp
  refine e_perm (st' := [.int (symF code shift)]) (ws' := []) [] rfl rfl rfl ?_
  refine e_istore C d_LN_withMate_5 (by decide) ?_
  refine e_lv [(0, .int code), (1, .int rest), (2, .int shift), (3, .int becomes), (4, .int (symF code shift))] ⟨rfl, rfl, rfl, rfl, rfl, trivial⟩ ?_
  have J19 : ∀ (y19 : Int32), y19 = (if symF code shift = 1 then 2 else -2) → E κ (lu_o [(0, .int code), (1, .int rest), (2, .int shift), (3, .int becomes), (4, .int (symF code shift))]) [.int y19] [] 0 0 19 := by
    intro y19 ey19
    refine e_istore C d_LN_withMate_19 (by decide) ?_
    refine e_iconst (v := 0) C d_LN_withMate_21 rfl ?_
    refine e_istore C d_LN_withMate_22 (by decide) ?_
    refine e_iload_n C d_LN_withMate_24 rfl rfl ?_
    refine e_istore C d_LN_withMate_25 (by decide) ?_
    have LP : ∀ (r : Nat) (q : Nat) (at_ d : Int32), wmOK y19 q at_ → wmF code rest (symF code shift) y19 becomes q at_ d = withMateF code rest shift becomes →  q < r → E κ (lu_o [(0, .int code), (1, .int rest), (3, .int becomes), (4, .int (symF code shift)), (5, .int y19), (6, .int d), (7, .int at_)]) [] [] 0 0 27 := by
      intro r
      induction r with
      | zero => intro q at_ d hok heq hm; exact absurd hm (Nat.not_lt_zero _)
      | succ r ihLP =>
        intro q at_ d hok heq hm
        refine e_iload C d_LN_withMate_27 rfl ?_
        refine e_if_lt (tgt := 101) C d_LN_withMate_29 (by decide) (fun h29 => ?_) (fun h29 => ?_)
        · -- 101
          refine e_iconst (v := (-1)) C d_LN_withMate_101 rfl ?_
          exact e_iret C Z rfl (Nat.le_of_ble_eq_true rfl) (Nat.le_of_ble_eq_true rfl) (⟨by rw [← heq, wmF_out q (by first | exact Or.inl h29 | exact Or.inr h36)], rfl⟩) d_LN_withMate_102
        · -- 32
          refine e_iload C d_LN_withMate_32 rfl ?_
          refine e_bipush (v := 10) C d_LN_withMate_34 (by decide) ?_
          refine e_icmp_gt (tgt := 101) C d_LN_withMate_36 (by decide) (fun h36 => ?_) (fun h36 => ?_)
          · -- 101
            refine e_iconst (v := (-1)) C d_LN_withMate_101 rfl ?_
            exact e_iret C Z rfl (Nat.le_of_ble_eq_true rfl) (Nat.le_of_ble_eq_true rfl) (⟨by rw [← heq, wmF_out q (by first | exact Or.inl h29 | exact Or.inr h36)], rfl⟩) d_LN_withMate_102
          · -- 39
            obtain ⟨q2, hq2, hok2⟩ := wm_next hok h29 h36
            subst hq2
            unfold wmF at heq
            rw [if_neg h29, if_neg h36] at heq
            refine e_iload_n C d_LN_withMate_39 rfl rfl ?_
            refine e_iload C d_LN_withMate_40 rfl ?_
            refine e_callS (As := [.int code, .int at_]) (st := []) (wc := []) (wr := []) C (M_LN_symbol l D cI cJ cZ code at_) s_LN_symbol ml_LN_29 nwW_ok ⟨Nat.le_of_ble_eq_true rfl, Nat.le_of_ble_eq_true rfl⟩ ⟨Nat.le_of_ble_eq_true rfl, Nat.le_of_ble_eq_true rfl⟩ [] [] rfl rfl rfl rfl (by decide) (Nat.le_of_ble_eq_true rfl) rfl d_LN_withMate_42 (fun v w1 hp => ?_)
            obtain ⟨rfl, rfl⟩ := hp
            refine e_perm (st' := [.int (symF code at_)]) (ws' := []) [] rfl rfl rfl ?_
            refine e_istore C d_LN_withMate_45 (by decide) ?_
            refine e_lv [(0, .int code), (1, .int rest), (3, .int becomes), (4, .int (symF code shift)), (5, .int y19), (6, .int d), (7, .int at_), (8, .int (symF code at_))] ⟨rfl, rfl, rfl, rfl, rfl, rfl, rfl, rfl, trivial⟩ ?_
            have J72 : ∀ (y72 : Int32), y72 = wmD code (symF code shift) at_ d → E κ (lu_o [(0, .int code), (1, .int rest), (3, .int becomes), (4, .int (symF code shift)), (5, .int y19), (6, .int y72), (7, .int at_), (8, .int (symF code at_))]) [] [] 0 0 72 := by
              intro y72 ey72
              refine e_iload C d_LN_withMate_72 rfl ?_
              refine e_if_ne (tgt := 91) C d_LN_withMate_74 (by decide) (fun h74 => ?_) (fun h74 => ?_)
              · -- 91
                have hnx : wmF code rest (symF code shift) y19 becomes q2 (at_ + y19) y72 = withMateF code rest shift becomes := by rw [← heq, if_neg (by rw [← ey72]; exact h74), ← ey72]
                refine e_iload C d_LN_withMate_91 rfl ?_
                refine e_iload C d_LN_withMate_93 rfl ?_
                refine e_iadd C d_LN_withMate_95 ?_
                refine e_istore C d_LN_withMate_96 (by decide) ?_
                refine e_goto (tgt := 27) C d_LN_withMate_98 (by decide) ?_
                refine e_lv [(0, .int code), (1, .int rest), (3, .int becomes), (4, .int (symF code shift)), (5, .int y19), (6, .int y72), (7, .int (at_ + y19))] ⟨rfl, rfl, rfl, rfl, rfl, rfl, rfl, trivial⟩ ?_
                refine e_ws [] rfl ?_
                exact ihLP q2 (at_ + y19) y72 hok2 hnx (by omega)
              · -- 77
                refine e_iload_n C d_LN_withMate_77 rfl rfl ?_
                refine e_iconst (v := 3) C d_LN_withMate_78 rfl ?_
                refine e_iload C d_LN_withMate_79 rfl ?_
                refine e_ishl C d_LN_withMate_81 ?_
                refine e_iconst (v := (-1)) C d_LN_withMate_82 rfl ?_
                refine e_ixor C d_LN_withMate_83 ?_
                refine e_iand C d_LN_withMate_84 ?_
                refine e_iload_n C d_LN_withMate_85 rfl rfl ?_
                refine e_iload C d_LN_withMate_86 rfl ?_
                refine e_ishl C d_LN_withMate_88 ?_
                refine e_ior C d_LN_withMate_89 ?_
                exact e_iret C Z rfl (Nat.le_of_ble_eq_true rfl) (Nat.le_of_ble_eq_true rfl) (⟨by rw [← heq, if_pos (by rw [← ey72]; exact h74)], rfl⟩) d_LN_withMate_90
            refine e_iload C d_LN_withMate_47 rfl ?_
            refine e_iload C d_LN_withMate_49 rfl ?_
            refine e_icmp_ne (tgt := 60) C d_LN_withMate_51 (by decide) (fun h51 => ?_) (fun h51 => ?_)
            · -- 60
              refine e_iload C d_LN_withMate_60 rfl ?_
              refine e_iload C d_LN_withMate_62 rfl ?_
              refine e_iadd C d_LN_withMate_64 ?_
              refine e_iconst (v := 3) C d_LN_withMate_65 rfl ?_
              refine e_icmp_ne (tgt := 72) C d_LN_withMate_66 (by decide) (fun h66 => ?_) (fun h66 => ?_)
              · -- 72
                refine e_lv [(0, .int code), (1, .int rest), (3, .int becomes), (4, .int (symF code shift)), (5, .int y19), (6, .int d), (7, .int at_), (8, .int (symF code at_))] ⟨rfl, rfl, rfl, rfl, rfl, rfl, rfl, rfl, trivial⟩ ?_
                exact J72 d (by unfold wmD; (first | rw [if_pos h51] | rw [if_neg h51] | rw [if_neg (Bool.eq_false_iff.mp h51)] | skip); (first | rw [if_pos h66] | rw [if_neg h66] | rw [if_neg (Bool.eq_false_iff.mp h66)] | skip))
              · -- 69
                refine e_iinc (v := d + (-1)) C d_LN_withMate_69 rfl rfl (by decide) ?_
                refine e_lv [(0, .int code), (1, .int rest), (3, .int becomes), (4, .int (symF code shift)), (5, .int y19), (6, .int (d + (-1))), (7, .int at_), (8, .int (symF code at_))] ⟨rfl, rfl, rfl, rfl, rfl, rfl, rfl, rfl, trivial⟩ ?_
                exact J72 (d + (-1)) (by unfold wmD; (first | rw [if_pos h51] | rw [if_neg h51] | rw [if_neg (Bool.eq_false_iff.mp h51)] | skip); (first | rw [if_pos h66] | rw [if_neg h66] | rw [if_neg (Bool.eq_false_iff.mp h66)] | skip))
            · -- 54
              refine e_iinc (v := d + 1) C d_LN_withMate_54 rfl rfl (by decide) ?_
              refine e_goto (tgt := 72) C d_LN_withMate_57 (by decide) ?_
              refine e_lv [(0, .int code), (1, .int rest), (3, .int becomes), (4, .int (symF code shift)), (5, .int y19), (6, .int (d + 1)), (7, .int at_), (8, .int (symF code at_))] ⟨rfl, rfl, rfl, rfl, rfl, rfl, rfl, rfl, trivial⟩ ?_
              exact J72 (d + 1) (by unfold wmD; (first | rw [if_pos h51] | rw [if_neg h51] | rw [if_neg (Bool.eq_false_iff.mp h51)] | skip))
    refine e_lv [(0, .int code), (1, .int rest), (3, .int becomes), (4, .int (symF code shift)), (5, .int y19), (6, .int 0), (7, .int shift)] ⟨rfl, rfl, rfl, rfl, rfl, rfl, rfl, trivial⟩ ?_
    refine e_ws [] rfl ?_
    exact LP _ 8 shift 0 (wm_start hs hl True _ (by rw [ey19]; by_cases c : symF code shift = 1; exact Or.inl (if_pos c); exact Or.inr (if_neg c))) (by rw [ey19]; rfl) (Nat.lt_succ_self _)
  refine e_iload C d_LN_withMate_7 rfl ?_
  refine e_iconst (v := 1) C d_LN_withMate_9 rfl ?_
  refine e_icmp_ne (tgt := 17) C d_LN_withMate_10 (by decide) (fun h10 => ?_) (fun h10 => ?_)
  · -- 17
    refine e_bipush (v := (-2)) C d_LN_withMate_17 (by decide) ?_
    refine e_lv [(0, .int code), (1, .int rest), (2, .int shift), (3, .int becomes), (4, .int (symF code shift))] ⟨rfl, rfl, rfl, rfl, rfl, trivial⟩ ?_
    exact J19 (-2) (by first | rw [if_pos h10] | rw [if_neg h10])
  · -- 13
    refine e_iconst (v := 2) C d_LN_withMate_13 rfl ?_
    refine e_goto (tgt := 19) C d_LN_withMate_14 (by decide) ?_
    refine e_lv [(0, .int code), (1, .int rest), (2, .int shift), (3, .int becomes), (4, .int (symF code shift))] ⟨rfl, rfl, rfl, rfl, rfl, trivial⟩ ?_
    exact J19 2 (by first | rw [if_pos h10] | rw [if_neg h10])

def restF (code sh : Int32) : Int32 := code &&& ((15 <<< (sh &&& 31)) ^^^ -1)
def jF (lp code sh left up rest : Int32) : Int32 :=
  if left = 1 ∧ up = 2 then (if rest = 0 then (if 1 = lp then 4096 else -1) else -1)
  else if left = 3 ∧ up = 3 then (if rest = 0 then (if 0 = lp then 4096 else -1) else -1)
  else if left = 2 ∧ up = 1 then rest
  else if left = 3 then withMateF code rest (sh + 2) 3
  else if up = 3 then withMateF code rest sh 3
  else if left = 1 then withMateF code rest (sh + 2) left else withMateF code rest sh left
def joinedF (lp code sh : Int32) : Int32 := jF lp code sh (symF code sh) (symF code (sh + 2)) (restF code sh)
set_option maxHeartbeats 4000000 in
set_option maxRecDepth 100000 in
theorem M_LN_joined (l : Launch) (D : va_G) (cI cJ cZ : ClassId) (r g : Nat) (lp code sh : Int32) (s : Nat) (hs : sh = nI s) (hl : s ≤ 10) : MK l D cI cJ cZ y_LN_joined c_LN_joined 7 (some FieldType.int) 2 49 [.ref r, .int code, .int sh] [oLN r g lp] 0 0 (rI (joinedF lp code sh) [oLN r g lp]) := by
  refine MC.of (by decide) bigW_good (Nat.le_of_ble_eq_true rfl) (fun κ C Z IN => ?_)
  refine e_iload_n C d_LN_joined_0 rfl rfl ?_
  refine e_iload_n C d_LN_joined_1 rfl rfl ?_
  refine e_callS (As := [.int code, .int sh]) (st := []) (wc := []) (wr := [oLN r g lp]) C (M_LN_symbol l D cI cJ cZ code sh) s_LN_symbol ml_LN_29 nwW_ok ⟨Nat.le_of_ble_eq_true rfl, Nat.le_of_ble_eq_true rfl⟩ ⟨Nat.le_of_ble_eq_true rfl, Nat.le_of_ble_eq_true rfl⟩ [] [0] rfl rfl rfl rfl (by decide) (Nat.le_of_ble_eq_true rfl) rfl d_LN_joined_2 (fun v w1 hp => ?_)
  obtain ⟨rfl, rfl⟩ := hp
  refine e_perm (st' := [.int (symF code sh)]) (ws' := [oLN r g lp]) [0] rfl rfl rfl ?_
  refine e_ti (fun x5 ex5 => ?_)
  refine e_istore_n C d_LN_joined_5 rfl (by decide) ?_
  refine e_iload_n C d_LN_joined_6 rfl rfl ?_
  refine e_iload_n C d_LN_joined_7 rfl rfl ?_
  refine e_iconst (v := 2) C d_LN_joined_8 rfl ?_
  refine e_iadd C d_LN_joined_9 ?_
  refine e_callS (As := [.int code, .int (sh + 2)]) (st := []) (wc := []) (wr := [oLN r g lp]) C (M_LN_symbol l D cI cJ cZ code (sh + 2)) s_LN_symbol ml_LN_29 nwW_ok ⟨Nat.le_of_ble_eq_true rfl, Nat.le_of_ble_eq_true rfl⟩ ⟨Nat.le_of_ble_eq_true rfl, Nat.le_of_ble_eq_true rfl⟩ [] [0] rfl rfl rfl rfl (by decide) (Nat.le_of_ble_eq_true rfl) rfl d_LN_joined_10 (fun v w1 hp => ?_)
  obtain ⟨rfl, rfl⟩ := hp
  refine e_perm (st' := [.int (symF code (sh + 2))]) (ws' := [oLN r g lp]) [0] rfl rfl rfl ?_
  refine e_ti (fun x13 ex13 => ?_)
  refine e_istore C d_LN_joined_13 (by decide) ?_
  refine e_iload_n C d_LN_joined_15 rfl rfl ?_
  refine e_bipush (v := 15) C d_LN_joined_16 (by decide) ?_
  refine e_iload_n C d_LN_joined_18 rfl rfl ?_
  refine e_ishl C d_LN_joined_19 ?_
  refine e_iconst (v := (-1)) C d_LN_joined_20 rfl ?_
  refine e_ixor C d_LN_joined_21 ?_
  refine e_iand C d_LN_joined_22 ?_
  refine e_ti (fun x23 ex23 => ?_)
  refine e_istore C d_LN_joined_23 (by decide) ?_
  refine e_iload_n C d_LN_joined_25 rfl rfl ?_
  refine e_iconst (v := 1) C d_LN_joined_26 rfl ?_
  refine e_icmp_ne (tgt := 40) C d_LN_joined_27 (by decide) (fun h27 => ?_) (fun h27 => ?_)
  · -- 40
    refine e_iconst (v := 0) C d_LN_joined_40 rfl ?_
    refine e_istore C d_LN_joined_41 (by decide) ?_
    refine e_iload C d_LN_joined_43 rfl ?_
    refine e_if_ne (tgt := 59) C d_LN_joined_45 (by decide) (fun h45 => ?_) (fun h45 => ?_)
    · exact absurd rfl h45
    · -- 48
      refine e_iload_n C d_LN_joined_48 rfl rfl ?_
      refine e_iconst (v := 3) C d_LN_joined_49 rfl ?_
      refine e_icmp_ne (tgt := 81) C d_LN_joined_50 (by decide) (fun h50 => ?_) (fun h50 => ?_)
      · -- 81
        refine e_iload_n C d_LN_joined_81 rfl rfl ?_
        refine e_iconst (v := 2) C d_LN_joined_82 rfl ?_
        refine e_icmp_ne (tgt := 95) C d_LN_joined_83 (by decide) (fun h83 => ?_) (fun h83 => ?_)
        · -- 95
          refine e_iload_n C d_LN_joined_95 rfl rfl ?_
          refine e_iconst (v := 3) C d_LN_joined_96 rfl ?_
          refine e_icmp_ne (tgt := 111) C d_LN_joined_97 (by decide) (fun h97 => ?_) (fun h97 => ?_)
          · -- 111
            refine e_iload C d_LN_joined_111 rfl ?_
            refine e_iconst (v := 3) C d_LN_joined_113 rfl ?_
            refine e_icmp_ne (tgt := 126) C d_LN_joined_114 (by decide) (fun h114 => ?_) (fun h114 => ?_)
            · -- 126
              refine e_iload_n C d_LN_joined_126 rfl rfl ?_
              refine e_iload C d_LN_joined_127 rfl ?_
              refine e_iload_n C d_LN_joined_129 rfl rfl ?_
              refine e_iconst (v := 1) C d_LN_joined_130 rfl ?_
              refine e_icmp_ne (tgt := 140) C d_LN_joined_131 (by decide) (fun h131 => ?_) (fun h131 => ?_)
              · -- 140
                refine e_iload_n C d_LN_joined_140 rfl rfl ?_
                refine e_iload_n C d_LN_joined_141 rfl rfl ?_
                refine e_callS (As := [.int code, .int x23, .int sh, .int x5]) (st := []) (wc := []) (wr := [oLN r g lp]) C (M_LN_withMate l D cI cJ cZ code x23 sh x5 (s) hs (by omega)) s_LN_withMate ml_LN_41 nwW_ok ⟨Nat.le_of_ble_eq_true rfl, Nat.le_of_ble_eq_true rfl⟩ ⟨Nat.le_of_ble_eq_true rfl, Nat.le_of_ble_eq_true rfl⟩ [] [0] rfl rfl rfl rfl (by decide) (Nat.le_of_ble_eq_true rfl) rfl d_LN_joined_142 (fun v w1 hp => ?_)
                obtain ⟨rfl, rfl⟩ := hp
                refine e_perm (st' := [.int (withMateF code x23 sh x5)]) (ws' := [oLN r g lp]) [0] rfl rfl rfl ?_
                exact e_iret C Z rfl (Nat.le_of_ble_eq_true rfl) (Nat.le_of_ble_eq_true rfl) (⟨by unfold joinedF restF; rw [← ex5, ← ex13, ← ex23]; simp [jF, h27, h45, h50, h83, h97, h114, h131], rfl⟩) d_LN_joined_145
              · exact absurd h131 h27
            · -- 117
              refine e_iload_n C d_LN_joined_117 rfl rfl ?_
              refine e_iload C d_LN_joined_118 rfl ?_
              refine e_iload_n C d_LN_joined_120 rfl rfl ?_
              refine e_iconst (v := 3) C d_LN_joined_121 rfl ?_
              refine e_callS (As := [.int code, .int x23, .int sh, .int 3]) (st := []) (wc := []) (wr := [oLN r g lp]) C (M_LN_withMate l D cI cJ cZ code x23 sh 3 (s) hs (by omega)) s_LN_withMate ml_LN_41 nwW_ok ⟨Nat.le_of_ble_eq_true rfl, Nat.le_of_ble_eq_true rfl⟩ ⟨Nat.le_of_ble_eq_true rfl, Nat.le_of_ble_eq_true rfl⟩ [] [0] rfl rfl rfl rfl (by decide) (Nat.le_of_ble_eq_true rfl) rfl d_LN_joined_122 (fun v w1 hp => ?_)
              obtain ⟨rfl, rfl⟩ := hp
              refine e_perm (st' := [.int (withMateF code x23 sh 3)]) (ws' := [oLN r g lp]) [0] rfl rfl rfl ?_
              exact e_iret C Z rfl (Nat.le_of_ble_eq_true rfl) (Nat.le_of_ble_eq_true rfl) (⟨by unfold joinedF restF; rw [← ex5, ← ex13, ← ex23]; simp [jF, h27, h45, h50, h83, h97, h114], rfl⟩) d_LN_joined_125
          · exact absurd h97 h50
        · -- 86
          refine e_iload C d_LN_joined_86 rfl ?_
          refine e_iconst (v := 1) C d_LN_joined_88 rfl ?_
          refine e_icmp_ne (tgt := 95) C d_LN_joined_89 (by decide) (fun h89 => ?_) (fun h89 => ?_)
          · -- 95
            refine e_iload_n C d_LN_joined_95 rfl rfl ?_
            refine e_iconst (v := 3) C d_LN_joined_96 rfl ?_
            refine e_icmp_ne (tgt := 111) C d_LN_joined_97 (by decide) (fun h97 => ?_) (fun h97 => ?_)
            · -- 111
              refine e_iload C d_LN_joined_111 rfl ?_
              refine e_iconst (v := 3) C d_LN_joined_113 rfl ?_
              refine e_icmp_ne (tgt := 126) C d_LN_joined_114 (by decide) (fun h114 => ?_) (fun h114 => ?_)
              · -- 126
                refine e_iload_n C d_LN_joined_126 rfl rfl ?_
                refine e_iload C d_LN_joined_127 rfl ?_
                refine e_iload_n C d_LN_joined_129 rfl rfl ?_
                refine e_iconst (v := 1) C d_LN_joined_130 rfl ?_
                refine e_icmp_ne (tgt := 140) C d_LN_joined_131 (by decide) (fun h131 => ?_) (fun h131 => ?_)
                · -- 140
                  refine e_iload_n C d_LN_joined_140 rfl rfl ?_
                  refine e_iload_n C d_LN_joined_141 rfl rfl ?_
                  refine e_callS (As := [.int code, .int x23, .int sh, .int x5]) (st := []) (wc := []) (wr := [oLN r g lp]) C (M_LN_withMate l D cI cJ cZ code x23 sh x5 (s) hs (by omega)) s_LN_withMate ml_LN_41 nwW_ok ⟨Nat.le_of_ble_eq_true rfl, Nat.le_of_ble_eq_true rfl⟩ ⟨Nat.le_of_ble_eq_true rfl, Nat.le_of_ble_eq_true rfl⟩ [] [0] rfl rfl rfl rfl (by decide) (Nat.le_of_ble_eq_true rfl) rfl d_LN_joined_142 (fun v w1 hp => ?_)
                  obtain ⟨rfl, rfl⟩ := hp
                  refine e_perm (st' := [.int (withMateF code x23 sh x5)]) (ws' := [oLN r g lp]) [0] rfl rfl rfl ?_
                  exact e_iret C Z rfl (Nat.le_of_ble_eq_true rfl) (Nat.le_of_ble_eq_true rfl) (⟨by unfold joinedF restF; rw [← ex5, ← ex13, ← ex23]; simp [jF, h27, h45, h50, h83, h89, h97, h114, h131], rfl⟩) d_LN_joined_145
                · exact absurd h131 h27
              · -- 117
                refine e_iload_n C d_LN_joined_117 rfl rfl ?_
                refine e_iload C d_LN_joined_118 rfl ?_
                refine e_iload_n C d_LN_joined_120 rfl rfl ?_
                refine e_iconst (v := 3) C d_LN_joined_121 rfl ?_
                refine e_callS (As := [.int code, .int x23, .int sh, .int 3]) (st := []) (wc := []) (wr := [oLN r g lp]) C (M_LN_withMate l D cI cJ cZ code x23 sh 3 (s) hs (by omega)) s_LN_withMate ml_LN_41 nwW_ok ⟨Nat.le_of_ble_eq_true rfl, Nat.le_of_ble_eq_true rfl⟩ ⟨Nat.le_of_ble_eq_true rfl, Nat.le_of_ble_eq_true rfl⟩ [] [0] rfl rfl rfl rfl (by decide) (Nat.le_of_ble_eq_true rfl) rfl d_LN_joined_122 (fun v w1 hp => ?_)
                obtain ⟨rfl, rfl⟩ := hp
                refine e_perm (st' := [.int (withMateF code x23 sh 3)]) (ws' := [oLN r g lp]) [0] rfl rfl rfl ?_
                exact e_iret C Z rfl (Nat.le_of_ble_eq_true rfl) (Nat.le_of_ble_eq_true rfl) (⟨by unfold joinedF restF; rw [← ex5, ← ex13, ← ex23]; simp [jF, h27, h45, h50, h83, h89, h97, h114], rfl⟩) d_LN_joined_125
            · exact absurd h97 h50
          · -- 92
            refine e_iload C d_LN_joined_92 rfl ?_
            exact e_iret C Z rfl (Nat.le_of_ble_eq_true rfl) (Nat.le_of_ble_eq_true rfl) (⟨by unfold joinedF restF; rw [← ex5, ← ex13, ← ex23]; simp [jF, h27, h45, h50, h83, h89], rfl⟩) d_LN_joined_94
      · -- 53
        refine e_iload C d_LN_joined_53 rfl ?_
        refine e_iconst (v := 3) C d_LN_joined_55 rfl ?_
        refine e_icmp_ne (tgt := 81) C d_LN_joined_56 (by decide) (fun h56 => ?_) (fun h56 => ?_)
        · -- 81
          refine e_iload_n C d_LN_joined_81 rfl rfl ?_
          refine e_iconst (v := 2) C d_LN_joined_82 rfl ?_
          refine e_icmp_ne (tgt := 95) C d_LN_joined_83 (by decide) (fun h83 => ?_) (fun h83 => ?_)
          · -- 95
            refine e_iload_n C d_LN_joined_95 rfl rfl ?_
            refine e_iconst (v := 3) C d_LN_joined_96 rfl ?_
            refine e_icmp_ne (tgt := 111) C d_LN_joined_97 (by decide) (fun h97 => ?_) (fun h97 => ?_)
            · exact absurd h50 h97
            · -- 100
              refine e_iload_n C d_LN_joined_100 rfl rfl ?_
              refine e_iload C d_LN_joined_101 rfl ?_
              refine e_iload_n C d_LN_joined_103 rfl rfl ?_
              refine e_iconst (v := 2) C d_LN_joined_104 rfl ?_
              refine e_iadd C d_LN_joined_105 ?_
              refine e_iconst (v := 3) C d_LN_joined_106 rfl ?_
              refine e_callS (As := [.int code, .int x23, .int (sh + 2), .int 3]) (st := []) (wc := []) (wr := [oLN r g lp]) C (M_LN_withMate l D cI cJ cZ code x23 (sh + 2) 3 (s + 2) (by rw [hs]; exact nI_add s 2) (by omega)) s_LN_withMate ml_LN_41 nwW_ok ⟨Nat.le_of_ble_eq_true rfl, Nat.le_of_ble_eq_true rfl⟩ ⟨Nat.le_of_ble_eq_true rfl, Nat.le_of_ble_eq_true rfl⟩ [] [0] rfl rfl rfl rfl (by decide) (Nat.le_of_ble_eq_true rfl) rfl d_LN_joined_107 (fun v w1 hp => ?_)
              obtain ⟨rfl, rfl⟩ := hp
              refine e_perm (st' := [.int (withMateF code x23 (sh + 2) 3)]) (ws' := [oLN r g lp]) [0] rfl rfl rfl ?_
              exact e_iret C Z rfl (Nat.le_of_ble_eq_true rfl) (Nat.le_of_ble_eq_true rfl) (⟨by unfold joinedF restF; rw [← ex5, ← ex13, ← ex23]; simp [jF, h27, h45, h50, h56, h83, h97], rfl⟩) d_LN_joined_110
          · exact absurd (h50.symm.trans h83) (by decide)
        · -- 59
          refine e_iload C d_LN_joined_59 rfl ?_
          refine e_if_ne (tgt := 79) C d_LN_joined_61 (by decide) (fun h61 => ?_) (fun h61 => ?_)
          · -- 79
            refine e_iconst (v := (-1)) C d_LN_joined_79 rfl ?_
            exact e_iret C Z rfl (Nat.le_of_ble_eq_true rfl) (Nat.le_of_ble_eq_true rfl) (⟨by unfold joinedF restF; rw [← ex5, ← ex13, ← ex23]; simp [jF, h27, h45, h50, h56, h61], rfl⟩) d_LN_joined_80
          · -- 64
            refine e_iload C d_LN_joined_64 rfl ?_
            refine e_aload_n C d_LN_joined_66 rfl rfl ?_
            refine e_get C hin_LN 0 rfl rfl 1 (by decide) fl_LN_15 rfl d_LN_joined_67 ?_
            refine e_icmp_ne (tgt := 79) C d_LN_joined_70 (by decide) (fun h70 => ?_) (fun h70 => ?_)
            · -- 79
              refine e_iconst (v := (-1)) C d_LN_joined_79 rfl ?_
              exact e_iret C Z rfl (Nat.le_of_ble_eq_true rfl) (Nat.le_of_ble_eq_true rfl) (⟨by unfold joinedF restF; rw [← ex5, ← ex13, ← ex23]; simp [jF, h27, h45, h50, h56, h61, h70], rfl⟩) d_LN_joined_80
            · -- 73
              refine e_sipush (v := 4096) C d_LN_joined_73 (by decide) ?_
              refine e_goto (tgt := 80) C d_LN_joined_76 (by decide) ?_
              exact e_iret C Z rfl (Nat.le_of_ble_eq_true rfl) (Nat.le_of_ble_eq_true rfl) (⟨by unfold joinedF restF; rw [← ex5, ← ex13, ← ex23]; simp [jF, h27, h45, h50, h56, h61, h70], rfl⟩) d_LN_joined_80
  · -- 30
    refine e_iload C d_LN_joined_30 rfl ?_
    refine e_iconst (v := 2) C d_LN_joined_32 rfl ?_
    refine e_icmp_ne (tgt := 40) C d_LN_joined_33 (by decide) (fun h33 => ?_) (fun h33 => ?_)
    · -- 40
      refine e_iconst (v := 0) C d_LN_joined_40 rfl ?_
      refine e_istore C d_LN_joined_41 (by decide) ?_
      refine e_iload C d_LN_joined_43 rfl ?_
      refine e_if_ne (tgt := 59) C d_LN_joined_45 (by decide) (fun h45 => ?_) (fun h45 => ?_)
      · exact absurd rfl h45
      · -- 48
        refine e_iload_n C d_LN_joined_48 rfl rfl ?_
        refine e_iconst (v := 3) C d_LN_joined_49 rfl ?_
        refine e_icmp_ne (tgt := 81) C d_LN_joined_50 (by decide) (fun h50 => ?_) (fun h50 => ?_)
        · -- 81
          refine e_iload_n C d_LN_joined_81 rfl rfl ?_
          refine e_iconst (v := 2) C d_LN_joined_82 rfl ?_
          refine e_icmp_ne (tgt := 95) C d_LN_joined_83 (by decide) (fun h83 => ?_) (fun h83 => ?_)
          · -- 95
            refine e_iload_n C d_LN_joined_95 rfl rfl ?_
            refine e_iconst (v := 3) C d_LN_joined_96 rfl ?_
            refine e_icmp_ne (tgt := 111) C d_LN_joined_97 (by decide) (fun h97 => ?_) (fun h97 => ?_)
            · -- 111
              refine e_iload C d_LN_joined_111 rfl ?_
              refine e_iconst (v := 3) C d_LN_joined_113 rfl ?_
              refine e_icmp_ne (tgt := 126) C d_LN_joined_114 (by decide) (fun h114 => ?_) (fun h114 => ?_)
              · -- 126
                refine e_iload_n C d_LN_joined_126 rfl rfl ?_
                refine e_iload C d_LN_joined_127 rfl ?_
                refine e_iload_n C d_LN_joined_129 rfl rfl ?_
                refine e_iconst (v := 1) C d_LN_joined_130 rfl ?_
                refine e_icmp_ne (tgt := 140) C d_LN_joined_131 (by decide) (fun h131 => ?_) (fun h131 => ?_)
                · exact absurd h27 h131
                · -- 134
                  refine e_iload_n C d_LN_joined_134 rfl rfl ?_
                  refine e_iconst (v := 2) C d_LN_joined_135 rfl ?_
                  refine e_iadd C d_LN_joined_136 ?_
                  refine e_goto (tgt := 141) C d_LN_joined_137 (by decide) ?_
                  refine e_iload_n C d_LN_joined_141 rfl rfl ?_
                  refine e_callS (As := [.int code, .int x23, .int (sh + 2), .int x5]) (st := []) (wc := []) (wr := [oLN r g lp]) C (M_LN_withMate l D cI cJ cZ code x23 (sh + 2) x5 (s + 2) (by rw [hs]; exact nI_add s 2) (by omega)) s_LN_withMate ml_LN_41 nwW_ok ⟨Nat.le_of_ble_eq_true rfl, Nat.le_of_ble_eq_true rfl⟩ ⟨Nat.le_of_ble_eq_true rfl, Nat.le_of_ble_eq_true rfl⟩ [] [0] rfl rfl rfl rfl (by decide) (Nat.le_of_ble_eq_true rfl) rfl d_LN_joined_142 (fun v w1 hp => ?_)
                  obtain ⟨rfl, rfl⟩ := hp
                  refine e_perm (st' := [.int (withMateF code x23 (sh + 2) x5)]) (ws' := [oLN r g lp]) [0] rfl rfl rfl ?_
                  exact e_iret C Z rfl (Nat.le_of_ble_eq_true rfl) (Nat.le_of_ble_eq_true rfl) (⟨by unfold joinedF restF; rw [← ex5, ← ex13, ← ex23]; simp [jF, h27, h33, h45, h50, h83, h97, h114, h131], rfl⟩) d_LN_joined_145
              · -- 117
                refine e_iload_n C d_LN_joined_117 rfl rfl ?_
                refine e_iload C d_LN_joined_118 rfl ?_
                refine e_iload_n C d_LN_joined_120 rfl rfl ?_
                refine e_iconst (v := 3) C d_LN_joined_121 rfl ?_
                refine e_callS (As := [.int code, .int x23, .int sh, .int 3]) (st := []) (wc := []) (wr := [oLN r g lp]) C (M_LN_withMate l D cI cJ cZ code x23 sh 3 (s) hs (by omega)) s_LN_withMate ml_LN_41 nwW_ok ⟨Nat.le_of_ble_eq_true rfl, Nat.le_of_ble_eq_true rfl⟩ ⟨Nat.le_of_ble_eq_true rfl, Nat.le_of_ble_eq_true rfl⟩ [] [0] rfl rfl rfl rfl (by decide) (Nat.le_of_ble_eq_true rfl) rfl d_LN_joined_122 (fun v w1 hp => ?_)
                obtain ⟨rfl, rfl⟩ := hp
                refine e_perm (st' := [.int (withMateF code x23 sh 3)]) (ws' := [oLN r g lp]) [0] rfl rfl rfl ?_
                exact e_iret C Z rfl (Nat.le_of_ble_eq_true rfl) (Nat.le_of_ble_eq_true rfl) (⟨by unfold joinedF restF; rw [← ex5, ← ex13, ← ex23]; simp [jF, h27, h33, h45, h50, h83, h97, h114], rfl⟩) d_LN_joined_125
            · exact absurd (h27.symm.trans h97) (by decide)
          · exact absurd (h27.symm.trans h83) (by decide)
        · exact absurd (h27.symm.trans h50) (by decide)
    · -- 36
      refine e_iconst (v := 1) C d_LN_joined_36 rfl ?_
      refine e_goto (tgt := 41) C d_LN_joined_37 (by decide) ?_
      refine e_istore C d_LN_joined_41 (by decide) ?_
      refine e_iload C d_LN_joined_43 rfl ?_
      refine e_if_ne (tgt := 59) C d_LN_joined_45 (by decide) (fun h45 => ?_) (fun h45 => ?_)
      · -- 59
        refine e_iload C d_LN_joined_59 rfl ?_
        refine e_if_ne (tgt := 79) C d_LN_joined_61 (by decide) (fun h61 => ?_) (fun h61 => ?_)
        · -- 79
          refine e_iconst (v := (-1)) C d_LN_joined_79 rfl ?_
          exact e_iret C Z rfl (Nat.le_of_ble_eq_true rfl) (Nat.le_of_ble_eq_true rfl) (⟨by unfold joinedF restF; rw [← ex5, ← ex13, ← ex23]; simp [jF, h27, h33, h45, h61], rfl⟩) d_LN_joined_80
        · -- 64
          refine e_iload C d_LN_joined_64 rfl ?_
          refine e_aload_n C d_LN_joined_66 rfl rfl ?_
          refine e_get C hin_LN 0 rfl rfl 1 (by decide) fl_LN_15 rfl d_LN_joined_67 ?_
          refine e_icmp_ne (tgt := 79) C d_LN_joined_70 (by decide) (fun h70 => ?_) (fun h70 => ?_)
          · -- 79
            refine e_iconst (v := (-1)) C d_LN_joined_79 rfl ?_
            exact e_iret C Z rfl (Nat.le_of_ble_eq_true rfl) (Nat.le_of_ble_eq_true rfl) (⟨by unfold joinedF restF; rw [← ex5, ← ex13, ← ex23]; simp [jF, h27, h33, h45, h61, h70], rfl⟩) d_LN_joined_80
          · -- 73
            refine e_sipush (v := 4096) C d_LN_joined_73 (by decide) ?_
            refine e_goto (tgt := 80) C d_LN_joined_76 (by decide) ?_
            exact e_iret C Z rfl (Nat.le_of_ble_eq_true rfl) (Nat.le_of_ble_eq_true rfl) (⟨by unfold joinedF restF; rw [← ex5, ← ex13, ← ex23]; simp [jF, h27, h33, h45, h61, h70], rfl⟩) d_LN_joined_80
      · exact absurd h45 (by decide)

def caf4 (lp choice sh code left up rest deg : Int32) : Int32 :=
  if deg = 0 then rest else if deg = 2 then (if choice = 0 then joinedF lp code sh else if choice = 3 then (rest ||| (1 <<< (sh &&& 31))) ||| (2 <<< ((sh + 2) &&& 31)) else if choice = 1 then rest ||| ((left ||| up) <<< (sh &&& 31)) else rest ||| ((left ||| up) <<< ((sh + 2) &&& 31))) else -1
def caf3 (lp choice sh code left up rest : Int32) : Int32 := caf4 lp choice sh code left up rest (((if left = 0 then 0 else 1) + (if up = 0 then 0 else 1)) + bcF choice)
def caf2 (lp choice sh code : Int32) : Int32 := if code = -1 then -1 else caf3 lp choice sh code (symF code sh) (symF code (sh + 2)) (restF code sh)
def caf1 (lp : Int32) (en : Bool) (sh code : Int32) : Int32 := if lp = 0 then (if en = true then withEndF code sh else code) else code
def cafL (lp : Int32) (en : Bool) (before sh column choice : Int32) : Int32 :=
  if before = 4096 then (if choice = 0 then 4096 else -1) else caf2 lp choice sh (caf1 lp en sh (if column = 0 then before <<< ((2 : Int32) &&& 31) else before))
set_option maxHeartbeats 4000000 in
set_option maxRecDepth 100000 in
theorem M_LN_codeAfter (l : Launch) (D : va_G) (cI cJ cZ : ClassId) (r g : Nat) (lp : Int32) (wd ht pl ho : Int32) (op : Int64) (lpl ea eb : Int32) (before place choice : Int32) (col : Nat) (hcol : col ≤ 4) : MK l D cI cJ cZ y_LN_codeAfter c_LN_codeAfter 11 (some FieldType.int) 3 75 [.ref r, .int before, .int place, .int (nI col), .int choice] [oLN r g lp, oGR g wd ht pl ho op lpl ea eb] 0 0 (rI (cafL lp (isEndF ea eb place) before (nI (2 * col)) (nI col) choice) [oLN r g lp, oGR g wd ht pl ho op lpl ea eb]) := by
  refine MC.of (by decide) bigW_good (Nat.le_of_ble_eq_true rfl) (fun κ C Z IN => ?_)
  refine e_iload_n C d_LN_codeAfter_0 rfl rfl ?_
  refine e_sipush (v := 4096) C d_LN_codeAfter_1 (by decide) ?_
  refine e_icmp_ne (tgt := 20) C d_LN_codeAfter_4 (by decide) (fun h4 => ?_) (fun h4 => ?_)
  · -- 20
    refine e_iconst (v := 2) C d_LN_codeAfter_20 rfl ?_
    refine e_iload_n C d_LN_codeAfter_21 rfl rfl ?_
    refine e_imul C d_LN_codeAfter_22 ?_
    refine e_st [.int (nI (2 * col))] (congrArg (fun z => [Value.int z]) (pk_mul 2 col)) ?_
    refine e_istore C d_LN_codeAfter_23 (by decide) ?_
    refine e_lv [(0, .ref r), (1, .int before), (2, .int place), (3, .int (nI col)), (4, .int choice), (5, .int (nI (2 * col)))] ⟨rfl, rfl, rfl, rfl, rfl, rfl, trivial⟩ ?_
    have J36 : ∀ (y36 : Int32), y36 = (if nI col = 0 then before <<< ((2 : Int32) &&& 31) else before) → E κ (lu_o [(0, .ref r), (1, .int before), (2, .int place), (3, .int (nI col)), (4, .int choice), (5, .int (nI (2 * col)))]) [.int y36] [oLN r g lp, oGR g wd ht pl ho op lpl ea eb] 0 0 36 := by
      intro y36 ey36
      refine e_istore C d_LN_codeAfter_36 (by decide) ?_
      refine e_lv [(0, .ref r), (1, .int before), (2, .int place), (3, .int (nI col)), (4, .int choice), (5, .int (nI (2 * col))), (6, .int y36)] ⟨rfl, rfl, rfl, rfl, rfl, rfl, rfl, trivial⟩ ?_
      have J65 : ∀ (y65 : Int32), y65 = caf1 lp (isEndF ea eb place) (nI (2 * col)) y36 → E κ (lu_o [(0, .ref r), (1, .int before), (2, .int place), (3, .int (nI col)), (4, .int choice), (5, .int (nI (2 * col))), (6, .int y65)]) [] [oLN r g lp, oGR g wd ht pl ho op lpl ea eb] 0 0 65 := by
        intro y65 ey65
        refine e_iload C d_LN_codeAfter_65 rfl ?_
        refine e_iconst (v := (-1)) C d_LN_codeAfter_67 rfl ?_
        refine e_icmp_ne (tgt := 73) C d_LN_codeAfter_68 (by decide) (fun h68 => ?_) (fun h68 => ?_)
        · -- 73
          refine e_iload C d_LN_codeAfter_73 rfl ?_
          refine e_iload C d_LN_codeAfter_75 rfl ?_
          refine e_callS (As := [.int y65, .int (nI (2 * col))]) (st := []) (wc := []) (wr := [oLN r g lp, oGR g wd ht pl ho op lpl ea eb]) C (M_LN_symbol l D cI cJ cZ y65 (nI (2 * col))) s_LN_symbol ml_LN_29 nwW_ok ⟨Nat.le_of_ble_eq_true rfl, Nat.le_of_ble_eq_true rfl⟩ ⟨Nat.le_of_ble_eq_true rfl, Nat.le_of_ble_eq_true rfl⟩ [] [0, 1] rfl rfl rfl rfl (by decide) (Nat.le_of_ble_eq_true rfl) rfl d_LN_codeAfter_77 (fun v w1 hp => ?_)
          obtain ⟨rfl, rfl⟩ := hp
          refine e_perm (st' := [.int (symF y65 (nI (2 * col)))]) (ws' := [oLN r g lp, oGR g wd ht pl ho op lpl ea eb]) [0, 1] rfl rfl rfl ?_
          refine e_ti (fun x80 ex80 => ?_)
          refine e_istore C d_LN_codeAfter_80 (by decide) ?_
          refine e_iload C d_LN_codeAfter_82 rfl ?_
          refine e_iload C d_LN_codeAfter_84 rfl ?_
          refine e_iconst (v := 2) C d_LN_codeAfter_86 rfl ?_
          refine e_iadd C d_LN_codeAfter_87 ?_
          refine e_callS (As := [.int y65, .int ((nI (2 * col)) + 2)]) (st := []) (wc := []) (wr := [oLN r g lp, oGR g wd ht pl ho op lpl ea eb]) C (M_LN_symbol l D cI cJ cZ y65 ((nI (2 * col)) + 2)) s_LN_symbol ml_LN_29 nwW_ok ⟨Nat.le_of_ble_eq_true rfl, Nat.le_of_ble_eq_true rfl⟩ ⟨Nat.le_of_ble_eq_true rfl, Nat.le_of_ble_eq_true rfl⟩ [] [0, 1] rfl rfl rfl rfl (by decide) (Nat.le_of_ble_eq_true rfl) rfl d_LN_codeAfter_88 (fun v w1 hp => ?_)
          obtain ⟨rfl, rfl⟩ := hp
          refine e_perm (st' := [.int (symF y65 ((nI (2 * col)) + 2))]) (ws' := [oLN r g lp, oGR g wd ht pl ho op lpl ea eb]) [0, 1] rfl rfl rfl ?_
          refine e_ti (fun x91 ex91 => ?_)
          refine e_istore C d_LN_codeAfter_91 (by decide) ?_
          refine e_iload C d_LN_codeAfter_93 rfl ?_
          refine e_bipush (v := 15) C d_LN_codeAfter_95 (by decide) ?_
          refine e_iload C d_LN_codeAfter_97 rfl ?_
          refine e_ishl C d_LN_codeAfter_99 ?_
          refine e_iconst (v := (-1)) C d_LN_codeAfter_100 rfl ?_
          refine e_ixor C d_LN_codeAfter_101 ?_
          refine e_iand C d_LN_codeAfter_102 ?_
          refine e_ti (fun x103 ex103 => ?_)
          refine e_istore C d_LN_codeAfter_103 (by decide) ?_
          refine e_lv [(0, .ref r), (1, .int before), (2, .int place), (3, .int (nI col)), (4, .int choice), (5, .int (nI (2 * col))), (6, .int y65), (7, .int x80), (8, .int x91), (9, .int x103)] ⟨rfl, rfl, rfl, rfl, rfl, rfl, rfl, rfl, rfl, rfl, trivial⟩ ?_
          have J115 : ∀ (y115 : Int32), y115 = (if x80 = 0 then 0 else 1) → E κ (lu_o [(0, .ref r), (1, .int before), (2, .int place), (3, .int (nI col)), (4, .int choice), (5, .int (nI (2 * col))), (6, .int y65), (7, .int x80), (8, .int x91), (9, .int x103)]) [.int y115] [oLN r g lp, oGR g wd ht pl ho op lpl ea eb] 0 0 115 := by
            intro y115 ey115
            refine e_iload C d_LN_codeAfter_115 rfl ?_
            refine e_lv [(0, .ref r), (1, .int before), (2, .int place), (3, .int (nI col)), (4, .int choice), (5, .int (nI (2 * col))), (6, .int y65), (7, .int x80), (8, .int x91), (9, .int x103)] ⟨rfl, rfl, rfl, rfl, rfl, rfl, rfl, rfl, rfl, rfl, trivial⟩ ?_
            have J125 : ∀ (y125 : Int32), y125 = (if x91 = 0 then 0 else 1) → E κ (lu_o [(0, .ref r), (1, .int before), (2, .int place), (3, .int (nI col)), (4, .int choice), (5, .int (nI (2 * col))), (6, .int y65), (7, .int x80), (8, .int x91), (9, .int x103)]) [.int y125, .int y115] [oLN r g lp, oGR g wd ht pl ho op lpl ea eb] 0 0 125 := by
              intro y125 ey125
              refine e_iadd C d_LN_codeAfter_125 ?_
              refine e_iload C d_LN_codeAfter_126 rfl ?_
              refine e_callS (As := [.int choice]) (st := [.int (y115 + y125)]) (wc := []) (wr := [oLN r g lp, oGR g wd ht pl ho op lpl ea eb]) C (M_JI_bitCount l D cI cJ cZ choice) s_JI_bitCount ml_LN_32 nwW_ok ⟨Nat.le_of_ble_eq_true rfl, Nat.le_of_ble_eq_true rfl⟩ ⟨Nat.le_of_ble_eq_true rfl, Nat.le_of_ble_eq_true rfl⟩ [] [0, 1] rfl rfl rfl rfl (by decide) (Nat.le_of_ble_eq_true rfl) rfl d_LN_codeAfter_128 (fun v w1 hp => ?_)
              obtain ⟨rfl, rfl⟩ := hp
              refine e_perm (st' := [.int (bcF choice), .int (y115 + y125)]) (ws' := [oLN r g lp, oGR g wd ht pl ho op lpl ea eb]) [0, 1] rfl rfl rfl ?_
              refine e_iadd C d_LN_codeAfter_131 ?_
              refine e_ti (fun x132 ex132 => ?_)
              refine e_istore C d_LN_codeAfter_132 (by decide) ?_
              refine e_iload C d_LN_codeAfter_134 rfl ?_
              refine e_if_ne (tgt := 142) C d_LN_codeAfter_136 (by decide) (fun h136 => ?_) (fun h136 => ?_)
              · -- 142
                refine e_iload C d_LN_codeAfter_142 rfl ?_
                refine e_iconst (v := 2) C d_LN_codeAfter_144 rfl ?_
                refine e_icmp_eq (tgt := 150) C d_LN_codeAfter_145 (by decide) (fun h145 => ?_) (fun h145 => ?_)
                · -- 150
                  refine e_iload C d_LN_codeAfter_150 rfl ?_
                  refine e_if_ne (tgt := 164) C d_LN_codeAfter_152 (by decide) (fun h152 => ?_) (fun h152 => ?_)
                  · -- 164
                    refine e_iload C d_LN_codeAfter_164 rfl ?_
                    refine e_iconst (v := 3) C d_LN_codeAfter_166 rfl ?_
                    refine e_icmp_ne (tgt := 185) C d_LN_codeAfter_167 (by decide) (fun h167 => ?_) (fun h167 => ?_)
                    · -- 185
                      refine e_iload C d_LN_codeAfter_185 rfl ?_
                      refine e_iload C d_LN_codeAfter_187 rfl ?_
                      refine e_iload C d_LN_codeAfter_189 rfl ?_
                      refine e_ior C d_LN_codeAfter_191 ?_
                      refine e_iload C d_LN_codeAfter_192 rfl ?_
                      refine e_iconst (v := 1) C d_LN_codeAfter_194 rfl ?_
                      refine e_icmp_ne (tgt := 203) C d_LN_codeAfter_195 (by decide) (fun h195 => ?_) (fun h195 => ?_)
                      · -- 203
                        refine e_iload C d_LN_codeAfter_203 rfl ?_
                        refine e_iconst (v := 2) C d_LN_codeAfter_205 rfl ?_
                        refine e_iadd C d_LN_codeAfter_206 ?_
                        refine e_ishl C d_LN_codeAfter_207 ?_
                        refine e_ior C d_LN_codeAfter_208 ?_
                        exact e_iret C Z rfl (Nat.le_of_ble_eq_true rfl) (Nat.le_of_ble_eq_true rfl) (⟨by unfold cafL; rw [if_neg h4, ← ey36, ← ey65]; unfold caf2; rw [if_neg h68]; unfold caf3 restF; rw [← ex80, ← ex91, ← ex103, ← ey115, ← ey125, ← ex132]; unfold caf4; (first | rw [if_pos h136] | rw [if_neg h136] | rw [if_neg (Bool.eq_false_iff.mp h136)] | skip); (first | rw [if_pos h145] | rw [if_neg h145] | rw [if_neg (Bool.eq_false_iff.mp h145)] | skip); (first | rw [if_pos h152] | rw [if_neg h152] | rw [if_neg (Bool.eq_false_iff.mp h152)] | skip); (first | rw [if_pos h167] | rw [if_neg h167] | rw [if_neg (Bool.eq_false_iff.mp h167)] | skip); (first | rw [if_pos h195] | rw [if_neg h195] | rw [if_neg (Bool.eq_false_iff.mp h195)] | skip), rfl⟩) d_LN_codeAfter_209
                      · -- 198
                        refine e_iload C d_LN_codeAfter_198 rfl ?_
                        refine e_goto (tgt := 207) C d_LN_codeAfter_200 (by decide) ?_
                        refine e_ishl C d_LN_codeAfter_207 ?_
                        refine e_ior C d_LN_codeAfter_208 ?_
                        exact e_iret C Z rfl (Nat.le_of_ble_eq_true rfl) (Nat.le_of_ble_eq_true rfl) (⟨by unfold cafL; rw [if_neg h4, ← ey36, ← ey65]; unfold caf2; rw [if_neg h68]; unfold caf3 restF; rw [← ex80, ← ex91, ← ex103, ← ey115, ← ey125, ← ex132]; unfold caf4; (first | rw [if_pos h136] | rw [if_neg h136] | rw [if_neg (Bool.eq_false_iff.mp h136)] | skip); (first | rw [if_pos h145] | rw [if_neg h145] | rw [if_neg (Bool.eq_false_iff.mp h145)] | skip); (first | rw [if_pos h152] | rw [if_neg h152] | rw [if_neg (Bool.eq_false_iff.mp h152)] | skip); (first | rw [if_pos h167] | rw [if_neg h167] | rw [if_neg (Bool.eq_false_iff.mp h167)] | skip); (first | rw [if_pos h195] | rw [if_neg h195] | rw [if_neg (Bool.eq_false_iff.mp h195)] | skip), rfl⟩) d_LN_codeAfter_209
                    · -- 170
                      refine e_iload C d_LN_codeAfter_170 rfl ?_
                      refine e_iconst (v := 1) C d_LN_codeAfter_172 rfl ?_
                      refine e_iload C d_LN_codeAfter_173 rfl ?_
                      refine e_ishl C d_LN_codeAfter_175 ?_
                      refine e_ior C d_LN_codeAfter_176 ?_
                      refine e_iconst (v := 2) C d_LN_codeAfter_177 rfl ?_
                      refine e_iload C d_LN_codeAfter_178 rfl ?_
                      refine e_iconst (v := 2) C d_LN_codeAfter_180 rfl ?_
                      refine e_iadd C d_LN_codeAfter_181 ?_
                      refine e_ishl C d_LN_codeAfter_182 ?_
                      refine e_ior C d_LN_codeAfter_183 ?_
                      exact e_iret C Z rfl (Nat.le_of_ble_eq_true rfl) (Nat.le_of_ble_eq_true rfl) (⟨by unfold cafL; rw [if_neg h4, ← ey36, ← ey65]; unfold caf2; rw [if_neg h68]; unfold caf3 restF; rw [← ex80, ← ex91, ← ex103, ← ey115, ← ey125, ← ex132]; unfold caf4; (first | rw [if_pos h136] | rw [if_neg h136] | rw [if_neg (Bool.eq_false_iff.mp h136)] | skip); (first | rw [if_pos h145] | rw [if_neg h145] | rw [if_neg (Bool.eq_false_iff.mp h145)] | skip); (first | rw [if_pos h152] | rw [if_neg h152] | rw [if_neg (Bool.eq_false_iff.mp h152)] | skip); (first | rw [if_pos h167] | rw [if_neg h167] | rw [if_neg (Bool.eq_false_iff.mp h167)] | skip), rfl⟩) d_LN_codeAfter_184
                  · -- 155
                    refine e_aload_n C d_LN_codeAfter_155 rfl rfl ?_
                    refine e_iload C d_LN_codeAfter_156 rfl ?_
                    refine e_iload C d_LN_codeAfter_158 rfl ?_
                    refine e_callV (As := [.int y65, .int (nI (2 * col))]) (st := []) (wc := [oLN r g lp]) (wr := [oGR g wd ht pl ho op lpl ea eb]) C (M_LN_joined l D cI cJ cZ r g lp y65 (nI (2 * col)) (2 * col) rfl (by omega)) v_LN_joined ml_LN_38 0 rfl rfl nwW_ok ⟨Nat.le_of_ble_eq_true rfl, Nat.le_of_ble_eq_true rfl⟩ ⟨Nat.le_of_ble_eq_true rfl, Nat.le_of_ble_eq_true rfl⟩ [0] [1] rfl rfl rfl rfl (by decide) (Nat.le_of_ble_eq_true rfl) rfl d_LN_codeAfter_160 (fun v w1 hp => ?_)
                    obtain ⟨rfl, rfl⟩ := hp
                    refine e_perm (st' := [.int (joinedF lp y65 (nI (2 * col)))]) (ws' := [oLN r g lp, oGR g wd ht pl ho op lpl ea eb]) [1, 0] rfl rfl rfl ?_
                    exact e_iret C Z rfl (Nat.le_of_ble_eq_true rfl) (Nat.le_of_ble_eq_true rfl) (⟨by unfold cafL; rw [if_neg h4, ← ey36, ← ey65]; unfold caf2; rw [if_neg h68]; unfold caf3 restF; rw [← ex80, ← ex91, ← ex103, ← ey115, ← ey125, ← ex132]; unfold caf4; (first | rw [if_pos h136] | rw [if_neg h136] | rw [if_neg (Bool.eq_false_iff.mp h136)] | skip); (first | rw [if_pos h145] | rw [if_neg h145] | rw [if_neg (Bool.eq_false_iff.mp h145)] | skip); (first | rw [if_pos h152] | rw [if_neg h152] | rw [if_neg (Bool.eq_false_iff.mp h152)] | skip), rfl⟩) d_LN_codeAfter_163
                · -- 148
                  refine e_iconst (v := (-1)) C d_LN_codeAfter_148 rfl ?_
                  exact e_iret C Z rfl (Nat.le_of_ble_eq_true rfl) (Nat.le_of_ble_eq_true rfl) (⟨by unfold cafL; rw [if_neg h4, ← ey36, ← ey65]; unfold caf2; rw [if_neg h68]; unfold caf3 restF; rw [← ex80, ← ex91, ← ex103, ← ey115, ← ey125, ← ex132]; unfold caf4; (first | rw [if_pos h136] | rw [if_neg h136] | rw [if_neg (Bool.eq_false_iff.mp h136)] | skip); (first | rw [if_pos h145] | rw [if_neg h145] | rw [if_neg (Bool.eq_false_iff.mp h145)] | skip), rfl⟩) d_LN_codeAfter_149
              · -- 139
                refine e_iload C d_LN_codeAfter_139 rfl ?_
                exact e_iret C Z rfl (Nat.le_of_ble_eq_true rfl) (Nat.le_of_ble_eq_true rfl) (⟨by unfold cafL; rw [if_neg h4, ← ey36, ← ey65]; unfold caf2; rw [if_neg h68]; unfold caf3 restF; rw [← ex80, ← ex91, ← ex103, ← ey115, ← ey125, ← ex132]; unfold caf4; (first | rw [if_pos h136] | rw [if_neg h136] | rw [if_neg (Bool.eq_false_iff.mp h136)] | skip), rfl⟩) d_LN_codeAfter_141
            refine e_if_eq (tgt := 124) C d_LN_codeAfter_117 (by decide) (fun h117 => ?_) (fun h117 => ?_)
            · -- 124
              refine e_iconst (v := 0) C d_LN_codeAfter_124 rfl ?_
              refine e_lv [(0, .ref r), (1, .int before), (2, .int place), (3, .int (nI col)), (4, .int choice), (5, .int (nI (2 * col))), (6, .int y65), (7, .int x80), (8, .int x91), (9, .int x103)] ⟨rfl, rfl, rfl, rfl, rfl, rfl, rfl, rfl, rfl, rfl, trivial⟩ ?_
              exact J125 0 (by first | rw [if_pos h117] | rw [if_neg h117])
            · -- 120
              refine e_iconst (v := 1) C d_LN_codeAfter_120 rfl ?_
              refine e_goto (tgt := 125) C d_LN_codeAfter_121 (by decide) ?_
              refine e_lv [(0, .ref r), (1, .int before), (2, .int place), (3, .int (nI col)), (4, .int choice), (5, .int (nI (2 * col))), (6, .int y65), (7, .int x80), (8, .int x91), (9, .int x103)] ⟨rfl, rfl, rfl, rfl, rfl, rfl, rfl, rfl, rfl, rfl, trivial⟩ ?_
              exact J125 1 (by first | rw [if_pos h117] | rw [if_neg h117])
          refine e_iload C d_LN_codeAfter_105 rfl ?_
          refine e_if_eq (tgt := 114) C d_LN_codeAfter_107 (by decide) (fun h107 => ?_) (fun h107 => ?_)
          · -- 114
            refine e_iconst (v := 0) C d_LN_codeAfter_114 rfl ?_
            refine e_lv [(0, .ref r), (1, .int before), (2, .int place), (3, .int (nI col)), (4, .int choice), (5, .int (nI (2 * col))), (6, .int y65), (7, .int x80), (8, .int x91), (9, .int x103)] ⟨rfl, rfl, rfl, rfl, rfl, rfl, rfl, rfl, rfl, rfl, trivial⟩ ?_
            exact J115 0 (by first | rw [if_pos h107] | rw [if_neg h107])
          · -- 110
            refine e_iconst (v := 1) C d_LN_codeAfter_110 rfl ?_
            refine e_goto (tgt := 115) C d_LN_codeAfter_111 (by decide) ?_
            refine e_lv [(0, .ref r), (1, .int before), (2, .int place), (3, .int (nI col)), (4, .int choice), (5, .int (nI (2 * col))), (6, .int y65), (7, .int x80), (8, .int x91), (9, .int x103)] ⟨rfl, rfl, rfl, rfl, rfl, rfl, rfl, rfl, rfl, rfl, trivial⟩ ?_
            exact J115 1 (by first | rw [if_pos h107] | rw [if_neg h107])
        · -- 71
          refine e_iconst (v := (-1)) C d_LN_codeAfter_71 rfl ?_
          exact e_iret C Z rfl (Nat.le_of_ble_eq_true rfl) (Nat.le_of_ble_eq_true rfl) (⟨by unfold cafL; rw [if_neg h4, ← ey36, ← ey65]; unfold caf2; rw [if_pos h68], rfl⟩) d_LN_codeAfter_72
      refine e_aload_n C d_LN_codeAfter_38 rfl rfl ?_
      refine e_get C hin_LN 0 rfl rfl 1 (by decide) fl_LN_15 rfl d_LN_codeAfter_39 ?_
      refine e_if_ne (tgt := 65) C d_LN_codeAfter_42 (by decide) (fun h42 => ?_) (fun h42 => ?_)
      · -- 65
        refine e_lv [(0, .ref r), (1, .int before), (2, .int place), (3, .int (nI col)), (4, .int choice), (5, .int (nI (2 * col))), (6, .int y36)] ⟨rfl, rfl, rfl, rfl, rfl, rfl, rfl, trivial⟩ ?_
        exact J65 y36 (by unfold caf1; (first | rw [if_pos h42] | rw [if_neg h42] | rw [if_neg (Bool.eq_false_iff.mp h42)] | skip))
      · -- 45
        refine e_aload_n C d_LN_codeAfter_45 rfl rfl ?_
        refine e_get C hin_LN 0 rfl rfl 0 (by decide) fl_LN_11 rfl d_LN_codeAfter_46 ?_
        refine e_iload_n C d_LN_codeAfter_49 rfl rfl ?_
        refine e_callVN (As := [.int place]) (st := []) (wc := [oGR g wd ht pl ho op lpl ea eb]) (wr := [oLN r g lp]) C (M_GR_isEnd l D cI cJ cZ g wd ht pl ho op lpl ea eb place) v_GR_isEnd mn_LN_19 1 rfl rfl nwW_ok ⟨Nat.le_of_ble_eq_true rfl, Nat.le_of_ble_eq_true rfl⟩ ⟨Nat.le_of_ble_eq_true rfl, Nat.le_of_ble_eq_true rfl⟩ [1] [0] rfl rfl rfl rfl (by decide) (Nat.le_of_ble_eq_true rfl) rfl d_LN_codeAfter_50 (fun v w1 hp => ?_)
        obtain ⟨rfl, rfl⟩ := hp
        refine e_perm (st' := [.int (bI (isEndF ea eb place))]) (ws' := [oLN r g lp, oGR g wd ht pl ho op lpl ea eb]) [0, 1] rfl rfl rfl ?_
        refine e_if_eq (tgt := 65) C d_LN_codeAfter_53 (by decide) (fun h53 => ?_) (fun h53 => ?_)
        · -- 65
          refine e_lv [(0, .ref r), (1, .int before), (2, .int place), (3, .int (nI col)), (4, .int choice), (5, .int (nI (2 * col))), (6, .int y36)] ⟨rfl, rfl, rfl, rfl, rfl, rfl, rfl, trivial⟩ ?_
          exact J65 y36 (by (try simp only [bI_eq0, Bool.not_eq_false] at h53); unfold caf1; (first | rw [if_pos h42] | rw [if_neg h42] | rw [if_neg (Bool.eq_false_iff.mp h42)] | skip); (first | rw [if_pos h53] | rw [if_neg h53] | rw [if_neg (Bool.eq_false_iff.mp h53)] | skip))
        · -- 56
          refine e_iload C d_LN_codeAfter_56 rfl ?_
          refine e_iload C d_LN_codeAfter_58 rfl ?_
          refine e_callS (As := [.int y36, .int (nI (2 * col))]) (st := []) (wc := []) (wr := [oLN r g lp, oGR g wd ht pl ho op lpl ea eb]) C (M_LN_withEnd l D cI cJ cZ y36 (nI (2 * col))) s_LN_withEnd ml_LN_25 nwW_ok ⟨Nat.le_of_ble_eq_true rfl, Nat.le_of_ble_eq_true rfl⟩ ⟨Nat.le_of_ble_eq_true rfl, Nat.le_of_ble_eq_true rfl⟩ [] [0, 1] rfl rfl rfl rfl (by decide) (Nat.le_of_ble_eq_true rfl) rfl d_LN_codeAfter_60 (fun v w1 hp => ?_)
          obtain ⟨rfl, rfl⟩ := hp
          refine e_perm (st' := [.int (withEndF y36 (nI (2 * col)))]) (ws' := [oLN r g lp, oGR g wd ht pl ho op lpl ea eb]) [0, 1] rfl rfl rfl ?_
          refine e_ti (fun x63 ex63 => ?_)
          refine e_istore C d_LN_codeAfter_63 (by decide) ?_
          refine e_lv [(0, .ref r), (1, .int before), (2, .int place), (3, .int (nI col)), (4, .int choice), (5, .int (nI (2 * col))), (6, .int x63)] ⟨rfl, rfl, rfl, rfl, rfl, rfl, rfl, trivial⟩ ?_
          exact J65 x63 (by (try simp only [bI_eq0, Bool.not_eq_false] at h53); unfold caf1; (first | rw [if_pos h42] | rw [if_neg h42] | rw [if_neg (Bool.eq_false_iff.mp h42)] | skip); (first | rw [if_pos h53] | rw [if_neg h53] | rw [if_neg (Bool.eq_false_iff.mp h53)] | skip); exact ex63)
    refine e_iload_n C d_LN_codeAfter_25 rfl rfl ?_
    refine e_if_ne (tgt := 35) C d_LN_codeAfter_26 (by decide) (fun h26 => ?_) (fun h26 => ?_)
    · -- 35
      refine e_iload_n C d_LN_codeAfter_35 rfl rfl ?_
      refine e_lv [(0, .ref r), (1, .int before), (2, .int place), (3, .int (nI col)), (4, .int choice), (5, .int (nI (2 * col)))] ⟨rfl, rfl, rfl, rfl, rfl, rfl, trivial⟩ ?_
      exact J36 before (by first | rw [if_pos h26] | rw [if_neg h26])
    · -- 29
      refine e_iload_n C d_LN_codeAfter_29 rfl rfl ?_
      refine e_iconst (v := 2) C d_LN_codeAfter_30 rfl ?_
      refine e_ishl C d_LN_codeAfter_31 ?_
      refine e_goto (tgt := 36) C d_LN_codeAfter_32 (by decide) ?_
      refine e_lv [(0, .ref r), (1, .int before), (2, .int place), (3, .int (nI col)), (4, .int choice), (5, .int (nI (2 * col)))] ⟨rfl, rfl, rfl, rfl, rfl, rfl, trivial⟩ ?_
      exact J36 (before <<< ((2 : Int32) &&& 31)) (by first | rw [if_pos h26] | rw [if_neg h26])
  · -- 7
    refine e_iload C d_LN_codeAfter_7 rfl ?_
    refine e_if_ne (tgt := 18) C d_LN_codeAfter_9 (by decide) (fun h9 => ?_) (fun h9 => ?_)
    · -- 18
      refine e_iconst (v := (-1)) C d_LN_codeAfter_18 rfl ?_
      exact e_iret C Z rfl (Nat.le_of_ble_eq_true rfl) (Nat.le_of_ble_eq_true rfl) (⟨by unfold cafL; rw [if_pos h4]; first | rw [if_pos h9] | rw [if_neg h9], rfl⟩) d_LN_codeAfter_19
    · -- 12
      refine e_sipush (v := 4096) C d_LN_codeAfter_12 (by decide) ?_
      refine e_goto (tgt := 19) C d_LN_codeAfter_15 (by decide) ?_
      exact e_iret C Z rfl (Nat.le_of_ble_eq_true rfl) (Nat.le_of_ble_eq_true rfl) (⟨by unfold cafL; rw [if_pos h4]; first | rw [if_pos h9] | rw [if_neg h9], rfl⟩) d_LN_codeAfter_19
