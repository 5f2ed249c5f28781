/-! GRID, and the small static methods: what each answers, at the machine's own numbers -/
def hasF (s : Int64) (k : Int32) : Bool := !decide (lg_cmp (jlushr s k &&& 1) 0 = 0)
def insideF (pl x : Int32) : Bool := !decide (x < 0) && !decide (pl ≤ x)
def isPlaceF (pl ho x : Int32) : Bool := insideF pl x && decide (jushr ho x &&& 1 = 0)
def isEndF (ea eb x : Int32) : Bool := decide (x = ea) || decide (x = eb)
def openChoicesF (op : Int64) (x : Int32) : Int32 := (jlushr op (2 * x)).toInt32 &&& 3
def farEndF (wd x : Int32) : Int32 := if x = 2 * (x >>> ((1 : Int32) &&& 31)) + 1 then (x >>> ((1 : Int32) &&& 31)) + 1 else (x >>> ((1 : Int32) &&& 31)) + wd
def heldF (v lo hi : Int32) : Int32 := if lo < (if v < hi then v else hi) then (if v < hi then v else hi) else lo
set_option maxHeartbeats 4000000 in
set_option maxRecDepth 100000 in
theorem M_FC_has (l : Launch) (D : va_G) (cI cJ cZ : ClassId) (s : Int64) (k : Int32) : MK l D cI cJ cZ y_FC_has c_FC_has 3 (some FieldType.boolean) 0 0 [.long s, .int k] [] 0 0 (rI (bI (hasF s k)) []) := by
  refine MC.of (by decide) bigW_good (Nat.le_of_ble_eq_true rfl) (fun κ C Z IN => ?_)
  refine e_lload_n C d_FC_has_0 rfl rfl ?_
  refine e_iload_n C d_FC_has_1 rfl rfl ?_
  refine e_lushr C d_FC_has_2 ?_
  refine e_lconst (v := 1) C d_FC_has_3 rfl ?_
  refine e_land C d_FC_has_4 ?_
  refine e_lconst (v := 0) C d_FC_has_5 rfl ?_
  refine e_lcmp C d_FC_has_6 ?_
  refine e_if_eq (tgt := 14) C d_FC_has_7 (by decide) (fun h7 => ?_) (fun h7 => ?_)
  · -- 14
    refine e_iconst (v := 0) C d_FC_has_14 rfl ?_
    exact e_iret C Z rfl (Nat.le_of_ble_eq_true rfl) (Nat.le_of_ble_eq_true rfl) (⟨by (try simp only [bI_eq0, Bool.not_eq_false] at h7); simp [hasF, bI, h7], rfl⟩) d_FC_has_15
  · -- 10
    refine e_iconst (v := 1) C d_FC_has_10 rfl ?_
    refine e_goto (tgt := 15) C d_FC_has_11 (by decide) ?_
    exact e_iret C Z rfl (Nat.le_of_ble_eq_true rfl) (Nat.le_of_ble_eq_true rfl) (⟨by (try simp only [bI_eq0, Bool.not_eq_false] at h7); simp [hasF, bI, h7], rfl⟩) d_FC_has_15

set_option maxHeartbeats 4000000 in
set_option maxRecDepth 100000 in
theorem M_FC_held (l : Launch) (D : va_G) (cI cJ cZ : ClassId) (v a b : Int32) : MK l D cI cJ cZ y_FC_held c_FC_held 3 (some FieldType.int) 1 21 [.int v, .int a, .int b] [] 0 0 (rI (heldF v a b) []) := by
  refine MC.of (by decide) bigW_good (Nat.le_of_ble_eq_true rfl) (fun κ C Z IN => ?_)
  refine e_iload_n C d_FC_held_0 rfl rfl ?_
  refine e_iload_n C d_FC_held_1 rfl rfl ?_
  refine e_iload_n C d_FC_held_2 rfl rfl ?_
  refine e_mmin C ml_FC_139 sta_Math_min_name ini_JM cod_Math_min_name (Nat.le_of_ble_eq_true rfl) (Nat.le_of_ble_eq_true rfl) (Nat.le_of_ble_eq_true rfl) (Nat.le_of_ble_eq_true rfl) d_FC_held_3 ?_
  refine e_mmax C ml_FC_144 sta_Math_max_name ini_JM cod_Math_max_name (Nat.le_of_ble_eq_true rfl) (Nat.le_of_ble_eq_true rfl) (Nat.le_of_ble_eq_true rfl) (Nat.le_of_ble_eq_true rfl) d_FC_held_6 ?_
  exact e_iret C Z rfl (Nat.le_of_ble_eq_true rfl) (Nat.le_of_ble_eq_true rfl) (⟨rfl, rfl⟩) d_FC_held_9

set_option maxHeartbeats 4000000 in
set_option maxRecDepth 100000 in
theorem M_GR_belowOf (l : Launch) (D : va_G) (cI cJ cZ : ClassId) (x : Int32) : MK l D cI cJ cZ y_GR_belowOf c_GR_belowOf 1 (some FieldType.int) 0 0 [.int x] [] 0 0 (rI (2 * x) []) := by
  refine MC.of (by decide) bigW_good (Nat.le_of_ble_eq_true rfl) (fun κ C Z IN => ?_)
  refine e_iconst (v := 2) C d_GR_belowOf_0 rfl ?_
  refine e_iload_n C d_GR_belowOf_1 rfl rfl ?_
  refine e_imul C d_GR_belowOf_2 ?_
  exact e_iret C Z rfl (Nat.le_of_ble_eq_true rfl) (Nat.le_of_ble_eq_true rfl) (⟨rfl, rfl⟩) d_GR_belowOf_3

set_option maxHeartbeats 4000000 in
set_option maxRecDepth 100000 in
theorem M_GR_rightOf (l : Launch) (D : va_G) (cI cJ cZ : ClassId) (x : Int32) : MK l D cI cJ cZ y_GR_rightOf c_GR_rightOf 1 (some FieldType.int) 0 0 [.int x] [] 0 0 (rI (2 * x + 1) []) := by
  refine MC.of (by decide) bigW_good (Nat.le_of_ble_eq_true rfl) (fun κ C Z IN => ?_)
  refine e_iconst (v := 2) C d_GR_rightOf_0 rfl ?_
  refine e_iload_n C d_GR_rightOf_1 rfl rfl ?_
  refine e_imul C d_GR_rightOf_2 ?_
  refine e_iconst (v := 1) C d_GR_rightOf_3 rfl ?_
  refine e_iadd C d_GR_rightOf_4 ?_
  exact e_iret C Z rfl (Nat.le_of_ble_eq_true rfl) (Nat.le_of_ble_eq_true rfl) (⟨rfl, rfl⟩) d_GR_rightOf_5

set_option maxHeartbeats 4000000 in
set_option maxRecDepth 100000 in
theorem M_GR_inside (l : Launch) (D : va_G) (cI cJ cZ : ClassId) (g : Nat) (wd ht pl ho : Int32) (op : Int64) (lp ea eb : Int32) (x : Int32) : MK l D cI cJ cZ y_GR_inside c_GR_inside 2 (some FieldType.boolean) 0 0 [.ref g, .int x] [oGR g wd ht pl ho op lp ea eb] 0 0 (rI (bI (insideF pl x)) [oGR g wd ht pl ho op lp ea eb]) := by
  refine MC.of (by decide) bigW_good (Nat.le_of_ble_eq_true rfl) (fun κ C Z IN => ?_)
  refine e_iload_n C d_GR_inside_0 rfl rfl ?_
  refine e_if_lt (tgt := 16) C d_GR_inside_1 (by decide) (fun h1 => ?_) (fun h1 => ?_)
  · -- 16
    refine e_iconst (v := 0) C d_GR_inside_16 rfl ?_
    exact e_iret C Z rfl (Nat.le_of_ble_eq_true rfl) (Nat.le_of_ble_eq_true rfl) (⟨by (try simp only [bI_eq0, Bool.not_eq_false] at h1); simp [insideF, bI, h1], rfl⟩) d_GR_inside_17
  · -- 4
    refine e_iload_n C d_GR_inside_4 rfl rfl ?_
    refine e_aload_n C d_GR_inside_5 rfl rfl ?_
    refine e_get C hin_GR 0 rfl rfl 2 (by decide) fl_GR_18 rfl d_GR_inside_6 ?_
    refine e_icmp_ge (tgt := 16) C d_GR_inside_9 (by decide) (fun h9 => ?_) (fun h9 => ?_)
    · -- 16
      refine e_iconst (v := 0) C d_GR_inside_16 rfl ?_
      exact e_iret C Z rfl (Nat.le_of_ble_eq_true rfl) (Nat.le_of_ble_eq_true rfl) (⟨by (try simp only [bI_eq0, Bool.not_eq_false] at h1 h9); simp [insideF, bI, h1, h9], rfl⟩) d_GR_inside_17
    · -- 12
      refine e_iconst (v := 1) C d_GR_inside_12 rfl ?_
      refine e_goto (tgt := 17) C d_GR_inside_13 (by decide) ?_
      exact e_iret C Z rfl (Nat.le_of_ble_eq_true rfl) (Nat.le_of_ble_eq_true rfl) (⟨by (try simp only [bI_eq0, Bool.not_eq_false] at h1 h9); simp [insideF, bI, h1, h9], rfl⟩) d_GR_inside_17

set_option maxHeartbeats 4000000 in
set_option maxRecDepth 100000 in
theorem M_GR_isPlace (l : Launch) (D : va_G) (cI cJ cZ : ClassId) (g : Nat) (wd ht pl ho : Int32) (op : Int64) (lp ea eb : Int32) (x : Int32) : MK l D cI cJ cZ y_GR_isPlace c_GR_isPlace 2 (some FieldType.boolean) 1 21 [.ref g, .int x] [oGR g wd ht pl ho op lp ea eb] 0 0 (rI (bI (isPlaceF pl ho x)) [oGR g wd ht pl ho op lp ea eb]) := by
  refine MC.of (by decide) bigW_good (Nat.le_of_ble_eq_true rfl) (fun κ C Z IN => ?_)
  refine e_aload_n C d_GR_isPlace_0 rfl rfl ?_
  refine e_iload_n C d_GR_isPlace_1 rfl rfl ?_
  refine e_callV (As := [.int x]) (st := []) (wc := [oGR g wd ht pl ho op lp ea eb]) (wr := []) C (M_GR_inside l D cI cJ cZ g wd ht pl ho op lp ea eb x) v_GR_inside ml_GR_30 0 rfl rfl nwW_ok ⟨Nat.le_of_ble_eq_true rfl, Nat.le_of_ble_eq_true rfl⟩ ⟨Nat.le_of_ble_eq_true rfl, Nat.le_of_ble_eq_true rfl⟩ [0] [] rfl rfl rfl rfl (by decide) (Nat.le_of_ble_eq_true rfl) rfl d_GR_isPlace_2 (fun v w1 hp => ?_)
  obtain ⟨rfl, rfl⟩ := hp
  refine e_perm (st' := [.int (bI (insideF pl x))]) (ws' := [oGR g wd ht pl ho op lp ea eb]) [0] rfl rfl rfl ?_
  refine e_if_eq (tgt := 23) C d_GR_isPlace_5 (by decide) (fun h5 => ?_) (fun h5 => ?_)
  · -- 23
    refine e_iconst (v := 0) C d_GR_isPlace_23 rfl ?_
    exact e_iret C Z rfl (Nat.le_of_ble_eq_true rfl) (Nat.le_of_ble_eq_true rfl) (⟨by (try simp only [bI_eq0, Bool.not_eq_false] at h5); simp [isPlaceF, bI, h5], rfl⟩) d_GR_isPlace_24
  · -- 8
    refine e_aload_n C d_GR_isPlace_8 rfl rfl ?_
    refine e_get C hin_GR 0 rfl rfl 3 (by decide) fl_GR_34 rfl d_GR_isPlace_9 ?_
    refine e_iload_n C d_GR_isPlace_12 rfl rfl ?_
    refine e_iushr C d_GR_isPlace_13 ?_
    refine e_iconst (v := 1) C d_GR_isPlace_14 rfl ?_
    refine e_iand C d_GR_isPlace_15 ?_
    refine e_if_ne (tgt := 23) C d_GR_isPlace_16 (by decide) (fun h16 => ?_) (fun h16 => ?_)
    · -- 23
      refine e_iconst (v := 0) C d_GR_isPlace_23 rfl ?_
      exact e_iret C Z rfl (Nat.le_of_ble_eq_true rfl) (Nat.le_of_ble_eq_true rfl) (⟨by (try simp only [bI_eq0, Bool.not_eq_false] at h5 h16); simp [isPlaceF, bI, h5, h16], rfl⟩) d_GR_isPlace_24
    · -- 19
      refine e_iconst (v := 1) C d_GR_isPlace_19 rfl ?_
      refine e_goto (tgt := 24) C d_GR_isPlace_20 (by decide) ?_
      exact e_iret C Z rfl (Nat.le_of_ble_eq_true rfl) (Nat.le_of_ble_eq_true rfl) (⟨by (try simp only [bI_eq0, Bool.not_eq_false] at h5 h16); simp [isPlaceF, bI, h5, h16], rfl⟩) d_GR_isPlace_24

set_option maxHeartbeats 4000000 in
set_option maxRecDepth 100000 in
theorem M_GR_isEnd (l : Launch) (D : va_G) (cI cJ cZ : ClassId) (g : Nat) (wd ht pl ho : Int32) (op : Int64) (lp ea eb : Int32) (x : Int32) : MK l D cI cJ cZ y_GR_isEnd c_GR_isEnd 2 (some FieldType.boolean) 0 0 [.ref g, .int x] [oGR g wd ht pl ho op lp ea eb] 0 0 (rI (bI (isEndF ea eb x)) [oGR g wd ht pl ho op lp ea eb]) := by
  refine MC.of (by decide) bigW_good (Nat.le_of_ble_eq_true rfl) (fun κ C Z IN => ?_)
  refine e_iload_n C d_GR_isEnd_0 rfl rfl ?_
  refine e_aload_n C d_GR_isEnd_1 rfl rfl ?_
  refine e_get C hin_GR 0 rfl rfl 6 (by decide) fl_GR_21 rfl d_GR_isEnd_2 ?_
  refine e_icmp_eq (tgt := 16) C d_GR_isEnd_5 (by decide) (fun h5 => ?_) (fun h5 => ?_)
  · -- 16
    refine e_iconst (v := 1) C d_GR_isEnd_16 rfl ?_
    refine e_goto (tgt := 21) C d_GR_isEnd_17 (by decide) ?_
    exact e_iret C Z rfl (Nat.le_of_ble_eq_true rfl) (Nat.le_of_ble_eq_true rfl) (⟨by (try simp only [bI_eq0, Bool.not_eq_false] at h5); simp [isEndF, bI, h5], rfl⟩) d_GR_isEnd_21
  · -- 8
    refine e_iload_n C d_GR_isEnd_8 rfl rfl ?_
    refine e_aload_n C d_GR_isEnd_9 rfl rfl ?_
    refine e_get C hin_GR 0 rfl rfl 7 (by decide) fl_GR_24 rfl d_GR_isEnd_10 ?_
    refine e_icmp_ne (tgt := 20) C d_GR_isEnd_13 (by decide) (fun h13 => ?_) (fun h13 => ?_)
    · -- 20
      refine e_iconst (v := 0) C d_GR_isEnd_20 rfl ?_
      exact e_iret C Z rfl (Nat.le_of_ble_eq_true rfl) (Nat.le_of_ble_eq_true rfl) (⟨by (try simp only [bI_eq0, Bool.not_eq_false] at h5 h13); simp [isEndF, bI, h5, h13], rfl⟩) d_GR_isEnd_21
    · -- 16
      refine e_iconst (v := 1) C d_GR_isEnd_16 rfl ?_
      refine e_goto (tgt := 21) C d_GR_isEnd_17 (by decide) ?_
      exact e_iret C Z rfl (Nat.le_of_ble_eq_true rfl) (Nat.le_of_ble_eq_true rfl) (⟨by (try simp only [bI_eq0, Bool.not_eq_false] at h5 h13); simp [isEndF, bI, h5, h13], rfl⟩) d_GR_isEnd_21

set_option maxHeartbeats 4000000 in
set_option maxRecDepth 100000 in
theorem M_GR_isOpen (l : Launch) (D : va_G) (cI cJ cZ : ClassId) (g : Nat) (wd ht pl ho : Int32) (op : Int64) (lp ea eb : Int32) (x : Int32) : MK l D cI cJ cZ y_GR_isOpen c_GR_isOpen 2 (some FieldType.boolean) 1 22 [.ref g, .int x] [oGR g wd ht pl ho op lp ea eb] 0 0 (rI (bI (hasF op x)) [oGR g wd ht pl ho op lp ea eb]) := by
  refine MC.of (by decide) bigW_good (Nat.le_of_ble_eq_true rfl) (fun κ C Z IN => ?_)
  refine e_aload_n C d_GR_isOpen_0 rfl rfl ?_
  refine e_get C hin_GR 0 rfl rfl 4 (by decide) fl_GR_37 rfl d_GR_isOpen_1 ?_
  refine e_iload_n C d_GR_isOpen_4 rfl rfl ?_
  refine e_callSN (As := [.long op, .int x]) (st := []) (wc := []) (wr := [oGR g wd ht pl ho op lp ea eb]) C (M_FC_has l D cI cJ cZ op x) s_FC_has mn_GR_41 nwW_ok ⟨Nat.le_of_ble_eq_true rfl, Nat.le_of_ble_eq_true rfl⟩ ⟨Nat.le_of_ble_eq_true rfl, Nat.le_of_ble_eq_true rfl⟩ [] [0] rfl rfl rfl rfl (by decide) (Nat.le_of_ble_eq_true rfl) rfl d_GR_isOpen_5 (fun v w1 hp => ?_)
  obtain ⟨rfl, rfl⟩ := hp
  refine e_perm (st' := [.int (bI (hasF op x))]) (ws' := [oGR g wd ht pl ho op lp ea eb]) [0] rfl rfl rfl ?_
  exact e_iret C Z (bI_nar _) (Nat.le_of_ble_eq_true rfl) (Nat.le_of_ble_eq_true rfl) (⟨rfl, rfl⟩) d_GR_isOpen_8

set_option maxHeartbeats 4000000 in
set_option maxRecDepth 100000 in
theorem M_GR_openChoices (l : Launch) (D : va_G) (cI cJ cZ : ClassId) (g : Nat) (wd ht pl ho : Int32) (op : Int64) (lp ea eb : Int32) (x : Int32) : MK l D cI cJ cZ y_GR_openChoices c_GR_openChoices 2 (some FieldType.int) 1 20 [.ref g, .int x] [oGR g wd ht pl ho op lp ea eb] 0 0 (rI (openChoicesF op x) [oGR g wd ht pl ho op lp ea eb]) := by
  refine MC.of (by decide) bigW_good (Nat.le_of_ble_eq_true rfl) (fun κ C Z IN => ?_)
  refine e_aload_n C d_GR_openChoices_0 rfl rfl ?_
  refine e_get C hin_GR 0 rfl rfl 4 (by decide) fl_GR_37 rfl d_GR_openChoices_1 ?_
  refine e_iload_n C d_GR_openChoices_4 rfl rfl ?_
  refine e_callS (As := [.int x]) (st := [.long op]) (wc := []) (wr := [oGR g wd ht pl ho op lp ea eb]) C (M_GR_belowOf l D cI cJ cZ x) s_GR_belowOf ml_GR_45 nwW_ok ⟨Nat.le_of_ble_eq_true rfl, Nat.le_of_ble_eq_true rfl⟩ ⟨Nat.le_of_ble_eq_true rfl, Nat.le_of_ble_eq_true rfl⟩ [] [0] rfl rfl rfl rfl (by decide) (Nat.le_of_ble_eq_true rfl) rfl d_GR_openChoices_5 (fun v w1 hp => ?_)
  obtain ⟨rfl, rfl⟩ := hp
  refine e_perm (st' := [.int (2 * x), .long op]) (ws' := [oGR g wd ht pl ho op lp ea eb]) [0] rfl rfl rfl ?_
  refine e_lushr C d_GR_openChoices_8 ?_
  refine e_l2i C d_GR_openChoices_9 ?_
  refine e_iconst (v := 3) C d_GR_openChoices_10 rfl ?_
  refine e_iand C d_GR_openChoices_11 ?_
  exact e_iret C Z rfl (Nat.le_of_ble_eq_true rfl) (Nat.le_of_ble_eq_true rfl) (⟨rfl, rfl⟩) d_GR_openChoices_12

set_option maxHeartbeats 4000000 in
set_option maxRecDepth 100000 in
theorem M_GR_nearEnd (l : Launch) (D : va_G) (cI cJ cZ : ClassId) (g : Nat) (wd ht pl ho : Int32) (op : Int64) (lp ea eb : Int32) (x : Int32) : MK l D cI cJ cZ y_GR_nearEnd c_GR_nearEnd 2 (some FieldType.int) 0 0 [.ref g, .int x] [oGR g wd ht pl ho op lp ea eb] 0 0 (rI (x >>> ((1 : Int32) &&& 31)) [oGR g wd ht pl ho op lp ea eb]) := by
  refine MC.of (by decide) bigW_good (Nat.le_of_ble_eq_true rfl) (fun κ C Z IN => ?_)
  refine e_iload_n C d_GR_nearEnd_0 rfl rfl ?_
  refine e_iconst (v := 1) C d_GR_nearEnd_1 rfl ?_
  refine e_ishr C d_GR_nearEnd_2 ?_
  exact e_iret C Z rfl (Nat.le_of_ble_eq_true rfl) (Nat.le_of_ble_eq_true rfl) (⟨rfl, rfl⟩) d_GR_nearEnd_3

set_option maxHeartbeats 4000000 in
set_option maxRecDepth 100000 in
theorem M_GR_farEnd (l : Launch) (D : va_G) (cI cJ cZ : ClassId) (g : Nat) (wd ht pl ho : Int32) (op : Int64) (lp ea eb : Int32) (x : Int32) : MK l D cI cJ cZ y_GR_farEnd c_GR_farEnd 3 (some FieldType.int) 1 21 [.ref g, .int x] [oGR g wd ht pl ho op lp ea eb] 0 0 (rI (farEndF wd x) [oGR g wd ht pl ho op lp ea eb]) := by
  refine MC.of (by decide) bigW_good (Nat.le_of_ble_eq_true rfl) (fun κ C Z IN => ?_)
  refine e_aload_n C d_GR_farEnd_0 rfl rfl ?_
  refine e_iload_n C d_GR_farEnd_1 rfl rfl ?_
  refine e_callV (As := [.int x]) (st := []) (wc := [oGR g wd ht pl ho op lp ea eb]) (wr := []) C (M_GR_nearEnd l D cI cJ cZ g wd ht pl ho op lp ea eb x) v_GR_nearEnd ml_GR_74 0 rfl rfl nwW_ok ⟨Nat.le_of_ble_eq_true rfl, Nat.le_of_ble_eq_true rfl⟩ ⟨Nat.le_of_ble_eq_true rfl, Nat.le_of_ble_eq_true rfl⟩ [0] [] rfl rfl rfl rfl (by decide) (Nat.le_of_ble_eq_true rfl) rfl d_GR_farEnd_2 (fun v w1 hp => ?_)
  obtain ⟨rfl, rfl⟩ := hp
  refine e_perm (st' := [.int (x >>> ((1 : Int32) &&& 31))]) (ws' := [oGR g wd ht pl ho op lp ea eb]) [0] rfl rfl rfl ?_
  refine e_istore_n C d_GR_farEnd_5 rfl (by decide) ?_
  refine e_iload_n C d_GR_farEnd_6 rfl rfl ?_
  refine e_iload_n C d_GR_farEnd_7 rfl rfl ?_
  refine e_callS (As := [.int (x >>> ((1 : Int32) &&& 31))]) (st := [.int x]) (wc := []) (wr := [oGR g wd ht pl ho op lp ea eb]) C (M_GR_rightOf l D cI cJ cZ (x >>> ((1 : Int32) &&& 31))) s_GR_rightOf ml_GR_59 nwW_ok ⟨Nat.le_of_ble_eq_true rfl, Nat.le_of_ble_eq_true rfl⟩ ⟨Nat.le_of_ble_eq_true rfl, Nat.le_of_ble_eq_true rfl⟩ [] [0] rfl rfl rfl rfl (by decide) (Nat.le_of_ble_eq_true rfl) rfl d_GR_farEnd_8 (fun v w1 hp => ?_)
  obtain ⟨rfl, rfl⟩ := hp
  refine e_perm (st' := [.int (2 * (x >>> ((1 : Int32) &&& 31)) + 1), .int x]) (ws' := [oGR g wd ht pl ho op lp ea eb]) [0] rfl rfl rfl ?_
  refine e_icmp_ne (tgt := 20) C d_GR_farEnd_11 (by decide) (fun h11 => ?_) (fun h11 => ?_)
  · -- 20
    refine e_iload_n C d_GR_farEnd_20 rfl rfl ?_
    refine e_aload_n C d_GR_farEnd_21 rfl rfl ?_
    refine e_get C hin_GR 0 rfl rfl 0 (by decide) fl_GR_9 rfl d_GR_farEnd_22 ?_
    refine e_iadd C d_GR_farEnd_25 ?_
    exact e_iret C Z rfl (Nat.le_of_ble_eq_true rfl) (Nat.le_of_ble_eq_true rfl) (⟨by (try simp only [bI_eq0, Bool.not_eq_false] at h11); simp [farEndF, h11], rfl⟩) d_GR_farEnd_26
  · -- 14
    refine e_iload_n C d_GR_farEnd_14 rfl rfl ?_
    refine e_iconst (v := 1) C d_GR_farEnd_15 rfl ?_
    refine e_iadd C d_GR_farEnd_16 ?_
    refine e_goto (tgt := 26) C d_GR_farEnd_17 (by decide) ?_
    exact e_iret C Z rfl (Nat.le_of_ble_eq_true rfl) (Nat.le_of_ble_eq_true rfl) (⟨by (try simp only [bI_eq0, Bool.not_eq_false] at h11); simp [farEndF, h11], rfl⟩) d_GR_farEnd_26

set_option maxHeartbeats 4000000 in
set_option maxRecDepth 100000 in
theorem M_GR_tellEnds (l : Launch) (D : va_G) (cI cJ cZ : ClassId) (g : Nat) (wd ht pl ho : Int32) (op : Int64) (lp ea eb : Int32) (a b : Int32) : MK l D cI cJ cZ y_GR_tellEnds c_GR_tellEnds 3 none 0 0 [.ref g, .int a, .int b] [oGR g wd ht pl ho op lp ea eb] 0 0 (rV [oGR g wd ht pl ho op lp a b]) := by
  refine MC.of (by decide) bigW_good (Nat.le_of_ble_eq_true rfl) (fun κ C Z IN => ?_)
  refine e_aload_n C d_GR_tellEnds_0 rfl rfl ?_
  refine e_iload_n C d_GR_tellEnds_1 rfl rfl ?_
  refine e_put C hin_GR ty_GR tyk_GR nm_GR 0 rfl rfl 6 (by decide) fl_GR_21 rfl rfl rfl (Nat.le_of_ble_eq_true rfl) d_GR_tellEnds_2 ?_
  refine e_ws [oGR g wd ht pl ho op lp a eb] rfl ?_
  refine e_aload_n C d_GR_tellEnds_5 rfl rfl ?_
  refine e_iload_n C d_GR_tellEnds_6 rfl rfl ?_
  refine e_put C hin_GR ty_GR tyk_GR nm_GR 0 rfl rfl 7 (by decide) fl_GR_24 rfl rfl rfl (Nat.le_of_ble_eq_true rfl) d_GR_tellEnds_7 ?_
  refine e_ws [oGR g wd ht pl ho op lp a b] rfl ?_
  exact e_vret C Z (Nat.le_of_ble_eq_true rfl) (Nat.le_of_ble_eq_true rfl) (⟨rfl, rfl⟩) d_GR_tellEnds_10
