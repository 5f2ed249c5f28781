/-! GRID, and the small static methods: what each answers, at the machine's own numbers -/
def hasF (s : Int64) (k : Int32) : Bool := !decide (lg_cmp (jlushr s k &&& 1) 0 = 0)
def insideF (pl x : Int32) : Bool := !decide (x < 0) && !decide (pl ≤ x)
def isPlaceF (pl ho x : Int32) : Bool := insideF pl x && decide (jushr ho x &&& 1 = 0)
def isEndF (ea eb x : Int32) : Bool := decide (x = ea) || decide (x = eb)
def openChoicesF (op : Int64) (x : Int32) : Int32 := (jlushr op (2 * x)).toInt32 &&& 3
def farEndF (wd x : Int32) : Int32 := if x = 2 * (x >>> ((1 : Int32) &&& 31)) + 1 then (x >>> ((1 : Int32) &&& 31)) + 1 else (x >>> ((1 : Int32) &&& 31)) + wd
def heldF (v lo hi : Int32) : Int32 := if lo < (if v < hi then v else hi) then (if v < hi then v else hi) else lo
set_option maxHeartbeats 4000000 in
set_option maxRecDepth 100000 in
theorem M_FC_has (l : Launch) (D : va_G) (cI cJ cZ : ClassId) (s : Int64) (k : Int32) : MK l D cI cJ cZ y_FC_has c_FC_has 3 (some FieldType.boolean) 0 0 [.long s, .int k] [] 0 0 (rI (bI (hasF s k)) []) := by
  refine MC.of (by decide) bigW_good (Nat.le_of_ble_eq_true rfl) (fun κ C Z IN => ?_)
  refine e_lload_n C d_FC_has_0 rfl rfl ?_
  refine e_iload_n C d_FC_has_1 rfl rfl ?_
  refine e_lushr C d_FC_has_2 ?_
  refine e_lconst (v := 1) C d_FC_has_3 rfl ?_
  refine e_land C d_FC_has_4 ?_
  refine e_lconst (v := 0) C d_FC_has_5 rfl ?_
  refine e_lcmp C d_FC_has_6 ?_
  refine e_if_eq (tgt := 14) C d_FC_has_7 (by decide) (fun h7 => ?_) (fun h7 => ?_)
  · -- 14
    refine e_iconst (v := 0) C d_FC_has_14 rfl ?_
    exact e_iret C Z rfl (Nat.le_of_ble_eq_true rfl) (Nat.le_of_ble_eq_true rfl) (⟨by (try simp only [bI_eq0, Bool.not_eq_false] at h7); simp [hasF, bI, h7], rfl⟩) d_FC_has_15
  · -- 10
    refine e_iconst (v := 1) C d_FC_has_10 rfl ?_
    refine e_goto (tgt := 15) C d_FC_has_11 (by decide) ?_
    exact e_iret C Z rfl (Nat.le_of_ble_eq_true rfl) (Nat.le_of_ble_eq_true rfl) (⟨by (try simp only [bI_eq0, Bool.not_eq_false] at h7); simp [hasF, bI, h7], rfl⟩) d_FC_has_15

set_option maxHeartbeats 4000000 in
set_option maxRecDepth 100000 in
theorem M_FC_held (l : Launch) (D : va_G) (cI cJ cZ : ClassId) (v a b : Int32) : MK l D cI cJ cZ y_FC_held c_FC_held 3 (some FieldType.int) 1 21 [.int v, .int a, .int b] [] 0 0 (rI (heldF v a b) []) := by
  refine MC.of (by decide) bigW_good (Nat.le_of_ble_eq_true rfl) (fun κ C Z IN => ?_)
  refine e_iload_n C d_FC_held_0 rfl rfl ?_
  refine e_iload_n C d_FC_held_1 rfl rfl ?_
  refine e_iload_n C d_FC_held_2 rfl rfl ?_
  refine e_mmin C ml_FC_139 sta_Math_min_name ini_JM cod_Math_min_name (Nat.le_of_ble_eq_true rfl) (Nat.le_of_ble_eq_true rfl) (Nat.le_of_ble_eq_true rfl) (Nat.le_of_ble_eq_true rfl) d_FC_held_3 ?_
  refine e_mmax C ml_FC_144 sta_Math_max_name ini_JM cod_Math_max_name (Nat.le_of_ble_eq_true rfl) (Nat.le_of_ble_eq_true rfl) (Nat.le_of_ble_eq_true rfl) (Nat.le_of_ble_eq_true rfl) d_FC_held_6 ?_
  exact e_iret C Z rfl (Nat.le_of_ble_eq_true rfl) (Nat.le_of_ble_eq_true rfl) (⟨rfl, rfl⟩) d_FC_held_9

set_option maxHeartbeats 4000000 in
set_option maxRecDepth 100000 in
theorem M_GR_belowOf (l : Launch) (D : va_G) (cI cJ cZ : ClassId) (x : Int32) : MK l D cI cJ cZ y_GR_belowOf c_GR_belowOf 1 (some FieldType.int) 0 0 [.int x] [] 0 0 (rI (2 * x) []) := by
  refine MC.of (by decide) bigW_good (Nat.le_of_ble_eq_true rfl) (fun κ C Z IN => ?_)
  refine e_iconst (v := 2) C d_GR_belowOf_0 rfl ?_
  refine e_iload_n C d_GR_belowOf_1 rfl rfl ?_
  refine e_imul C d_GR_belowOf_2 ?_
  exact e_iret C Z rfl (Nat.le_of_ble_eq_true rfl) (Nat.le_of_ble_eq_true rfl) (⟨rfl, rfl⟩) d_GR_belowOf_3

set_option maxHeartbeats 4000000 in
set_option maxRecDepth 100000 in
theorem M_GR_rightOf (l : Launch) (D : va_G) (cI cJ cZ : ClassId) (x : Int32) : MK l D cI cJ cZ y_GR_rightOf c_GR_rightOf 1 (some FieldType.int) 0 0 [.int x] [] 0 0 (rI (2 * x + 1) []) := by
  refine MC.of (by decide) bigW_good (Nat.le_of_ble_eq_true rfl) (fun κ C Z IN => ?_)
  refine e_iconst (v := 2) C d_GR_rightOf_0 rfl ?_
  refine e_iload_n C d_GR_rightOf_1 rfl rfl ?_
  refine e_imul C d_GR_rightOf_2 ?_
  refine e_iconst (v := 1) C d_GR_rightOf_3 rfl ?_
  refine e_iadd C d_GR_rightOf_4 ?_
  exact e_iret C Z rfl (Nat.le_of_ble_eq_true rfl) (Nat.le_of_ble_eq_true rfl) (⟨rfl, rfl⟩) d_GR_rightOf_5

set_option maxHeartbeats 4000000 in
set_option maxRecDepth 100000 in
theorem M_GR_inside (l : Launch) (D : va_G) (cI cJ cZ : ClassId) (g : Nat) (wd ht pl ho : Int32) (op : Int64) (lp ea eb : Int32) (x : Int32) : MK l D cI cJ cZ y_GR_inside c_GR_inside 2 (some FieldType.boolean) 0 0 [.ref g, .int x] [oGR g wd ht pl ho op lp ea eb] 0 0 (rI (bI (insideF pl x)) [oGR g wd ht pl ho op lp ea eb]) := by
  refine MC.of (by decide) bigW_good (Nat.le_of_ble_eq_true rfl) (fun κ C Z IN => ?_)
  refine e_iload_n C d_GR_inside_0 rfl rfl ?_
  refine e_if_lt (tgt := 16) C d_GR_inside_1 (by decide) (fun h1 => ?_) (fun h1 => ?_)
  · -- 16
    refine e_iconst (v := 0) C d_GR_inside_16 rfl ?_
    exact e_iret C Z rfl (Nat.le_of_ble_eq_true rfl) (Nat.le_of_ble_eq_true rfl) (⟨by (try simp only [bI_eq0, Bool.not_eq_false] at h1); simp [insideF, bI, h1], rfl⟩) d_GR_inside_17
  · -- 4
    refine e_iload_n C d_GR_inside_4 rfl rfl ?_
    refine e_aload_n C d_GR_inside_5 rfl rfl ?_
    refine e_get C hin_GR 0 rfl rfl 2 (by decide) fl_GR_18 rfl d_GR_inside_6 ?_
    refine e_icmp_ge (tgt := 16) C d_GR_inside_9 (by decide) (fun h9 => ?_) (fun h9 => ?_)
    · -- 16
      refine e_iconst (v := 0) C d_GR_inside_16 rfl ?_
      exact e_iret C Z rfl (Nat.le_of_ble_eq_true rfl) (Nat.le_of_ble_eq_true rfl) (⟨by (try simp only [bI_eq0, Bool.not_eq_false] at h1 h9); simp [insideF, bI, h1, h9], rfl⟩) d_GR_inside_17
    · -- 12
      refine e_iconst (v := 1) C d_GR_inside_12 rfl ?_
      refine e_goto (tgt := 17) C d_GR_inside_13 (by decide) ?_
      exact e_iret C Z rfl (Nat.le_of_ble_eq_true rfl) (Nat.le_of_ble_eq_true rfl) (⟨by (try simp only [bI_eq0, Bool.not_eq_false] at h1 h9); simp [insideF, bI, h1, h9], rfl⟩) d_GR_inside_17

set_option maxHeartbeats 4000000 in
set_option maxRecDepth 100000 in
theorem M_GR_isPlace (l : Launch) (D : va_G) (cI cJ cZ : ClassId) (g : Nat) (wd ht pl ho : Int32) (op : Int64) (lp ea eb : Int32) (x : Int32) : MK l D cI cJ cZ y_GR_isPlace c_GR_isPlace 2 (some FieldType.boolean) 1 21 [.ref g, .int x] [oGR g wd ht pl ho op lp ea eb] 0 0 (rI (bI (isPlaceF pl ho x)) [oGR g wd ht pl ho op lp ea eb]) := by
  refine MC.of (by decide) bigW_good (Nat.le_of_ble_eq_true rfl) (fun κ C Z IN => ?_)
  refine e_aload_n C d_GR_isPlace_0 rfl rfl ?_
  refine e_iload_n C d_GR_isPlace_1 rfl rfl ?_
  refine e_callV (As := [.int x]) (st := []) (wc := [oGR g wd ht pl ho op lp ea eb]) (wr := []) C (M_GR_inside l D cI cJ cZ g wd ht pl ho op lp ea eb x) v_GR_inside ml_GR_30 0 rfl rfl nwW_ok ⟨Nat.le_of_ble_eq_true rfl, Nat.le_of_ble_eq_true rfl⟩ ⟨Nat.le_of_ble_eq_true rfl, Nat.le_of_ble_eq_true rfl⟩ [0] [] rfl rfl rfl rfl (by decide) (Nat.le_of_ble_eq_true rfl) rfl d_GR_isPlace_2 (fun v w1 hp => ?_)
  obtain ⟨rfl, rfl⟩ := hp
  refine e_perm (st' := [.int (bI (insideF pl x))]) (ws' := [oGR g wd ht pl ho op lp ea eb]) [0] rfl rfl rfl ?_
  refine e_if_eq (tgt := 23) C d_GR_isPlace_5 (by decide) (fun h5 => ?_) (fun h5 => ?_)
  · -- 23
    refine e_iconst (v := 0) C d_GR_isPlace_23 rfl ?_
    exact e_iret C Z rfl (Nat.le_of_ble_eq_true rfl) (Nat.le_of_ble_eq_true rfl) (⟨by (try simp only [bI_eq0, Bool.not_eq_false] at h5); simp [isPlaceF, bI, h5], rfl⟩) d_GR_isPlace_24
  · -- 8
    refine e_aload_n C d_GR_isPlace_8 rfl rfl ?_
    refine e_get C hin_GR 0 rfl rfl 3 (by decide) fl_GR_34 rfl d_GR_isPlace_9 ?_
    refine e_iload_n C d_GR_isPlace_12 rfl rfl ?_
    refine e_iushr C d_GR_isPlace_13 ?_
    refine e_iconst (v := 1) C d_GR_isPlace_14 rfl ?_
    refine e_iand C d_GR_isPlace_15 ?_
    refine e_if_ne (tgt := 23) C d_GR_isPlace_16 (by decide) (fun h16 => ?_) (fun h16 => ?_)
    · -- 23
      refine e_iconst (v := 0) C d_GR_isPlace_23 rfl ?_
      exact e_iret C Z rfl (Nat.le_of_ble_eq_true rfl) (Nat.le_of_ble_eq_true rfl) (⟨by (try simp only [bI_eq0, Bool.not_eq_false] at h5 h16); simp [isPlaceF, bI, h5, h16], rfl⟩) d_GR_isPlace_24
    · -- 19
      refine e_iconst (v := 1) C d_GR_isPlace_19 rfl ?_
      refine e_goto (tgt := 24) C d_GR_isPlace_20 (by decide) ?_
      exact e_iret C Z rfl (Nat.le_of_ble_eq_true rfl) (Nat.le_of_ble_eq_true rfl) (⟨by (try simp only [bI_eq0, Bool.not_eq_false] at h5 h16); simp [isPlaceF, bI, h5, h16], rfl⟩) d_GR_isPlace_24

set_option maxHeartbeats 4000000 in
set_option maxRecDepth 100000 in
theorem M_GR_isEnd (l : Launch) (D : va_G) (cI cJ cZ : ClassId) (g : Nat) (wd ht pl ho : Int32) (op : Int64) (lp ea eb : Int32) (x : Int32) : MK l D cI cJ cZ y_GR_isEnd c_GR_isEnd 2 (some FieldType.boolean) 0 0 [.ref g, .int x] [oGR g wd ht pl ho op lp ea eb] 0 0 (rI (bI (isEndF ea eb x)) [oGR g wd ht pl ho op lp ea eb]) := by
  refine MC.of (by decide) bigW_good (Nat.le_of_ble_eq_true rfl) (fun κ C Z IN => ?_)
  refine e_iload_n C d_GR_isEnd_0 rfl rfl ?_
  refine e_aload_n C d_GR_isEnd_1 rfl rfl ?_
  refine e_get C hin_GR 0 rfl rfl 6 (by decide) fl_GR_21 rfl d_GR_isEnd_2 ?_
  refine e_icmp_eq (tgt := 16) C d_GR_isEnd_5 (by decide) (fun h5 => ?_) (fun h5 => ?_)
  · -- 16
    refine e_iconst (v := 1) C d_GR_isEnd_16 rfl ?_
    refine e_goto (tgt := 21) C d_GR_isEnd_17 (by decide) ?_
    exact e_iret C Z rfl (Nat.le_of_ble_eq_true rfl) (Nat.le_of_ble_eq_true rfl) (⟨by (try simp only [bI_eq0, Bool.not_eq_false] at h5); simp [isEndF, bI, h5], rfl⟩) d_GR_isEnd_21
  · -- 8
    refine e_iload_n C d_GR_isEnd_8 rfl rfl ?_
    refine e_aload_n C d_GR_isEnd_9 rfl rfl ?_
    refine e_get C hin_GR 0 rfl rfl 7 (by decide) fl_GR_24 rfl d_GR_isEnd_10 ?_
    refine e_icmp_ne (tgt := 20) C d_GR_isEnd_13 (by decide) (fun h13 => ?_) (fun h13 => ?_)
    · -- 20
      refine e_iconst (v := 0) C d_GR_isEnd_20 rfl ?_
      exact e_iret C Z rfl (Nat.le_of_ble_eq_true rfl) (Nat.le_of_ble_eq_true rfl) (⟨by (try simp only [bI_eq0, Bool.not_eq_false] at h5 h13); simp [isEndF, bI, h5, h13], rfl⟩) d_GR_isEnd_21
    · -- 16
      refine e_iconst (v := 1) C d_GR_isEnd_16 rfl ?_
      refine e_goto (tgt := 21) C d_GR_isEnd_17 (by decide) ?_
      exact e_iret C Z rfl (Nat.le_of_ble_eq_true rfl) (Nat.le_of_ble_eq_true rfl) (⟨by (try simp only [bI_eq0, Bool.not_eq_false] at h5 h13); simp [isEndF, bI, h5, h13], rfl⟩) d_GR_isEnd_21

set_option maxHeartbeats 4000000 in
set_option maxRecDepth 100000 in
theorem M_GR_isOpen (l : Launch) (D : va_G) (cI cJ cZ : ClassId) (g : Nat) (wd ht pl ho : Int32) (op : Int64) (lp ea eb : Int32) (x : Int32) : MK l D cI cJ cZ y_GR_isOpen c_GR_isOpen 2 (some FieldType.boolean) 1 22 [.ref g, .int x] [oGR g wd ht pl ho op lp ea eb] 0 0 (rI (bI (hasF op x)) [oGR g wd ht pl ho op lp ea eb]) := by
  refine MC.of (by decide) bigW_good (Nat.le_of_ble_eq_true rfl) (fun κ C Z IN => ?_)
  refine e_aload_n C d_GR_isOpen_0 rfl rfl ?_
  refine e_get C hin_GR 0 rfl rfl 4 (by decide) fl_GR_37 rfl d_GR_isOpen_1 ?_
  refine e_iload_n C d_GR_isOpen_4 rfl rfl ?_
  refine e_callSN (As := [.long op, .int x]) (st := []) (wc := []) (wr := [oGR g wd ht pl ho op lp ea eb]) C (M_FC_has l D cI cJ cZ op x) s_FC_has mn_GR_41 nwW_ok ⟨Nat.le_of_ble_eq_true rfl, Nat.le_of_ble_eq_true rfl⟩ ⟨Nat.le_of_ble_eq_true rfl, Nat.le_of_ble_eq_true rfl⟩ [] [0] rfl rfl rfl rfl (by decide) (Nat.le_of_ble_eq_true rfl) rfl d_GR_isOpen_5 (fun v w1 hp => ?_)
  obtain ⟨rfl, rfl⟩ := hp
  refine e_perm (st' := [.int (bI (hasF op x))]) (ws' := [oGR g wd ht pl ho op lp ea eb]) [0] rfl rfl rfl ?_
  exact e_iret C Z (bI_nar _) (Nat.le_of_ble_eq_true rfl) (Nat.le_of_ble_eq_true rfl) (⟨rfl, rfl⟩) d_GR_isOpen_8

set_option maxHeartbeats 4000000 in
set_option maxRecDepth 100000 in
theorem M_GR_openChoices (l : Launch) (D : va_G) (cI cJ cZ : ClassId) (g : Nat) (wd ht pl ho : Int32) (op : Int64) (lp ea eb : Int32) (x : Int32) : MK l D cI cJ cZ y_GR_openChoices c_GR_openChoices 2 (some FieldType.int) 1 20 [.ref g, .int x] [oGR g wd ht pl ho op lp ea eb] 0 0 (rI (openChoicesF op x) [oGR g wd ht pl ho op lp ea eb]) := by
  refine MC.of (by decide) bigW_good (Nat.le_of_ble_eq_true rfl) (fun κ C Z IN => ?_)
  refine e_aload_n C d_GR_openChoices_0 rfl rfl ?_
  refine e_get C hin_GR 0 rfl rfl 4 (by decide) fl_GR_37 rfl d_GR_openChoices_1 ?_
  refine e_iload_n C d_GR_openChoices_4 rfl rfl ?_
  refine e_callS (As := [.int x]) (st := [.long op]) (wc := []) (wr := [oGR g wd ht pl ho op lp ea eb]) C (M_GR_belowOf l D cI cJ cZ x) s_GR_belowOf ml_GR_45 nwW_ok ⟨Nat.le_of_ble_eq_true rfl, Nat.le_of_ble_eq_true rfl⟩ ⟨Nat.le_of_ble_eq_true rfl, Nat.le_of_ble_eq_true rfl⟩ [] [0] rfl rfl rfl rfl (by decide) (Nat.le_of_ble_eq_true rfl) rfl d_GR_openChoices_5 (fun v w1 hp => ?_)
  obtain ⟨rfl, rfl⟩ := hp
  refine e_perm (st' := [.int (2 * x), .long op]) (ws' := [oGR g wd ht pl ho op lp ea eb]) [0] rfl rfl rfl ?_
  refine e_lushr C d_GR_openChoices_8 ?_
  refine e_l2i C d_GR_openChoices_9 ?_
  refine e_iconst (v := 3) C d_GR_openChoices_10 rfl ?_
  refine e_iand C d_GR_openChoices_11 ?_
  exact e_iret C Z rfl (Nat.le_of_ble_eq_true rfl) (Nat.le_of_ble_eq_true rfl) (⟨rfl, rfl⟩) d_GR_openChoices_12

set_option maxHeartbeats 4000000 in
set_option maxRecDepth 100000 in
theorem M_GR_nearEnd (l : Launch) (D : va_G) (cI cJ cZ : ClassId) (g : Nat) (wd ht pl ho : Int32) (op : Int64) (lp ea eb : Int32) (x : Int32) : MK l D cI cJ cZ y_GR_nearEnd c_GR_nearEnd 2 (some FieldType.int) 0 0 [.ref g, .int x] [oGR g wd ht pl ho op lp ea eb] 0 0 (rI (x >>> ((1 : Int32) &&& 31)) [oGR g wd ht pl ho op lp ea eb]) := by
  refine MC.of (by decide) bigW_good (Nat.le_of_ble_eq_true rfl) (fun κ C Z IN => ?_)
  refine e_iload_n C d_GR_nearEnd_0 rfl rfl ?_
  refine e_iconst (v := 1) C d_GR_nearEnd_1 rfl ?_
  refine e_ishr C d_GR_nearEnd_2 ?_
  exact e_iret C Z rfl (Nat.le_of_ble_eq_true rfl) (Nat.le_of_ble_eq_true rfl) (⟨rfl, rfl⟩) d_GR_nearEnd_3

set_option maxHeartbeats 4000000 in
set_option maxRecDepth 100000 in
theorem M_GR_farEnd (l : Launch) (D : va_G) (cI cJ cZ : ClassId) (g : Nat) (wd ht pl ho : Int32) (op : Int64) (lp ea eb : Int32) (x : Int32) : MK l D cI cJ cZ y_GR_farEnd c_GR_farEnd 3 (some FieldType.int) 1 21 [.ref g, .int x] [oGR g wd ht pl ho op lp ea eb] 0 0 (rI (farEndF wd x) [oGR g wd ht pl ho op lp ea eb]) := by
  refine MC.of (by decide) bigW_good (Nat.le_of_ble_eq_true rfl) (fun κ C Z IN => ?_)
  refine e_aload_n C d_GR_farEnd_0 rfl rfl ?_
  refine e_iload_n C d_GR_farEnd_1 rfl rfl ?_
  refine e_callV (As := [.int x]) (st := []) (wc := [oGR g wd ht pl ho op lp ea eb]) (wr := []) C (M_GR_nearEnd l D cI cJ cZ g wd ht pl ho op lp ea eb x) v_GR_nearEnd ml_GR_74 0 rfl rfl nwW_ok ⟨Nat.le_of_ble_eq_true rfl, Nat.le_of_ble_eq_true rfl⟩ ⟨Nat.le_of_ble_eq_true rfl, Nat.le_of_ble_eq_true rfl⟩ [0] [] rfl rfl rfl rfl (by decide) (Nat.le_of_ble_eq_true rfl) rfl d_GR_farEnd_2 (fun v w1 hp => ?_)
  obtain ⟨rfl, rfl⟩ := hp
  refine e_perm (st' := [.int (x >>> ((1 : Int32) &&& 31))]) (ws' := [oGR g wd ht pl ho op lp ea eb]) [0] rfl rfl rfl ?_
  refine e_istore_n C d_GR_farEnd_5 rfl (by decide) ?_
  refine e_iload_n C d_GR_farEnd_6 rfl rfl ?_
  refine e_iload_n C d_GR_farEnd_7 rfl rfl ?_
  refine e_callS (As := [.int (x >>> ((1 : Int32) &&& 31))]) (st := [.int x]) (wc := []) (wr := [oGR g wd ht pl ho op lp ea eb]) C (M_GR_rightOf l D cI cJ cZ (x >>> ((1 : Int32) &&& 31))) s_GR_rightOf ml_GR_59 nwW_ok ⟨Nat.le_of_ble_eq_true rfl, Nat.le_of_ble_eq_true rfl⟩ ⟨Nat.le_of_ble_eq_true rfl, Nat.le_of_ble_eq_true rfl⟩ [] [0] rfl rfl rfl rfl (by decide) (Nat.le_of_ble_eq_true rfl) rfl d_GR_farEnd_8 (fun v w1 hp => ?_)
  obtain ⟨rfl, rfl⟩ := hp
  refine e_perm (st' := [.int (2 * (x >>> ((1 : Int32) &&& 31)) + 1), .int x]) (ws' := [oGR g wd ht pl ho op lp ea eb]) [0] rfl rfl rfl ?_
  refine e_icmp_ne (tgt := 20) C d_GR_farEnd_11 (by decide) (fun h11 => ?_) (fun h11 => ?_)
  · -- 20
    refine e_iload_n C d_GR_farEnd_20 rfl rfl ?_
    refine e_aload_n C d_GR_farEnd_21 rfl rfl ?_
    refine e_get C hin_GR 0 rfl rfl 0 (by decide) fl_GR_9 rfl d_GR_farEnd_22 ?_
    refine e_iadd C d_GR_farEnd_25 ?_
    exact e_iret C Z rfl (Nat.le_of_ble_eq_true rfl) (Nat.le_of_ble_eq_true rfl) (⟨by (try simp only [bI_eq0, Bool.not_eq_false] at h11); unfold farEndF; (first | rw [if_pos h11] | rw [if_neg h11] | rw [if_neg (Bool.eq_false_iff.mp h11)] | skip), rfl⟩) d_GR_farEnd_26
  · -- 14
    refine e_iload_n C d_GR_farEnd_14 rfl rfl ?_
    refine e_iconst (v := 1) C d_GR_farEnd_15 rfl ?_
    refine e_iadd C d_GR_farEnd_16 ?_
    refine e_goto (tgt := 26) C d_GR_farEnd_17 (by decide) ?_
    exact e_iret C Z rfl (Nat.le_of_ble_eq_true rfl) (Nat.le_of_ble_eq_true rfl) (⟨by (try simp only [bI_eq0, Bool.not_eq_false] at h11); unfold farEndF; (first | rw [if_pos h11] | rw [if_neg h11] | rw [if_neg (Bool.eq_false_iff.mp h11)] | skip), rfl⟩) d_GR_farEnd_26

set_option maxHeartbeats 4000000 in
set_option maxRecDepth 100000 in
theorem M_GR_tellEnds (l : Launch) (D : va_G) (cI cJ cZ : ClassId) (g : Nat) (wd ht pl ho : Int32) (op : Int64) (lp ea eb : Int32) (a b : Int32) : MK l D cI cJ cZ y_GR_tellEnds c_GR_tellEnds 3 none 0 0 [.ref g, .int a, .int b] [oGR g wd ht pl ho op lp ea eb] 0 0 (rV [oGR g wd ht pl ho op lp a b]) := by
  refine MC.of (by decide) bigW_good (Nat.le_of_ble_eq_true rfl) (fun κ C Z IN => ?_)
  refine e_aload_n C d_GR_tellEnds_0 rfl rfl ?_
  refine e_iload_n C d_GR_tellEnds_1 rfl rfl ?_
  refine e_put C hin_GR ty_GR tyk_GR nm_GR 0 rfl rfl 6 (by decide) fl_GR_21 rfl rfl rfl (Nat.le_of_ble_eq_true rfl) d_GR_tellEnds_2 ?_
  refine e_ws [oGR g wd ht pl ho op lp a eb] rfl ?_
  refine e_aload_n C d_GR_tellEnds_5 rfl rfl ?_
  refine e_iload_n C d_GR_tellEnds_6 rfl rfl ?_
  refine e_put C hin_GR ty_GR tyk_GR nm_GR 0 rfl rfl 7 (by decide) fl_GR_24 rfl rfl rfl (Nat.le_of_ble_eq_true rfl) d_GR_tellEnds_7 ?_
  refine e_ws [oGR g wd ht pl ho op lp a b] rfl ?_
  exact e_vret C Z (Nat.le_of_ble_eq_true rfl) (Nat.le_of_ble_eq_true rfl) (⟨rfl, rfl⟩) d_GR_tellEnds_10

def sbF (wd : Int32) (op : Int64) (lo ap : Int32) : Int32 :=
  if ap = 1 then (if hasF op (2 * lo + 1) = true then 2 * lo + 1 else if ap = wd then (if hasF op (2 * lo) = true then 2 * lo else -1) else -1)
  else if ap = wd then (if hasF op (2 * lo) = true then 2 * lo else -1) else -1
def slotBetweenF (wd pl : Int32) (op : Int64) (a b : Int32) : Int32 :=
  if insideF pl a = true then (if insideF pl b = true then sbF wd op (if b < a then b else a) ((if a < b then b else a) - (if b < a then b else a)) else -1) else -1
set_option maxHeartbeats 4000000 in
set_option maxRecDepth 100000 in
theorem M_GR_slotBetween (l : Launch) (D : va_G) (cI cJ cZ : ClassId) (g : Nat) (wd ht pl ho : Int32) (op : Int64) (lp ea eb : Int32) (a b : Int32) : MK l D cI cJ cZ y_GR_slotBetween c_GR_slotBetween 5 (some FieldType.int) 2 43 [.ref g, .int a, .int b] [oGR g wd ht pl ho op lp ea eb] 0 0 (rI (slotBetweenF wd pl op a b) [oGR g wd ht pl ho op lp ea eb]) := by
  refine MC.of (by decide) bigW_good (Nat.le_of_ble_eq_true rfl) (fun κ C Z IN => ?_)
  refine e_aload_n C d_GR_slotBetween_0 rfl rfl ?_
  refine e_iload_n C d_GR_slotBetween_1 rfl rfl ?_
  refine e_callV (As := [.int a]) (st := []) (wc := [oGR g wd ht pl ho op lp ea eb]) (wr := []) C (M_GR_inside l D cI cJ cZ g wd ht pl ho op lp ea eb a) v_GR_inside ml_GR_30 0 rfl rfl nwW_ok ⟨Nat.le_of_ble_eq_true rfl, Nat.le_of_ble_eq_true rfl⟩ ⟨Nat.le_of_ble_eq_true rfl, Nat.le_of_ble_eq_true rfl⟩ [0] [] rfl rfl rfl rfl (by decide) (Nat.le_of_ble_eq_true rfl) rfl d_GR_slotBetween_2 (fun v w1 hp => ?_)
  obtain ⟨rfl, rfl⟩ := hp
  refine e_perm (st' := [.int (bI (insideF pl a))]) (ws' := [oGR g wd ht pl ho op lp ea eb]) [0] rfl rfl rfl ?_
  refine e_if_eq (tgt := 16) C d_GR_slotBetween_5 (by decide) (fun h5 => ?_) (fun h5 => ?_)
  · -- 16
    refine e_iconst (v := (-1)) C d_GR_slotBetween_16 rfl ?_
    exact e_iret C Z rfl (Nat.le_of_ble_eq_true rfl) (Nat.le_of_ble_eq_true rfl) (⟨by (try simp only [bI_eq0, Bool.not_eq_false] at h5); unfold slotBetweenF; (first | rw [if_pos h5] | rw [if_neg h5] | rw [if_neg (Bool.eq_false_iff.mp h5)] | skip), rfl⟩) d_GR_slotBetween_17
  · -- 8
    refine e_aload_n C d_GR_slotBetween_8 rfl rfl ?_
    refine e_iload_n C d_GR_slotBetween_9 rfl rfl ?_
    refine e_callV (As := [.int b]) (st := []) (wc := [oGR g wd ht pl ho op lp ea eb]) (wr := []) C (M_GR_inside l D cI cJ cZ g wd ht pl ho op lp ea eb b) v_GR_inside ml_GR_30 0 rfl rfl nwW_ok ⟨Nat.le_of_ble_eq_true rfl, Nat.le_of_ble_eq_true rfl⟩ ⟨Nat.le_of_ble_eq_true rfl, Nat.le_of_ble_eq_true rfl⟩ [0] [] rfl rfl rfl rfl (by decide) (Nat.le_of_ble_eq_true rfl) rfl d_GR_slotBetween_10 (fun v w1 hp => ?_)
    obtain ⟨rfl, rfl⟩ := hp
    refine e_perm (st' := [.int (bI (insideF pl b))]) (ws' := [oGR g wd ht pl ho op lp ea eb]) [0] rfl rfl rfl ?_
    refine e_if_ne (tgt := 18) C d_GR_slotBetween_13 (by decide) (fun h13 => ?_) (fun h13 => ?_)
    · -- 18
      refine e_iload_n C d_GR_slotBetween_18 rfl rfl ?_
      refine e_iload_n C d_GR_slotBetween_19 rfl rfl ?_
      refine e_mmin C ml_GR_62 sta_Math_min_name ini_JM cod_Math_min_name (Nat.le_of_ble_eq_true rfl) (Nat.le_of_ble_eq_true rfl) (Nat.le_of_ble_eq_true rfl) (Nat.le_of_ble_eq_true rfl) d_GR_slotBetween_20 ?_
      refine e_ti (fun x23 ex23 => ?_)
      refine e_istore_n C d_GR_slotBetween_23 rfl (by decide) ?_
      refine e_iload_n C d_GR_slotBetween_24 rfl rfl ?_
      refine e_iload_n C d_GR_slotBetween_25 rfl rfl ?_
      refine e_mmax C ml_GR_68 sta_Math_max_name ini_JM cod_Math_max_name (Nat.le_of_ble_eq_true rfl) (Nat.le_of_ble_eq_true rfl) (Nat.le_of_ble_eq_true rfl) (Nat.le_of_ble_eq_true rfl) d_GR_slotBetween_26 ?_
      refine e_iload_n C d_GR_slotBetween_29 rfl rfl ?_
      refine e_isub C d_GR_slotBetween_30 ?_
      refine e_ti (fun x31 ex31 => ?_)
      refine e_istore C d_GR_slotBetween_31 (by decide) ?_
      refine e_iload C d_GR_slotBetween_33 rfl ?_
      refine e_iconst (v := 1) C d_GR_slotBetween_35 rfl ?_
      refine e_icmp_ne (tgt := 55) C d_GR_slotBetween_36 (by decide) (fun h36 => ?_) (fun h36 => ?_)
      · -- 55
        refine e_iload C d_GR_slotBetween_55 rfl ?_
        refine e_aload_n C d_GR_slotBetween_57 rfl rfl ?_
        refine e_get C hin_GR 0 rfl rfl 0 (by decide) fl_GR_9 rfl d_GR_slotBetween_58 ?_
        refine e_icmp_ne (tgt := 82) C d_GR_slotBetween_61 (by decide) (fun h61 => ?_) (fun h61 => ?_)
        · -- 82
          refine e_iconst (v := (-1)) C d_GR_slotBetween_82 rfl ?_
          exact e_iret C Z rfl (Nat.le_of_ble_eq_true rfl) (Nat.le_of_ble_eq_true rfl) (⟨by (try simp only [bI_eq0, Bool.not_eq_false] at h5 h13 h36 h61); unfold slotBetweenF; (first | rw [if_pos h5] | rw [if_neg h5] | rw [if_neg (Bool.eq_false_iff.mp h5)] | skip); (first | rw [if_pos h13] | rw [if_neg h13] | rw [if_neg (Bool.eq_false_iff.mp h13)] | skip); rw [← ex23, ← ex31]; unfold sbF; (first | rw [if_pos h36] | rw [if_neg h36] | rw [if_neg (Bool.eq_false_iff.mp h36)] | skip); (first | rw [if_pos h61] | rw [if_neg h61] | rw [if_neg (Bool.eq_false_iff.mp h61)] | skip), rfl⟩) d_GR_slotBetween_83
        · -- 64
          refine e_aload_n C d_GR_slotBetween_64 rfl rfl ?_
          refine e_iload_n C d_GR_slotBetween_65 rfl rfl ?_
          refine e_callS (As := [.int x23]) (st := [.ref g]) (wc := []) (wr := [oGR g wd ht pl ho op lp ea eb]) C (M_GR_belowOf l D cI cJ cZ x23) s_GR_belowOf ml_GR_45 nwW_ok ⟨Nat.le_of_ble_eq_true rfl, Nat.le_of_ble_eq_true rfl⟩ ⟨Nat.le_of_ble_eq_true rfl, Nat.le_of_ble_eq_true rfl⟩ [] [0] rfl rfl rfl rfl (by decide) (Nat.le_of_ble_eq_true rfl) rfl d_GR_slotBetween_66 (fun v w1 hp => ?_)
          obtain ⟨rfl, rfl⟩ := hp
          refine e_perm (st' := [.int (2 * x23), .ref g]) (ws' := [oGR g wd ht pl ho op lp ea eb]) [0] rfl rfl rfl ?_
          refine e_callV (As := [.int (2 * x23)]) (st := []) (wc := [oGR g wd ht pl ho op lp ea eb]) (wr := []) C (M_GR_isOpen l D cI cJ cZ g wd ht pl ho op lp ea eb (2 * x23)) v_GR_isOpen ml_GR_71 0 rfl rfl nwW_ok ⟨Nat.le_of_ble_eq_true rfl, Nat.le_of_ble_eq_true rfl⟩ ⟨Nat.le_of_ble_eq_true rfl, Nat.le_of_ble_eq_true rfl⟩ [0] [] rfl rfl rfl rfl (by decide) (Nat.le_of_ble_eq_true rfl) rfl d_GR_slotBetween_69 (fun v w1 hp => ?_)
          obtain ⟨rfl, rfl⟩ := hp
          refine e_perm (st' := [.int (bI (hasF op (2 * x23)))]) (ws' := [oGR g wd ht pl ho op lp ea eb]) [0] rfl rfl rfl ?_
          refine e_if_eq (tgt := 82) C d_GR_slotBetween_72 (by decide) (fun h72 => ?_) (fun h72 => ?_)
          · -- 82
            refine e_iconst (v := (-1)) C d_GR_slotBetween_82 rfl ?_
            exact e_iret C Z rfl (Nat.le_of_ble_eq_true rfl) (Nat.le_of_ble_eq_true rfl) (⟨by (try simp only [bI_eq0, Bool.not_eq_false] at h5 h13 h36 h61 h72); unfold slotBetweenF; (first | rw [if_pos h5] | rw [if_neg h5] | rw [if_neg (Bool.eq_false_iff.mp h5)] | skip); (first | rw [if_pos h13] | rw [if_neg h13] | rw [if_neg (Bool.eq_false_iff.mp h13)] | skip); rw [← ex23, ← ex31]; unfold sbF; (first | rw [if_pos h36] | rw [if_neg h36] | rw [if_neg (Bool.eq_false_iff.mp h36)] | skip); (first | rw [if_pos h61] | rw [if_neg h61] | rw [if_neg (Bool.eq_false_iff.mp h61)] | skip); (first | rw [if_pos h72] | rw [if_neg h72] | rw [if_neg (Bool.eq_false_iff.mp h72)] | skip), rfl⟩) d_GR_slotBetween_83
          · -- 75
            refine e_iload_n C d_GR_slotBetween_75 rfl rfl ?_
            refine e_callS (As := [.int x23]) (st := []) (wc := []) (wr := [oGR g wd ht pl ho op lp ea eb]) C (M_GR_belowOf l D cI cJ cZ x23) s_GR_belowOf ml_GR_45 nwW_ok ⟨Nat.le_of_ble_eq_true rfl, Nat.le_of_ble_eq_true rfl⟩ ⟨Nat.le_of_ble_eq_true rfl, Nat.le_of_ble_eq_true rfl⟩ [] [0] rfl rfl rfl rfl (by decide) (Nat.le_of_ble_eq_true rfl) rfl d_GR_slotBetween_76 (fun v w1 hp => ?_)
            obtain ⟨rfl, rfl⟩ := hp
            refine e_perm (st' := [.int (2 * x23)]) (ws' := [oGR g wd ht pl ho op lp ea eb]) [0] rfl rfl rfl ?_
            refine e_goto (tgt := 83) C d_GR_slotBetween_79 (by decide) ?_
            exact e_iret C Z rfl (Nat.le_of_ble_eq_true rfl) (Nat.le_of_ble_eq_true rfl) (⟨by (try simp only [bI_eq0, Bool.not_eq_false] at h5 h13 h36 h61 h72); unfold slotBetweenF; (first | rw [if_pos h5] | rw [if_neg h5] | rw [if_neg (Bool.eq_false_iff.mp h5)] | skip); (first | rw [if_pos h13] | rw [if_neg h13] | rw [if_neg (Bool.eq_false_iff.mp h13)] | skip); rw [← ex23, ← ex31]; unfold sbF; (first | rw [if_pos h36] | rw [if_neg h36] | rw [if_neg (Bool.eq_false_iff.mp h36)] | skip); (first | rw [if_pos h61] | rw [if_neg h61] | rw [if_neg (Bool.eq_false_iff.mp h61)] | skip); (first | rw [if_pos h72] | rw [if_neg h72] | rw [if_neg (Bool.eq_false_iff.mp h72)] | skip), rfl⟩) d_GR_slotBetween_83
      · -- 39
        refine e_aload_n C d_GR_slotBetween_39 rfl rfl ?_
        refine e_iload_n C d_GR_slotBetween_40 rfl rfl ?_
        refine e_callS (As := [.int x23]) (st := [.ref g]) (wc := []) (wr := [oGR g wd ht pl ho op lp ea eb]) C (M_GR_rightOf l D cI cJ cZ x23) s_GR_rightOf ml_GR_59 nwW_ok ⟨Nat.le_of_ble_eq_true rfl, Nat.le_of_ble_eq_true rfl⟩ ⟨Nat.le_of_ble_eq_true rfl, Nat.le_of_ble_eq_true rfl⟩ [] [0] rfl rfl rfl rfl (by decide) (Nat.le_of_ble_eq_true rfl) rfl d_GR_slotBetween_41 (fun v w1 hp => ?_)
        obtain ⟨rfl, rfl⟩ := hp
        refine e_perm (st' := [.int (2 * x23 + 1), .ref g]) (ws' := [oGR g wd ht pl ho op lp ea eb]) [0] rfl rfl rfl ?_
        refine e_callV (As := [.int (2 * x23 + 1)]) (st := []) (wc := [oGR g wd ht pl ho op lp ea eb]) (wr := []) C (M_GR_isOpen l D cI cJ cZ g wd ht pl ho op lp ea eb (2 * x23 + 1)) v_GR_isOpen ml_GR_71 0 rfl rfl nwW_ok ⟨Nat.le_of_ble_eq_true rfl, Nat.le_of_ble_eq_true rfl⟩ ⟨Nat.le_of_ble_eq_true rfl, Nat.le_of_ble_eq_true rfl⟩ [0] [] rfl rfl rfl rfl (by decide) (Nat.le_of_ble_eq_true rfl) rfl d_GR_slotBetween_44 (fun v w1 hp => ?_)
        obtain ⟨rfl, rfl⟩ := hp
        refine e_perm (st' := [.int (bI (hasF op (2 * x23 + 1)))]) (ws' := [oGR g wd ht pl ho op lp ea eb]) [0] rfl rfl rfl ?_
        refine e_if_eq (tgt := 55) C d_GR_slotBetween_47 (by decide) (fun h47 => ?_) (fun h47 => ?_)
        · -- 55
          refine e_iload C d_GR_slotBetween_55 rfl ?_
          refine e_aload_n C d_GR_slotBetween_57 rfl rfl ?_
          refine e_get C hin_GR 0 rfl rfl 0 (by decide) fl_GR_9 rfl d_GR_slotBetween_58 ?_
          refine e_icmp_ne (tgt := 82) C d_GR_slotBetween_61 (by decide) (fun h61 => ?_) (fun h61 => ?_)
          · -- 82
            refine e_iconst (v := (-1)) C d_GR_slotBetween_82 rfl ?_
            exact e_iret C Z rfl (Nat.le_of_ble_eq_true rfl) (Nat.le_of_ble_eq_true rfl) (⟨by (try simp only [bI_eq0, Bool.not_eq_false] at h5 h13 h36 h47 h61); unfold slotBetweenF; (first | rw [if_pos h5] | rw [if_neg h5] | rw [if_neg (Bool.eq_false_iff.mp h5)] | skip); (first | rw [if_pos h13] | rw [if_neg h13] | rw [if_neg (Bool.eq_false_iff.mp h13)] | skip); rw [← ex23, ← ex31]; unfold sbF; (first | rw [if_pos h36] | rw [if_neg h36] | rw [if_neg (Bool.eq_false_iff.mp h36)] | skip); (first | rw [if_pos h47] | rw [if_neg h47] | rw [if_neg (Bool.eq_false_iff.mp h47)] | skip); (first | rw [if_pos h61] | rw [if_neg h61] | rw [if_neg (Bool.eq_false_iff.mp h61)] | skip), rfl⟩) d_GR_slotBetween_83
          · -- 64
            refine e_aload_n C d_GR_slotBetween_64 rfl rfl ?_
            refine e_iload_n C d_GR_slotBetween_65 rfl rfl ?_
            refine e_callS (As := [.int x23]) (st := [.ref g]) (wc := []) (wr := [oGR g wd ht pl ho op lp ea eb]) C (M_GR_belowOf l D cI cJ cZ x23) s_GR_belowOf ml_GR_45 nwW_ok ⟨Nat.le_of_ble_eq_true rfl, Nat.le_of_ble_eq_true rfl⟩ ⟨Nat.le_of_ble_eq_true rfl, Nat.le_of_ble_eq_true rfl⟩ [] [0] rfl rfl rfl rfl (by decide) (Nat.le_of_ble_eq_true rfl) rfl d_GR_slotBetween_66 (fun v w1 hp => ?_)
            obtain ⟨rfl, rfl⟩ := hp
            refine e_perm (st' := [.int (2 * x23), .ref g]) (ws' := [oGR g wd ht pl ho op lp ea eb]) [0] rfl rfl rfl ?_
            refine e_callV (As := [.int (2 * x23)]) (st := []) (wc := [oGR g wd ht pl ho op lp ea eb]) (wr := []) C (M_GR_isOpen l D cI cJ cZ g wd ht pl ho op lp ea eb (2 * x23)) v_GR_isOpen ml_GR_71 0 rfl rfl nwW_ok ⟨Nat.le_of_ble_eq_true rfl, Nat.le_of_ble_eq_true rfl⟩ ⟨Nat.le_of_ble_eq_true rfl, Nat.le_of_ble_eq_true rfl⟩ [0] [] rfl rfl rfl rfl (by decide) (Nat.le_of_ble_eq_true rfl) rfl d_GR_slotBetween_69 (fun v w1 hp => ?_)
            obtain ⟨rfl, rfl⟩ := hp
            refine e_perm (st' := [.int (bI (hasF op (2 * x23)))]) (ws' := [oGR g wd ht pl ho op lp ea eb]) [0] rfl rfl rfl ?_
            refine e_if_eq (tgt := 82) C d_GR_slotBetween_72 (by decide) (fun h72 => ?_) (fun h72 => ?_)
            · -- 82
              refine e_iconst (v := (-1)) C d_GR_slotBetween_82 rfl ?_
              exact e_iret C Z rfl (Nat.le_of_ble_eq_true rfl) (Nat.le_of_ble_eq_true rfl) (⟨by (try simp only [bI_eq0, Bool.not_eq_false] at h5 h13 h36 h47 h61 h72); unfold slotBetweenF; (first | rw [if_pos h5] | rw [if_neg h5] | rw [if_neg (Bool.eq_false_iff.mp h5)] | skip); (first | rw [if_pos h13] | rw [if_neg h13] | rw [if_neg (Bool.eq_false_iff.mp h13)] | skip); rw [← ex23, ← ex31]; unfold sbF; (first | rw [if_pos h36] | rw [if_neg h36] | rw [if_neg (Bool.eq_false_iff.mp h36)] | skip); (first | rw [if_pos h47] | rw [if_neg h47] | rw [if_neg (Bool.eq_false_iff.mp h47)] | skip); (first | rw [if_pos h61] | rw [if_neg h61] | rw [if_neg (Bool.eq_false_iff.mp h61)] | skip); (first | rw [if_pos h72] | rw [if_neg h72] | rw [if_neg (Bool.eq_false_iff.mp h72)] | skip), rfl⟩) d_GR_slotBetween_83
            · -- 75
              refine e_iload_n C d_GR_slotBetween_75 rfl rfl ?_
              refine e_callS (As := [.int x23]) (st := []) (wc := []) (wr := [oGR g wd ht pl ho op lp ea eb]) C (M_GR_belowOf l D cI cJ cZ x23) s_GR_belowOf ml_GR_45 nwW_ok ⟨Nat.le_of_ble_eq_true rfl, Nat.le_of_ble_eq_true rfl⟩ ⟨Nat.le_of_ble_eq_true rfl, Nat.le_of_ble_eq_true rfl⟩ [] [0] rfl rfl rfl rfl (by decide) (Nat.le_of_ble_eq_true rfl) rfl d_GR_slotBetween_76 (fun v w1 hp => ?_)
              obtain ⟨rfl, rfl⟩ := hp
              refine e_perm (st' := [.int (2 * x23)]) (ws' := [oGR g wd ht pl ho op lp ea eb]) [0] rfl rfl rfl ?_
              refine e_goto (tgt := 83) C d_GR_slotBetween_79 (by decide) ?_
              exact e_iret C Z rfl (Nat.le_of_ble_eq_true rfl) (Nat.le_of_ble_eq_true rfl) (⟨by (try simp only [bI_eq0, Bool.not_eq_false] at h5 h13 h36 h47 h61 h72); unfold slotBetweenF; (first | rw [if_pos h5] | rw [if_neg h5] | rw [if_neg (Bool.eq_false_iff.mp h5)] | skip); (first | rw [if_pos h13] | rw [if_neg h13] | rw [if_neg (Bool.eq_false_iff.mp h13)] | skip); rw [← ex23, ← ex31]; unfold sbF; (first | rw [if_pos h36] | rw [if_neg h36] | rw [if_neg (Bool.eq_false_iff.mp h36)] | skip); (first | rw [if_pos h47] | rw [if_neg h47] | rw [if_neg (Bool.eq_false_iff.mp h47)] | skip); (first | rw [if_pos h61] | rw [if_neg h61] | rw [if_neg (Bool.eq_false_iff.mp h61)] | skip); (first | rw [if_pos h72] | rw [if_neg h72] | rw [if_neg (Bool.eq_false_iff.mp h72)] | skip), rfl⟩) d_GR_slotBetween_83
        · -- 50
          refine e_iload_n C d_GR_slotBetween_50 rfl rfl ?_
          refine e_callS (As := [.int x23]) (st := []) (wc := []) (wr := [oGR g wd ht pl ho op lp ea eb]) C (M_GR_rightOf l D cI cJ cZ x23) s_GR_rightOf ml_GR_59 nwW_ok ⟨Nat.le_of_ble_eq_true rfl, Nat.le_of_ble_eq_true rfl⟩ ⟨Nat.le_of_ble_eq_true rfl, Nat.le_of_ble_eq_true rfl⟩ [] [0] rfl rfl rfl rfl (by decide) (Nat.le_of_ble_eq_true rfl) rfl d_GR_slotBetween_51 (fun v w1 hp => ?_)
          obtain ⟨rfl, rfl⟩ := hp
          refine e_perm (st' := [.int (2 * x23 + 1)]) (ws' := [oGR g wd ht pl ho op lp ea eb]) [0] rfl rfl rfl ?_
          exact e_iret C Z rfl (Nat.le_of_ble_eq_true rfl) (Nat.le_of_ble_eq_true rfl) (⟨by (try simp only [bI_eq0, Bool.not_eq_false] at h5 h13 h36 h47); unfold slotBetweenF; (first | rw [if_pos h5] | rw [if_neg h5] | rw [if_neg (Bool.eq_false_iff.mp h5)] | skip); (first | rw [if_pos h13] | rw [if_neg h13] | rw [if_neg (Bool.eq_false_iff.mp h13)] | skip); rw [← ex23, ← ex31]; unfold sbF; (first | rw [if_pos h36] | rw [if_neg h36] | rw [if_neg (Bool.eq_false_iff.mp h36)] | skip); (first | rw [if_pos h47] | rw [if_neg h47] | rw [if_neg (Bool.eq_false_iff.mp h47)] | skip), rfl⟩) d_GR_slotBetween_54
    · -- 16
      refine e_iconst (v := (-1)) C d_GR_slotBetween_16 rfl ?_
      exact e_iret C Z rfl (Nat.le_of_ble_eq_true rfl) (Nat.le_of_ble_eq_true rfl) (⟨by (try simp only [bI_eq0, Bool.not_eq_false] at h5 h13); unfold slotBetweenF; (first | rw [if_pos h5] | rw [if_neg h5] | rw [if_neg (Bool.eq_false_iff.mp h5)] | skip); (first | rw [if_pos h13] | rw [if_neg h13] | rw [if_neg (Bool.eq_false_iff.mp h13)] | skip), rfl⟩) d_GR_slotBetween_17

def oslotF (wd pl ho p : Int32) (row : Bool) (s : Int64 × Int32) : Int64 × Int32 :=
  if isPlaceF pl ho p then
    (if isPlaceF pl ho (p + wd) then (if row && isPlaceF pl ho (p + 1) then s.1 ||| (1 <<< ((2 * p + 1).toInt64 &&& 63)) else s.1) ||| (1 <<< ((2 * p).toInt64 &&& 63)) else (if row && isPlaceF pl ho (p + 1) then s.1 ||| (1 <<< ((2 * p + 1).toInt64 &&& 63)) else s.1), p)
  else s
def itn {σ : Type} (f : Nat → σ → σ) : Nat → σ → σ
  | 0, s => s
  | n + 1, s => f n (itn f n s)
def fosStep (w : Nat) (pl ho : Int32) (j i : Nat) (s : Int64 × Int32) : Int64 × Int32 := oslotF (nI w) pl ho (nI i + nI w * nI j) (decide (i + 1 < w)) s
def fosRow (w : Nat) (pl ho : Int32) (j : Nat) (s : Int64 × Int32) : Int64 × Int32 := itn (fosStep w pl ho j) w s
def fosF (w h : Nat) (pl ho : Int32) : Int64 × Int32 := itn (fosRow w pl ho) h (0, -1)
set_option maxHeartbeats 4000000 in
set_option maxRecDepth 100000 in
theorem M_GR_openSlotsAt (l : Launch) (D : va_G) (cI cJ cZ : ClassId) (g : Nat) (wd ht pl ho : Int32) (op : Int64) (lp ea eb : Int32) (p : Int32) (row : Bool) : MK l D cI cJ cZ y_GR_openSlotsAt c_GR_openSlotsAt 3 none 2 42 [.ref g, .int p, .int (bI row)] [oGR g wd ht pl ho op lp ea eb] 0 0 (rV [oGR g wd ht pl ho ((oslotF wd pl ho p row (op, lp)).1) ((oslotF wd pl ho p row (op, lp)).2) ea eb]) := by
  refine MC.of (by decide) bigW_good (Nat.le_of_ble_eq_true rfl) (fun κ C Z IN => ?_)
  refine e_aload_n C d_GR_openSlotsAt_0 rfl rfl ?_
  refine e_iload_n C d_GR_openSlotsAt_1 rfl rfl ?_
  refine e_callV (As := [.int p]) (st := []) (wc := [oGR g wd ht pl ho op lp ea eb]) (wr := []) C (M_GR_isPlace l D cI cJ cZ g wd ht pl ho op lp ea eb p) v_GR_isPlace ml_GR_56 0 rfl rfl nwW_ok ⟨Nat.le_of_ble_eq_true rfl, Nat.le_of_ble_eq_true rfl⟩ ⟨Nat.le_of_ble_eq_true rfl, Nat.le_of_ble_eq_true rfl⟩ [0] [] rfl rfl rfl rfl (by decide) (Nat.le_of_ble_eq_true rfl) rfl d_GR_openSlotsAt_2 (fun v w1 hp => ?_)
  obtain ⟨rfl, rfl⟩ := hp
  refine e_perm (st' := [.int (bI (isPlaceF pl ho p))]) (ws' := [oGR g wd ht pl ho op lp ea eb]) [0] rfl rfl rfl ?_
  refine e_if_ne (tgt := 9) C d_GR_openSlotsAt_5 (by decide) (fun h5 => ?_) (fun h5 => ?_)
  · -- 9
    refine e_aload_n C d_GR_openSlotsAt_9 rfl rfl ?_
    refine e_iload_n C d_GR_openSlotsAt_10 rfl rfl ?_
    refine e_put C hin_GR ty_GR tyk_GR nm_GR 0 rfl rfl 5 (by decide) fl_GR_49 rfl rfl rfl (Nat.le_of_ble_eq_true rfl) d_GR_openSlotsAt_11 ?_
    refine e_ws [oGR g wd ht pl ho op p ea eb] rfl ?_
    refine e_iload_n C d_GR_openSlotsAt_14 rfl rfl ?_
    refine e_if_eq (tgt := 43) C d_GR_openSlotsAt_15 (by decide) (fun h15 => ?_) (fun h15 => ?_)
    · -- 43
      refine e_aload_n C d_GR_openSlotsAt_43 rfl rfl ?_
      refine e_iload_n C d_GR_openSlotsAt_44 rfl rfl ?_
      refine e_aload_n C d_GR_openSlotsAt_45 rfl rfl ?_
      refine e_get C hin_GR 0 rfl rfl 0 (by decide) fl_GR_9 rfl d_GR_openSlotsAt_46 ?_
      refine e_iadd C d_GR_openSlotsAt_49 ?_
      refine e_callV (As := [.int (p + wd)]) (st := []) (wc := [oGR g wd ht pl ho op p ea eb]) (wr := []) C (M_GR_isPlace l D cI cJ cZ g wd ht pl ho op p ea eb (p + wd)) v_GR_isPlace ml_GR_56 0 rfl rfl nwW_ok ⟨Nat.le_of_ble_eq_true rfl, Nat.le_of_ble_eq_true rfl⟩ ⟨Nat.le_of_ble_eq_true rfl, Nat.le_of_ble_eq_true rfl⟩ [0] [] rfl rfl rfl rfl (by decide) (Nat.le_of_ble_eq_true rfl) rfl d_GR_openSlotsAt_50 (fun v w1 hp => ?_)
      obtain ⟨rfl, rfl⟩ := hp
      refine e_perm (st' := [.int (bI (isPlaceF pl ho (p + wd)))]) (ws' := [oGR g wd ht pl ho op p ea eb]) [0] rfl rfl rfl ?_
      refine e_if_eq (tgt := 71) C d_GR_openSlotsAt_53 (by decide) (fun h53 => ?_) (fun h53 => ?_)
      · -- 71
        exact e_vret C Z (Nat.le_of_ble_eq_true rfl) (Nat.le_of_ble_eq_true rfl) (⟨rfl, by (try simp only [bI_eq0, Bool.not_eq_false] at h5 h15 h53); simp [oslotF, h5, h15, h53]⟩) d_GR_openSlotsAt_71
      · -- 56
        refine e_aload_n C d_GR_openSlotsAt_56 rfl rfl ?_
        refine e_dup C d_GR_openSlotsAt_57 rfl ?_
        refine e_get C hin_GR 0 rfl rfl 4 (by decide) fl_GR_37 rfl d_GR_openSlotsAt_58 ?_
        refine e_lconst (v := 1) C d_GR_openSlotsAt_61 rfl ?_
        refine e_iload_n C d_GR_openSlotsAt_62 rfl rfl ?_
        refine e_callS (As := [.int p]) (st := [.long 1, .long op, .ref g]) (wc := []) (wr := [oGR g wd ht pl ho op p ea eb]) C (M_GR_belowOf l D cI cJ cZ p) s_GR_belowOf ml_GR_45 nwW_ok ⟨Nat.le_of_ble_eq_true rfl, Nat.le_of_ble_eq_true rfl⟩ ⟨Nat.le_of_ble_eq_true rfl, Nat.le_of_ble_eq_true rfl⟩ [] [0] rfl rfl rfl rfl (by decide) (Nat.le_of_ble_eq_true rfl) rfl d_GR_openSlotsAt_63 (fun v w1 hp => ?_)
        obtain ⟨rfl, rfl⟩ := hp
        refine e_perm (st' := [.int (2 * p), .long 1, .long op, .ref g]) (ws' := [oGR g wd ht pl ho op p ea eb]) [0] rfl rfl rfl ?_
        refine e_lshl C d_GR_openSlotsAt_66 ?_
        refine e_lor C d_GR_openSlotsAt_67 ?_
        refine e_put C hin_GR ty_GR tyk_GR nm_GR 0 rfl rfl 4 (by decide) fl_GR_37 rfl rfl rfl (Nat.le_of_ble_eq_true rfl) d_GR_openSlotsAt_68 ?_
        refine e_ws [oGR g wd ht pl ho (op ||| (1 <<< ((2 * p).toInt64 &&& 63))) p ea eb] rfl ?_
        exact e_vret C Z (Nat.le_of_ble_eq_true rfl) (Nat.le_of_ble_eq_true rfl) (⟨rfl, by (try simp only [bI_eq0, Bool.not_eq_false] at h5 h15 h53); simp [oslotF, h5, h15, h53]⟩) d_GR_openSlotsAt_71
    · -- 18
      refine e_aload_n C d_GR_openSlotsAt_18 rfl rfl ?_
      refine e_iload_n C d_GR_openSlotsAt_19 rfl rfl ?_
      refine e_iconst (v := 1) C d_GR_openSlotsAt_20 rfl ?_
      refine e_iadd C d_GR_openSlotsAt_21 ?_
      refine e_callV (As := [.int (p + 1)]) (st := []) (wc := [oGR g wd ht pl ho op p ea eb]) (wr := []) C (M_GR_isPlace l D cI cJ cZ g wd ht pl ho op p ea eb (p + 1)) v_GR_isPlace ml_GR_56 0 rfl rfl nwW_ok ⟨Nat.le_of_ble_eq_true rfl, Nat.le_of_ble_eq_true rfl⟩ ⟨Nat.le_of_ble_eq_true rfl, Nat.le_of_ble_eq_true rfl⟩ [0] [] rfl rfl rfl rfl (by decide) (Nat.le_of_ble_eq_true rfl) rfl d_GR_openSlotsAt_22 (fun v w1 hp => ?_)
      obtain ⟨rfl, rfl⟩ := hp
      refine e_perm (st' := [.int (bI (isPlaceF pl ho (p + 1)))]) (ws' := [oGR g wd ht pl ho op p ea eb]) [0] rfl rfl rfl ?_
      refine e_if_eq (tgt := 43) C d_GR_openSlotsAt_25 (by decide) (fun h25 => ?_) (fun h25 => ?_)
      · -- 43
        refine e_aload_n C d_GR_openSlotsAt_43 rfl rfl ?_
        refine e_iload_n C d_GR_openSlotsAt_44 rfl rfl ?_
        refine e_aload_n C d_GR_openSlotsAt_45 rfl rfl ?_
        refine e_get C hin_GR 0 rfl rfl 0 (by decide) fl_GR_9 rfl d_GR_openSlotsAt_46 ?_
        refine e_iadd C d_GR_openSlotsAt_49 ?_
        refine e_callV (As := [.int (p + wd)]) (st := []) (wc := [oGR g wd ht pl ho op p ea eb]) (wr := []) C (M_GR_isPlace l D cI cJ cZ g wd ht pl ho op p ea eb (p + wd)) v_GR_isPlace ml_GR_56 0 rfl rfl nwW_ok ⟨Nat.le_of_ble_eq_true rfl, Nat.le_of_ble_eq_true rfl⟩ ⟨Nat.le_of_ble_eq_true rfl, Nat.le_of_ble_eq_true rfl⟩ [0] [] rfl rfl rfl rfl (by decide) (Nat.le_of_ble_eq_true rfl) rfl d_GR_openSlotsAt_50 (fun v w1 hp => ?_)
        obtain ⟨rfl, rfl⟩ := hp
        refine e_perm (st' := [.int (bI (isPlaceF pl ho (p + wd)))]) (ws' := [oGR g wd ht pl ho op p ea eb]) [0] rfl rfl rfl ?_
        refine e_if_eq (tgt := 71) C d_GR_openSlotsAt_53 (by decide) (fun h53 => ?_) (fun h53 => ?_)
        · -- 71
          exact e_vret C Z (Nat.le_of_ble_eq_true rfl) (Nat.le_of_ble_eq_true rfl) (⟨rfl, by (try simp only [bI_eq0, Bool.not_eq_false] at h5 h15 h25 h53); simp [oslotF, h5, h15, h25, h53]⟩) d_GR_openSlotsAt_71
        · -- 56
          refine e_aload_n C d_GR_openSlotsAt_56 rfl rfl ?_
          refine e_dup C d_GR_openSlotsAt_57 rfl ?_
          refine e_get C hin_GR 0 rfl rfl 4 (by decide) fl_GR_37 rfl d_GR_openSlotsAt_58 ?_
          refine e_lconst (v := 1) C d_GR_openSlotsAt_61 rfl ?_
          refine e_iload_n C d_GR_openSlotsAt_62 rfl rfl ?_
          refine e_callS (As := [.int p]) (st := [.long 1, .long op, .ref g]) (wc := []) (wr := [oGR g wd ht pl ho op p ea eb]) C (M_GR_belowOf l D cI cJ cZ p) s_GR_belowOf ml_GR_45 nwW_ok ⟨Nat.le_of_ble_eq_true rfl, Nat.le_of_ble_eq_true rfl⟩ ⟨Nat.le_of_ble_eq_true rfl, Nat.le_of_ble_eq_true rfl⟩ [] [0] rfl rfl rfl rfl (by decide) (Nat.le_of_ble_eq_true rfl) rfl d_GR_openSlotsAt_63 (fun v w1 hp => ?_)
          obtain ⟨rfl, rfl⟩ := hp
          refine e_perm (st' := [.int (2 * p), .long 1, .long op, .ref g]) (ws' := [oGR g wd ht pl ho op p ea eb]) [0] rfl rfl rfl ?_
          refine e_lshl C d_GR_openSlotsAt_66 ?_
          refine e_lor C d_GR_openSlotsAt_67 ?_
          refine e_put C hin_GR ty_GR tyk_GR nm_GR 0 rfl rfl 4 (by decide) fl_GR_37 rfl rfl rfl (Nat.le_of_ble_eq_true rfl) d_GR_openSlotsAt_68 ?_
          refine e_ws [oGR g wd ht pl ho (op ||| (1 <<< ((2 * p).toInt64 &&& 63))) p ea eb] rfl ?_
          exact e_vret C Z (Nat.le_of_ble_eq_true rfl) (Nat.le_of_ble_eq_true rfl) (⟨rfl, by (try simp only [bI_eq0, Bool.not_eq_false] at h5 h15 h25 h53); simp [oslotF, h5, h15, h25, h53]⟩) d_GR_openSlotsAt_71
      · -- 28
        refine e_aload_n C d_GR_openSlotsAt_28 rfl rfl ?_
        refine e_dup C d_GR_openSlotsAt_29 rfl ?_
        refine e_get C hin_GR 0 rfl rfl 4 (by decide) fl_GR_37 rfl d_GR_openSlotsAt_30 ?_
        refine e_lconst (v := 1) C d_GR_openSlotsAt_33 rfl ?_
        refine e_iload_n C d_GR_openSlotsAt_34 rfl rfl ?_
        refine e_callS (As := [.int p]) (st := [.long 1, .long op, .ref g]) (wc := []) (wr := [oGR g wd ht pl ho op p ea eb]) C (M_GR_rightOf l D cI cJ cZ p) s_GR_rightOf ml_GR_59 nwW_ok ⟨Nat.le_of_ble_eq_true rfl, Nat.le_of_ble_eq_true rfl⟩ ⟨Nat.le_of_ble_eq_true rfl, Nat.le_of_ble_eq_true rfl⟩ [] [0] rfl rfl rfl rfl (by decide) (Nat.le_of_ble_eq_true rfl) rfl d_GR_openSlotsAt_35 (fun v w1 hp => ?_)
        obtain ⟨rfl, rfl⟩ := hp
        refine e_perm (st' := [.int (2 * p + 1), .long 1, .long op, .ref g]) (ws' := [oGR g wd ht pl ho op p ea eb]) [0] rfl rfl rfl ?_
        refine e_lshl C d_GR_openSlotsAt_38 ?_
        refine e_lor C d_GR_openSlotsAt_39 ?_
        refine e_put C hin_GR ty_GR tyk_GR nm_GR 0 rfl rfl 4 (by decide) fl_GR_37 rfl rfl rfl (Nat.le_of_ble_eq_true rfl) d_GR_openSlotsAt_40 ?_
        refine e_ws [oGR g wd ht pl ho (op ||| (1 <<< ((2 * p + 1).toInt64 &&& 63))) p ea eb] rfl ?_
        refine e_aload_n C d_GR_openSlotsAt_43 rfl rfl ?_
        refine e_iload_n C d_GR_openSlotsAt_44 rfl rfl ?_
        refine e_aload_n C d_GR_openSlotsAt_45 rfl rfl ?_
        refine e_get C hin_GR 0 rfl rfl 0 (by decide) fl_GR_9 rfl d_GR_openSlotsAt_46 ?_
        refine e_iadd C d_GR_openSlotsAt_49 ?_
        refine e_callV (As := [.int (p + wd)]) (st := []) (wc := [oGR g wd ht pl ho (op ||| (1 <<< ((2 * p + 1).toInt64 &&& 63))) p ea eb]) (wr := []) C (M_GR_isPlace l D cI cJ cZ g wd ht pl ho (op ||| (1 <<< ((2 * p + 1).toInt64 &&& 63))) p ea eb (p + wd)) v_GR_isPlace ml_GR_56 0 rfl rfl nwW_ok ⟨Nat.le_of_ble_eq_true rfl, Nat.le_of_ble_eq_true rfl⟩ ⟨Nat.le_of_ble_eq_true rfl, Nat.le_of_ble_eq_true rfl⟩ [0] [] rfl rfl rfl rfl (by decide) (Nat.le_of_ble_eq_true rfl) rfl d_GR_openSlotsAt_50 (fun v w1 hp => ?_)
        obtain ⟨rfl, rfl⟩ := hp
        refine e_perm (st' := [.int (bI (isPlaceF pl ho (p + wd)))]) (ws' := [oGR g wd ht pl ho (op ||| (1 <<< ((2 * p + 1).toInt64 &&& 63))) p ea eb]) [0] rfl rfl rfl ?_
        refine e_if_eq (tgt := 71) C d_GR_openSlotsAt_53 (by decide) (fun h53 => ?_) (fun h53 => ?_)
        · -- 71
          exact e_vret C Z (Nat.le_of_ble_eq_true rfl) (Nat.le_of_ble_eq_true rfl) (⟨rfl, by (try simp only [bI_eq0, Bool.not_eq_false] at h5 h15 h25 h53); simp [oslotF, h5, h15, h25, h53]⟩) d_GR_openSlotsAt_71
        · -- 56
          refine e_aload_n C d_GR_openSlotsAt_56 rfl rfl ?_
          refine e_dup C d_GR_openSlotsAt_57 rfl ?_
          refine e_get C hin_GR 0 rfl rfl 4 (by decide) fl_GR_37 rfl d_GR_openSlotsAt_58 ?_
          refine e_lconst (v := 1) C d_GR_openSlotsAt_61 rfl ?_
          refine e_iload_n C d_GR_openSlotsAt_62 rfl rfl ?_
          refine e_callS (As := [.int p]) (st := [.long 1, .long (op ||| (1 <<< ((2 * p + 1).toInt64 &&& 63))), .ref g]) (wc := []) (wr := [oGR g wd ht pl ho (op ||| (1 <<< ((2 * p + 1).toInt64 &&& 63))) p ea eb]) C (M_GR_belowOf l D cI cJ cZ p) s_GR_belowOf ml_GR_45 nwW_ok ⟨Nat.le_of_ble_eq_true rfl, Nat.le_of_ble_eq_true rfl⟩ ⟨Nat.le_of_ble_eq_true rfl, Nat.le_of_ble_eq_true rfl⟩ [] [0] rfl rfl rfl rfl (by decide) (Nat.le_of_ble_eq_true rfl) rfl d_GR_openSlotsAt_63 (fun v w1 hp => ?_)
          obtain ⟨rfl, rfl⟩ := hp
          refine e_perm (st' := [.int (2 * p), .long 1, .long (op ||| (1 <<< ((2 * p + 1).toInt64 &&& 63))), .ref g]) (ws' := [oGR g wd ht pl ho (op ||| (1 <<< ((2 * p + 1).toInt64 &&& 63))) p ea eb]) [0] rfl rfl rfl ?_
          refine e_lshl C d_GR_openSlotsAt_66 ?_
          refine e_lor C d_GR_openSlotsAt_67 ?_
          refine e_put C hin_GR ty_GR tyk_GR nm_GR 0 rfl rfl 4 (by decide) fl_GR_37 rfl rfl rfl (Nat.le_of_ble_eq_true rfl) d_GR_openSlotsAt_68 ?_
          refine e_ws [oGR g wd ht pl ho ((op ||| (1 <<< ((2 * p + 1).toInt64 &&& 63))) ||| (1 <<< ((2 * p).toInt64 &&& 63))) p ea eb] rfl ?_
          exact e_vret C Z (Nat.le_of_ble_eq_true rfl) (Nat.le_of_ble_eq_true rfl) (⟨rfl, by (try simp only [bI_eq0, Bool.not_eq_false] at h5 h15 h25 h53); simp [oslotF, h5, h15, h25, h53]⟩) d_GR_openSlotsAt_71
  · -- 8
    exact e_vret C Z (Nat.le_of_ble_eq_true rfl) (Nat.le_of_ble_eq_true rfl) (⟨rfl, by (try simp only [bI_eq0, Bool.not_eq_false] at h5); simp [oslotF, h5]⟩) d_GR_openSlotsAt_8

set_option maxHeartbeats 4000000 in
set_option maxRecDepth 100000 in
theorem M_GR_findOpenSlots (l : Launch) (D : va_G) (cI cJ cZ : ClassId) (g w h : Nat) (hw : w ≤ 5) (hh : h ≤ 5) (pl ho : Int32) (op : Int64) (lp ea eb : Int32) : MK l D cI cJ cZ y_GR_findOpenSlots c_GR_findOpenSlots 3 none 3 64 [.ref g] [oGR g (nI w) (nI h) pl ho op lp ea eb] 0 0 (rV [oGR g (nI w) (nI h) pl ho ((fosF w h pl ho).1) ((fosF w h pl ho).2) ea eb]) := by
  refine MC.of (by decide) bigW_good (Nat.le_of_ble_eq_true rfl) (fun κ C Z IN => ?_)
  refine e_aload_n C d_GR_findOpenSlots_0 rfl rfl ?_
  refine e_lconst (v := 0) C d_GR_findOpenSlots_1 rfl ?_
  refine e_put C hin_GR ty_GR tyk_GR nm_GR 0 rfl rfl 4 (by decide) fl_GR_37 rfl rfl rfl (Nat.le_of_ble_eq_true rfl) d_GR_findOpenSlots_2 ?_
  refine e_ws [oGR g (nI w) (nI h) pl ho 0 lp ea eb] rfl ?_
  refine e_aload_n C d_GR_findOpenSlots_5 rfl rfl ?_
  refine e_iconst (v := (-1)) C d_GR_findOpenSlots_6 rfl ?_
  refine e_put C hin_GR ty_GR tyk_GR nm_GR 0 rfl rfl 5 (by decide) fl_GR_49 rfl rfl rfl (Nat.le_of_ble_eq_true rfl) d_GR_findOpenSlots_7 ?_
  refine e_ws [oGR g (nI w) (nI h) pl ho 0 (-1) ea eb] rfl ?_
  refine e_iconst (v := 0) C d_GR_findOpenSlots_10 rfl ?_
  refine e_istore_n C d_GR_findOpenSlots_11 rfl (by decide) ?_
  have LO : ∀ (r : Nat) (j : Nat), j ≤ h →  h - j < r → E κ (lu_o [(0, .ref g), (1, .int (nI j))]) [] [oGR g (nI w) (nI h) pl ho ((itn (fosRow w pl ho) j (0, -1)).1) ((itn (fosRow w pl ho) j (0, -1)).2) ea eb] 0 0 12 := by
    intro r
    induction r with
    | zero => intro j hj hm; exact absurd hm (Nat.not_lt_zero _)
    | succ r ihLO =>
      intro j hj hm
      refine e_iload_n C d_GR_findOpenSlots_12 rfl rfl ?_
      refine e_aload_n C d_GR_findOpenSlots_13 rfl rfl ?_
      refine e_get C hin_GR 0 rfl rfl 1 (by decide) fl_GR_15 rfl d_GR_findOpenSlots_14 ?_
      refine e_icmp_ge (tgt := 69) C d_GR_findOpenSlots_17 (by decide) (fun h17 => ?_) (fun h17 => ?_)
      · -- 69
        have hjh : h = j := by have q := (nI_leI (by omega) (by omega)).mp h17; omega
        subst hjh
        exact e_vret C Z (Nat.le_of_ble_eq_true rfl) (Nat.le_of_ble_eq_true rfl) (⟨rfl, rfl⟩) d_GR_findOpenSlots_69
      · -- 20
        refine e_iconst (v := 0) C d_GR_findOpenSlots_20 rfl ?_
        refine e_istore_n C d_GR_findOpenSlots_21 rfl (by decide) ?_
        have hjh : j < h := by rcases Nat.lt_or_ge j h with q | q; exact q; exact absurd (nI_le q (by omega)) h17
        have LI : ∀ (r : Nat) (i : Nat), i ≤ w →  w - i < r → E κ (lu_o [(0, .ref g), (1, .int (nI j)), (2, .int (nI i))]) [] [oGR g (nI w) (nI h) pl ho ((itn (fosStep w pl ho j) i (itn (fosRow w pl ho) j (0, -1))).1) ((itn (fosStep w pl ho j) i (itn (fosRow w pl ho) j (0, -1))).2) ea eb] 0 0 22 := by
          intro r
          induction r with
          | zero => intro i hi hm; exact absurd hm (Nat.not_lt_zero _)
          | succ r ihLI =>
            intro i hi hm
            refine e_iload_n C d_GR_findOpenSlots_22 rfl rfl ?_
            refine e_aload_n C d_GR_findOpenSlots_23 rfl rfl ?_
            refine e_get C hin_GR 0 rfl rfl 0 (by decide) fl_GR_9 rfl d_GR_findOpenSlots_24 ?_
            refine e_icmp_ge (tgt := 63) C d_GR_findOpenSlots_27 (by decide) (fun h27 => ?_) (fun h27 => ?_)
            · -- 63
              have hiw : w = i := by have q := (nI_leI (by omega) (by omega)).mp h27; omega
              subst hiw
              refine e_iinc (v := (nI j) + 1) C d_GR_findOpenSlots_63 rfl rfl (by decide) ?_
              refine e_goto (tgt := 12) C d_GR_findOpenSlots_66 (by decide) ?_
              refine e_lv [(0, .ref g), (1, .int (nI (j + 1)))] ⟨rfl, congrArg (fun z => some (Value.int z)) (nI_1 j), trivial⟩ ?_
              refine e_ws [oGR g (nI w) (nI h) pl ho ((itn (fosRow w pl ho) (j + 1) (0, -1)).1) ((itn (fosRow w pl ho) (j + 1) (0, -1)).2) ea eb] rfl ?_
              exact ihLO (j + 1) (by omega) (by omega)
            · -- 30
              refine e_aload_n C d_GR_findOpenSlots_30 rfl rfl ?_
              refine e_iload_n C d_GR_findOpenSlots_31 rfl rfl ?_
              refine e_aload_n C d_GR_findOpenSlots_32 rfl rfl ?_
              refine e_get C hin_GR 0 rfl rfl 0 (by decide) fl_GR_9 rfl d_GR_findOpenSlots_33 ?_
              refine e_iload_n C d_GR_findOpenSlots_36 rfl rfl ?_
              refine e_imul C d_GR_findOpenSlots_37 ?_
              refine e_iadd C d_GR_findOpenSlots_38 ?_
              refine e_iload_n C d_GR_findOpenSlots_39 rfl rfl ?_
              refine e_iconst (v := 1) C d_GR_findOpenSlots_40 rfl ?_
              refine e_iadd C d_GR_findOpenSlots_41 ?_
              refine e_aload_n C d_GR_findOpenSlots_42 rfl rfl ?_
              refine e_get C hin_GR 0 rfl rfl 0 (by decide) fl_GR_9 rfl d_GR_findOpenSlots_43 ?_
              refine e_icmp_ge (tgt := 53) C d_GR_findOpenSlots_46 (by decide) (fun h46 => ?_) (fun h46 => ?_)
              · -- 53
                have hiw : i < w := by rcases Nat.lt_or_ge i w with q | q; exact q; exact absurd (nI_le q (by omega)) h27
                have hrow : decide (i + 1 < w) = false := decide_eq_false (by rw [nI_1] at h46; have q := (nI_leI (by omega) (by omega)).mp h46; omega)
                refine e_iconst (v := 0) C d_GR_findOpenSlots_53 rfl ?_
                refine e_callV (As := [.int ((nI i) + ((nI w) * (nI j))), .int 0]) (st := []) (wc := [oGR g (nI w) (nI h) pl ho ((itn (fosStep w pl ho j) i (itn (fosRow w pl ho) j (0, -1))).1) ((itn (fosStep w pl ho j) i (itn (fosRow w pl ho) j (0, -1))).2) ea eb]) (wr := []) C (M_GR_openSlotsAt l D cI cJ cZ g (nI w) (nI h) pl ho ((itn (fosStep w pl ho j) i (itn (fosRow w pl ho) j (0, -1))).1) ((itn (fosStep w pl ho j) i (itn (fosRow w pl ho) j (0, -1))).2) ea eb ((nI i) + ((nI w) * (nI j))) false) v_GR_openSlotsAt ml_GR_52 0 rfl rfl nwW_ok ⟨Nat.le_of_ble_eq_true rfl, Nat.le_of_ble_eq_true rfl⟩ ⟨Nat.le_of_ble_eq_true rfl, Nat.le_of_ble_eq_true rfl⟩ [0] [] rfl rfl rfl rfl (by decide) (Nat.le_of_ble_eq_true rfl) rfl d_GR_findOpenSlots_54 (fun v w1 hp => ?_)
                obtain ⟨rfl, rfl⟩ := hp
                refine e_perm (st' := []) (ws' := [oGR g (nI w) (nI h) pl ho ((oslotF (nI w) pl ho ((nI i) + ((nI w) * (nI j))) false ((itn (fosStep w pl ho j) i (itn (fosRow w pl ho) j (0, -1))).1, (itn (fosStep w pl ho j) i (itn (fosRow w pl ho) j (0, -1))).2)).1) ((oslotF (nI w) pl ho ((nI i) + ((nI w) * (nI j))) false ((itn (fosStep w pl ho j) i (itn (fosRow w pl ho) j (0, -1))).1, (itn (fosStep w pl ho j) i (itn (fosRow w pl ho) j (0, -1))).2)).2) ea eb]) [0] rfl rfl rfl ?_
                refine e_iinc (v := (nI i) + 1) C d_GR_findOpenSlots_57 rfl rfl (by decide) ?_
                refine e_goto (tgt := 22) C d_GR_findOpenSlots_60 (by decide) ?_
                refine e_lv [(0, .ref g), (1, .int (nI j)), (2, .int (nI (i + 1)))] ⟨rfl, rfl, congrArg (fun z => some (Value.int z)) (nI_1 i), trivial⟩ ?_
                refine e_ws [oGR g (nI w) (nI h) pl ho ((itn (fosStep w pl ho j) (i + 1) (itn (fosRow w pl ho) j (0, -1))).1) ((itn (fosStep w pl ho j) (i + 1) (itn (fosRow w pl ho) j (0, -1))).2) ea eb] (by simp only [itn, fosStep, hrow]) ?_
                exact ihLI (i + 1) (by omega) (by omega)
              · -- 49
                have hiw : i < w := by rcases Nat.lt_or_ge i w with q | q; exact q; exact absurd (nI_le q (by omega)) h27
                have hrow : decide (i + 1 < w) = true := decide_eq_true (by rcases Nat.lt_or_ge (i + 1) w with q | q; exact q; exact absurd (by rw [nI_1]; exact nI_le q (by omega)) h46)
                refine e_iconst (v := 1) C d_GR_findOpenSlots_49 rfl ?_
                refine e_goto (tgt := 54) C d_GR_findOpenSlots_50 (by decide) ?_
                refine e_callV (As := [.int ((nI i) + ((nI w) * (nI j))), .int 1]) (st := []) (wc := [oGR g (nI w) (nI h) pl ho ((itn (fosStep w pl ho j) i (itn (fosRow w pl ho) j (0, -1))).1) ((itn (fosStep w pl ho j) i (itn (fosRow w pl ho) j (0, -1))).2) ea eb]) (wr := []) C (M_GR_openSlotsAt l D cI cJ cZ g (nI w) (nI h) pl ho ((itn (fosStep w pl ho j) i (itn (fosRow w pl ho) j (0, -1))).1) ((itn (fosStep w pl ho j) i (itn (fosRow w pl ho) j (0, -1))).2) ea eb ((nI i) + ((nI w) * (nI j))) true) v_GR_openSlotsAt ml_GR_52 0 rfl rfl nwW_ok ⟨Nat.le_of_ble_eq_true rfl, Nat.le_of_ble_eq_true rfl⟩ ⟨Nat.le_of_ble_eq_true rfl, Nat.le_of_ble_eq_true rfl⟩ [0] [] rfl rfl rfl rfl (by decide) (Nat.le_of_ble_eq_true rfl) rfl d_GR_findOpenSlots_54 (fun v w1 hp => ?_)
                obtain ⟨rfl, rfl⟩ := hp
                refine e_perm (st' := []) (ws' := [oGR g (nI w) (nI h) pl ho ((oslotF (nI w) pl ho ((nI i) + ((nI w) * (nI j))) true ((itn (fosStep w pl ho j) i (itn (fosRow w pl ho) j (0, -1))).1, (itn (fosStep w pl ho j) i (itn (fosRow w pl ho) j (0, -1))).2)).1) ((oslotF (nI w) pl ho ((nI i) + ((nI w) * (nI j))) true ((itn (fosStep w pl ho j) i (itn (fosRow w pl ho) j (0, -1))).1, (itn (fosStep w pl ho j) i (itn (fosRow w pl ho) j (0, -1))).2)).2) ea eb]) [0] rfl rfl rfl ?_
                refine e_iinc (v := (nI i) + 1) C d_GR_findOpenSlots_57 rfl rfl (by decide) ?_
                refine e_goto (tgt := 22) C d_GR_findOpenSlots_60 (by decide) ?_
                refine e_lv [(0, .ref g), (1, .int (nI j)), (2, .int (nI (i + 1)))] ⟨rfl, rfl, congrArg (fun z => some (Value.int z)) (nI_1 i), trivial⟩ ?_
                refine e_ws [oGR g (nI w) (nI h) pl ho ((itn (fosStep w pl ho j) (i + 1) (itn (fosRow w pl ho) j (0, -1))).1) ((itn (fosStep w pl ho j) (i + 1) (itn (fosRow w pl ho) j (0, -1))).2) ea eb] (by simp only [itn, fosStep, hrow]) ?_
                exact ihLI (i + 1) (by omega) (by omega)
        refine e_lv [(0, .ref g), (1, .int (nI j)), (2, .int (nI 0))] ⟨rfl, rfl, rfl, trivial⟩ ?_
        refine e_ws [oGR g (nI w) (nI h) pl ho ((itn (fosStep w pl ho j) 0 (itn (fosRow w pl ho) j (0, -1))).1) ((itn (fosStep w pl ho j) 0 (itn (fosRow w pl ho) j (0, -1))).2) ea eb] rfl ?_
        exact LI _ 0 (Nat.zero_le _) (Nat.lt_succ_self _)
  refine e_lv [(0, .ref g), (1, .int (nI 0))] ⟨rfl, rfl, trivial⟩ ?_
  refine e_ws [oGR g (nI w) (nI h) pl ho ((itn (fosRow w pl ho) 0 (0, -1)).1) ((itn (fosRow w pl ho) 0 (0, -1)).2) ea eb] rfl ?_
  exact LO _ 0 (Nat.zero_le _) (Nat.lt_succ_self _)

set_option maxHeartbeats 4000000 in
set_option maxRecDepth 100000 in
theorem M_GR_turnHole (l : Launch) (D : va_G) (cI cJ cZ : ClassId) (g w h : Nat) (hw : w ≤ 5) (hh : h ≤ 5) (pl ho : Int32) (op : Int64) (lp ea eb : Int32) (p : Int32) : MK l D cI cJ cZ y_GR_turnHole c_GR_turnHole 2 none 4 86 [.ref g, .int p] [oGR g (nI w) (nI h) pl ho op lp ea eb] 0 0 (rV [oGR g (nI w) (nI h) pl (ho ^^^ (1 <<< (p &&& 31))) ((fosF w h pl (ho ^^^ (1 <<< (p &&& 31)))).1) ((fosF w h pl (ho ^^^ (1 <<< (p &&& 31)))).2) ea eb]) := by
  refine MC.of (by decide) bigW_good (Nat.le_of_ble_eq_true rfl) (fun κ C Z IN => ?_)
  refine e_aload_n C d_GR_turnHole_0 rfl rfl ?_
  refine e_dup C d_GR_turnHole_1 rfl ?_
  refine e_get C hin_GR 0 rfl rfl 3 (by decide) fl_GR_34 rfl d_GR_turnHole_2 ?_
  refine e_iconst (v := 1) C d_GR_turnHole_5 rfl ?_
  refine e_iload_n C d_GR_turnHole_6 rfl rfl ?_
  refine e_ishl C d_GR_turnHole_7 ?_
  refine e_ixor C d_GR_turnHole_8 ?_
  refine e_put C hin_GR ty_GR tyk_GR nm_GR 0 rfl rfl 3 (by decide) fl_GR_34 rfl rfl rfl (Nat.le_of_ble_eq_true rfl) d_GR_turnHole_9 ?_
  refine e_ws [oGR g (nI w) (nI h) pl (ho ^^^ (1 <<< (p &&& 31))) op lp ea eb] rfl ?_
  refine e_aload_n C d_GR_turnHole_12 rfl rfl ?_
  refine e_callV (As := []) (st := []) (wc := [oGR g (nI w) (nI h) pl (ho ^^^ (1 <<< (p &&& 31))) op lp ea eb]) (wr := []) C (M_GR_findOpenSlots l D cI cJ cZ g w h hw hh pl (ho ^^^ (1 <<< (p &&& 31))) op lp ea eb) v_GR_findOpenSlots ml_GR_27 0 rfl rfl nwW_ok ⟨Nat.le_of_ble_eq_true rfl, Nat.le_of_ble_eq_true rfl⟩ ⟨Nat.le_of_ble_eq_true rfl, Nat.le_of_ble_eq_true rfl⟩ [0] [] rfl rfl rfl rfl (by decide) (Nat.le_of_ble_eq_true rfl) rfl d_GR_turnHole_13 (fun v w1 hp => ?_)
  obtain ⟨rfl, rfl⟩ := hp
  refine e_perm (st' := []) (ws' := [oGR g (nI w) (nI h) pl (ho ^^^ (1 <<< (p &&& 31))) ((fosF w h pl (ho ^^^ (1 <<< (p &&& 31)))).1) ((fosF w h pl (ho ^^^ (1 <<< (p &&& 31)))).2) ea eb]) [0] rfl rfl rfl ?_
  exact e_vret C Z (Nat.le_of_ble_eq_true rfl) (Nat.le_of_ble_eq_true rfl) (⟨rfl, rfl⟩) d_GR_turnHole_16

set_option maxHeartbeats 4000000 in
set_option maxRecDepth 100000 in
theorem M_GR_init (l : Launch) (D : va_G) (cI cJ cZ : ClassId) (g w h : Nat) (hw : w ≤ 5) (hh : h ≤ 5) : MK l D cI cJ cZ y_GR_init c_GR_init 3 none 4 86 [.ref g, .int (nI w), .int (nI h)] [oGR g 0 0 0 0 0 0 0 0] 0 0 (rV [oGR g (nI w) (nI h) (nI w * nI h) 0 ((fosF w h (nI w * nI h) 0).1) ((fosF w h (nI w * nI h) 0).2) (-1) (-1)]) := by
  refine MC.of (by decide) bigW_good (Nat.le_of_ble_eq_true rfl) (fun κ C Z IN => ?_)
  refine e_aload_n C d_GR_init_0 rfl rfl ?_
  refine e_objInit C ml_GR_3 imm_objectInit cod_objectInit d_GR_init_1 (Nat.le_of_ble_eq_true rfl) (Nat.le_of_ble_eq_true rfl) ?_
  refine e_aload_n C d_GR_init_4 rfl rfl ?_
  refine e_iload_n C d_GR_init_5 rfl rfl ?_
  refine e_putF C IN hin_GR ty_GR tyk_GR nm_GR 0 rfl rfl 0 (by decide) fl_GR_9 rfl rfl rfl rfl (Nat.le_of_ble_eq_true rfl) d_GR_init_6 ?_
  refine e_ws [oGR g (nI w) 0 0 0 0 0 0 0] rfl ?_
  refine e_aload_n C d_GR_init_9 rfl rfl ?_
  refine e_iload_n C d_GR_init_10 rfl rfl ?_
  refine e_putF C IN hin_GR ty_GR tyk_GR nm_GR 0 rfl rfl 1 (by decide) fl_GR_15 rfl rfl rfl rfl (Nat.le_of_ble_eq_true rfl) d_GR_init_11 ?_
  refine e_ws [oGR g (nI w) (nI h) 0 0 0 0 0 0] rfl ?_
  refine e_aload_n C d_GR_init_14 rfl rfl ?_
  refine e_iload_n C d_GR_init_15 rfl rfl ?_
  refine e_iload_n C d_GR_init_16 rfl rfl ?_
  refine e_imul C d_GR_init_17 ?_
  refine e_putF C IN hin_GR ty_GR tyk_GR nm_GR 0 rfl rfl 2 (by decide) fl_GR_18 rfl rfl rfl rfl (Nat.le_of_ble_eq_true rfl) d_GR_init_18 ?_
  refine e_ws [oGR g (nI w) (nI h) ((nI w) * (nI h)) 0 0 0 0 0] rfl ?_
  refine e_aload_n C d_GR_init_21 rfl rfl ?_
  refine e_iconst (v := (-1)) C d_GR_init_22 rfl ?_
  refine e_put C hin_GR ty_GR tyk_GR nm_GR 0 rfl rfl 6 (by decide) fl_GR_21 rfl rfl rfl (Nat.le_of_ble_eq_true rfl) d_GR_init_23 ?_
  refine e_ws [oGR g (nI w) (nI h) ((nI w) * (nI h)) 0 0 0 (-1) 0] rfl ?_
  refine e_aload_n C d_GR_init_26 rfl rfl ?_
  refine e_iconst (v := (-1)) C d_GR_init_27 rfl ?_
  refine e_put C hin_GR ty_GR tyk_GR nm_GR 0 rfl rfl 7 (by decide) fl_GR_24 rfl rfl rfl (Nat.le_of_ble_eq_true rfl) d_GR_init_28 ?_
  refine e_ws [oGR g (nI w) (nI h) ((nI w) * (nI h)) 0 0 0 (-1) (-1)] rfl ?_
  refine e_aload_n C d_GR_init_31 rfl rfl ?_
  refine e_callV (As := []) (st := []) (wc := [oGR g (nI w) (nI h) ((nI w) * (nI h)) 0 0 0 (-1) (-1)]) (wr := []) C (M_GR_findOpenSlots l D cI cJ cZ g w h hw hh ((nI w) * (nI h)) 0 0 0 (-1) (-1)) v_GR_findOpenSlots ml_GR_27 0 rfl rfl nwW_ok ⟨Nat.le_of_ble_eq_true rfl, Nat.le_of_ble_eq_true rfl⟩ ⟨Nat.le_of_ble_eq_true rfl, Nat.le_of_ble_eq_true rfl⟩ [0] [] rfl rfl rfl rfl (by decide) (Nat.le_of_ble_eq_true rfl) rfl d_GR_init_32 (fun v w1 hp => ?_)
  obtain ⟨rfl, rfl⟩ := hp
  refine e_perm (st' := []) (ws' := [oGR g (nI w) (nI h) ((nI w) * (nI h)) 0 ((fosF w h ((nI w) * (nI h)) 0).1) ((fosF w h ((nI w) * (nI h)) 0).2) (-1) (-1)]) [0] rfl rfl rfl ?_
  exact e_vret C Z (Nat.le_of_ble_eq_true rfl) (Nat.le_of_ble_eq_true rfl) (⟨rfl, rfl⟩) d_GR_init_35
