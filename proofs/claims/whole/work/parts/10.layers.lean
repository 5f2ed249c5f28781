/-! LAYERS: reading the table, weighing it, walking through it -/
theorem nI_or (a b : Nat) : nI a ||| nI b = nI (a ||| b) := by
  apply Int32.toBitVec_inj.1
  show BitVec.ofNat 32 a ||| BitVec.ofNat 32 b = BitVec.ofNat 32 (a ||| b)
  apply BitVec.eq_of_getLsbD_eq
  intro i hi
  simp [hi]
theorem nI_tag {L i : Nat} (hL : L ≤ 25) (hi : i < 256) : (nI L <<< ((8 : Int32) &&& 31)) ||| nI i = nI (256 * L + i) := by
  rw [pk_shlN _ 8 (by decide) (by omega), nI_or]
  have h := Nat.two_pow_add_eq_or_of_lt (i := 8) (b := i) (by omega) L
  rw [Nat.mul_comm L (2 ^ 8), ← h]
def ldN (fld : Nat → Int32) (mo p a c : Nat) : Nat := (jushr (fld (p * mo + a)) (8 * nI c)).toBitVec.toNat % 2 ^ 8
theorem ldN_lt (fld : Nat → Int32) (mo p a c : Nat) : ldN fld mo p a c < 256 := Nat.mod_lt _ (by decide)
def mskF (m : Int64) (p : Nat) : Int32 := (jlushr m (2 * nI p)).toInt32 &&& 3
def alF (mh mn : Int64) (p c : Nat) : Bool := decide (nI c &&& mskF mh p = mskF mh p) && decide (nI c &&& mskF mn p = 0)
def wbG (NX : Nat → Int64) (fld : Nat → Int32) (szN : Nat → Nat) (mo : Nat) (mh mn : Int64) (p a c : Nat) : Int64 := if szN (p + 1) ≤ ldN fld mo p a c then 0 else if alF mh mn p c = true then NX (ldN fld mo p a c) else 0
def wfG (NX : Nat → Int64) (fld : Nat → Int32) (szN : Nat → Nat) (mo : Nat) (mh mn : Int64) (p a : Nat) : Int64 := itn (fun c s => s + wbG NX fld szN mo mh mn p a c) 4 0
theorem wbG_congr {NX NY : Nat → Int64} {fld : Nat → Int32} {szN : Nat → Nat} {mo : Nat} {mh mn : Int64} {p a c : Nat} (h : ∀ j, j < szN (p + 1) → NX j = NY j) : wbG NX fld szN mo mh mn p a c = wbG NY fld szN mo mh mn p a c := by
  unfold wbG
  by_cases z : szN (p + 1) ≤ ldN fld mo p a c
  · rw [if_pos z, if_pos z]
  · rw [if_neg z, if_neg z, h _ (by omega)]
theorem wfG_congr {NX NY : Nat → Int64} {fld : Nat → Int32} {szN : Nat → Nat} {mo : Nat} {mh mn : Int64} {p a : Nat} (h : ∀ j, j < szN (p + 1) → NX j = NY j) : wfG NX fld szN mo mh mn p a = wfG NY fld szN mo mh mn p a := by
  unfold wfG
  exact itn_congr (fun c _ s => by rw [wbG_congr h])
/-- how many ways go on from the code a of the layer P - k -/
def Wt (P : Nat) (last : Nat → Int64) (fld : Nat → Int32) (szN : Nat → Nat) (mo : Nat) (mh mn : Int64) : Nat → Nat → Int64
  | 0, a => last a
  | k + 1, a => wfG (Wt P last fld szN mo mh mn k) fld szN mo mh mn (P - (k + 1)) a
set_option maxHeartbeats 4000000 in
set_option maxRecDepth 100000 in
theorem M_LY_total (l : Launch) (D : va_G) (cI cJ cZ : ClassId) (ly g ru sz ld wy bk cd nc : Nat) (P mo : Nat) (hP : P ≤ 25) (hmo : mo ≤ 136) (ns : Nat) (mh mn : Int64)  (h0 : 0 < mo) (fwy : Nat → Int64) : MK l D cI cJ cZ y_LY_total c_LY_total 1 (some FieldType.long) 0 0 [.ref ly] [oLY ly g ru (nI mo) sz ld wy bk cd nc (nI ns) mh mn, aJ cJ wy ((P + 1) * mo) fwy] 0 0 (rJ (fwy 0) [oLY ly g ru (nI mo) sz ld wy bk cd nc (nI ns) mh mn, aJ cJ wy ((P + 1) * mo) fwy]) := by
  refine MC.of (by decide) bigW_good (Nat.le_of_ble_eq_true rfl) (fun κ C Z IN => ?_)
  have hPm : P * mo ≤ 3400 := Nat.mul_le_mul hP hmo
  have hPm1 : (P + 1) * mo ≤ 3536 := Nat.mul_le_mul (Nat.succ_le_succ hP) hmo
  refine e_aload_n C d_LY_total_0 rfl rfl ?_
  refine e_get C hin_LY 0 rfl rfl 5 (by decide) fl_LY_33 rfl d_LY_total_1 ?_
  refine e_iconst (v := 0) C d_LY_total_4 rfl ?_
  refine e_st [.int (nI 0), .ref wy] rfl ?_
  refine e_lald C 1 1 rfl rfl (vp_in_nI (Nat.mul_pos (Nat.succ_pos P) h0) (by omega)) d_LY_total_5 ?_
  refine e_st [.long (fwy 0)] (by rw [nI_clamp (by omega)]) ?_
  exact e_lret C Z (Nat.le_of_ble_eq_true rfl) (Nat.le_of_ble_eq_true rfl) (⟨rfl, rfl⟩) d_LY_total_6

set_option maxHeartbeats 4000000 in
set_option maxRecDepth 100000 in
theorem M_LY_leadBy (l : Launch) (D : va_G) (cI cJ cZ : ClassId) (ly g ru sz ld wy bk cd nc : Nat) (P mo : Nat) (hP : P ≤ 25) (hmo : mo ≤ 136) (ns : Nat) (mh mn : Int64)  (fld : Nat → Int32) (p a c : Nat) (hpa : p * mo + a < P * mo) : MK l D cI cJ cZ y_LY_leadBy c_LY_leadBy 4 (some FieldType.int) 0 0 [.ref ly, .int (nI p), .int (nI a), .int (nI c)] [oLY ly g ru (nI mo) sz ld wy bk cd nc (nI ns) mh mn, aI cI ld (P * mo) fld] 0 0 (rI (nI (ldN fld mo p a c)) [oLY ly g ru (nI mo) sz ld wy bk cd nc (nI ns) mh mn, aI cI ld (P * mo) fld]) := by
  refine MC.of (by decide) bigW_good (Nat.le_of_ble_eq_true rfl) (fun κ C Z IN => ?_)
  have hPm : P * mo ≤ 3400 := Nat.mul_le_mul hP hmo
  have hPm1 : (P + 1) * mo ≤ 3536 := Nat.mul_le_mul (Nat.succ_le_succ hP) hmo
  refine e_aload_n C d_LY_leadBy_0 rfl rfl ?_
  refine e_get C hin_LY 0 rfl rfl 4 (by decide) fl_LY_30 rfl d_LY_leadBy_1 ?_
  refine e_iload_n C d_LY_leadBy_4 rfl rfl ?_
  refine e_aload_n C d_LY_leadBy_5 rfl rfl ?_
  refine e_get C hin_LY 0 rfl rfl 2 (by decide) fl_LY_17 rfl d_LY_leadBy_6 ?_
  refine e_imul C d_LY_leadBy_9 ?_
  refine e_iload_n C d_LY_leadBy_10 rfl rfl ?_
  refine e_iadd C d_LY_leadBy_11 ?_
  refine e_st [.int (nI (p * mo + a)), .ref ld] (by rw [pk_mul, nI_add]) ?_
  refine e_iald C 1 0 rfl rfl (vp_in_nI hpa (by omega)) d_LY_leadBy_12 ?_
  refine e_st [.int (fld (p * mo + a))] (by rw [nI_clamp (by omega)]) ?_
  refine e_bipush (v := 8) C d_LY_leadBy_13 (by decide) ?_
  refine e_iload_n C d_LY_leadBy_15 rfl rfl ?_
  refine e_imul C d_LY_leadBy_16 ?_
  refine e_iushr C d_LY_leadBy_17 ?_
  refine e_sipush (v := 255) C d_LY_leadBy_18 (by decide) ?_
  refine e_iand C d_LY_leadBy_21 ?_
  exact e_iret C Z rfl (Nat.le_of_ble_eq_true rfl) (Nat.le_of_ble_eq_true rfl) (⟨by unfold ldN; rw [← pk_and (m := 255) _ 8 (by decide)], rfl⟩) d_LY_leadBy_22

set_option maxHeartbeats 4000000 in
set_option maxRecDepth 100000 in
theorem M_LY_isAllowed (l : Launch) (D : va_G) (cI cJ cZ : ClassId) (ly g ru sz ld wy bk cd nc : Nat) (P mo : Nat) (hP : P ≤ 25) (hmo : mo ≤ 136) (ns : Nat) (mh mn : Int64)  (p c : Nat) : MK l D cI cJ cZ y_LY_isAllowed c_LY_isAllowed 6 (some FieldType.boolean) 1 20 [.ref ly, .int (nI p), .int (nI c)] [oLY ly g ru (nI mo) sz ld wy bk cd nc (nI ns) mh mn] 0 0 (rI (bI (alF mh mn p c)) [oLY ly g ru (nI mo) sz ld wy bk cd nc (nI ns) mh mn]) := by
  refine MC.of (by decide) bigW_good (Nat.le_of_ble_eq_true rfl) (fun κ C Z IN => ?_)
  have hPm : P * mo ≤ 3400 := Nat.mul_le_mul hP hmo
  have hPm1 : (P + 1) * mo ≤ 3536 := Nat.mul_le_mul (Nat.succ_le_succ hP) hmo
  refine e_iload_n C d_LY_isAllowed_0 rfl rfl ?_
  refine e_callSN (As := [.int (nI p)]) (st := []) (wc := []) (wr := [oLY ly g ru (nI mo) sz ld wy bk cd nc (nI ns) mh mn]) C (M_GR_belowOf l D cI cJ cZ (nI p)) s_GR_belowOf mn_LY_113 nwW_ok ⟨Nat.le_of_ble_eq_true rfl, Nat.le_of_ble_eq_true rfl⟩ ⟨Nat.le_of_ble_eq_true rfl, Nat.le_of_ble_eq_true rfl⟩ [] [0] rfl rfl rfl rfl (by decide) (Nat.le_of_ble_eq_true rfl) rfl d_LY_isAllowed_1 (fun v w1 hp => ?_)
  obtain ⟨rfl, rfl⟩ := hp
  refine e_perm (st' := [.int (2 * (nI p))]) (ws' := [oLY ly g ru (nI mo) sz ld wy bk cd nc (nI ns) mh mn]) [0] rfl rfl rfl ?_
  refine e_istore_n C d_LY_isAllowed_4 rfl (by decide) ?_
  refine e_aload_n C d_LY_isAllowed_5 rfl rfl ?_
  refine e_get C hin_LY 0 rfl rfl 10 (by decide) fl_LY_91 rfl d_LY_isAllowed_6 ?_
  refine e_iload_n C d_LY_isAllowed_9 rfl rfl ?_
  refine e_lushr C d_LY_isAllowed_10 ?_
  refine e_l2i C d_LY_isAllowed_11 ?_
  refine e_iconst (v := 3) C d_LY_isAllowed_12 rfl ?_
  refine e_iand C d_LY_isAllowed_13 ?_
  refine e_ti (fun x14 ex14 => ?_)
  refine e_istore C d_LY_isAllowed_14 (by decide) ?_
  refine e_aload_n C d_LY_isAllowed_16 rfl rfl ?_
  refine e_get C hin_LY 0 rfl rfl 11 (by decide) fl_LY_95 rfl d_LY_isAllowed_17 ?_
  refine e_iload_n C d_LY_isAllowed_20 rfl rfl ?_
  refine e_lushr C d_LY_isAllowed_21 ?_
  refine e_l2i C d_LY_isAllowed_22 ?_
  refine e_iconst (v := 3) C d_LY_isAllowed_23 rfl ?_
  refine e_iand C d_LY_isAllowed_24 ?_
  refine e_ti (fun x25 ex25 => ?_)
  refine e_istore C d_LY_isAllowed_25 (by decide) ?_
  refine e_iload_n C d_LY_isAllowed_27 rfl rfl ?_
  refine e_iload C d_LY_isAllowed_28 rfl ?_
  refine e_iand C d_LY_isAllowed_30 ?_
  refine e_iload C d_LY_isAllowed_31 rfl ?_
  refine e_icmp_ne (tgt := 47) C d_LY_isAllowed_33 (by decide) (fun h33 => ?_) (fun h33 => ?_)
  · -- 47
    refine e_iconst (v := 0) C d_LY_isAllowed_47 rfl ?_
    exact e_iret C Z rfl (Nat.le_of_ble_eq_true rfl) (Nat.le_of_ble_eq_true rfl) (⟨by unfold alF mskF; rw [← ex14, ← ex25]; simp [bI, h33], rfl⟩) d_LY_isAllowed_48
  · -- 36
    refine e_iload_n C d_LY_isAllowed_36 rfl rfl ?_
    refine e_iload C d_LY_isAllowed_37 rfl ?_
    refine e_iand C d_LY_isAllowed_39 ?_
    refine e_if_ne (tgt := 47) C d_LY_isAllowed_40 (by decide) (fun h40 => ?_) (fun h40 => ?_)
    · -- 47
      refine e_iconst (v := 0) C d_LY_isAllowed_47 rfl ?_
      exact e_iret C Z rfl (Nat.le_of_ble_eq_true rfl) (Nat.le_of_ble_eq_true rfl) (⟨by unfold alF mskF; rw [← ex14, ← ex25]; simp [bI, h33, h40], rfl⟩) d_LY_isAllowed_48
    · -- 43
      refine e_iconst (v := 1) C d_LY_isAllowed_43 rfl ?_
      refine e_goto (tgt := 48) C d_LY_isAllowed_44 (by decide) ?_
      exact e_iret C Z rfl (Nat.le_of_ble_eq_true rfl) (Nat.le_of_ble_eq_true rfl) (⟨by unfold alF mskF; rw [← ex14, ← ex25]; simp [bI, h33, h40], rfl⟩) d_LY_isAllowed_48

set_option maxHeartbeats 4000000 in
set_option maxRecDepth 100000 in
theorem M_LY_waysBy (l : Launch) (D : va_G) (cI cJ cZ : ClassId) (ly g ru sz ld wy bk cd nc : Nat) (P mo : Nat) (hP : P ≤ 25) (hmo : mo ≤ 136) (ns : Nat) (mh mn : Int64)  (fsz fld : Nat → Int32) (fwy : Nat → Int64) (szN : Nat → Nat) (hsz : ∀ q, q ≤ P → fsz q = nI (szN q) ∧ szN q ≤ mo) (p a c : Nat) (hp : p < P) (hpa : p * mo + a < P * mo) : MK l D cI cJ cZ y_LY_waysBy c_LY_waysBy 5 (some FieldType.long) 2 45 [.ref ly, .int (nI p), .int (nI a), .int (nI c)] [oLY ly g ru (nI mo) sz ld wy bk cd nc (nI ns) mh mn, aI cI sz (P + 1) fsz, aI cI ld (P * mo) fld, aJ cJ wy ((P + 1) * mo) fwy] 0 0 (rJ (wbG (fun j => fwy ((p + 1) * mo + j)) fld szN mo mh mn p a c) [oLY ly g ru (nI mo) sz ld wy bk cd nc (nI ns) mh mn, aI cI sz (P + 1) fsz, aI cI ld (P * mo) fld, aJ cJ wy ((P + 1) * mo) fwy]) := by
  refine MC.of (by decide) bigW_good (Nat.le_of_ble_eq_true rfl) (fun κ C Z IN => ?_)
  have hPm : P * mo ≤ 3400 := Nat.mul_le_mul hP hmo
  have hPm1 : (P + 1) * mo ≤ 3536 := Nat.mul_le_mul (Nat.succ_le_succ hP) hmo
  refine e_aload_n C d_LY_waysBy_0 rfl rfl ?_
  refine e_iload_n C d_LY_waysBy_1 rfl rfl ?_
  refine e_iload_n C d_LY_waysBy_2 rfl rfl ?_
  refine e_iload_n C d_LY_waysBy_3 rfl rfl ?_
  refine e_callV (As := [.int (nI p), .int (nI a), .int (nI c)]) (st := []) (wc := [oLY ly g ru (nI mo) sz ld wy bk cd nc (nI ns) mh mn, aI cI ld (P * mo) fld]) (wr := [aI cI sz (P + 1) fsz, aJ cJ wy ((P + 1) * mo) fwy]) C (M_LY_leadBy l D cI cJ cZ ly g ru sz ld wy bk cd nc P mo hP hmo ns mh mn fld p a c hpa) v_LY_leadBy ml_LY_106 0 rfl rfl nwW_ok ⟨Nat.le_of_ble_eq_true rfl, Nat.le_of_ble_eq_true rfl⟩ ⟨Nat.le_of_ble_eq_true rfl, Nat.le_of_ble_eq_true rfl⟩ [0, 2] [1, 3] rfl rfl rfl rfl (by decide) (Nat.le_of_ble_eq_true rfl) rfl d_LY_waysBy_4 (fun v w1 hp => ?_)
  obtain ⟨rfl, rfl⟩ := hp
  refine e_perm (st' := [.int (nI (ldN fld mo p a c))]) (ws' := [oLY ly g ru (nI mo) sz ld wy bk cd nc (nI ns) mh mn, aI cI sz (P + 1) fsz, aI cI ld (P * mo) fld, aJ cJ wy ((P + 1) * mo) fwy]) [2, 0, 3, 1] rfl rfl rfl ?_
  refine e_istore C d_LY_waysBy_7 (by decide) ?_
  refine e_iload C d_LY_waysBy_9 rfl ?_
  refine e_aload_n C d_LY_waysBy_11 rfl rfl ?_
  refine e_get C hin_LY 0 rfl rfl 3 (by decide) fl_LY_26 rfl d_LY_waysBy_12 ?_
  refine e_iload_n C d_LY_waysBy_15 rfl rfl ?_
  refine e_iconst (v := 1) C d_LY_waysBy_16 rfl ?_
  refine e_iadd C d_LY_waysBy_17 ?_
  refine e_st [.int (nI (p + 1)), .ref sz, .int (nI (ldN fld mo p a c))] (by rw [nI_1]) ?_
  refine e_iald C 1 0 rfl rfl (vp_in_nI (by omega) (by omega)) d_LY_waysBy_18 ?_
  refine e_st [.int (fsz (p + 1)), .int (nI (ldN fld mo p a c))] (by rw [nI_clamp (by omega)]) ?_
  refine e_st [.int (nI (szN (p + 1))), .int (nI (ldN fld mo p a c))] (by rw [(hsz (p + 1) (by omega)).1]) ?_
  refine e_icmp_ge (tgt := 31) C d_LY_waysBy_19 (by decide) (fun h19 => ?_) (fun h19 => ?_)
  · -- 31
    have hge : szN (p + 1) ≤ ldN fld mo p a c := (nI_leI (by have := (hsz (p + 1) (by omega)).2; omega) (by have := ldN_lt fld mo p a c; omega)).mp h19
    refine e_lconst (v := 0) C d_LY_waysBy_31 rfl ?_
    exact e_lret C Z (Nat.le_of_ble_eq_true rfl) (Nat.le_of_ble_eq_true rfl) (⟨by unfold wbG; rw [if_pos hge], rfl⟩) d_LY_waysBy_32
  · -- 22
    refine e_aload_n C d_LY_waysBy_22 rfl rfl ?_
    refine e_iload_n C d_LY_waysBy_23 rfl rfl ?_
    refine e_iload_n C d_LY_waysBy_24 rfl rfl ?_
    refine e_callV (As := [.int (nI p), .int (nI c)]) (st := []) (wc := [oLY ly g ru (nI mo) sz ld wy bk cd nc (nI ns) mh mn]) (wr := [aI cI sz (P + 1) fsz, aI cI ld (P * mo) fld, aJ cJ wy ((P + 1) * mo) fwy]) C (M_LY_isAllowed l D cI cJ cZ ly g ru sz ld wy bk cd nc P mo hP hmo ns mh mn p c) v_LY_isAllowed ml_LY_109 0 rfl rfl nwW_ok ⟨Nat.le_of_ble_eq_true rfl, Nat.le_of_ble_eq_true rfl⟩ ⟨Nat.le_of_ble_eq_true rfl, Nat.le_of_ble_eq_true rfl⟩ [0] [1, 2, 3] rfl rfl rfl rfl (by decide) (Nat.le_of_ble_eq_true rfl) rfl d_LY_waysBy_25 (fun v w1 hp => ?_)
    obtain ⟨rfl, rfl⟩ := hp
    refine e_perm (st' := [.int (bI (alF mh mn p c))]) (ws' := [oLY ly g ru (nI mo) sz ld wy bk cd nc (nI ns) mh mn, aI cI sz (P + 1) fsz, aI cI ld (P * mo) fld, aJ cJ wy ((P + 1) * mo) fwy]) [3, 0, 1, 2] rfl rfl rfl ?_
    refine e_if_ne (tgt := 33) C d_LY_waysBy_28 (by decide) (fun h28 => ?_) (fun h28 => ?_)
    · -- 33
      have hlt : ldN fld mo p a c < szN (p + 1) := by rcases Nat.lt_or_ge (ldN fld mo p a c) (szN (p + 1)) with q | q; exact q; exact absurd (nI_le q (by have := ldN_lt fld mo p a c; omega)) h19
      have hix : (p + 1) * mo + ldN fld mo p a c < (P + 1) * mo := by have h1 := (hsz (p + 1) (by omega)).2; have h2 := Nat.mul_le_mul_right mo (show p + 1 + 1 ≤ P + 1 by omega); rw [Nat.add_mul (p + 1) 1 mo] at h2; omega
      refine e_aload_n C d_LY_waysBy_33 rfl rfl ?_
      refine e_get C hin_LY 0 rfl rfl 5 (by decide) fl_LY_33 rfl d_LY_waysBy_34 ?_
      refine e_iload_n C d_LY_waysBy_37 rfl rfl ?_
      refine e_iconst (v := 1) C d_LY_waysBy_38 rfl ?_
      refine e_iadd C d_LY_waysBy_39 ?_
      refine e_st [.int (nI (p + 1)), .ref wy] (by rw [nI_1]) ?_
      refine e_aload_n C d_LY_waysBy_40 rfl rfl ?_
      refine e_get C hin_LY 0 rfl rfl 2 (by decide) fl_LY_17 rfl d_LY_waysBy_41 ?_
      refine e_imul C d_LY_waysBy_44 ?_
      refine e_iload C d_LY_waysBy_45 rfl ?_
      refine e_iadd C d_LY_waysBy_47 ?_
      refine e_st [.int (nI ((p + 1) * mo + ldN fld mo p a c)), .ref wy] (by rw [pk_mul, nI_add]) ?_
      refine e_lald C 3 1 rfl rfl (vp_in_nI hix (by omega)) d_LY_waysBy_48 ?_
      refine e_st [.long (fwy ((p + 1) * mo + ldN fld mo p a c))] (by rw [nI_clamp (by omega)]) ?_
      exact e_lret C Z (Nat.le_of_ble_eq_true rfl) (Nat.le_of_ble_eq_true rfl) (⟨by (try simp only [bI_eq0, Bool.not_eq_false] at h28); unfold wbG; rw [if_neg (by omega), if_pos h28], rfl⟩) d_LY_waysBy_49
    · -- 31
      have hlt : ldN fld mo p a c < szN (p + 1) := by rcases Nat.lt_or_ge (ldN fld mo p a c) (szN (p + 1)) with q | q; exact q; exact absurd (nI_le q (by have := ldN_lt fld mo p a c; omega)) h19
      refine e_lconst (v := 0) C d_LY_waysBy_31 rfl ?_
      exact e_lret C Z (Nat.le_of_ble_eq_true rfl) (Nat.le_of_ble_eq_true rfl) (⟨by (try simp only [bI_eq0, Bool.not_eq_false] at h28); unfold wbG; rw [if_neg (by omega), if_neg (Bool.eq_false_iff.mp h28)], rfl⟩) d_LY_waysBy_32

set_option maxHeartbeats 4000000 in
set_option maxRecDepth 100000 in
theorem M_LY_waysFrom (l : Launch) (D : va_G) (cI cJ cZ : ClassId) (ly g ru sz ld wy bk cd nc : Nat) (P mo : Nat) (hP : P ≤ 25) (hmo : mo ≤ 136) (ns : Nat) (mh mn : Int64)  (fsz fld : Nat → Int32) (fwy : Nat → Int64) (szN : Nat → Nat) (hsz : ∀ q, q ≤ P → fsz q = nI (szN q) ∧ szN q ≤ mo) (p a : Nat) (hp : p < P) (hpa : p * mo + a < P * mo) : MK l D cI cJ cZ y_LY_waysFrom c_LY_waysFrom 6 (some FieldType.long) 3 69 [.ref ly, .int (nI p), .int (nI a)] [oLY ly g ru (nI mo) sz ld wy bk cd nc (nI ns) mh mn, aI cI sz (P + 1) fsz, aI cI ld (P * mo) fld, aJ cJ wy ((P + 1) * mo) fwy] 0 0 (rJ (wfG (fun j => fwy ((p + 1) * mo + j)) fld szN mo mh mn p a) [oLY ly g ru (nI mo) sz ld wy bk cd nc (nI ns) mh mn, aI cI sz (P + 1) fsz, aI cI ld (P * mo) fld, aJ cJ wy ((P + 1) * mo) fwy]) := by
  refine MC.of (by decide) bigW_good (Nat.le_of_ble_eq_true rfl) (fun κ C Z IN => ?_)
  have hPm : P * mo ≤ 3400 := Nat.mul_le_mul hP hmo
  have hPm1 : (P + 1) * mo ≤ 3536 := Nat.mul_le_mul (Nat.succ_le_succ hP) hmo
  refine e_lconst (v := 0) C d_LY_waysFrom_0 rfl ?_
  refine e_lstore_n C d_LY_waysFrom_1 rfl (by decide) ?_
  refine e_iconst (v := 0) C d_LY_waysFrom_2 rfl ?_
  refine e_istore C d_LY_waysFrom_3 (by decide) ?_
  have LP : ∀ (fuel : Nat) (c : Nat) (sm : Int64), c ≤ 4 → itn (fun c s => s + wbG (fun j => fwy ((p + 1) * mo + j)) fld szN mo mh mn p a c) c 0 = sm →  4 - c < fuel → E κ (lu_o [(0, .ref ly), (1, .int (nI p)), (2, .int (nI a)), (3, .long sm), (5, .int (nI c))]) [] [oLY ly g ru (nI mo) sz ld wy bk cd nc (nI ns) mh mn, aI cI sz (P + 1) fsz, aI cI ld (P * mo) fld, aJ cJ wy ((P + 1) * mo) fwy] 0 0 5 := by
    intro fuel
    induction fuel with
    | zero => intro c sm hc hS hm; exact absurd hm (Nat.not_lt_zero _)
    | succ fuel ihLP =>
      intro c sm hc hS hm
      refine e_iload C d_LY_waysFrom_5 rfl ?_
      refine e_iconst (v := 4) C d_LY_waysFrom_7 rfl ?_
      refine e_icmp_ge (tgt := 28) C d_LY_waysFrom_8 (by decide) (fun h8 => ?_) (fun h8 => ?_)
      · -- 28
        have hc4 : 4 = c := by have q := (nI_leI (a := 4) (by omega) (by omega)).mp h8; omega
        subst hc4
        refine e_lload_n C d_LY_waysFrom_28 rfl rfl ?_
        exact e_lret C Z (Nat.le_of_ble_eq_true rfl) (Nat.le_of_ble_eq_true rfl) (⟨by unfold wfG; rw [hS], rfl⟩) d_LY_waysFrom_29
      · -- 11
        have hc4 : c < 4 := by rcases Nat.lt_or_ge c 4 with q | q; exact q; exact absurd (nI_le (a := 4) q (by omega)) h8
        refine e_lload_n C d_LY_waysFrom_11 rfl rfl ?_
        refine e_aload_n C d_LY_waysFrom_12 rfl rfl ?_
        refine e_iload_n C d_LY_waysFrom_13 rfl rfl ?_
        refine e_iload_n C d_LY_waysFrom_14 rfl rfl ?_
        refine e_iload C d_LY_waysFrom_15 rfl ?_
        refine e_callV (As := [.int (nI p), .int (nI a), .int (nI c)]) (st := [.long sm]) (wc := [oLY ly g ru (nI mo) sz ld wy bk cd nc (nI ns) mh mn, aI cI sz (P + 1) fsz, aI cI ld (P * mo) fld, aJ cJ wy ((P + 1) * mo) fwy]) (wr := []) C (M_LY_waysBy l D cI cJ cZ ly g ru sz ld wy bk cd nc P mo hP hmo ns mh mn fsz fld fwy szN hsz p a c hp hpa) v_LY_waysBy ml_LY_102 0 rfl rfl nwW_ok ⟨Nat.le_of_ble_eq_true rfl, Nat.le_of_ble_eq_true rfl⟩ ⟨Nat.le_of_ble_eq_true rfl, Nat.le_of_ble_eq_true rfl⟩ [0, 1, 2, 3] [] rfl rfl rfl rfl (by decide) (Nat.le_of_ble_eq_true rfl) rfl d_LY_waysFrom_17 (fun v w1 hp => ?_)
        obtain ⟨rfl, rfl⟩ := hp
        refine e_perm (st' := [.long (wbG (fun j => fwy ((p + 1) * mo + j)) fld szN mo mh mn p a c), .long sm]) (ws' := [oLY ly g ru (nI mo) sz ld wy bk cd nc (nI ns) mh mn, aI cI sz (P + 1) fsz, aI cI ld (P * mo) fld, aJ cJ wy ((P + 1) * mo) fwy]) [0, 1, 2, 3] rfl rfl rfl ?_
        refine e_ladd C d_LY_waysFrom_20 ?_
        refine e_lstore_n C d_LY_waysFrom_21 rfl (by decide) ?_
        refine e_iinc (v := (nI c) + 1) C d_LY_waysFrom_22 rfl rfl (by decide) ?_
        refine e_goto (tgt := 5) C d_LY_waysFrom_25 (by decide) ?_
        refine e_lv [(0, .ref ly), (1, .int (nI p)), (2, .int (nI a)), (3, .long (sm + (wbG (fun j => fwy ((p + 1) * mo + j)) fld szN mo mh mn p a c))), (5, .int (nI (c + 1)))] ⟨rfl, rfl, rfl, rfl, congrArg (fun z => some (Value.int z)) (nI_1 c), trivial⟩ ?_
        refine e_ws [oLY ly g ru (nI mo) sz ld wy bk cd nc (nI ns) mh mn, aI cI sz (P + 1) fsz, aI cI ld (P * mo) fld, aJ cJ wy ((P + 1) * mo) fwy] rfl ?_
        exact ihLP (c + 1) _ (by omega) (by show itn _ c 0 + wbG _ _ _ _ _ _ _ _ c = _; rw [hS]) (by omega)
  refine e_lv [(0, .ref ly), (1, .int (nI p)), (2, .int (nI a)), (3, .long 0), (5, .int (nI 0))] ⟨rfl, rfl, rfl, rfl, rfl, trivial⟩ ?_
  refine e_ws [oLY ly g ru (nI mo) sz ld wy bk cd nc (nI ns) mh mn, aI cI sz (P + 1) fsz, aI cI ld (P * mo) fld, aJ cJ wy ((P + 1) * mo) fwy] rfl ?_
  exact LP _ 0 0 (Nat.zero_le _) rfl (Nat.lt_succ_self _)
