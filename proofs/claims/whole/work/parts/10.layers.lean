/-! LAYERS: reading the table, weighing it, walking through it -/
theorem nI_or (a b : Nat) : nI a ||| nI b = nI (a ||| b) := by
  apply Int32.toBitVec_inj.1
  show BitVec.ofNat 32 a ||| BitVec.ofNat 32 b = BitVec.ofNat 32 (a ||| b)
  apply BitVec.eq_of_getLsbD_eq
  intro i hi
  simp [hi]
theorem nI_tag {L i : Nat} (hL : L ≤ 25) (hi : i < 256) : (nI L <<< ((8 : Int32) &&& 31)) ||| nI i = nI (256 * L + i) := by
  rw [pk_shlN _ 8 (by decide) (by omega), nI_or]
  have h := Nat.two_pow_add_eq_or_of_lt (i := 8) (b := i) (by omega) L
  rw [Nat.mul_comm L (2 ^ 8), ← h]
def ldN (fld : Nat → Int32) (mo p a c : Nat) : Nat := (jushr (fld (p * mo + a)) (8 * nI c)).toBitVec.toNat % 2 ^ 8
theorem ldN_lt (fld : Nat → Int32) (mo p a c : Nat) : ldN fld mo p a c < 256 := Nat.mod_lt _ (by decide)
def mskF (m : Int64) (p : Nat) : Int32 := (jlushr m (2 * nI p)).toInt32 &&& 3
def alF (mh mn : Int64) (p c : Nat) : Bool := decide (nI c &&& mskF mh p = mskF mh p) && decide (nI c &&& mskF mn p = 0)
def wbG (NX : Nat → Int64) (fld : Nat → Int32) (szN : Nat → Nat) (mo : Nat) (mh mn : Int64) (p a c : Nat) : Int64 := if szN (p + 1) ≤ ldN fld mo p a c then 0 else if alF mh mn p c = true then NX (ldN fld mo p a c) else 0
def wfG (NX : Nat → Int64) (fld : Nat → Int32) (szN : Nat → Nat) (mo : Nat) (mh mn : Int64) (p a : Nat) : Int64 := itn (fun c s => s + wbG NX fld szN mo mh mn p a c) 4 0
theorem wbG_congr {NX NY : Nat → Int64} {fld : Nat → Int32} {szN : Nat → Nat} {mo : Nat} {mh mn : Int64} {p a c : Nat} (h : ∀ j, j < szN (p + 1) → NX j = NY j) : wbG NX fld szN mo mh mn p a c = wbG NY fld szN mo mh mn p a c := by
  unfold wbG
  by_cases z : szN (p + 1) ≤ ldN fld mo p a c
  · rw [if_pos z, if_pos z]
  · rw [if_neg z, if_neg z, h _ (by omega)]
theorem wfG_congr {NX NY : Nat → Int64} {fld : Nat → Int32} {szN : Nat → Nat} {mo : Nat} {mh mn : Int64} {p a : Nat} (h : ∀ j, j < szN (p + 1) → NX j = NY j) : wfG NX fld szN mo mh mn p a = wfG NY fld szN mo mh mn p a := by
  unfold wfG
  exact itn_congr (fun c _ s => by rw [wbG_congr h])
/-- how many ways go on from the code a of the layer P - k -/
def Wt (P : Nat) (last : Nat → Int64) (fld : Nat → Int32) (szN : Nat → Nat) (mo : Nat) (mh mn : Int64) : Nat → Nat → Int64
  | 0, a => last a
  | k + 1, a => wfG (Wt P last fld szN mo mh mn k) fld szN mo mh mn (P - (k + 1)) a
set_option maxHeartbeats 4000000 in
set_option maxRecDepth 100000 in
theorem M_LY_total (l : Launch) (D : va_G) (cI cJ cZ : ClassId) (ly g ru sz ld wy bk cd nc : Nat) (P mo : Nat) (hP : P ≤ 25) (hmo : mo ≤ 136) (ns : Nat) (mh mn : Int64)  (h0 : 0 < mo) (fwy : Nat → Int64) : MK l D cI cJ cZ y_LY_total c_LY_total 1 (some FieldType.long) 0 0 [.ref ly] [oLY ly g ru (nI mo) sz ld wy bk cd nc (nI ns) mh mn, aJ cJ wy ((P + 1) * mo) fwy] 0 0 (rJ (fwy 0) [oLY ly g ru (nI mo) sz ld wy bk cd nc (nI ns) mh mn, aJ cJ wy ((P + 1) * mo) fwy]) := by
  refine MC.of (by decide) bigW_good (Nat.le_of_ble_eq_true rfl) (fun κ C Z IN => ?_)
  have hPm : P * mo ≤ 3400 := Nat.mul_le_mul hP hmo
  have hPm1 : (P + 1) * mo ≤ 3536 := Nat.mul_le_mul (Nat.succ_le_succ hP) hmo
  refine e_aload_n C d_LY_total_0 rfl rfl ?_
  refine e_get C hin_LY 0 rfl rfl 5 (by decide) fl_LY_33 rfl d_LY_total_1 ?_
  refine e_iconst (v := 0) C d_LY_total_4 rfl ?_
  refine e_st [.int (nI 0), .ref wy] rfl ?_
  refine e_lald C 1 1 rfl rfl (vp_in_nI (Nat.mul_pos (Nat.succ_pos P) h0) (by omega)) d_LY_total_5 ?_
  refine e_st [.long (fwy 0)] (by rw [nI_clamp (by omega)]) ?_
  exact e_lret C Z (Nat.le_of_ble_eq_true rfl) (Nat.le_of_ble_eq_true rfl) (⟨rfl, rfl⟩) d_LY_total_6

set_option maxHeartbeats 4000000 in
set_option maxRecDepth 100000 in
theorem M_LY_leadBy (l : Launch) (D : va_G) (cI cJ cZ : ClassId) (ly g ru sz ld wy bk cd nc : Nat) (P mo : Nat) (hP : P ≤ 25) (hmo : mo ≤ 136) (ns : Nat) (mh mn : Int64)  (fld : Nat → Int32) (p a c : Nat) (hpa : p * mo + a < P * mo) : MK l D cI cJ cZ y_LY_leadBy c_LY_leadBy 4 (some FieldType.int) 0 0 [.ref ly, .int (nI p), .int (nI a), .int (nI c)] [oLY ly g ru (nI mo) sz ld wy bk cd nc (nI ns) mh mn, aI cI ld (P * mo) fld] 0 0 (rI (nI (ldN fld mo p a c)) [oLY ly g ru (nI mo) sz ld wy bk cd nc (nI ns) mh mn, aI cI ld (P * mo) fld]) := by
  refine MC.of (by decide) bigW_good (Nat.le_of_ble_eq_true rfl) (fun κ C Z IN => ?_)
  have hPm : P * mo ≤ 3400 := Nat.mul_le_mul hP hmo
  have hPm1 : (P + 1) * mo ≤ 3536 := Nat.mul_le_mul (Nat.succ_le_succ hP) hmo
  refine e_aload_n C d_LY_leadBy_0 rfl rfl ?_
  refine e_get C hin_LY 0 rfl rfl 4 (by decide) fl_LY_30 rfl d_LY_leadBy_1 ?_
  refine e_iload_n C d_LY_leadBy_4 rfl rfl ?_
  refine e_aload_n C d_LY_leadBy_5 rfl rfl ?_
  refine e_get C hin_LY 0 rfl rfl 2 (by decide) fl_LY_17 rfl d_LY_leadBy_6 ?_
  refine e_imul C d_LY_leadBy_9 ?_
  refine e_iload_n C d_LY_leadBy_10 rfl rfl ?_
  refine e_iadd C d_LY_leadBy_11 ?_
  refine e_st [.int (nI (p * mo + a)), .ref ld] (by rw [pk_mul, nI_add]) ?_
  refine e_iald C 1 0 rfl rfl (vp_in_nI hpa (by omega)) d_LY_leadBy_12 ?_
  refine e_st [.int (fld (p * mo + a))] (by rw [nI_clamp (by omega)]) ?_
  refine e_bipush (v := 8) C d_LY_leadBy_13 (by decide) ?_
  refine e_iload_n C d_LY_leadBy_15 rfl rfl ?_
  refine e_imul C d_LY_leadBy_16 ?_
  refine e_iushr C d_LY_leadBy_17 ?_
  refine e_sipush (v := 255) C d_LY_leadBy_18 (by decide) ?_
  refine e_iand C d_LY_leadBy_21 ?_
  exact e_iret C Z rfl (Nat.le_of_ble_eq_true rfl) (Nat.le_of_ble_eq_true rfl) (⟨by unfold ldN; rw [← pk_and (m := 255) _ 8 (by decide)], rfl⟩) d_LY_leadBy_22

set_option maxHeartbeats 4000000 in
set_option maxRecDepth 100000 in
theorem M_LY_isAllowed (l : Launch) (D : va_G) (cI cJ cZ : ClassId) (ly g ru sz ld wy bk cd nc : Nat) (P mo : Nat) (hP : P ≤ 25) (hmo : mo ≤ 136) (ns : Nat) (mh mn : Int64)  (p c : Nat) : MK l D cI cJ cZ y_LY_isAllowed c_LY_isAllowed 6 (some FieldType.boolean) 1 20 [.ref ly, .int (nI p), .int (nI c)] [oLY ly g ru (nI mo) sz ld wy bk cd nc (nI ns) mh mn] 0 0 (rI (bI (alF mh mn p c)) [oLY ly g ru (nI mo) sz ld wy bk cd nc (nI ns) mh mn]) := by
  refine MC.of (by decide) bigW_good (Nat.le_of_ble_eq_true rfl) (fun κ C Z IN => ?_)
  have hPm : P * mo ≤ 3400 := Nat.mul_le_mul hP hmo
  have hPm1 : (P + 1) * mo ≤ 3536 := Nat.mul_le_mul (Nat.succ_le_succ hP) hmo
  refine e_iload_n C d_LY_isAllowed_0 rfl rfl ?_
  refine e_callSN (As := [.int (nI p)]) (st := []) (wc := []) (wr := [oLY ly g ru (nI mo) sz ld wy bk cd nc (nI ns) mh mn]) C (M_GR_belowOf l D cI cJ cZ (nI p)) s_GR_belowOf mn_LY_113 nwW_ok ⟨Nat.le_of_ble_eq_true rfl, Nat.le_of_ble_eq_true rfl⟩ ⟨Nat.le_of_ble_eq_true rfl, Nat.le_of_ble_eq_true rfl⟩ [] [0] rfl rfl rfl rfl (by decide) (Nat.le_of_ble_eq_true rfl) rfl d_LY_isAllowed_1 (fun v w1 hp => ?_)
  obtain ⟨rfl, rfl⟩ := hp
  refine e_perm (st' := [.int (2 * (nI p))]) (ws' := [oLY ly g ru (nI mo) sz ld wy bk cd nc (nI ns) mh mn]) [0] rfl rfl rfl ?_
  refine e_istore_n C d_LY_isAllowed_4 rfl (by decide) ?_
  refine e_aload_n C d_LY_isAllowed_5 rfl rfl ?_
  refine e_get C hin_LY 0 rfl rfl 10 (by decide) fl_LY_91 rfl d_LY_isAllowed_6 ?_
  refine e_iload_n C d_LY_isAllowed_9 rfl rfl ?_
  refine e_lushr C d_LY_isAllowed_10 ?_
  refine e_l2i C d_LY_isAllowed_11 ?_
  refine e_iconst (v := 3) C d_LY_isAllowed_12 rfl ?_
  refine e_iand C d_LY_isAllowed_13 ?_
  refine e_ti (fun x14 ex14 => ?_)
  refine e_istore C d_LY_isAllowed_14 (by decide) ?_
  refine e_aload_n C d_LY_isAllowed_16 rfl rfl ?_
  refine e_get C hin_LY 0 rfl rfl 11 (by decide) fl_LY_95 rfl d_LY_isAllowed_17 ?_
  refine e_iload_n C d_LY_isAllowed_20 rfl rfl ?_
  refine e_lushr C d_LY_isAllowed_21 ?_
  refine e_l2i C d_LY_isAllowed_22 ?_
  refine e_iconst (v := 3) C d_LY_isAllowed_23 rfl ?_
  refine e_iand C d_LY_isAllowed_24 ?_
  refine e_ti (fun x25 ex25 => ?_)
  refine e_istore C d_LY_isAllowed_25 (by decide) ?_
  refine e_iload_n C d_LY_isAllowed_27 rfl rfl ?_
  refine e_iload C d_LY_isAllowed_28 rfl ?_
  refine e_iand C d_LY_isAllowed_30 ?_
  refine e_iload C d_LY_isAllowed_31 rfl ?_
  refine e_icmp_ne (tgt := 47) C d_LY_isAllowed_33 (by decide) (fun h33 => ?_) (fun h33 => ?_)
  · -- 47
    refine e_iconst (v := 0) C d_LY_isAllowed_47 rfl ?_
    exact e_iret C Z rfl (Nat.le_of_ble_eq_true rfl) (Nat.le_of_ble_eq_true rfl) (⟨by unfold alF mskF; rw [← ex14, ← ex25]; simp [bI, h33], rfl⟩) d_LY_isAllowed_48
  · -- 36
    refine e_iload_n C d_LY_isAllowed_36 rfl rfl ?_
    refine e_iload C d_LY_isAllowed_37 rfl ?_
    refine e_iand C d_LY_isAllowed_39 ?_
    refine e_if_ne (tgt := 47) C d_LY_isAllowed_40 (by decide) (fun h40 => ?_) (fun h40 => ?_)
    · -- 47
      refine e_iconst (v := 0) C d_LY_isAllowed_47 rfl ?_
      exact e_iret C Z rfl (Nat.le_of_ble_eq_true rfl) (Nat.le_of_ble_eq_true rfl) (⟨by unfold alF mskF; rw [← ex14, ← ex25]; simp [bI, h33, h40], rfl⟩) d_LY_isAllowed_48
    · -- 43
      refine e_iconst (v := 1) C d_LY_isAllowed_43 rfl ?_
      refine e_goto (tgt := 48) C d_LY_isAllowed_44 (by decide) ?_
      exact e_iret C Z rfl (Nat.le_of_ble_eq_true rfl) (Nat.le_of_ble_eq_true rfl) (⟨by unfold alF mskF; rw [← ex14, ← ex25]; simp [bI, h33, h40], rfl⟩) d_LY_isAllowed_48

set_option maxHeartbeats 4000000 in
set_option maxRecDepth 100000 in
theorem M_LY_waysBy (l : Launch) (D : va_G) (cI cJ cZ : ClassId) (ly g ru sz ld wy bk cd nc : Nat) (P mo : Nat) (hP : P ≤ 25) (hmo : mo ≤ 136) (ns : Nat) (mh mn : Int64)  (fsz fld : Nat → Int32) (fwy : Nat → Int64) (szN : Nat → Nat) (hsz : ∀ q, q ≤ P → fsz q = nI (szN q) ∧ szN q ≤ mo) (p a c : Nat) (hp : p < P) (hpa : p * mo + a < P * mo) : MK l D cI cJ cZ y_LY_waysBy c_LY_waysBy 5 (some FieldType.long) 2 45 [.ref ly, .int (nI p), .int (nI a), .int (nI c)] [oLY ly g ru (nI mo) sz ld wy bk cd nc (nI ns) mh mn, aI cI sz (P + 1) fsz, aI cI ld (P * mo) fld, aJ cJ wy ((P + 1) * mo) fwy] 0 0 (rJ (wbG (fun j => fwy ((p + 1) * mo + j)) fld szN mo mh mn p a c) [oLY ly g ru (nI mo) sz ld wy bk cd nc (nI ns) mh mn, aI cI sz (P + 1) fsz, aI cI ld (P * mo) fld, aJ cJ wy ((P + 1) * mo) fwy]) := by
  refine MC.of (by decide) bigW_good (Nat.le_of_ble_eq_true rfl) (fun κ C Z IN => ?_)
  have hPm : P * mo ≤ 3400 := Nat.mul_le_mul hP hmo
  have hPm1 : (P + 1) * mo ≤ 3536 := Nat.mul_le_mul (Nat.succ_le_succ hP) hmo
  refine e_aload_n C d_LY_waysBy_0 rfl rfl ?_
  refine e_iload_n C d_LY_waysBy_1 rfl rfl ?_
  refine e_iload_n C d_LY_waysBy_2 rfl rfl ?_
  refine e_iload_n C d_LY_waysBy_3 rfl rfl ?_
  refine e_callV (As := [.int (nI p), .int (nI a), .int (nI c)]) (st := []) (wc := [oLY ly g ru (nI mo) sz ld wy bk cd nc (nI ns) mh mn, aI cI ld (P * mo) fld]) (wr := [aI cI sz (P + 1) fsz, aJ cJ wy ((P + 1) * mo) fwy]) C (M_LY_leadBy l D cI cJ cZ ly g ru sz ld wy bk cd nc P mo hP hmo ns mh mn fld p a c hpa) v_LY_leadBy ml_LY_106 0 rfl rfl nwW_ok ⟨Nat.le_of_ble_eq_true rfl, Nat.le_of_ble_eq_true rfl⟩ ⟨Nat.le_of_ble_eq_true rfl, Nat.le_of_ble_eq_true rfl⟩ [0, 2] [1, 3] rfl rfl rfl rfl (by decide) (Nat.le_of_ble_eq_true rfl) rfl d_LY_waysBy_4 (fun v w1 hp => ?_)
  obtain ⟨rfl, rfl⟩ := hp
  refine e_perm (st' := [.int (nI (ldN fld mo p a c))]) (ws' := [oLY ly g ru (nI mo) sz ld wy bk cd nc (nI ns) mh mn, aI cI sz (P + 1) fsz, aI cI ld (P * mo) fld, aJ cJ wy ((P + 1) * mo) fwy]) [2, 0, 3, 1] rfl rfl rfl ?_
  refine e_istore C d_LY_waysBy_7 (by decide) ?_
  refine e_iload C d_LY_waysBy_9 rfl ?_
  refine e_aload_n C d_LY_waysBy_11 rfl rfl ?_
  refine e_get C hin_LY 0 rfl rfl 3 (by decide) fl_LY_26 rfl d_LY_waysBy_12 ?_
  refine e_iload_n C d_LY_waysBy_15 rfl rfl ?_
  refine e_iconst (v := 1) C d_LY_waysBy_16 rfl ?_
  refine e_iadd C d_LY_waysBy_17 ?_
  refine e_st [.int (nI (p + 1)), .ref sz, .int (nI (ldN fld mo p a c))] (by rw [nI_1]) ?_
  refine e_iald C 1 0 rfl rfl (vp_in_nI (by omega) (by omega)) d_LY_waysBy_18 ?_
  refine e_st [.int (fsz (p + 1)), .int (nI (ldN fld mo p a c))] (by rw [nI_clamp (by omega)]) ?_
  refine e_st [.int (nI (szN (p + 1))), .int (nI (ldN fld mo p a c))] (by rw [(hsz (p + 1) (by omega)).1]) ?_
  refine e_icmp_ge (tgt := 31) C d_LY_waysBy_19 (by decide) (fun h19 => ?_) (fun h19 => ?_)
  · -- 31
    have hge : szN (p + 1) ≤ ldN fld mo p a c := (nI_leI (by have := (hsz (p + 1) (by omega)).2; omega) (by have := ldN_lt fld mo p a c; omega)).mp h19
    refine e_lconst (v := 0) C d_LY_waysBy_31 rfl ?_
    exact e_lret C Z (Nat.le_of_ble_eq_true rfl) (Nat.le_of_ble_eq_true rfl) (⟨by unfold wbG; rw [if_pos hge], rfl⟩) d_LY_waysBy_32
  · -- 22
    refine e_aload_n C d_LY_waysBy_22 rfl rfl ?_
    refine e_iload_n C d_LY_waysBy_23 rfl rfl ?_
    refine e_iload_n C d_LY_waysBy_24 rfl rfl ?_
    refine e_callV (As := [.int (nI p), .int (nI c)]) (st := []) (wc := [oLY ly g ru (nI mo) sz ld wy bk cd nc (nI ns) mh mn]) (wr := [aI cI sz (P + 1) fsz, aI cI ld (P * mo) fld, aJ cJ wy ((P + 1) * mo) fwy]) C (M_LY_isAllowed l D cI cJ cZ ly g ru sz ld wy bk cd nc P mo hP hmo ns mh mn p c) v_LY_isAllowed ml_LY_109 0 rfl rfl nwW_ok ⟨Nat.le_of_ble_eq_true rfl, Nat.le_of_ble_eq_true rfl⟩ ⟨Nat.le_of_ble_eq_true rfl, Nat.le_of_ble_eq_true rfl⟩ [0] [1, 2, 3] rfl rfl rfl rfl (by decide) (Nat.le_of_ble_eq_true rfl) rfl d_LY_waysBy_25 (fun v w1 hp => ?_)
    obtain ⟨rfl, rfl⟩ := hp
    refine e_perm (st' := [.int (bI (alF mh mn p c))]) (ws' := [oLY ly g ru (nI mo) sz ld wy bk cd nc (nI ns) mh mn, aI cI sz (P + 1) fsz, aI cI ld (P * mo) fld, aJ cJ wy ((P + 1) * mo) fwy]) [3, 0, 1, 2] rfl rfl rfl ?_
    refine e_if_ne (tgt := 33) C d_LY_waysBy_28 (by decide) (fun h28 => ?_) (fun h28 => ?_)
    · -- 33
      have hlt : ldN fld mo p a c < szN (p + 1) := by rcases Nat.lt_or_ge (ldN fld mo p a c) (szN (p + 1)) with q | q; exact q; exact absurd (nI_le q (by have := ldN_lt fld mo p a c; omega)) h19
      have hix : (p + 1) * mo + ldN fld mo p a c < (P + 1) * mo := by have h1 := (hsz (p + 1) (by omega)).2; have h2 := Nat.mul_le_mul_right mo (show p + 1 + 1 ≤ P + 1 by omega); rw [Nat.add_mul (p + 1) 1 mo] at h2; omega
      refine e_aload_n C d_LY_waysBy_33 rfl rfl ?_
      refine e_get C hin_LY 0 rfl rfl 5 (by decide) fl_LY_33 rfl d_LY_waysBy_34 ?_
      refine e_iload_n C d_LY_waysBy_37 rfl rfl ?_
      refine e_iconst (v := 1) C d_LY_waysBy_38 rfl ?_
      refine e_iadd C d_LY_waysBy_39 ?_
      refine e_st [.int (nI (p + 1)), .ref wy] (by rw [nI_1]) ?_
      refine e_aload_n C d_LY_waysBy_40 rfl rfl ?_
      refine e_get C hin_LY 0 rfl rfl 2 (by decide) fl_LY_17 rfl d_LY_waysBy_41 ?_
      refine e_imul C d_LY_waysBy_44 ?_
      refine e_iload C d_LY_waysBy_45 rfl ?_
      refine e_iadd C d_LY_waysBy_47 ?_
      refine e_st [.int (nI ((p + 1) * mo + ldN fld mo p a c)), .ref wy] (by rw [pk_mul, nI_add]) ?_
      refine e_lald C 3 1 rfl rfl (vp_in_nI hix (by omega)) d_LY_waysBy_48 ?_
      refine e_st [.long (fwy ((p + 1) * mo + ldN fld mo p a c))] (by rw [nI_clamp (by omega)]) ?_
      exact e_lret C Z (Nat.le_of_ble_eq_true rfl) (Nat.le_of_ble_eq_true rfl) (⟨by (try simp only [bI_eq0, Bool.not_eq_false] at h28); unfold wbG; rw [if_neg (by omega), if_pos h28], rfl⟩) d_LY_waysBy_49
    · -- 31
      have hlt : ldN fld mo p a c < szN (p + 1) := by rcases Nat.lt_or_ge (ldN fld mo p a c) (szN (p + 1)) with q | q; exact q; exact absurd (nI_le q (by have := ldN_lt fld mo p a c; omega)) h19
      refine e_lconst (v := 0) C d_LY_waysBy_31 rfl ?_
      exact e_lret C Z (Nat.le_of_ble_eq_true rfl) (Nat.le_of_ble_eq_true rfl) (⟨by (try simp only [bI_eq0, Bool.not_eq_false] at h28); unfold wbG; rw [if_neg (by omega), if_neg (Bool.eq_false_iff.mp h28)], rfl⟩) d_LY_waysBy_32

set_option maxHeartbeats 4000000 in
set_option maxRecDepth 100000 in
theorem M_LY_waysFrom (l : Launch) (D : va_G) (cI cJ cZ : ClassId) (ly g ru sz ld wy bk cd nc : Nat) (P mo : Nat) (hP : P ≤ 25) (hmo : mo ≤ 136) (ns : Nat) (mh mn : Int64)  (fsz fld : Nat → Int32) (fwy : Nat → Int64) (szN : Nat → Nat) (hsz : ∀ q, q ≤ P → fsz q = nI (szN q) ∧ szN q ≤ mo) (p a : Nat) (hp : p < P) (hpa : p * mo + a < P * mo) : MK l D cI cJ cZ y_LY_waysFrom c_LY_waysFrom 6 (some FieldType.long) 3 69 [.ref ly, .int (nI p), .int (nI a)] [oLY ly g ru (nI mo) sz ld wy bk cd nc (nI ns) mh mn, aI cI sz (P + 1) fsz, aI cI ld (P * mo) fld, aJ cJ wy ((P + 1) * mo) fwy] 0 0 (rJ (wfG (fun j => fwy ((p + 1) * mo + j)) fld szN mo mh mn p a) [oLY ly g ru (nI mo) sz ld wy bk cd nc (nI ns) mh mn, aI cI sz (P + 1) fsz, aI cI ld (P * mo) fld, aJ cJ wy ((P + 1) * mo) fwy]) := by
  refine MC.of (by decide) bigW_good (Nat.le_of_ble_eq_true rfl) (fun κ C Z IN => ?_)
  have hPm : P * mo ≤ 3400 := Nat.mul_le_mul hP hmo
  have hPm1 : (P + 1) * mo ≤ 3536 := Nat.mul_le_mul (Nat.succ_le_succ hP) hmo
  refine e_lconst (v := 0) C d_LY_waysFrom_0 rfl ?_
  refine e_lstore_n C d_LY_waysFrom_1 rfl (by decide) ?_
  refine e_iconst (v := 0) C d_LY_waysFrom_2 rfl ?_
  refine e_istore C d_LY_waysFrom_3 (by decide) ?_
  have LP : ∀ (fuel : Nat) (c : Nat) (sm : Int64), c ≤ 4 → itn (fun c s => s + wbG (fun j => fwy ((p + 1) * mo + j)) fld szN mo mh mn p a c) c 0 = sm →  4 - c < fuel → E κ (lu_o [(0, .ref ly), (1, .int (nI p)), (2, .int (nI a)), (3, .long sm), (5, .int (nI c))]) [] [oLY ly g ru (nI mo) sz ld wy bk cd nc (nI ns) mh mn, aI cI sz (P + 1) fsz, aI cI ld (P * mo) fld, aJ cJ wy ((P + 1) * mo) fwy] 0 0 5 := by
    intro fuel
    induction fuel with
    | zero => intro c sm hc hS hm; exact absurd hm (Nat.not_lt_zero _)
    | succ fuel ihLP =>
      intro c sm hc hS hm
      refine e_iload C d_LY_waysFrom_5 rfl ?_
      refine e_iconst (v := 4) C d_LY_waysFrom_7 rfl ?_
      refine e_icmp_ge (tgt := 28) C d_LY_waysFrom_8 (by decide) (fun h8 => ?_) (fun h8 => ?_)
      · -- 28
        have hc4 : 4 = c := by have q := (nI_leI (a := 4) (by omega) (by omega)).mp h8; omega
        subst hc4
        refine e_lload_n C d_LY_waysFrom_28 rfl rfl ?_
        exact e_lret C Z (Nat.le_of_ble_eq_true rfl) (Nat.le_of_ble_eq_true rfl) (⟨by unfold wfG; rw [hS], rfl⟩) d_LY_waysFrom_29
      · -- 11
        have hc4 : c < 4 := by rcases Nat.lt_or_ge c 4 with q | q; exact q; exact absurd (nI_le (a := 4) q (by omega)) h8
        refine e_lload_n C d_LY_waysFrom_11 rfl rfl ?_
        refine e_aload_n C d_LY_waysFrom_12 rfl rfl ?_
        refine e_iload_n C d_LY_waysFrom_13 rfl rfl ?_
        refine e_iload_n C d_LY_waysFrom_14 rfl rfl ?_
        refine e_iload C d_LY_waysFrom_15 rfl ?_
        refine e_callV (As := [.int (nI p), .int (nI a), .int (nI c)]) (st := [.long sm]) (wc := [oLY ly g ru (nI mo) sz ld wy bk cd nc (nI ns) mh mn, aI cI sz (P + 1) fsz, aI cI ld (P * mo) fld, aJ cJ wy ((P + 1) * mo) fwy]) (wr := []) C (M_LY_waysBy l D cI cJ cZ ly g ru sz ld wy bk cd nc P mo hP hmo ns mh mn fsz fld fwy szN hsz p a c hp hpa) v_LY_waysBy ml_LY_102 0 rfl rfl nwW_ok ⟨Nat.le_of_ble_eq_true rfl, Nat.le_of_ble_eq_true rfl⟩ ⟨Nat.le_of_ble_eq_true rfl, Nat.le_of_ble_eq_true rfl⟩ [0, 1, 2, 3] [] rfl rfl rfl rfl (by decide) (Nat.le_of_ble_eq_true rfl) rfl d_LY_waysFrom_17 (fun v w1 hp => ?_)
        obtain ⟨rfl, rfl⟩ := hp
        refine e_perm (st' := [.long (wbG (fun j => fwy ((p + 1) * mo + j)) fld szN mo mh mn p a c), .long sm]) (ws' := [oLY ly g ru (nI mo) sz ld wy bk cd nc (nI ns) mh mn, aI cI sz (P + 1) fsz, aI cI ld (P * mo) fld, aJ cJ wy ((P + 1) * mo) fwy]) [0, 1, 2, 3] rfl rfl rfl ?_
        refine e_ladd C d_LY_waysFrom_20 ?_
        refine e_lstore_n C d_LY_waysFrom_21 rfl (by decide) ?_
        refine e_iinc (v := (nI c) + 1) C d_LY_waysFrom_22 rfl rfl (by decide) ?_
        refine e_goto (tgt := 5) C d_LY_waysFrom_25 (by decide) ?_
        refine e_lv [(0, .ref ly), (1, .int (nI p)), (2, .int (nI a)), (3, .long (sm + (wbG (fun j => fwy ((p + 1) * mo + j)) fld szN mo mh mn p a c))), (5, .int (nI (c + 1)))] ⟨rfl, rfl, rfl, rfl, congrArg (fun z => some (Value.int z)) (nI_1 c), trivial⟩ ?_
        refine e_ws [oLY ly g ru (nI mo) sz ld wy bk cd nc (nI ns) mh mn, aI cI sz (P + 1) fsz, aI cI ld (P * mo) fld, aJ cJ wy ((P + 1) * mo) fwy] rfl ?_
        exact ihLP (c + 1) _ (by omega) (by show itn _ c 0 + wbG _ _ _ _ _ _ _ _ c = _; rw [hS]) (by omega)
  refine e_lv [(0, .ref ly), (1, .int (nI p)), (2, .int (nI a)), (3, .long 0), (5, .int (nI 0))] ⟨rfl, rfl, rfl, rfl, rfl, trivial⟩ ?_
  refine e_ws [oLY ly g ru (nI mo) sz ld wy bk cd nc (nI ns) mh mn, aI cI sz (P + 1) fsz, aI cI ld (P * mo) fld, aJ cJ wy ((P + 1) * mo) fwy] rfl ?_
  exact LP _ 0 0 (Nat.zero_le _) rfl (Nat.lt_succ_self _)

def pv (k : Nat) : Int32 := if k = 0 then -1 else nI (k - 1)
theorem pv_sub (k : Nat) : nI k - 1 = pv k := by
  unfold pv
  by_cases h : k = 0
  · subst h; decide
  · rw [if_neg h]
    have e : k = (k - 1) + 1 := by omega
    rw [e, nI_succ, Int32.add_sub_cancel, Nat.add_sub_cancel]
theorem pv_dec (k : Nat) : nI k + (-1) = pv k := by
  rw [← pv_sub, Int32.sub_eq_add_neg]
theorem pv_neg {k : Nat} (hk : k ≤ 1000) : pv k < 0 ↔ k = 0 := by
  unfold pv
  by_cases h : k = 0
  · rw [if_pos h]; exact ⟨fun _ => h, fun _ => by decide⟩
  · rw [if_neg h]; exact ⟨fun q => absurd q (nI_pos (by omega)), fun q => absurd q h⟩
theorem ix_ne {p q mo a i : Nat} (h : q < p) (hi : i < mo) : p * mo + a ≠ q * mo + i := by
  have h1 := Nat.mul_le_mul_right mo (show q + 1 ≤ p from h)
  rw [Nat.add_mul q 1 mo] at h1
  omega
theorem ix_lt {p P mo a : Nat} (h : p < P) (hi : a < mo) : p * mo + a < P * mo := by
  have h1 := Nat.mul_le_mul_right mo (show p + 1 ≤ P from h)
  rw [Nat.add_mul p 1 mo] at h1
  omega
set_option maxHeartbeats 4000000 in
set_option maxRecDepth 100000 in
theorem M_LY_weigh (l : Launch) (D : va_G) (cI cJ cZ : ClassId) (ly g ru sz ld wy bk cd nc : Nat) (P mo : Nat) (hP : P ≤ 25) (hmo : mo ≤ 136) (ns : Nat) (mh mn : Int64)  (ht ho : Int32) (op : Int64) (wd lpl ea eb : Int32) (fsz fld : Nat → Int32) (fwy : Nat → Int64) (szN : Nat → Nat) (hsz : ∀ q, q ≤ P → fsz q = nI (szN q) ∧ szN q ≤ mo) (inn out : Int64) : MK l D cI cJ cZ y_LY_weigh c_LY_weigh 7 none 4 94 [.ref ly, .long inn, .long out] [oLY ly g ru (nI mo) sz ld wy bk cd nc (nI ns) mh mn, oGR g wd ht (nI P) ho op lpl ea eb, aI cI sz (P + 1) fsz, aI cI ld (P * mo) fld, aJ cJ wy ((P + 1) * mo) fwy] 0 0 (fun v w1 => ∃ fw : Nat → Int64, v = none ∧ w1 = [oLY ly g ru (nI mo) sz ld wy bk cd nc (nI ns) inn out, oGR g wd ht (nI P) ho op lpl ea eb, aI cI sz (P + 1) fsz, aI cI ld (P * mo) fld, aJ cJ wy ((P + 1) * mo) fw] ∧ ∀ p, p ≤ P → ∀ a, a < szN p → fw (p * mo + a) = Wt P (fun a => fwy (P * mo + a)) fld szN mo inn out (P - p) a) := by
  refine MC.of (by decide) bigW_good (Nat.le_of_ble_eq_true rfl) (fun κ C Z IN => ?_)
  have hPm : P * mo ≤ 3400 := Nat.mul_le_mul hP hmo
  have hPm1 : (P + 1) * mo ≤ 3536 := Nat.mul_le_mul (Nat.succ_le_succ hP) hmo
  refine e_aload_n C d_LY_weigh_0 rfl rfl ?_
  refine e_lload_n C d_LY_weigh_1 rfl rfl ?_
  refine e_put C hin_LY ty_LY tyk_LY nm_LY 0 rfl rfl 10 (by decide) fl_LY_91 rfl rfl rfl (Nat.le_of_ble_eq_true rfl) d_LY_weigh_2 ?_
  refine e_ws [oLY ly g ru (nI mo) sz ld wy bk cd nc (nI ns) inn mn, oGR g wd ht (nI P) ho op lpl ea eb, aI cI sz (P + 1) fsz, aI cI ld (P * mo) fld, aJ cJ wy ((P + 1) * mo) fwy] rfl ?_
  refine e_aload_n C d_LY_weigh_5 rfl rfl ?_
  refine e_lload_n C d_LY_weigh_6 rfl rfl ?_
  refine e_put C hin_LY ty_LY tyk_LY nm_LY 0 rfl rfl 11 (by decide) fl_LY_95 rfl rfl rfl (Nat.le_of_ble_eq_true rfl) d_LY_weigh_7 ?_
  refine e_ws [oLY ly g ru (nI mo) sz ld wy bk cd nc (nI ns) inn out, oGR g wd ht (nI P) ho op lpl ea eb, aI cI sz (P + 1) fsz, aI cI ld (P * mo) fld, aJ cJ wy ((P + 1) * mo) fwy] rfl ?_
  refine e_aload_n C d_LY_weigh_10 rfl rfl ?_
  refine e_get C hin_LY 0 rfl rfl 0 (by decide) fl_LY_7 rfl d_LY_weigh_11 ?_
  refine e_getN C hin_GR 1 rfl rfl 2 (by decide) fn_LY_21 rfl d_LY_weigh_14 ?_
  refine e_iconst (v := 1) C d_LY_weigh_17 rfl ?_
  refine e_isub C d_LY_weigh_18 ?_
  refine e_istore C d_LY_weigh_19 (by decide) ?_
  have LO : ∀ (fuel : Nat) (k : Nat) (fw : Nat → Int64), k ≤ P → (∀ p, k ≤ p → p ≤ P → ∀ a, a < szN p → fw (p * mo + a) = Wt P (fun a => fwy (P * mo + a)) fld szN mo inn out (P - p) a) →  k < fuel → E κ (lu_o [(0, .ref ly), (5, .int (pv k))]) [] [oLY ly g ru (nI mo) sz ld wy bk cd nc (nI ns) inn out, oGR g wd ht (nI P) ho op lpl ea eb, aI cI sz (P + 1) fsz, aI cI ld (P * mo) fld, aJ cJ wy ((P + 1) * mo) fw] 0 0 21 := by
    intro fuel
    induction fuel with
    | zero => intro k fw hk hA hm; exact absurd hm (Nat.not_lt_zero _)
    | succ fuel ihLO =>
      intro k fw hk hA hm
      refine e_iload C d_LY_weigh_21 rfl ?_
      refine e_if_lt (tgt := 76) C d_LY_weigh_23 (by decide) (fun h23 => ?_) (fun h23 => ?_)
      · -- 76
        have hk0 := (pv_neg (by omega)).mp h23
        subst hk0
        exact e_vret C Z (Nat.le_of_ble_eq_true rfl) (Nat.le_of_ble_eq_true rfl) (⟨fw, rfl, rfl, fun p h1 a ha => hA p (Nat.zero_le _) h1 a ha⟩) d_LY_weigh_76
      · -- 26
        have hk0 : ¬ k = 0 := fun z => h23 ((pv_neg (by omega)).mpr z)
        obtain ⟨q, rfl⟩ : ∃ q, k = q + 1 := ⟨k - 1, by omega⟩
        refine e_lv [(0, .ref ly), (5, .int (nI q))] ⟨rfl, congrArg (fun z => some (Value.int z)) (show pv (q + 1) = nI q from rfl), trivial⟩ ?_
        refine e_iconst (v := 0) C d_LY_weigh_26 rfl ?_
        refine e_istore C d_LY_weigh_27 (by decide) ?_
        have LI : ∀ (fuel : Nat) (i : Nat) (fi : Nat → Int64), i ≤ szN q → (∀ p, q < p → p ≤ P → ∀ a, a < szN p → fi (p * mo + a) = Wt P (fun a => fwy (P * mo + a)) fld szN mo inn out (P - p) a) → (∀ a, a < i → fi (q * mo + a) = Wt P (fun a => fwy (P * mo + a)) fld szN mo inn out (P - q) a) →  szN q - i < fuel → E κ (lu_o [(0, .ref ly), (5, .int (nI q)), (6, .int (nI i))]) [] [oLY ly g ru (nI mo) sz ld wy bk cd nc (nI ns) inn out, oGR g wd ht (nI P) ho op lpl ea eb, aI cI sz (P + 1) fsz, aI cI ld (P * mo) fld, aJ cJ wy ((P + 1) * mo) fi] 0 0 29 := by
          intro fuel
          induction fuel with
          | zero => intro i fi hi hA2 hB hm; exact absurd hm (Nat.not_lt_zero _)
          | succ fuel ihLI =>
            intro i fi hi hA2 hB hm
            refine e_iload C d_LY_weigh_29 rfl ?_
            refine e_aload_n C d_LY_weigh_31 rfl rfl ?_
            refine e_get C hin_LY 0 rfl rfl 3 (by decide) fl_LY_26 rfl d_LY_weigh_32 ?_
            refine e_iload C d_LY_weigh_35 rfl ?_
            refine e_iald C 2 0 rfl rfl (vp_in_nI (by omega) (by omega)) d_LY_weigh_37 ?_
            refine e_st [.int (fsz q), .int (nI i)] (by rw [nI_clamp (by omega)]) ?_
            refine e_st [.int (nI (szN q)), .int (nI i)] (by rw [(hsz q (by omega)).1]) ?_
            refine e_icmp_ge (tgt := 70) C d_LY_weigh_38 (by decide) (fun h38 => ?_) (fun h38 => ?_)
            · -- 70
              have hiq : szN q = i := by have z := (nI_leI (by have := (hsz q (by omega)).2; omega) (by have := (hsz q (by omega)).2; omega)).mp h38; omega
              subst hiq
              refine e_iinc (v := (nI q) + (-1)) C d_LY_weigh_70 rfl rfl (by decide) ?_
              refine e_goto (tgt := 21) C d_LY_weigh_73 (by decide) ?_
              refine e_lv [(0, .ref ly), (5, .int (pv q))] ⟨rfl, congrArg (fun z => some (Value.int z)) (pv_dec q), trivial⟩ ?_
              refine e_ws [oLY ly g ru (nI mo) sz ld wy bk cd nc (nI ns) inn out, oGR g wd ht (nI P) ho op lpl ea eb, aI cI sz (P + 1) fsz, aI cI ld (P * mo) fld, aJ cJ wy ((P + 1) * mo) fi] rfl ?_
              exact ihLO q fi (by omega) (fun p h1 h2 a ha => by
                rcases Nat.lt_or_ge q p with z | z
                · exact hA2 p z h2 a ha
                · have e : p = q := by omega
                  subst e; exact hB a ha) (by omega)
            · -- 41
              have hsq := (hsz q (by omega)).2
              have hiq : i < szN q := by rcases Nat.lt_or_ge i (szN q) with z | z; exact z; exact absurd (nI_le z (by omega)) h38
              have him : i < mo := by omega
              have hpq := ix_lt (p := q) (P := P) (a := i) (by omega) him
              refine e_aload_n C d_LY_weigh_41 rfl rfl ?_
              refine e_get C hin_LY 0 rfl rfl 5 (by decide) fl_LY_33 rfl d_LY_weigh_42 ?_
              refine e_iload C d_LY_weigh_45 rfl ?_
              refine e_aload_n C d_LY_weigh_47 rfl rfl ?_
              refine e_get C hin_LY 0 rfl rfl 2 (by decide) fl_LY_17 rfl d_LY_weigh_48 ?_
              refine e_imul C d_LY_weigh_51 ?_
              refine e_iload C d_LY_weigh_52 rfl ?_
              refine e_iadd C d_LY_weigh_54 ?_
              refine e_st [.int (nI (q * mo + i)), .ref wy] (by rw [pk_mul, nI_add]) ?_
              refine e_aload_n C d_LY_weigh_55 rfl rfl ?_
              refine e_iload C d_LY_weigh_56 rfl ?_
              refine e_iload C d_LY_weigh_58 rfl ?_
              refine e_callV (As := [.int (nI q), .int (nI i)]) (st := [.int (nI (q * mo + i)), .ref wy]) (wc := [oLY ly g ru (nI mo) sz ld wy bk cd nc (nI ns) inn out, aI cI sz (P + 1) fsz, aI cI ld (P * mo) fld, aJ cJ wy ((P + 1) * mo) fi]) (wr := [oGR g wd ht (nI P) ho op lpl ea eb]) C (M_LY_waysFrom l D cI cJ cZ ly g ru sz ld wy bk cd nc P mo hP hmo ns inn out fsz fld fi szN hsz q i (by omega) (ix_lt (by omega) him)) v_LY_waysFrom ml_LY_98 0 rfl rfl nwW_ok ⟨Nat.le_of_ble_eq_true rfl, Nat.le_of_ble_eq_true rfl⟩ ⟨Nat.le_of_ble_eq_true rfl, Nat.le_of_ble_eq_true rfl⟩ [0, 2, 3, 4] [1] rfl rfl rfl rfl (by decide) (Nat.le_of_ble_eq_true rfl) rfl d_LY_weigh_60 (fun v w1 hp => ?_)
              obtain ⟨rfl, rfl⟩ := hp
              refine e_perm (st' := [.long (wfG (fun j => fi ((q + 1) * mo + j)) fld szN mo inn out q i), .int (nI (q * mo + i)), .ref wy]) (ws' := [oLY ly g ru (nI mo) sz ld wy bk cd nc (nI ns) inn out, oGR g wd ht (nI P) ho op lpl ea eb, aI cI sz (P + 1) fsz, aI cI ld (P * mo) fld, aJ cJ wy ((P + 1) * mo) fi]) [1, 0, 2, 3, 4] rfl rfl rfl ?_
              refine e_last C 4 1 rfl rfl (vp_in_nI (ix_lt (by omega) him) (by omega)) d_LY_weigh_63 ?_
              refine e_ws [oLY ly g ru (nI mo) sz ld wy bk cd nc (nI ns) inn out, oGR g wd ht (nI P) ho op lpl ea eb, aI cI sz (P + 1) fsz, aI cI ld (P * mo) fld, aJ cJ wy ((P + 1) * mo) (vp_updL fi (q * mo + i) (wfG (fun j => fi ((q + 1) * mo + j)) fld szN mo inn out q i))] (by rw [nI_clamp (by omega)]; rfl) ?_
              refine e_iinc (v := (nI i) + 1) C d_LY_weigh_64 rfl rfl (by decide) ?_
              refine e_goto (tgt := 29) C d_LY_weigh_67 (by decide) ?_
              refine e_lv [(0, .ref ly), (5, .int (nI q)), (6, .int (nI (i + 1)))] ⟨rfl, rfl, congrArg (fun z => some (Value.int z)) (nI_1 i), trivial⟩ ?_
              refine e_ws [oLY ly g ru (nI mo) sz ld wy bk cd nc (nI ns) inn out, oGR g wd ht (nI P) ho op lpl ea eb, aI cI sz (P + 1) fsz, aI cI ld (P * mo) fld, aJ cJ wy ((P + 1) * mo) (vp_updL fi (q * mo + i) (wfG (fun j => fi ((q + 1) * mo + j)) fld szN mo inn out q i))] rfl ?_
              exact ihLI (i + 1) _ (by omega) (fun p h1 h2 a ha => by rw [pk_uLn (ix_ne h1 him)]; exact hA2 p h1 h2 a ha) (fun a ha => by
                by_cases e : a = i
                · subst e; rw [pk_uLs, show P - q = (P - (q + 1)) + 1 by omega]
                  show _ = wfG _ fld szN mo inn out (P - (P - (q + 1) + 1)) a
                  rw [show P - (P - (q + 1) + 1) = q by omega]
                  exact wfG_congr (fun j hj => hA2 (q + 1) (by omega) (by omega) j hj)
                · rw [pk_uLn (by omega)]; exact hB a (by omega)) (by omega)
        refine e_lv [(0, .ref ly), (5, .int (nI q)), (6, .int (nI 0))] ⟨rfl, rfl, rfl, trivial⟩ ?_
        refine e_ws [oLY ly g ru (nI mo) sz ld wy bk cd nc (nI ns) inn out, oGR g wd ht (nI P) ho op lpl ea eb, aI cI sz (P + 1) fsz, aI cI ld (P * mo) fld, aJ cJ wy ((P + 1) * mo) fw] rfl ?_
        exact LI _ 0 fw (Nat.zero_le _) (fun p h1 h2 => hA p (by omega) h2) (fun a h => absurd h (Nat.not_lt_zero a)) (Nat.lt_succ_self _)
  refine e_lv [(0, .ref ly), (5, .int (pv P))] ⟨rfl, congrArg (fun z => some (Value.int z)) (pv_sub P), trivial⟩ ?_
  refine e_ws [oLY ly g ru (nI mo) sz ld wy bk cd nc (nI ns) inn out, oGR g wd ht (nI P) ho op lpl ea eb, aI cI sz (P + 1) fsz, aI cI ld (P * mo) fld, aJ cJ wy ((P + 1) * mo) fwy] rfl ?_
  exact LO _ P fwy (Nat.le_refl _) (fun p h1 h2 a ha => by rw [show p = P by omega, Nat.sub_self]; rfl) (Nat.lt_succ_self _)

def chG (wb : Nat → Int64) : Nat → Nat → Int64 → Nat × Int64
  | 0, c, b => (c, b)
  | f + 1, c, b => if lg_cmp b (wb c) < 0 then (c, b) else chG wb f (c + 1) (b - wb c)
theorem chG_le (wb : Nat → Int64) : ∀ (f c : Nat) (b : Int64), (chG wb f c b).1 ≤ c + f
  | 0, c, _ => Nat.le_refl _
  | f + 1, c, b => by
    unfold chG
    by_cases h : lg_cmp b (wb c) < 0
    · rw [if_pos h]; exact Nat.le_add_right _ _
    · rw [if_neg h]; have := chG_le wb f (c + 1) (b - wb c); omega
def wyG (fwy : Nat → Int64) (fld : Nat → Int32) (szN : Nat → Nat) (mo : Nat) (mh mn : Int64) : Nat → Nat → Nat → Int64 → Int64 → Int64
  | 0, _, _, _, way => way
  | k + 1, p, a, b, way =>
    if szN (p + 1) ≤ ldN fld mo p a (chG (wbG (fun j => fwy ((p + 1) * mo + j)) fld szN mo mh mn p a) 3 0 b).1 then way
    else wyG fwy fld szN mo mh mn k (p + 1) (ldN fld mo p a (chG (wbG (fun j => fwy ((p + 1) * mo + j)) fld szN mo mh mn p a) 3 0 b).1) (chG (wbG (fun j => fwy ((p + 1) * mo + j)) fld szN mo mh mn p a) 3 0 b).2
      (way ||| ((nI (chG (wbG (fun j => fwy ((p + 1) * mo + j)) fld szN mo mh mn p a) 3 0 b).1).toInt64 <<< ((2 * nI p).toInt64 &&& 63)))
set_option maxHeartbeats 4000000 in
set_option maxRecDepth 100000 in
theorem M_LY_wayAt (l : Launch) (D : va_G) (cI cJ cZ : ClassId) (ly g ru sz ld wy bk cd nc : Nat) (P mo : Nat) (hP : P ≤ 25) (hmo : mo ≤ 136) (ns : Nat) (mh mn : Int64)  (ht ho : Int32) (op : Int64) (wd lpl ea eb : Int32) (fsz fld : Nat → Int32) (fwy : Nat → Int64) (szN : Nat → Nat) (hsz : ∀ q, q ≤ P → fsz q = nI (szN q) ∧ szN q ≤ mo) (h00 : 0 < szN 0) (ix : Int64) : MK l D cI cJ cZ y_LY_wayAt c_LY_wayAt 11 (some FieldType.long) 3 69 [.ref ly, .long ix] [oLY ly g ru (nI mo) sz ld wy bk cd nc (nI ns) mh mn, oGR g wd ht (nI P) ho op lpl ea eb, aI cI sz (P + 1) fsz, aI cI ld (P * mo) fld, aJ cJ wy ((P + 1) * mo) fwy] 0 0 (rJ (wyG fwy fld szN mo mh mn P 0 0 ix 0) [oLY ly g ru (nI mo) sz ld wy bk cd nc (nI ns) mh mn, oGR g wd ht (nI P) ho op lpl ea eb, aI cI sz (P + 1) fsz, aI cI ld (P * mo) fld, aJ cJ wy ((P + 1) * mo) fwy]) := by
  refine MC.of (by decide) bigW_good (Nat.le_of_ble_eq_true rfl) (fun κ C Z IN => ?_)
  have hPm : P * mo ≤ 3400 := Nat.mul_le_mul hP hmo
  have hPm1 : (P + 1) * mo ≤ 3536 := Nat.mul_le_mul (Nat.succ_le_succ hP) hmo
  refine e_lconst (v := 0) C d_LY_wayAt_0 rfl ?_
  refine e_lstore_n C d_LY_wayAt_1 rfl (by decide) ?_
  refine e_lload_n C d_LY_wayAt_2 rfl rfl ?_
  refine e_lstore C d_LY_wayAt_3 (by decide) ?_
  refine e_iconst (v := 0) C d_LY_wayAt_5 rfl ?_
  refine e_istore C d_LY_wayAt_6 (by decide) ?_
  refine e_iconst (v := 0) C d_LY_wayAt_8 rfl ?_
  refine e_istore C d_LY_wayAt_9 (by decide) ?_
  have LO : ∀ (fuel : Nat) (p a : Nat) (b way : Int64), p ≤ P → a < szN p → wyG fwy fld szN mo mh mn (P - p) p a b way = wyG fwy fld szN mo mh mn P 0 0 ix 0 →  P - p < fuel → E κ (lu_o [(0, .ref ly), (3, .long way), (5, .long b), (7, .int (nI a)), (8, .int (nI p))]) [] [oLY ly g ru (nI mo) sz ld wy bk cd nc (nI ns) mh mn, oGR g wd ht (nI P) ho op lpl ea eb, aI cI sz (P + 1) fsz, aI cI ld (P * mo) fld, aJ cJ wy ((P + 1) * mo) fwy] 0 0 11 := by
    intro fuel
    induction fuel with
    | zero => intro p a b way hp ha heq hm; exact absurd hm (Nat.not_lt_zero _)
    | succ fuel ihLO =>
      intro p a b way hp ha heq hm
      refine e_iload C d_LY_wayAt_11 rfl ?_
      refine e_aload_n C d_LY_wayAt_13 rfl rfl ?_
      refine e_get C hin_LY 0 rfl rfl 0 (by decide) fl_LY_7 rfl d_LY_wayAt_14 ?_
      refine e_getN C hin_GR 1 rfl rfl 2 (by decide) fn_LY_21 rfl d_LY_wayAt_17 ?_
      refine e_icmp_ge (tgt := 119) C d_LY_wayAt_20 (by decide) (fun h20 => ?_) (fun h20 => ?_)
      · -- 119
        refine e_lload_n C d_LY_wayAt_119 rfl rfl ?_
        exact e_lret C Z (Nat.le_of_ble_eq_true rfl) (Nat.le_of_ble_eq_true rfl) (⟨by rw [← heq, show P - p = 0 by have q := (nI_leI (by omega) (by omega)).mp h20; omega]; rfl, rfl⟩) d_LY_wayAt_120
      · -- 23
        have hpP : p < P := by rcases Nat.lt_or_ge p P with q | q; exact q; exact absurd (nI_le q (by omega)) h20
        have hsp := (hsz p (by omega)).2
        have hpa := ix_lt (p := p) (P := P) (mo := mo) (a := a) hpP (by omega)
        rw [show P - p = (P - (p + 1)) + 1 by omega] at heq
        have heq : (if szN (p + 1) ≤ ldN fld mo p a (chG (wbG (fun j => fwy ((p + 1) * mo + j)) fld szN mo mh mn p a) 3 0 b).1 then way else wyG fwy fld szN mo mh mn (P - (p + 1)) (p + 1) (ldN fld mo p a (chG (wbG (fun j => fwy ((p + 1) * mo + j)) fld szN mo mh mn p a) 3 0 b).1) (chG (wbG (fun j => fwy ((p + 1) * mo + j)) fld szN mo mh mn p a) 3 0 b).2 (way ||| ((nI (chG (wbG (fun j => fwy ((p + 1) * mo + j)) fld szN mo mh mn p a) 3 0 b).1).toInt64 <<< ((2 * nI p).toInt64 &&& 63)))) = wyG fwy fld szN mo mh mn P 0 0 ix 0 := heq
        refine e_iconst (v := 0) C d_LY_wayAt_23 rfl ?_
        refine e_istore C d_LY_wayAt_24 (by decide) ?_
        have LI : ∀ (fuel : Nat) (c : Nat) (b1 : Int64), c ≤ 3 → chG (wbG (fun j => fwy ((p + 1) * mo + j)) fld szN mo mh mn p a) (3 - c) c b1 = chG (wbG (fun j => fwy ((p + 1) * mo + j)) fld szN mo mh mn p a) 3 0 b →  3 - c < fuel → E κ (lu_o [(0, .ref ly), (3, .long way), (5, .long b1), (7, .int (nI a)), (8, .int (nI p)), (9, .int (nI c))]) [] [oLY ly g ru (nI mo) sz ld wy bk cd nc (nI ns) mh mn, oGR g wd ht (nI P) ho op lpl ea eb, aI cI sz (P + 1) fsz, aI cI ld (P * mo) fld, aJ cJ wy ((P + 1) * mo) fwy] 0 0 26 := by
          intro fuel
          induction fuel with
          | zero => intro c b1 hc hch hm; exact absurd hm (Nat.not_lt_zero _)
          | succ fuel ihLI =>
            intro c b1 hc hch hm
            refine e_iload C d_LY_wayAt_26 rfl ?_
            refine e_iconst (v := 3) C d_LY_wayAt_28 rfl ?_
            refine e_icmp_ge (tgt := 69) C d_LY_wayAt_29 (by decide) (fun h29 => ?_) (fun h29 => ?_)
            · -- 69
              have hcb : (c, b1) = chG (wbG (fun j => fwy ((p + 1) * mo + j)) fld szN mo mh mn p a) 3 0 b := by have q := (nI_leI (a := 3) (by omega) (by omega)).mp h29; rw [← hch, show 3 - c = 0 by omega]; rfl
              rw [← hcb] at heq
              have heq : (if szN (p + 1) ≤ ldN fld mo p a c then way else wyG fwy fld szN mo mh mn (P - (p + 1)) (p + 1) (ldN fld mo p a c) b1 (way ||| ((nI c).toInt64 <<< ((2 * nI p).toInt64 &&& 63)))) = wyG fwy fld szN mo mh mn P 0 0 ix 0 := heq
              refine e_aload_n C d_LY_wayAt_69 rfl rfl ?_
              refine e_iload C d_LY_wayAt_70 rfl ?_
              refine e_iload C d_LY_wayAt_72 rfl ?_
              refine e_iload C d_LY_wayAt_74 rfl ?_
              refine e_callV (As := [.int (nI p), .int (nI a), .int (nI c)]) (st := []) (wc := [oLY ly g ru (nI mo) sz ld wy bk cd nc (nI ns) mh mn, aI cI ld (P * mo) fld]) (wr := [oGR g wd ht (nI P) ho op lpl ea eb, aI cI sz (P + 1) fsz, aJ cJ wy ((P + 1) * mo) fwy]) C (M_LY_leadBy l D cI cJ cZ ly g ru sz ld wy bk cd nc P mo hP hmo ns mh mn fld p a c hpa) v_LY_leadBy ml_LY_106 0 rfl rfl nwW_ok ⟨Nat.le_of_ble_eq_true rfl, Nat.le_of_ble_eq_true rfl⟩ ⟨Nat.le_of_ble_eq_true rfl, Nat.le_of_ble_eq_true rfl⟩ [0, 3] [1, 2, 4] rfl rfl rfl rfl (by decide) (Nat.le_of_ble_eq_true rfl) rfl d_LY_wayAt_76 (fun v w1 hp => ?_)
              obtain ⟨rfl, rfl⟩ := hp
              refine e_perm (st' := [.int (nI (ldN fld mo p a c))]) (ws' := [oLY ly g ru (nI mo) sz ld wy bk cd nc (nI ns) mh mn, oGR g wd ht (nI P) ho op lpl ea eb, aI cI sz (P + 1) fsz, aI cI ld (P * mo) fld, aJ cJ wy ((P + 1) * mo) fwy]) [3, 0, 1, 4, 2] rfl rfl rfl ?_
              refine e_istore C d_LY_wayAt_79 (by decide) ?_
              refine e_iload C d_LY_wayAt_81 rfl ?_
              refine e_aload_n C d_LY_wayAt_83 rfl rfl ?_
              refine e_get C hin_LY 0 rfl rfl 3 (by decide) fl_LY_26 rfl d_LY_wayAt_84 ?_
              refine e_iload C d_LY_wayAt_87 rfl ?_
              refine e_iconst (v := 1) C d_LY_wayAt_89 rfl ?_
              refine e_iadd C d_LY_wayAt_90 ?_
              refine e_st [.int (nI (p + 1)), .ref sz, .int (nI (ldN fld mo p a c))] (by rw [nI_1]) ?_
              refine e_iald C 2 0 rfl rfl (vp_in_nI (by omega) (by omega)) d_LY_wayAt_91 ?_
              refine e_st [.int (fsz (p + 1)), .int (nI (ldN fld mo p a c))] (by rw [nI_clamp (by omega)]) ?_
              refine e_st [.int (nI (szN (p + 1))), .int (nI (ldN fld mo p a c))] (by rw [(hsz (p + 1) (by omega)).1]) ?_
              refine e_icmp_lt (tgt := 97) C d_LY_wayAt_92 (by decide) (fun h92 => ?_) (fun h92 => ?_)
              · -- 97
                have hlt : ldN fld mo p a c < szN (p + 1) := (nI_ltI (by have := ldN_lt fld mo p a c; omega) (by have := (hsz (p + 1) (by omega)).2; omega)).mp h92
                rw [if_neg (by omega)] at heq
                have hnx := heq
                refine e_lload_n C d_LY_wayAt_97 rfl rfl ?_
                refine e_iload C d_LY_wayAt_98 rfl ?_
                refine e_i2l C d_LY_wayAt_100 ?_
                refine e_iload C d_LY_wayAt_101 rfl ?_
                refine e_callSN (As := [.int (nI p)]) (st := [.long ((nI c).toInt64), .long way]) (wc := []) (wr := [oLY ly g ru (nI mo) sz ld wy bk cd nc (nI ns) mh mn, oGR g wd ht (nI P) ho op lpl ea eb, aI cI sz (P + 1) fsz, aI cI ld (P * mo) fld, aJ cJ wy ((P + 1) * mo) fwy]) C (M_GR_belowOf l D cI cJ cZ (nI p)) s_GR_belowOf mn_LY_113 nwW_ok ⟨Nat.le_of_ble_eq_true rfl, Nat.le_of_ble_eq_true rfl⟩ ⟨Nat.le_of_ble_eq_true rfl, Nat.le_of_ble_eq_true rfl⟩ [] [0, 1, 2, 3, 4] rfl rfl rfl rfl (by decide) (Nat.le_of_ble_eq_true rfl) rfl d_LY_wayAt_103 (fun v w1 hp => ?_)
                obtain ⟨rfl, rfl⟩ := hp
                refine e_perm (st' := [.int (2 * (nI p)), .long ((nI c).toInt64), .long way]) (ws' := [oLY ly g ru (nI mo) sz ld wy bk cd nc (nI ns) mh mn, oGR g wd ht (nI P) ho op lpl ea eb, aI cI sz (P + 1) fsz, aI cI ld (P * mo) fld, aJ cJ wy ((P + 1) * mo) fwy]) [0, 1, 2, 3, 4] rfl rfl rfl ?_
                refine e_lshl C d_LY_wayAt_106 ?_
                refine e_lor C d_LY_wayAt_107 ?_
                refine e_lstore_n C d_LY_wayAt_108 rfl (by decide) ?_
                refine e_iload C d_LY_wayAt_109 rfl ?_
                refine e_istore C d_LY_wayAt_111 (by decide) ?_
                refine e_iinc (v := (nI p) + 1) C d_LY_wayAt_113 rfl rfl (by decide) ?_
                refine e_goto (tgt := 11) C d_LY_wayAt_116 (by decide) ?_
                refine e_lv [(0, .ref ly), (3, .long (way ||| (((nI c).toInt64) <<< ((2 * (nI p)).toInt64 &&& 63)))), (5, .long b1), (7, .int (nI (ldN fld mo p a c))), (8, .int (nI (p + 1)))] ⟨rfl, rfl, rfl, rfl, congrArg (fun z => some (Value.int z)) (nI_1 p), trivial⟩ ?_
                refine e_ws [oLY ly g ru (nI mo) sz ld wy bk cd nc (nI ns) mh mn, oGR g wd ht (nI P) ho op lpl ea eb, aI cI sz (P + 1) fsz, aI cI ld (P * mo) fld, aJ cJ wy ((P + 1) * mo) fwy] rfl ?_
                exact ihLO (p + 1) _ b1 _ (by omega) hlt hnx (by omega)
              · -- 95
                refine e_lload_n C d_LY_wayAt_95 rfl rfl ?_
                exact e_lret C Z (Nat.le_of_ble_eq_true rfl) (Nat.le_of_ble_eq_true rfl) (⟨by rw [← heq, if_pos (by rcases Nat.lt_or_ge (ldN fld mo p a c) (szN (p + 1)) with q | q; exact absurd (nI_lt q (by have := (hsz (p + 1) (by omega)).2; omega)) h92; exact q)], rfl⟩) d_LY_wayAt_96
            · -- 32
              have hc3 : c < 3 := by rcases Nat.lt_or_ge c 3 with q | q; exact q; exact absurd (nI_le (a := 3) q (by omega)) h29
              refine e_lload C d_LY_wayAt_32 rfl ?_
              refine e_aload_n C d_LY_wayAt_34 rfl rfl ?_
              refine e_iload C d_LY_wayAt_35 rfl ?_
              refine e_iload C d_LY_wayAt_37 rfl ?_
              refine e_iload C d_LY_wayAt_39 rfl ?_
              refine e_callV (As := [.int (nI p), .int (nI a), .int (nI c)]) (st := [.long b1]) (wc := [oLY ly g ru (nI mo) sz ld wy bk cd nc (nI ns) mh mn, aI cI sz (P + 1) fsz, aI cI ld (P * mo) fld, aJ cJ wy ((P + 1) * mo) fwy]) (wr := [oGR g wd ht (nI P) ho op lpl ea eb]) C (M_LY_waysBy l D cI cJ cZ ly g ru sz ld wy bk cd nc P mo hP hmo ns mh mn fsz fld fwy szN hsz p a c hpP hpa) v_LY_waysBy ml_LY_102 0 rfl rfl nwW_ok ⟨Nat.le_of_ble_eq_true rfl, Nat.le_of_ble_eq_true rfl⟩ ⟨Nat.le_of_ble_eq_true rfl, Nat.le_of_ble_eq_true rfl⟩ [0, 2, 3, 4] [1] rfl rfl rfl rfl (by decide) (Nat.le_of_ble_eq_true rfl) rfl d_LY_wayAt_41 (fun v w1 hp => ?_)
              obtain ⟨rfl, rfl⟩ := hp
              refine e_perm (st' := [.long (wbG (fun j => fwy ((p + 1) * mo + j)) fld szN mo mh mn p a c), .long b1]) (ws' := [oLY ly g ru (nI mo) sz ld wy bk cd nc (nI ns) mh mn, oGR g wd ht (nI P) ho op lpl ea eb, aI cI sz (P + 1) fsz, aI cI ld (P * mo) fld, aJ cJ wy ((P + 1) * mo) fwy]) [1, 0, 2, 3, 4] rfl rfl rfl ?_
              refine e_lcmp C d_LY_wayAt_44 ?_
              refine e_if_lt (tgt := 69) C d_LY_wayAt_45 (by decide) (fun h45 => ?_) (fun h45 => ?_)
              · -- 69
                have hcb : (c, b1) = chG (wbG (fun j => fwy ((p + 1) * mo + j)) fld szN mo mh mn p a) 3 0 b := by rw [← hch, show 3 - c = (2 - c) + 1 by omega]; unfold chG; rw [if_pos h45]
                rw [← hcb] at heq
                have heq : (if szN (p + 1) ≤ ldN fld mo p a c then way else wyG fwy fld szN mo mh mn (P - (p + 1)) (p + 1) (ldN fld mo p a c) b1 (way ||| ((nI c).toInt64 <<< ((2 * nI p).toInt64 &&& 63)))) = wyG fwy fld szN mo mh mn P 0 0 ix 0 := heq
                refine e_aload_n C d_LY_wayAt_69 rfl rfl ?_
                refine e_iload C d_LY_wayAt_70 rfl ?_
                refine e_iload C d_LY_wayAt_72 rfl ?_
                refine e_iload C d_LY_wayAt_74 rfl ?_
                refine e_callV (As := [.int (nI p), .int (nI a), .int (nI c)]) (st := []) (wc := [oLY ly g ru (nI mo) sz ld wy bk cd nc (nI ns) mh mn, aI cI ld (P * mo) fld]) (wr := [oGR g wd ht (nI P) ho op lpl ea eb, aI cI sz (P + 1) fsz, aJ cJ wy ((P + 1) * mo) fwy]) C (M_LY_leadBy l D cI cJ cZ ly g ru sz ld wy bk cd nc P mo hP hmo ns mh mn fld p a c hpa) v_LY_leadBy ml_LY_106 0 rfl rfl nwW_ok ⟨Nat.le_of_ble_eq_true rfl, Nat.le_of_ble_eq_true rfl⟩ ⟨Nat.le_of_ble_eq_true rfl, Nat.le_of_ble_eq_true rfl⟩ [0, 3] [1, 2, 4] rfl rfl rfl rfl (by decide) (Nat.le_of_ble_eq_true rfl) rfl d_LY_wayAt_76 (fun v w1 hp => ?_)
                obtain ⟨rfl, rfl⟩ := hp
                refine e_perm (st' := [.int (nI (ldN fld mo p a c))]) (ws' := [oLY ly g ru (nI mo) sz ld wy bk cd nc (nI ns) mh mn, oGR g wd ht (nI P) ho op lpl ea eb, aI cI sz (P + 1) fsz, aI cI ld (P * mo) fld, aJ cJ wy ((P + 1) * mo) fwy]) [3, 0, 1, 4, 2] rfl rfl rfl ?_
                refine e_istore C d_LY_wayAt_79 (by decide) ?_
                refine e_iload C d_LY_wayAt_81 rfl ?_
                refine e_aload_n C d_LY_wayAt_83 rfl rfl ?_
                refine e_get C hin_LY 0 rfl rfl 3 (by decide) fl_LY_26 rfl d_LY_wayAt_84 ?_
                refine e_iload C d_LY_wayAt_87 rfl ?_
                refine e_iconst (v := 1) C d_LY_wayAt_89 rfl ?_
                refine e_iadd C d_LY_wayAt_90 ?_
                refine e_st [.int (nI (p + 1)), .ref sz, .int (nI (ldN fld mo p a c))] (by rw [nI_1]) ?_
                refine e_iald C 2 0 rfl rfl (vp_in_nI (by omega) (by omega)) d_LY_wayAt_91 ?_
                refine e_st [.int (fsz (p + 1)), .int (nI (ldN fld mo p a c))] (by rw [nI_clamp (by omega)]) ?_
                refine e_st [.int (nI (szN (p + 1))), .int (nI (ldN fld mo p a c))] (by rw [(hsz (p + 1) (by omega)).1]) ?_
                refine e_icmp_lt (tgt := 97) C d_LY_wayAt_92 (by decide) (fun h92 => ?_) (fun h92 => ?_)
                · -- 97
                  have hlt : ldN fld mo p a c < szN (p + 1) := (nI_ltI (by have := ldN_lt fld mo p a c; omega) (by have := (hsz (p + 1) (by omega)).2; omega)).mp h92
                  rw [if_neg (by omega)] at heq
                  have hnx := heq
                  refine e_lload_n C d_LY_wayAt_97 rfl rfl ?_
                  refine e_iload C d_LY_wayAt_98 rfl ?_
                  refine e_i2l C d_LY_wayAt_100 ?_
                  refine e_iload C d_LY_wayAt_101 rfl ?_
                  refine e_callSN (As := [.int (nI p)]) (st := [.long ((nI c).toInt64), .long way]) (wc := []) (wr := [oLY ly g ru (nI mo) sz ld wy bk cd nc (nI ns) mh mn, oGR g wd ht (nI P) ho op lpl ea eb, aI cI sz (P + 1) fsz, aI cI ld (P * mo) fld, aJ cJ wy ((P + 1) * mo) fwy]) C (M_GR_belowOf l D cI cJ cZ (nI p)) s_GR_belowOf mn_LY_113 nwW_ok ⟨Nat.le_of_ble_eq_true rfl, Nat.le_of_ble_eq_true rfl⟩ ⟨Nat.le_of_ble_eq_true rfl, Nat.le_of_ble_eq_true rfl⟩ [] [0, 1, 2, 3, 4] rfl rfl rfl rfl (by decide) (Nat.le_of_ble_eq_true rfl) rfl d_LY_wayAt_103 (fun v w1 hp => ?_)
                  obtain ⟨rfl, rfl⟩ := hp
                  refine e_perm (st' := [.int (2 * (nI p)), .long ((nI c).toInt64), .long way]) (ws' := [oLY ly g ru (nI mo) sz ld wy bk cd nc (nI ns) mh mn, oGR g wd ht (nI P) ho op lpl ea eb, aI cI sz (P + 1) fsz, aI cI ld (P * mo) fld, aJ cJ wy ((P + 1) * mo) fwy]) [0, 1, 2, 3, 4] rfl rfl rfl ?_
                  refine e_lshl C d_LY_wayAt_106 ?_
                  refine e_lor C d_LY_wayAt_107 ?_
                  refine e_lstore_n C d_LY_wayAt_108 rfl (by decide) ?_
                  refine e_iload C d_LY_wayAt_109 rfl ?_
                  refine e_istore C d_LY_wayAt_111 (by decide) ?_
                  refine e_iinc (v := (nI p) + 1) C d_LY_wayAt_113 rfl rfl (by decide) ?_
                  refine e_goto (tgt := 11) C d_LY_wayAt_116 (by decide) ?_
                  refine e_lv [(0, .ref ly), (3, .long (way ||| (((nI c).toInt64) <<< ((2 * (nI p)).toInt64 &&& 63)))), (5, .long b1), (7, .int (nI (ldN fld mo p a c))), (8, .int (nI (p + 1)))] ⟨rfl, rfl, rfl, rfl, congrArg (fun z => some (Value.int z)) (nI_1 p), trivial⟩ ?_
                  refine e_ws [oLY ly g ru (nI mo) sz ld wy bk cd nc (nI ns) mh mn, oGR g wd ht (nI P) ho op lpl ea eb, aI cI sz (P + 1) fsz, aI cI ld (P * mo) fld, aJ cJ wy ((P + 1) * mo) fwy] rfl ?_
                  exact ihLO (p + 1) _ b1 _ (by omega) hlt hnx (by omega)
                · -- 95
                  refine e_lload_n C d_LY_wayAt_95 rfl rfl ?_
                  exact e_lret C Z (Nat.le_of_ble_eq_true rfl) (Nat.le_of_ble_eq_true rfl) (⟨by rw [← heq, if_pos (by rcases Nat.lt_or_ge (ldN fld mo p a c) (szN (p + 1)) with q | q; exact absurd (nI_lt q (by have := (hsz (p + 1) (by omega)).2; omega)) h92; exact q)], rfl⟩) d_LY_wayAt_96
              · -- 48
                refine e_lload C d_LY_wayAt_48 rfl ?_
                refine e_aload_n C d_LY_wayAt_50 rfl rfl ?_
                refine e_iload C d_LY_wayAt_51 rfl ?_
                refine e_iload C d_LY_wayAt_53 rfl ?_
                refine e_iload C d_LY_wayAt_55 rfl ?_
                refine e_callV (As := [.int (nI p), .int (nI a), .int (nI c)]) (st := [.long b1]) (wc := [oLY ly g ru (nI mo) sz ld wy bk cd nc (nI ns) mh mn, aI cI sz (P + 1) fsz, aI cI ld (P * mo) fld, aJ cJ wy ((P + 1) * mo) fwy]) (wr := [oGR g wd ht (nI P) ho op lpl ea eb]) C (M_LY_waysBy l D cI cJ cZ ly g ru sz ld wy bk cd nc P mo hP hmo ns mh mn fsz fld fwy szN hsz p a c hpP hpa) v_LY_waysBy ml_LY_102 0 rfl rfl nwW_ok ⟨Nat.le_of_ble_eq_true rfl, Nat.le_of_ble_eq_true rfl⟩ ⟨Nat.le_of_ble_eq_true rfl, Nat.le_of_ble_eq_true rfl⟩ [0, 2, 3, 4] [1] rfl rfl rfl rfl (by decide) (Nat.le_of_ble_eq_true rfl) rfl d_LY_wayAt_57 (fun v w1 hp => ?_)
                obtain ⟨rfl, rfl⟩ := hp
                refine e_perm (st' := [.long (wbG (fun j => fwy ((p + 1) * mo + j)) fld szN mo mh mn p a c), .long b1]) (ws' := [oLY ly g ru (nI mo) sz ld wy bk cd nc (nI ns) mh mn, oGR g wd ht (nI P) ho op lpl ea eb, aI cI sz (P + 1) fsz, aI cI ld (P * mo) fld, aJ cJ wy ((P + 1) * mo) fwy]) [1, 0, 2, 3, 4] rfl rfl rfl ?_
                refine e_lsub C d_LY_wayAt_60 ?_
                refine e_lstore C d_LY_wayAt_61 (by decide) ?_
                refine e_iinc (v := (nI c) + 1) C d_LY_wayAt_63 rfl rfl (by decide) ?_
                refine e_goto (tgt := 26) C d_LY_wayAt_66 (by decide) ?_
                refine e_lv [(0, .ref ly), (3, .long way), (5, .long (b1 - (wbG (fun j => fwy ((p + 1) * mo + j)) fld szN mo mh mn p a c))), (7, .int (nI a)), (8, .int (nI p)), (9, .int (nI (c + 1)))] ⟨rfl, rfl, rfl, rfl, rfl, congrArg (fun z => some (Value.int z)) (nI_1 c), trivial⟩ ?_
                refine e_ws [oLY ly g ru (nI mo) sz ld wy bk cd nc (nI ns) mh mn, oGR g wd ht (nI P) ho op lpl ea eb, aI cI sz (P + 1) fsz, aI cI ld (P * mo) fld, aJ cJ wy ((P + 1) * mo) fwy] rfl ?_
                exact ihLI (c + 1) _ (by omega) (by rw [← hch, show 3 - c = (3 - (c + 1)) + 1 by omega]; show _ = chG _ _ _ _; conv => rhs; unfold chG; rw [if_neg h45]) (by omega)
        refine e_lv [(0, .ref ly), (3, .long way), (5, .long b), (7, .int (nI a)), (8, .int (nI p)), (9, .int (nI 0))] ⟨rfl, rfl, rfl, rfl, rfl, rfl, trivial⟩ ?_
        refine e_ws [oLY ly g ru (nI mo) sz ld wy bk cd nc (nI ns) mh mn, oGR g wd ht (nI P) ho op lpl ea eb, aI cI sz (P + 1) fsz, aI cI ld (P * mo) fld, aJ cJ wy ((P + 1) * mo) fwy] rfl ?_
        exact LI _ 0 b (Nat.zero_le _) rfl (Nat.lt_succ_self _)
  refine e_lv [(0, .ref ly), (3, .long 0), (5, .long ix), (7, .int (nI 0)), (8, .int (nI 0))] ⟨rfl, rfl, rfl, rfl, rfl, trivial⟩ ?_
  refine e_ws [oLY ly g ru (nI mo) sz ld wy bk cd nc (nI ns) mh mn, oGR g wd ht (nI P) ho op lpl ea eb, aI cI sz (P + 1) fsz, aI cI ld (P * mo) fld, aJ cJ wy ((P + 1) * mo) fwy] rfl ?_
  exact LO _ 0 0 ix 0 (Nat.zero_le _) h00 rfl (Nat.lt_succ_self _)

set_option maxHeartbeats 4000000 in
set_option maxRecDepth 100000 in
theorem M_LY_swapCodes (l : Launch) (D : va_G) (cI cJ cZ : ClassId) (ly g ru sz ld wy bk cd nc : Nat) (P mo : Nat) (hP : P ≤ 25) (hmo : mo ≤ 136) (ns : Nat) (mh mn : Int64)  : MK l D cI cJ cZ y_LY_swapCodes c_LY_swapCodes 2 none 0 0 [.ref ly] [oLY ly g ru (nI mo) sz ld wy bk cd nc (nI ns) mh mn] 0 0 (rV [oLY ly g ru (nI mo) sz ld wy bk nc cd (nI ns) mh mn]) := by
  refine MC.of (by decide) bigW_good (Nat.le_of_ble_eq_true rfl) (fun κ C Z IN => ?_)
  have hPm : P * mo ≤ 3400 := Nat.mul_le_mul hP hmo
  have hPm1 : (P + 1) * mo ≤ 3536 := Nat.mul_le_mul (Nat.succ_le_succ hP) hmo
  refine e_aload_n C d_LY_swapCodes_0 rfl rfl ?_
  refine e_get C hin_LY 0 rfl rfl 7 (by decide) fl_LY_40 rfl d_LY_swapCodes_1 ?_
  refine e_astore_n C d_LY_swapCodes_4 rfl (by decide) ?_
  refine e_aload_n C d_LY_swapCodes_5 rfl rfl ?_
  refine e_aload_n C d_LY_swapCodes_6 rfl rfl ?_
  refine e_get C hin_LY 0 rfl rfl 8 (by decide) fl_LY_43 rfl d_LY_swapCodes_7 ?_
  refine e_put C hin_LY ty_LY tyk_LY nm_LY 0 rfl rfl 7 (by decide) fl_LY_40 rfl rfl rfl (Nat.le_of_ble_eq_true rfl) d_LY_swapCodes_10 ?_
  refine e_ws [oLY ly g ru (nI mo) sz ld wy bk nc nc (nI ns) mh mn] rfl ?_
  refine e_aload_n C d_LY_swapCodes_13 rfl rfl ?_
  refine e_aload_n C d_LY_swapCodes_14 rfl rfl ?_
  refine e_put C hin_LY ty_LY tyk_LY nm_LY 0 rfl rfl 8 (by decide) fl_LY_43 rfl rfl rfl (Nat.le_of_ble_eq_true rfl) d_LY_swapCodes_15 ?_
  refine e_ws [oLY ly g ru (nI mo) sz ld wy bk nc cd (nI ns) mh mn] rfl ?_
  exact e_vret C Z (Nat.le_of_ble_eq_true rfl) (Nat.le_of_ble_eq_true rfl) (⟨rfl, rfl⟩) d_LY_swapCodes_18

set_option maxHeartbeats 4000000 in
set_option maxRecDepth 100000 in
theorem M_LY_addNext (l : Launch) (D : va_G) (cI cJ cZ : ClassId) (ly g ru sz ld wy bk cd nc : Nat) (P mo : Nat) (hP : P ≤ 25) (hmo : mo ≤ 136) (ns : Nat) (mh mn : Int64)  (hns : ns ≤ mo) (fbk fnc : Nat → Int32) (code : Int32) (L b : Nat) (hL : L ≤ 25) (hb : b < 512) : MK l D cI cJ cZ y_LY_addNext c_LY_addNext 5 (some FieldType.int) 0 0 [.ref ly, .int code, .int (nI L), .int (nI b)] [oLY ly g ru (nI mo) sz ld wy bk cd nc (nI ns) mh mn, aI cI bk 512 fbk, aI cI nc mo fnc] 0 0 (fun v w1 => (ns < mo ∧ v = some (.int (nI ns)) ∧ w1 = [oLY ly g ru (nI mo) sz ld wy bk cd nc (nI (ns + 1)) mh mn, aI cI bk 512 (upd fbk b (nI (256 * L + ns))), aI cI nc mo (upd fnc ns code)]) ∨ (¬ ns < mo ∧ v = some (.int 255) ∧ w1 = [oLY ly g ru (nI mo) sz ld wy bk cd nc (nI ns) mh mn, aI cI bk 512 fbk, aI cI nc mo fnc])) := by
  refine MC.of (by decide) bigW_good (Nat.le_of_ble_eq_true rfl) (fun κ C Z IN => ?_)
  have hPm : P * mo ≤ 3400 := Nat.mul_le_mul hP hmo
  have hPm1 : (P + 1) * mo ≤ 3536 := Nat.mul_le_mul (Nat.succ_le_succ hP) hmo
  refine e_aload_n C d_LY_addNext_0 rfl rfl ?_
  refine e_get C hin_LY 0 rfl rfl 9 (by decide) fl_LY_58 rfl d_LY_addNext_1 ?_
  refine e_aload_n C d_LY_addNext_4 rfl rfl ?_
  refine e_get C hin_LY 0 rfl rfl 2 (by decide) fl_LY_17 rfl d_LY_addNext_5 ?_
  refine e_icmp_lt (tgt := 15) C d_LY_addNext_8 (by decide) (fun h8 => ?_) (fun h8 => ?_)
  · -- 15
    have hnm : ns < mo := (nI_ltI (by omega) (by omega)).mp h8
    refine e_aload_n C d_LY_addNext_15 rfl rfl ?_
    refine e_get C hin_LY 0 rfl rfl 9 (by decide) fl_LY_58 rfl d_LY_addNext_16 ?_
    refine e_istore C d_LY_addNext_19 (by decide) ?_
    refine e_aload_n C d_LY_addNext_21 rfl rfl ?_
    refine e_get C hin_LY 0 rfl rfl 8 (by decide) fl_LY_43 rfl d_LY_addNext_22 ?_
    refine e_iload C d_LY_addNext_25 rfl ?_
    refine e_iload_n C d_LY_addNext_27 rfl rfl ?_
    refine e_iast C 2 0 rfl rfl (vp_in_nI (by omega) (by omega)) d_LY_addNext_28 ?_
    refine e_ws [oLY ly g ru (nI mo) sz ld wy bk cd nc (nI ns) mh mn, aI cI bk 512 fbk, aI cI nc mo (upd fnc ns code)] (by rw [nI_clamp (by omega)]; rfl) ?_
    refine e_aload_n C d_LY_addNext_29 rfl rfl ?_
    refine e_get C hin_LY 0 rfl rfl 6 (by decide) fl_LY_37 rfl d_LY_addNext_30 ?_
    refine e_iload_n C d_LY_addNext_33 rfl rfl ?_
    refine e_iload_n C d_LY_addNext_34 rfl rfl ?_
    refine e_bipush (v := 8) C d_LY_addNext_35 (by decide) ?_
    refine e_ishl C d_LY_addNext_37 ?_
    refine e_iload C d_LY_addNext_38 rfl ?_
    refine e_ior C d_LY_addNext_40 ?_
    refine e_iast C 1 0 rfl rfl (vp_in_nI (by omega) (by omega)) d_LY_addNext_41 ?_
    refine e_ws [oLY ly g ru (nI mo) sz ld wy bk cd nc (nI ns) mh mn, aI cI bk 512 (upd fbk b (((nI L) <<< ((8 : Int32) &&& 31)) ||| (nI ns))), aI cI nc mo (upd fnc ns code)] (by rw [nI_clamp (by omega)]; rfl) ?_
    refine e_aload_n C d_LY_addNext_42 rfl rfl ?_
    refine e_dup C d_LY_addNext_43 rfl ?_
    refine e_get C hin_LY 0 rfl rfl 9 (by decide) fl_LY_58 rfl d_LY_addNext_44 ?_
    refine e_iconst (v := 1) C d_LY_addNext_47 rfl ?_
    refine e_iadd C d_LY_addNext_48 ?_
    refine e_put C hin_LY ty_LY tyk_LY nm_LY 0 rfl rfl 9 (by decide) fl_LY_58 rfl rfl rfl (Nat.le_of_ble_eq_true rfl) d_LY_addNext_49 ?_
    refine e_ws [oLY ly g ru (nI mo) sz ld wy bk cd nc ((nI ns) + 1) mh mn, aI cI bk 512 (upd fbk b (((nI L) <<< ((8 : Int32) &&& 31)) ||| (nI ns))), aI cI nc mo (upd fnc ns code)] rfl ?_
    refine e_iload C d_LY_addNext_52 rfl ?_
    exact e_iret C Z rfl (Nat.le_of_ble_eq_true rfl) (Nat.le_of_ble_eq_true rfl) (Or.inl ⟨(nI_ltI (by omega) (by omega)).mp h8, rfl, by rw [nI_tag (by omega) (by omega), nI_1]⟩) d_LY_addNext_54
  · -- 11
    refine e_sipush (v := 255) C d_LY_addNext_11 (by decide) ?_
    exact e_iret C Z rfl (Nat.le_of_ble_eq_true rfl) (Nat.le_of_ble_eq_true rfl) (Or.inr ⟨by intro z; exact h8 (nI_lt z (by omega)), rfl, rfl⟩) d_LY_addNext_14
