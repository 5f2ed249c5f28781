/-! CONSTRUCTORS -/
set_option maxHeartbeats 4000000 in
set_option maxRecDepth 100000 in
theorem M_FC_mostCodes_0 (l : Launch) (D : va_G) (cI cJ cZ : ClassId)  : MK l D cI cJ cZ y_FC_mostCodes c_FC_mostCodes 1 (some FieldType.int) 0 0 [.int 0] [] 0 0 (rI 64 []) := by
  refine MC.of (by decide) bigW_good (Nat.le_of_ble_eq_true rfl) (fun κ C Z IN => ?_)
  refine e_iload_n C d_FC_mostCodes_0 rfl rfl ?_
  refine e_tabOut (tgt := 35) C d_FC_mostCodes_1 (by decide) (by decide) ?_
  refine e_bipush (v := 64) C d_FC_mostCodes_35 (by decide) ?_
  exact e_iret C Z rfl (Nat.le_of_ble_eq_true rfl) (Nat.le_of_ble_eq_true rfl) (⟨rfl, rfl⟩) d_FC_mostCodes_37

set_option maxHeartbeats 4000000 in
set_option maxRecDepth 100000 in
theorem M_FC_mostCodes_1 (l : Launch) (D : va_G) (cI cJ cZ : ClassId)  : MK l D cI cJ cZ y_FC_mostCodes c_FC_mostCodes 1 (some FieldType.int) 0 0 [.int 1] [] 0 0 (rI 136 []) := by
  refine MC.of (by decide) bigW_good (Nat.le_of_ble_eq_true rfl) (fun κ C Z IN => ?_)
  refine e_iload_n C d_FC_mostCodes_0 rfl rfl ?_
  refine e_tabIn (off := 27) (tgt := 28) C d_FC_mostCodes_1 (by decide) (by decide) (by decide) (by decide) ?_
  refine e_sipush (v := 136) C d_FC_mostCodes_28 (by decide) ?_
  exact e_iret C Z rfl (Nat.le_of_ble_eq_true rfl) (Nat.le_of_ble_eq_true rfl) (⟨rfl, rfl⟩) d_FC_mostCodes_31

set_option maxHeartbeats 4000000 in
set_option maxRecDepth 100000 in
theorem M_FC_mostCodes_2 (l : Launch) (D : va_G) (cI cJ cZ : ClassId)  : MK l D cI cJ cZ y_FC_mostCodes c_FC_mostCodes 1 (some FieldType.int) 0 0 [.int 2] [] 0 0 (rI 136 []) := by
  refine MC.of (by decide) bigW_good (Nat.le_of_ble_eq_true rfl) (fun κ C Z IN => ?_)
  refine e_iload_n C d_FC_mostCodes_0 rfl rfl ?_
  refine e_tabIn (off := 27) (tgt := 28) C d_FC_mostCodes_1 (by decide) (by decide) (by decide) (by decide) ?_
  refine e_sipush (v := 136) C d_FC_mostCodes_28 (by decide) ?_
  exact e_iret C Z rfl (Nat.le_of_ble_eq_true rfl) (Nat.le_of_ble_eq_true rfl) (⟨rfl, rfl⟩) d_FC_mostCodes_31

set_option maxHeartbeats 4000000 in
set_option maxRecDepth 100000 in
theorem M_FC_mostCodes_3 (l : Launch) (D : va_G) (cI cJ cZ : ClassId)  : MK l D cI cJ cZ y_FC_mostCodes c_FC_mostCodes 1 (some FieldType.int) 0 0 [.int 3] [] 0 0 (rI 42 []) := by
  refine MC.of (by decide) bigW_good (Nat.le_of_ble_eq_true rfl) (fun κ C Z IN => ?_)
  refine e_iload_n C d_FC_mostCodes_0 rfl rfl ?_
  refine e_tabIn (off := 31) (tgt := 32) C d_FC_mostCodes_1 (by decide) (by decide) (by decide) (by decide) ?_
  refine e_bipush (v := 42) C d_FC_mostCodes_32 (by decide) ?_
  exact e_iret C Z rfl (Nat.le_of_ble_eq_true rfl) (Nat.le_of_ble_eq_true rfl) (⟨rfl, rfl⟩) d_FC_mostCodes_34

set_option maxHeartbeats 4000000 in
set_option maxRecDepth 100000 in
theorem M_FC_mostCodes_4 (l : Launch) (D : va_G) (cI cJ cZ : ClassId)  : MK l D cI cJ cZ y_FC_mostCodes c_FC_mostCodes 1 (some FieldType.int) 0 0 [.int 4] [] 0 0 (rI 64 []) := by
  refine MC.of (by decide) bigW_good (Nat.le_of_ble_eq_true rfl) (fun κ C Z IN => ?_)
  refine e_iload_n C d_FC_mostCodes_0 rfl rfl ?_
  refine e_tabOut (tgt := 35) C d_FC_mostCodes_1 (by decide) (by decide) ?_
  refine e_bipush (v := 64) C d_FC_mostCodes_35 (by decide) ?_
  exact e_iret C Z rfl (Nat.le_of_ble_eq_true rfl) (Nat.le_of_ble_eq_true rfl) (⟨rfl, rfl⟩) d_FC_mostCodes_37

set_option maxHeartbeats 4000000 in
set_option maxRecDepth 100000 in
theorem M_FC_ruleOf_0 (l : Launch) (D : va_G) (cI cJ cZ : ClassId) (g : Nat) : MK l D cI cJ cZ y_FC_ruleOf c_FC_ruleOf 2 (some (FieldType.object "FrontierCounts$Rule")) 3 62 [.int 0, .ref g] [] 1 2 (fun v w1 => ∃ ru : Nat, v = some (.ref ru) ∧ w1 = [oDG ru g 1]) := by
  refine MC.of (by decide) bigW_good (Nat.le_of_ble_eq_true rfl) (fun κ C Z IN => ?_)
  refine e_iload_n C d_FC_ruleOf_0 rfl rfl ?_
  refine e_tabIn (off := 31) (tgt := 32) C d_FC_ruleOf_1 (by decide) (by decide) (by decide) (by decide) ?_
  refine e_new (fs := [.null, .int 0]) C hin_DG ty_DG tyk_DG cl_FC_147 ins_DG ini_DG (ci := 3) rfl (by decide +kernel) (Nat.le_of_ble_eq_true rfl) (Nat.le_of_ble_eq_true rfl) d_FC_ruleOf_32 (fun ru => ?_)
  refine e_ws [(ru, .inr (3, [.null, .int 0]))] rfl ?_
  refine e_dup C d_FC_ruleOf_35 rfl ?_
  refine e_aload_n C d_FC_ruleOf_36 rfl rfl ?_
  refine e_iconst (v := 1) C d_FC_ruleOf_37 rfl ?_
  refine e_callIN (ret := none) (As := [.ref g, .int 1]) (st := [.ref ru]) (wc := [(ru, .inr (3, [.null, .int 0]))]) (wr := []) C (M_DG_init l D cI cJ cZ ru g 1) i_DG_init mn_FC_149 nwW_ok ⟨Nat.le_of_ble_eq_true rfl, Nat.le_of_ble_eq_true rfl⟩ ⟨Nat.le_of_ble_eq_true rfl, Nat.le_of_ble_eq_true rfl⟩ [0] [] rfl rfl rfl rfl (by decide) (Nat.le_of_ble_eq_true rfl) rfl d_FC_ruleOf_38 (fun v w1 hp => ?_)
  obtain ⟨rfl, rfl⟩ := hp
  refine e_perm (st' := [.ref ru]) (ws' := [oDG ru g 1]) [0] rfl rfl rfl ?_
  exact e_aret C Z (Or.inl ⟨_, rfl⟩) (Nat.le_of_ble_eq_true rfl) (Nat.le_of_ble_eq_true rfl) (⟨ru, rfl, rfl⟩) d_FC_ruleOf_41

set_option maxHeartbeats 4000000 in
set_option maxRecDepth 100000 in
theorem M_FC_ruleOf_1 (l : Launch) (D : va_G) (cI cJ cZ : ClassId) (g : Nat) : MK l D cI cJ cZ y_FC_ruleOf c_FC_ruleOf 2 (some (FieldType.object "FrontierCounts$Rule")) 3 62 [.int 1, .ref g] [] 1 2 (fun v w1 => ∃ ru : Nat, v = some (.ref ru) ∧ w1 = [oLN ru g (bI false)]) := by
  refine MC.of (by decide) bigW_good (Nat.le_of_ble_eq_true rfl) (fun κ C Z IN => ?_)
  refine e_iload_n C d_FC_ruleOf_0 rfl rfl ?_
  refine e_tabIn (off := 41) (tgt := 42) C d_FC_ruleOf_1 (by decide) (by decide) (by decide) (by decide) ?_
  refine e_new (fs := [.null, .int 0]) C hin_LN ty_LN tyk_LN cl_FC_152 ins_LN ini_LN (ci := 4) rfl (by decide +kernel) (Nat.le_of_ble_eq_true rfl) (Nat.le_of_ble_eq_true rfl) d_FC_ruleOf_42 (fun ru => ?_)
  refine e_ws [(ru, .inr (4, [.null, .int 0]))] rfl ?_
  refine e_dup C d_FC_ruleOf_45 rfl ?_
  refine e_aload_n C d_FC_ruleOf_46 rfl rfl ?_
  refine e_iconst (v := 0) C d_FC_ruleOf_47 rfl ?_
  refine e_callIN (ret := none) (As := [.ref g, .int 0]) (st := [.ref ru]) (wc := [(ru, .inr (4, [.null, .int 0]))]) (wr := []) C (M_LN_init l D cI cJ cZ ru g false) i_LN_init mn_FC_154 nwW_ok ⟨Nat.le_of_ble_eq_true rfl, Nat.le_of_ble_eq_true rfl⟩ ⟨Nat.le_of_ble_eq_true rfl, Nat.le_of_ble_eq_true rfl⟩ [0] [] rfl rfl rfl rfl (by decide) (Nat.le_of_ble_eq_true rfl) rfl d_FC_ruleOf_48 (fun v w1 hp => ?_)
  obtain ⟨rfl, rfl⟩ := hp
  refine e_perm (st' := [.ref ru]) (ws' := [oLN ru g (bI false)]) [0] rfl rfl rfl ?_
  exact e_aret C Z (Or.inl ⟨_, rfl⟩) (Nat.le_of_ble_eq_true rfl) (Nat.le_of_ble_eq_true rfl) (⟨ru, rfl, rfl⟩) d_FC_ruleOf_51

set_option maxHeartbeats 4000000 in
set_option maxRecDepth 100000 in
theorem M_FC_ruleOf_2 (l : Launch) (D : va_G) (cI cJ cZ : ClassId) (g : Nat) : MK l D cI cJ cZ y_FC_ruleOf c_FC_ruleOf 2 (some (FieldType.object "FrontierCounts$Rule")) 3 62 [.int 2, .ref g] [] 1 2 (fun v w1 => ∃ ru : Nat, v = some (.ref ru) ∧ w1 = [oLN ru g (bI true)]) := by
  refine MC.of (by decide) bigW_good (Nat.le_of_ble_eq_true rfl) (fun κ C Z IN => ?_)
  refine e_iload_n C d_FC_ruleOf_0 rfl rfl ?_
  refine e_tabIn (off := 51) (tgt := 52) C d_FC_ruleOf_1 (by decide) (by decide) (by decide) (by decide) ?_
  refine e_new (fs := [.null, .int 0]) C hin_LN ty_LN tyk_LN cl_FC_152 ins_LN ini_LN (ci := 4) rfl (by decide +kernel) (Nat.le_of_ble_eq_true rfl) (Nat.le_of_ble_eq_true rfl) d_FC_ruleOf_52 (fun ru => ?_)
  refine e_ws [(ru, .inr (4, [.null, .int 0]))] rfl ?_
  refine e_dup C d_FC_ruleOf_55 rfl ?_
  refine e_aload_n C d_FC_ruleOf_56 rfl rfl ?_
  refine e_iconst (v := 1) C d_FC_ruleOf_57 rfl ?_
  refine e_callIN (ret := none) (As := [.ref g, .int 1]) (st := [.ref ru]) (wc := [(ru, .inr (4, [.null, .int 0]))]) (wr := []) C (M_LN_init l D cI cJ cZ ru g true) i_LN_init mn_FC_154 nwW_ok ⟨Nat.le_of_ble_eq_true rfl, Nat.le_of_ble_eq_true rfl⟩ ⟨Nat.le_of_ble_eq_true rfl, Nat.le_of_ble_eq_true rfl⟩ [0] [] rfl rfl rfl rfl (by decide) (Nat.le_of_ble_eq_true rfl) rfl d_FC_ruleOf_58 (fun v w1 hp => ?_)
  obtain ⟨rfl, rfl⟩ := hp
  refine e_perm (st' := [.ref ru]) (ws' := [oLN ru g (bI true)]) [0] rfl rfl rfl ?_
  exact e_aret C Z (Or.inl ⟨_, rfl⟩) (Nat.le_of_ble_eq_true rfl) (Nat.le_of_ble_eq_true rfl) (⟨ru, rfl, rfl⟩) d_FC_ruleOf_61

set_option maxHeartbeats 4000000 in
set_option maxRecDepth 100000 in
theorem M_FC_ruleOf_3 (l : Launch) (D : va_G) (cI cJ cZ : ClassId) (g w : Nat) (hw : w ≤ 5) (ht pl ho : Int32) (op : Int64) (lpl ea eb : Int32) : MK l D cI cJ cZ y_FC_ruleOf c_FC_ruleOf 2 (some (FieldType.object "FrontierCounts$Rule")) 3 62 [.int 3, .ref g] [oGR g (nI w) ht pl ho op lpl ea eb] 2 7 (fun v w1 => ∃ ru pcs : Nat, v = some (.ref ru) ∧ w1 = [oGR g (nI w) ht pl ho op lpl ea eb, oTR ru g pcs, aI cI pcs w (fun _ => 0)]) := by
  refine MC.of (by decide) bigW_good (Nat.le_of_ble_eq_true rfl) (fun κ C Z IN => ?_)
  refine e_iload_n C d_FC_ruleOf_0 rfl rfl ?_
  refine e_tabIn (off := 61) (tgt := 62) C d_FC_ruleOf_1 (by decide) (by decide) (by decide) (by decide) ?_
  refine e_new (fs := [.null, .null]) C hin_TR ty_TR tyk_TR cl_FC_157 ins_TR ini_TR (ci := 5) rfl (by decide +kernel) (Nat.le_of_ble_eq_true rfl) (Nat.le_of_ble_eq_true rfl) d_FC_ruleOf_62 (fun ru => ?_)
  refine e_ws [oGR g (nI w) ht pl ho op lpl ea eb, (ru, .inr (5, [.null, .null]))] rfl ?_
  refine e_dup C d_FC_ruleOf_65 rfl ?_
  refine e_aload_n C d_FC_ruleOf_66 rfl rfl ?_
  refine e_callIN (ret := none) (As := [.ref g]) (st := [.ref ru]) (wc := [(ru, .inr (5, [.null, .null])), oGR g (nI w) ht pl ho op lpl ea eb]) (wr := []) C (M_TR_init l D cI cJ cZ ru g w hw ht pl ho op lpl ea eb) i_TR_init mn_FC_159 nwW_ok ⟨Nat.le_of_ble_eq_true rfl, Nat.le_of_ble_eq_true rfl⟩ ⟨Nat.le_of_ble_eq_true rfl, Nat.le_of_ble_eq_true rfl⟩ [1, 0] [] rfl rfl rfl rfl (by decide) (Nat.le_of_ble_eq_true rfl) rfl d_FC_ruleOf_67 (fun v w1 hp => ?_)
  obtain ⟨pcs, rfl, rfl⟩ := hp
  refine e_perm (st' := [.ref ru]) (ws' := [oGR g (nI w) ht pl ho op lpl ea eb, oTR ru g pcs, aI cI pcs w (fun _ => 0)]) [1, 0, 2] rfl rfl rfl ?_
  exact e_aret C Z (Or.inl ⟨_, rfl⟩) (Nat.le_of_ble_eq_true rfl) (Nat.le_of_ble_eq_true rfl) (⟨ru, pcs, rfl, rfl⟩) d_FC_ruleOf_70

set_option maxHeartbeats 4000000 in
set_option maxRecDepth 100000 in
theorem M_FC_ruleOf_4 (l : Launch) (D : va_G) (cI cJ cZ : ClassId) (g : Nat) : MK l D cI cJ cZ y_FC_ruleOf c_FC_ruleOf 2 (some (FieldType.object "FrontierCounts$Rule")) 3 62 [.int 4, .ref g] [] 1 2 (fun v w1 => ∃ ru : Nat, v = some (.ref ru) ∧ w1 = [oDG ru g 2]) := by
  refine MC.of (by decide) bigW_good (Nat.le_of_ble_eq_true rfl) (fun κ C Z IN => ?_)
  refine e_iload_n C d_FC_ruleOf_0 rfl rfl ?_
  refine e_tabOut (tgt := 71) C d_FC_ruleOf_1 (by decide) (by decide) ?_
  refine e_new (fs := [.null, .int 0]) C hin_DG ty_DG tyk_DG cl_FC_147 ins_DG ini_DG (ci := 3) rfl (by decide +kernel) (Nat.le_of_ble_eq_true rfl) (Nat.le_of_ble_eq_true rfl) d_FC_ruleOf_71 (fun ru => ?_)
  refine e_ws [(ru, .inr (3, [.null, .int 0]))] rfl ?_
  refine e_dup C d_FC_ruleOf_74 rfl ?_
  refine e_aload_n C d_FC_ruleOf_75 rfl rfl ?_
  refine e_iconst (v := 2) C d_FC_ruleOf_76 rfl ?_
  refine e_callIN (ret := none) (As := [.ref g, .int 2]) (st := [.ref ru]) (wc := [(ru, .inr (3, [.null, .int 0]))]) (wr := []) C (M_DG_init l D cI cJ cZ ru g 2) i_DG_init mn_FC_149 nwW_ok ⟨Nat.le_of_ble_eq_true rfl, Nat.le_of_ble_eq_true rfl⟩ ⟨Nat.le_of_ble_eq_true rfl, Nat.le_of_ble_eq_true rfl⟩ [0] [] rfl rfl rfl rfl (by decide) (Nat.le_of_ble_eq_true rfl) rfl d_FC_ruleOf_77 (fun v w1 hp => ?_)
  obtain ⟨rfl, rfl⟩ := hp
  refine e_perm (st' := [.ref ru]) (ws' := [oDG ru g 2]) [0] rfl rfl rfl ?_
  exact e_aret C Z (Or.inl ⟨_, rfl⟩) (Nat.le_of_ble_eq_true rfl) (Nat.le_of_ble_eq_true rfl) (⟨ru, rfl, rfl⟩) d_FC_ruleOf_80

set_option maxHeartbeats 4000000 in
set_option maxRecDepth 100000 in
theorem M_LY_init (l : Launch) (D : va_G) (cI cJ cZ : ClassId) (ly g ru P mo : Nat) (hP : P ≤ 25) (hmo : mo ≤ 136) (wd ht ho : Int32) (op : Int64) (lpl ea eb : Int32) : MK l D cI cJ cZ y_LY_init c_LY_init 4 none 1 20 [.ref ly, .ref g, .ref ru, .int (nI mo)] [(ly, .inr (2, [.null, .null, .int 0, .null, .null, .null, .null, .null, .null, .int 0, .long 0, .long 0])), oGR g wd ht (nI P) ho op lpl ea eb] 6 7746 (fun v w1 => ∃ sz ld wy bk cd nc : Nat, v = none ∧ w1 = [oLY ly g ru (nI mo) sz ld wy bk cd nc 0 0 0, oGR g wd ht (nI P) ho op lpl ea eb, aI cI sz (P + 1) (fun _ => 0), aI cI ld (P * mo) (fun _ => 0), aJ cJ wy ((P + 1) * mo) (fun _ => 0), aI cI bk 512 (fun _ => 0), aI cI cd mo (fun _ => 0), aI cI nc mo (fun _ => 0)]) := by
  refine MC.of (by decide) bigW_good (Nat.le_of_ble_eq_true rfl) (fun κ C Z IN => ?_)
  have hPm : P * mo ≤ 3400 := Nat.mul_le_mul hP hmo
  have hPm1 : (P + 1) * mo ≤ 3536 := Nat.mul_le_mul (Nat.succ_le_succ hP) hmo
  refine e_aload_n C d_LY_init_0 rfl rfl ?_
  refine e_objInit C ml_LY_1 imm_objectInit cod_objectInit d_LY_init_1 (Nat.le_of_ble_eq_true rfl) (Nat.le_of_ble_eq_true rfl) ?_
  refine e_aload_n C d_LY_init_4 rfl rfl ?_
  refine e_aload_n C d_LY_init_5 rfl rfl ?_
  refine e_putF C IN hin_LY ty_LY tyk_LY nm_LY 0 rfl rfl 0 (by decide) fl_LY_7 rfl rfl rfl rfl (Nat.le_of_ble_eq_true rfl) d_LY_init_6 ?_
  refine e_ws [(ly, .inr (2, [.ref g, .null, .int 0, .null, .null, .null, .null, .null, .null, .int 0, .long 0, .long 0])), oGR g wd ht (nI P) ho op lpl ea eb] rfl ?_
  refine e_aload_n C d_LY_init_9 rfl rfl ?_
  refine e_aload_n C d_LY_init_10 rfl rfl ?_
  refine e_putF C IN hin_LY ty_LY tyk_LY nm_LY 0 rfl rfl 1 (by decide) fl_LY_13 rfl rfl rfl rfl (Nat.le_of_ble_eq_true rfl) d_LY_init_11 ?_
  refine e_ws [(ly, .inr (2, [.ref g, .ref ru, .int 0, .null, .null, .null, .null, .null, .null, .int 0, .long 0, .long 0])), oGR g wd ht (nI P) ho op lpl ea eb] rfl ?_
  refine e_aload_n C d_LY_init_14 rfl rfl ?_
  refine e_iload_n C d_LY_init_15 rfl rfl ?_
  refine e_putF C IN hin_LY ty_LY tyk_LY nm_LY 0 rfl rfl 2 (by decide) fl_LY_17 rfl rfl rfl rfl (Nat.le_of_ble_eq_true rfl) d_LY_init_16 ?_
  refine e_ws [(ly, .inr (2, [.ref g, .ref ru, .int (nI mo), .null, .null, .null, .null, .null, .null, .int 0, .long 0, .long 0])), oGR g wd ht (nI P) ho op lpl ea eb] rfl ?_
  refine e_aload_n C d_LY_init_19 rfl rfl ?_
  refine e_aload_n C d_LY_init_20 rfl rfl ?_
  refine e_getN C hin_GR 1 rfl rfl 2 (by decide) fn_LY_21 rfl d_LY_init_21 ?_
  refine e_iconst (v := 1) C d_LY_init_24 rfl ?_
  refine e_iadd C d_LY_init_25 ?_
  refine e_st [.int (nI (P + 1)), .ref ly] (by rw [nI_1]) ?_
  refine e_newI (N := (P + 1)) C 0 rfl ac_int (nI_pos (by omega)) (nI_clamp (by omega)) (by show (P + 1) * 4 ≤ 536870912; omega) (Nat.le_of_ble_eq_true rfl) (by show _ + (P + 1) ≤ _; simp only []; omega) d_LY_init_26 (fun sz => ?_)
  refine e_wide (k' := 1) (n' := 26) (Nat.le_of_ble_eq_true rfl) (by omega) ?_
  refine e_ws [(ly, .inr (2, [.ref g, .ref ru, .int (nI mo), .null, .null, .null, .null, .null, .null, .int 0, .long 0, .long 0])), oGR g wd ht (nI P) ho op lpl ea eb, aI cI sz (P + 1) (fun _ => 0)] rfl ?_
  refine e_putF C IN hin_LY ty_LY tyk_LY nm_LY 0 rfl rfl 3 (by decide) fl_LY_26 rfl rfl rfl rfl (Nat.le_of_ble_eq_true rfl) d_LY_init_28 ?_
  refine e_ws [(ly, .inr (2, [.ref g, .ref ru, .int (nI mo), .ref sz, .null, .null, .null, .null, .null, .int 0, .long 0, .long 0])), oGR g wd ht (nI P) ho op lpl ea eb, aI cI sz (P + 1) (fun _ => 0)] rfl ?_
  refine e_aload_n C d_LY_init_31 rfl rfl ?_
  refine e_aload_n C d_LY_init_32 rfl rfl ?_
  refine e_getN C hin_GR 1 rfl rfl 2 (by decide) fn_LY_21 rfl d_LY_init_33 ?_
  refine e_iload_n C d_LY_init_36 rfl rfl ?_
  refine e_imul C d_LY_init_37 ?_
  refine e_st [.int (nI (P * mo)), .ref ly] (by rw [pk_mul]) ?_
  refine e_newI (N := (P * mo)) C 0 rfl ac_int (nI_pos (by omega)) (nI_clamp (by omega)) (by show (P * mo) * 4 ≤ 536870912; omega) (Nat.le_of_ble_eq_true rfl) (by show _ + (P * mo) ≤ _; simp only []; omega) d_LY_init_38 (fun ld => ?_)
  refine e_wide (k' := 2) (n' := 3426) (Nat.le_of_ble_eq_true rfl) (by omega) ?_
  refine e_ws [(ly, .inr (2, [.ref g, .ref ru, .int (nI mo), .ref sz, .null, .null, .null, .null, .null, .int 0, .long 0, .long 0])), oGR g wd ht (nI P) ho op lpl ea eb, aI cI sz (P + 1) (fun _ => 0), aI cI ld (P * mo) (fun _ => 0)] rfl ?_
  refine e_putF C IN hin_LY ty_LY tyk_LY nm_LY 0 rfl rfl 4 (by decide) fl_LY_30 rfl rfl rfl rfl (Nat.le_of_ble_eq_true rfl) d_LY_init_40 ?_
  refine e_ws [(ly, .inr (2, [.ref g, .ref ru, .int (nI mo), .ref sz, .ref ld, .null, .null, .null, .null, .int 0, .long 0, .long 0])), oGR g wd ht (nI P) ho op lpl ea eb, aI cI sz (P + 1) (fun _ => 0), aI cI ld (P * mo) (fun _ => 0)] rfl ?_
  refine e_aload_n C d_LY_init_43 rfl rfl ?_
  refine e_aload_n C d_LY_init_44 rfl rfl ?_
  refine e_getN C hin_GR 1 rfl rfl 2 (by decide) fn_LY_21 rfl d_LY_init_45 ?_
  refine e_iconst (v := 1) C d_LY_init_48 rfl ?_
  refine e_iadd C d_LY_init_49 ?_
  refine e_iload_n C d_LY_init_50 rfl rfl ?_
  refine e_imul C d_LY_init_51 ?_
  refine e_st [.int (nI ((P + 1) * mo)), .ref ly] (by rw [nI_1, pk_mul]) ?_
  refine e_newJ (N := ((P + 1) * mo)) C 1 rfl ac_long (nI_pos (by omega)) (nI_clamp (by omega)) (by show ((P + 1) * mo) * 8 ≤ 536870912; omega) (Nat.le_of_ble_eq_true rfl) (by show _ + ((P + 1) * mo) ≤ _; simp only []; omega) d_LY_init_52 (fun wy => ?_)
  refine e_wide (k' := 3) (n' := 6962) (Nat.le_of_ble_eq_true rfl) (by omega) ?_
  refine e_ws [(ly, .inr (2, [.ref g, .ref ru, .int (nI mo), .ref sz, .ref ld, .null, .null, .null, .null, .int 0, .long 0, .long 0])), oGR g wd ht (nI P) ho op lpl ea eb, aI cI sz (P + 1) (fun _ => 0), aI cI ld (P * mo) (fun _ => 0), aJ cJ wy ((P + 1) * mo) (fun _ => 0)] rfl ?_
  refine e_putF C IN hin_LY ty_LY tyk_LY nm_LY 0 rfl rfl 5 (by decide) fl_LY_33 rfl rfl rfl rfl (Nat.le_of_ble_eq_true rfl) d_LY_init_54 ?_
  refine e_ws [(ly, .inr (2, [.ref g, .ref ru, .int (nI mo), .ref sz, .ref ld, .ref wy, .null, .null, .null, .int 0, .long 0, .long 0])), oGR g wd ht (nI P) ho op lpl ea eb, aI cI sz (P + 1) (fun _ => 0), aI cI ld (P * mo) (fun _ => 0), aJ cJ wy ((P + 1) * mo) (fun _ => 0)] rfl ?_
  refine e_aload_n C d_LY_init_57 rfl rfl ?_
  refine e_sipush (v := 512) C d_LY_init_58 (by decide) ?_
  refine e_st [.int (nI (512)), .ref ly] rfl ?_
  refine e_newI (N := 512) C 0 rfl ac_int (nI_pos (by omega)) (nI_clamp (by omega)) (by show 512 * 4 ≤ 536870912; omega) (Nat.le_of_ble_eq_true rfl) (by show _ + 512 ≤ _; simp only []; omega) d_LY_init_61 (fun bk => ?_)
  refine e_wide (k' := 4) (n' := 7474) (Nat.le_of_ble_eq_true rfl) (by omega) ?_
  refine e_ws [(ly, .inr (2, [.ref g, .ref ru, .int (nI mo), .ref sz, .ref ld, .ref wy, .null, .null, .null, .int 0, .long 0, .long 0])), oGR g wd ht (nI P) ho op lpl ea eb, aI cI sz (P + 1) (fun _ => 0), aI cI ld (P * mo) (fun _ => 0), aJ cJ wy ((P + 1) * mo) (fun _ => 0), aI cI bk 512 (fun _ => 0)] rfl ?_
  refine e_putF C IN hin_LY ty_LY tyk_LY nm_LY 0 rfl rfl 6 (by decide) fl_LY_37 rfl rfl rfl rfl (Nat.le_of_ble_eq_true rfl) d_LY_init_63 ?_
  refine e_ws [(ly, .inr (2, [.ref g, .ref ru, .int (nI mo), .ref sz, .ref ld, .ref wy, .ref bk, .null, .null, .int 0, .long 0, .long 0])), oGR g wd ht (nI P) ho op lpl ea eb, aI cI sz (P + 1) (fun _ => 0), aI cI ld (P * mo) (fun _ => 0), aJ cJ wy ((P + 1) * mo) (fun _ => 0), aI cI bk 512 (fun _ => 0)] rfl ?_
  refine e_aload_n C d_LY_init_66 rfl rfl ?_
  refine e_iload_n C d_LY_init_67 rfl rfl ?_
  refine e_st [.int (nI (mo)), .ref ly] rfl ?_
  refine e_newI (N := mo) C 0 rfl ac_int (nI_pos (by omega)) (nI_clamp (by omega)) (by show mo * 4 ≤ 536870912; omega) (Nat.le_of_ble_eq_true rfl) (by show _ + mo ≤ _; simp only []; omega) d_LY_init_68 (fun cd => ?_)
  refine e_wide (k' := 5) (n' := 7610) (Nat.le_of_ble_eq_true rfl) (by omega) ?_
  refine e_ws [(ly, .inr (2, [.ref g, .ref ru, .int (nI mo), .ref sz, .ref ld, .ref wy, .ref bk, .null, .null, .int 0, .long 0, .long 0])), oGR g wd ht (nI P) ho op lpl ea eb, aI cI sz (P + 1) (fun _ => 0), aI cI ld (P * mo) (fun _ => 0), aJ cJ wy ((P + 1) * mo) (fun _ => 0), aI cI bk 512 (fun _ => 0), aI cI cd mo (fun _ => 0)] rfl ?_
  refine e_put C hin_LY ty_LY tyk_LY nm_LY 0 rfl rfl 7 (by decide) fl_LY_40 rfl rfl rfl (Nat.le_of_ble_eq_true rfl) d_LY_init_70 ?_
  refine e_ws [(ly, .inr (2, [.ref g, .ref ru, .int (nI mo), .ref sz, .ref ld, .ref wy, .ref bk, .ref cd, .null, .int 0, .long 0, .long 0])), oGR g wd ht (nI P) ho op lpl ea eb, aI cI sz (P + 1) (fun _ => 0), aI cI ld (P * mo) (fun _ => 0), aJ cJ wy ((P + 1) * mo) (fun _ => 0), aI cI bk 512 (fun _ => 0), aI cI cd mo (fun _ => 0)] rfl ?_
  refine e_aload_n C d_LY_init_73 rfl rfl ?_
  refine e_iload_n C d_LY_init_74 rfl rfl ?_
  refine e_st [.int (nI (mo)), .ref ly] rfl ?_
  refine e_newI (N := mo) C 0 rfl ac_int (nI_pos (by omega)) (nI_clamp (by omega)) (by show mo * 4 ≤ 536870912; omega) (Nat.le_of_ble_eq_true rfl) (by show _ + mo ≤ _; simp only []; omega) d_LY_init_75 (fun nc => ?_)
  refine e_wide (k' := 6) (n' := 7746) (Nat.le_of_ble_eq_true rfl) (by omega) ?_
  refine e_ws [(ly, .inr (2, [.ref g, .ref ru, .int (nI mo), .ref sz, .ref ld, .ref wy, .ref bk, .ref cd, .null, .int 0, .long 0, .long 0])), oGR g wd ht (nI P) ho op lpl ea eb, aI cI sz (P + 1) (fun _ => 0), aI cI ld (P * mo) (fun _ => 0), aJ cJ wy ((P + 1) * mo) (fun _ => 0), aI cI bk 512 (fun _ => 0), aI cI cd mo (fun _ => 0), aI cI nc mo (fun _ => 0)] rfl ?_
  refine e_put C hin_LY ty_LY tyk_LY nm_LY 0 rfl rfl 8 (by decide) fl_LY_43 rfl rfl rfl (Nat.le_of_ble_eq_true rfl) d_LY_init_77 ?_
  refine e_ws [oLY ly g ru (nI mo) sz ld wy bk cd nc 0 0 0, oGR g wd ht (nI P) ho op lpl ea eb, aI cI sz (P + 1) (fun _ => 0), aI cI ld (P * mo) (fun _ => 0), aJ cJ wy ((P + 1) * mo) (fun _ => 0), aI cI bk 512 (fun _ => 0), aI cI cd mo (fun _ => 0), aI cI nc mo (fun _ => 0)] rfl ?_
  exact e_vret C Z (Nat.le_of_ble_eq_true rfl) (Nat.le_of_ble_eq_true rfl) (⟨sz, ld, wy, bk, cd, nc, rfl, rfl⟩) d_LY_init_80

set_option maxHeartbeats 4000000 in
set_option maxRecDepth 100000 in
theorem M_FC_init_0 (l : Launch) (D : va_G) (cI cJ cZ : ClassId) (x : Nat) (kind width height : Int32) (w h : Nat) (hw : w ≤ 5) (hh : h ≤ 5) (ek : heldF kind 0 4 = 0) (ew : heldF width 1 5 = nI w) (eh : heldF height 1 5 = nI h) : MK l D cI cJ cZ y_FC_init c_FC_init 5 none 5 108 [.ref x, .int kind, .int width, .int height] [(x, .inr (0, [.null, .null, .null, .int 0, .long 0, .long 0, .long 0, .int 0, .int 0, .long 0, .long 0]))] 10 7818 (fun v w1 => ∃ (g ly ru sz ld wy bk cd nc sa : Nat) (fs2 : Nat → Int32), v = none ∧ w1 = [oFC x g ly sa (nI (slF (w * h) (fosF w h (nI (w * h)) 0).1 0).length) 0 0 0 (bI false) (bI false) 0 (-1), oGR g (nI w) (nI h) (nI (w * h)) 0 ((fosF w h (nI (w * h)) 0).1) ((fosF w h (nI (w * h)) 0).2) (-1) (-1), oLY ly g ru (nI 64) sz ld wy bk cd nc 0 0 0, oDG ru g 1, aI cI sz (w * h + 1) (fun _ => 0), aI cI ld (w * h * 64) (fun _ => 0), aJ cJ wy ((w * h + 1) * 64) (fun _ => 0), aI cI bk 512 (fun _ => 0), aI cI cd 64 (fun _ => 0), aI cI nc 64 (fun _ => 0), aI cI sa (2 * (w * h)) fs2] ∧ slR (slF (w * h) (fosF w h (nI (w * h)) 0).1 0) fs2) := by
  refine MC.of (by decide) bigW_good (Nat.le_of_ble_eq_true rfl) (fun κ C Z IN => ?_)
  have hP : w * h ≤ 25 := Nat.mul_le_mul hw hh
  refine e_aload_n C d_FC_init_0 rfl rfl ?_
  refine e_objInit C ml_FC_1 imm_objectInit cod_objectInit d_FC_init_1 (Nat.le_of_ble_eq_true rfl) (Nat.le_of_ble_eq_true rfl) ?_
  refine e_aload_n C d_FC_init_4 rfl rfl ?_
  refine e_new (fs := [.int 0, .int 0, .int 0, .int 0, .long 0, .int 0, .int 0, .int 0]) C hin_GR ty_GR tyk_GR cl_FC_7 ins_GR ini_GR (ci := 1) rfl (by decide +kernel) (Nat.le_of_ble_eq_true rfl) (Nat.le_of_ble_eq_true rfl) d_FC_init_5 (fun g => ?_)
  refine e_ws [(x, .inr (0, [.null, .null, .null, .int 0, .long 0, .long 0, .long 0, .int 0, .int 0, .long 0, .long 0])), oGR g 0 0 0 0 0 0 0 0] rfl ?_
  refine e_dup C d_FC_init_8 rfl ?_
  refine e_iload_n C d_FC_init_9 rfl rfl ?_
  refine e_iconst (v := 1) C d_FC_init_10 rfl ?_
  refine e_iconst (v := 5) C d_FC_init_11 rfl ?_
  refine e_callS (As := [.int width, .int 1, .int 5]) (st := [.ref g, .ref g, .ref x]) (wc := []) (wr := [(x, .inr (0, [.null, .null, .null, .int 0, .long 0, .long 0, .long 0, .int 0, .int 0, .long 0, .long 0])), oGR g 0 0 0 0 0 0 0 0]) C (M_FC_held l D cI cJ cZ width 1 5) s_FC_held ml_FC_11 nwW_ok ⟨Nat.le_of_ble_eq_true rfl, Nat.le_of_ble_eq_true rfl⟩ ⟨Nat.le_of_ble_eq_true rfl, Nat.le_of_ble_eq_true rfl⟩ [] [0, 1] rfl rfl rfl rfl (by decide) (Nat.le_of_ble_eq_true rfl) rfl d_FC_init_12 (fun v w1 hp => ?_)
  obtain ⟨rfl, rfl⟩ := hp
  refine e_perm (st' := [.int (heldF width 1 5), .ref g, .ref g, .ref x]) (ws' := [(x, .inr (0, [.null, .null, .null, .int 0, .long 0, .long 0, .long 0, .int 0, .int 0, .long 0, .long 0])), oGR g 0 0 0 0 0 0 0 0]) [0, 1] rfl rfl rfl ?_
  refine e_st [.int (nI w), .ref g, .ref g, .ref x] (by rw [ew]) ?_
  refine e_iload_n C d_FC_init_15 rfl rfl ?_
  refine e_iconst (v := 1) C d_FC_init_16 rfl ?_
  refine e_iconst (v := 5) C d_FC_init_17 rfl ?_
  refine e_callS (As := [.int height, .int 1, .int 5]) (st := [.int (nI w), .ref g, .ref g, .ref x]) (wc := []) (wr := [(x, .inr (0, [.null, .null, .null, .int 0, .long 0, .long 0, .long 0, .int 0, .int 0, .long 0, .long 0])), oGR g 0 0 0 0 0 0 0 0]) C (M_FC_held l D cI cJ cZ height 1 5) s_FC_held ml_FC_11 nwW_ok ⟨Nat.le_of_ble_eq_true rfl, Nat.le_of_ble_eq_true rfl⟩ ⟨Nat.le_of_ble_eq_true rfl, Nat.le_of_ble_eq_true rfl⟩ [] [0, 1] rfl rfl rfl rfl (by decide) (Nat.le_of_ble_eq_true rfl) rfl d_FC_init_18 (fun v w1 hp => ?_)
  obtain ⟨rfl, rfl⟩ := hp
  refine e_perm (st' := [.int (heldF height 1 5), .int (nI w), .ref g, .ref g, .ref x]) (ws' := [(x, .inr (0, [.null, .null, .null, .int 0, .long 0, .long 0, .long 0, .int 0, .int 0, .long 0, .long 0])), oGR g 0 0 0 0 0 0 0 0]) [0, 1] rfl rfl rfl ?_
  refine e_st [.int (nI h), .int (nI w), .ref g, .ref g, .ref x] (by rw [eh]) ?_
  refine e_callIN (ret := none) (As := [.int (nI w), .int (nI h)]) (st := [.ref g, .ref x]) (wc := [oGR g 0 0 0 0 0 0 0 0]) (wr := [(x, .inr (0, [.null, .null, .null, .int 0, .long 0, .long 0, .long 0, .int 0, .int 0, .long 0, .long 0]))]) C (M_GR_init l D cI cJ cZ g w h hw hh) i_GR_init mn_FC_15 nwW_ok ⟨Nat.le_of_ble_eq_true rfl, Nat.le_of_ble_eq_true rfl⟩ ⟨Nat.le_of_ble_eq_true rfl, Nat.le_of_ble_eq_true rfl⟩ [1] [0] rfl rfl rfl rfl (by decide) (Nat.le_of_ble_eq_true rfl) rfl d_FC_init_21 (fun v w1 hp => ?_)
  obtain ⟨rfl, rfl⟩ := hp
  refine e_perm (st' := [.ref g, .ref x]) (ws' := [(x, .inr (0, [.null, .null, .null, .int 0, .long 0, .long 0, .long 0, .int 0, .int 0, .long 0, .long 0])), oGR g (nI w) (nI h) (nI w * nI h) 0 ((fosF w h (nI w * nI h) 0).1) ((fosF w h (nI w * nI h) 0).2) (-1) (-1)]) [0, 1] rfl rfl rfl ?_
  refine e_ws [(x, .inr (0, [.null, .null, .null, .int 0, .long 0, .long 0, .long 0, .int 0, .int 0, .long 0, .long 0])), oGR g (nI w) (nI h) (nI (w * h)) 0 ((fosF w h (nI (w * h)) 0).1) ((fosF w h (nI (w * h)) 0).2) (-1) (-1)] (by rw [pk_mul]) ?_
  refine e_putF C IN hin_FC ty_FC tyk_FC nm_FC 0 rfl rfl 0 (by decide) fl_FC_18 rfl rfl rfl rfl (Nat.le_of_ble_eq_true rfl) d_FC_init_24 ?_
  refine e_ws [(x, .inr (0, [.ref g, .null, .null, .int 0, .long 0, .long 0, .long 0, .int 0, .int 0, .long 0, .long 0])), oGR g (nI w) (nI h) (nI (w * h)) 0 ((fosF w h (nI (w * h)) 0).1) ((fosF w h (nI (w * h)) 0).2) (-1) (-1)] rfl ?_
  refine e_iload_n C d_FC_init_27 rfl rfl ?_
  refine e_iconst (v := 0) C d_FC_init_28 rfl ?_
  refine e_iconst (v := 4) C d_FC_init_29 rfl ?_
  refine e_callS (As := [.int kind, .int 0, .int 4]) (st := []) (wc := []) (wr := [(x, .inr (0, [.ref g, .null, .null, .int 0, .long 0, .long 0, .long 0, .int 0, .int 0, .long 0, .long 0])), oGR g (nI w) (nI h) (nI (w * h)) 0 ((fosF w h (nI (w * h)) 0).1) ((fosF w h (nI (w * h)) 0).2) (-1) (-1)]) C (M_FC_held l D cI cJ cZ kind 0 4) s_FC_held ml_FC_11 nwW_ok ⟨Nat.le_of_ble_eq_true rfl, Nat.le_of_ble_eq_true rfl⟩ ⟨Nat.le_of_ble_eq_true rfl, Nat.le_of_ble_eq_true rfl⟩ [] [0, 1] rfl rfl rfl rfl (by decide) (Nat.le_of_ble_eq_true rfl) rfl d_FC_init_30 (fun v w1 hp => ?_)
  obtain ⟨rfl, rfl⟩ := hp
  refine e_perm (st' := [.int (heldF kind 0 4)]) (ws' := [(x, .inr (0, [.ref g, .null, .null, .int 0, .long 0, .long 0, .long 0, .int 0, .int 0, .long 0, .long 0])), oGR g (nI w) (nI h) (nI (w * h)) 0 ((fosF w h (nI (w * h)) 0).1) ((fosF w h (nI (w * h)) 0).2) (-1) (-1)]) [0, 1] rfl rfl rfl ?_
  refine e_st [.int 0] (by rw [ek]) ?_
  refine e_istore C d_FC_init_33 (by decide) ?_
  refine e_aload_n C d_FC_init_35 rfl rfl ?_
  refine e_new (fs := [.null, .null, .int 0, .null, .null, .null, .null, .null, .null, .int 0, .long 0, .long 0]) C hin_LY ty_LY tyk_LY cl_FC_22 ins_LY ini_LY (ci := 2) rfl (by decide +kernel) (Nat.le_of_ble_eq_true rfl) (Nat.le_of_ble_eq_true rfl) d_FC_init_36 (fun ly => ?_)
  refine e_ws [(x, .inr (0, [.ref g, .null, .null, .int 0, .long 0, .long 0, .long 0, .int 0, .int 0, .long 0, .long 0])), oGR g (nI w) (nI h) (nI (w * h)) 0 ((fosF w h (nI (w * h)) 0).1) ((fosF w h (nI (w * h)) 0).2) (-1) (-1), (ly, .inr (2, [.null, .null, .int 0, .null, .null, .null, .null, .null, .null, .int 0, .long 0, .long 0]))] rfl ?_
  refine e_dup C d_FC_init_39 rfl ?_
  refine e_aload_n C d_FC_init_40 rfl rfl ?_
  refine e_get C hin_FC 0 rfl rfl 0 (by decide) fl_FC_18 rfl d_FC_init_41 ?_
  refine e_iload C d_FC_init_44 rfl ?_
  refine e_aload_n C d_FC_init_46 rfl rfl ?_
  refine e_get C hin_FC 0 rfl rfl 0 (by decide) fl_FC_18 rfl d_FC_init_47 ?_
  refine e_callS (As := [.int 0, .ref g]) (st := [.ref g, .ref ly, .ref ly, .ref x]) (wc := []) (wr := [(x, .inr (0, [.ref g, .null, .null, .int 0, .long 0, .long 0, .long 0, .int 0, .int 0, .long 0, .long 0])), oGR g (nI w) (nI h) (nI (w * h)) 0 ((fosF w h (nI (w * h)) 0).1) ((fosF w h (nI (w * h)) 0).2) (-1) (-1), (ly, .inr (2, [.null, .null, .int 0, .null, .null, .null, .null, .null, .null, .int 0, .long 0, .long 0]))]) C (M_FC_ruleOf_0 l D cI cJ cZ g) s_FC_ruleOf ml_FC_24 nwW_ok ⟨Nat.le_of_ble_eq_true rfl, Nat.le_of_ble_eq_true rfl⟩ ⟨Nat.le_of_ble_eq_true rfl, Nat.le_of_ble_eq_true rfl⟩ [] [0, 1, 2] rfl rfl rfl rfl (by decide) (Nat.le_of_ble_eq_true rfl) rfl d_FC_init_50 (fun v w1 hp => ?_)
  obtain ⟨ru, rfl, rfl⟩ := hp
  refine e_perm (st' := [.ref ru, .ref g, .ref ly, .ref ly, .ref x]) (ws' := [(x, .inr (0, [.ref g, .null, .null, .int 0, .long 0, .long 0, .long 0, .int 0, .int 0, .long 0, .long 0])), oGR g (nI w) (nI h) (nI (w * h)) 0 ((fosF w h (nI (w * h)) 0).1) ((fosF w h (nI (w * h)) 0).2) (-1) (-1), (ly, .inr (2, [.null, .null, .int 0, .null, .null, .null, .null, .null, .null, .int 0, .long 0, .long 0])), oDG ru g 1]) [0, 1, 2, 3] rfl rfl rfl ?_
  refine e_iload C d_FC_init_53 rfl ?_
  refine e_callS (As := [.int 0]) (st := [.ref ru, .ref g, .ref ly, .ref ly, .ref x]) (wc := []) (wr := [(x, .inr (0, [.ref g, .null, .null, .int 0, .long 0, .long 0, .long 0, .int 0, .int 0, .long 0, .long 0])), oGR g (nI w) (nI h) (nI (w * h)) 0 ((fosF w h (nI (w * h)) 0).1) ((fosF w h (nI (w * h)) 0).2) (-1) (-1), (ly, .inr (2, [.null, .null, .int 0, .null, .null, .null, .null, .null, .null, .int 0, .long 0, .long 0])), oDG ru g 1]) C (M_FC_mostCodes_0 l D cI cJ cZ) s_FC_mostCodes ml_FC_28 nwW_ok ⟨Nat.le_of_ble_eq_true rfl, Nat.le_of_ble_eq_true rfl⟩ ⟨Nat.le_of_ble_eq_true rfl, Nat.le_of_ble_eq_true rfl⟩ [] [0, 1, 2, 3] rfl rfl rfl rfl (by decide) (Nat.le_of_ble_eq_true rfl) rfl d_FC_init_55 (fun v w1 hp => ?_)
  obtain ⟨rfl, rfl⟩ := hp
  refine e_perm (st' := [.int 64, .ref ru, .ref g, .ref ly, .ref ly, .ref x]) (ws' := [(x, .inr (0, [.ref g, .null, .null, .int 0, .long 0, .long 0, .long 0, .int 0, .int 0, .long 0, .long 0])), oGR g (nI w) (nI h) (nI (w * h)) 0 ((fosF w h (nI (w * h)) 0).1) ((fosF w h (nI (w * h)) 0).2) (-1) (-1), (ly, .inr (2, [.null, .null, .int 0, .null, .null, .null, .null, .null, .null, .int 0, .long 0, .long 0])), oDG ru g 1]) [0, 1, 2, 3] rfl rfl rfl ?_
  refine e_st [.int (nI 64), .ref ru, .ref g, .ref ly, .ref ly, .ref x] rfl ?_
  refine e_callIN (ret := none) (As := [.ref g, .ref ru, .int (nI 64)]) (st := [.ref ly, .ref x]) (wc := [(ly, .inr (2, [.null, .null, .int 0, .null, .null, .null, .null, .null, .null, .int 0, .long 0, .long 0])), oGR g (nI w) (nI h) (nI (w * h)) 0 ((fosF w h (nI (w * h)) 0).1) ((fosF w h (nI (w * h)) 0).2) (-1) (-1)]) (wr := [(x, .inr (0, [.ref g, .null, .null, .int 0, .long 0, .long 0, .long 0, .int 0, .int 0, .long 0, .long 0])), oDG ru g 1]) C (M_LY_init l D cI cJ cZ ly g ru (w * h) 64 hP (by decide) (nI w) (nI h) 0 (fosF w h (nI (w * h)) 0).1 (fosF w h (nI (w * h)) 0).2 (-1) (-1)) i_LY_init mn_FC_32 nwW_ok ⟨Nat.le_of_ble_eq_true rfl, Nat.le_of_ble_eq_true rfl⟩ ⟨Nat.le_of_ble_eq_true rfl, Nat.le_of_ble_eq_true rfl⟩ [2, 1] [0, 3] rfl rfl rfl rfl (by decide) (Nat.le_of_ble_eq_true rfl) rfl d_FC_init_58 (fun v w1 hp => ?_)
  obtain ⟨sz, ld, wy, bk, cd, nc, rfl, rfl⟩ := hp
  refine e_perm (st' := [.ref ly, .ref x]) (ws' := [(x, .inr (0, [.ref g, .null, .null, .int 0, .long 0, .long 0, .long 0, .int 0, .int 0, .long 0, .long 0])), oGR g (nI w) (nI h) (nI (w * h)) 0 ((fosF w h (nI (w * h)) 0).1) ((fosF w h (nI (w * h)) 0).2) (-1) (-1), oLY ly g ru (nI 64) sz ld wy bk cd nc 0 0 0, oDG ru g 1, aI cI sz (w * h + 1) (fun _ => 0), aI cI ld (w * h * 64) (fun _ => 0), aJ cJ wy ((w * h + 1) * 64) (fun _ => 0), aI cI bk 512 (fun _ => 0), aI cI cd 64 (fun _ => 0), aI cI nc 64 (fun _ => 0)]) [0, 3, 2, 1, 4, 5, 6, 7, 8, 9] rfl rfl rfl ?_
  refine e_putF C IN hin_FC ty_FC tyk_FC nm_FC 0 rfl rfl 1 (by decide) fl_FC_35 rfl rfl rfl rfl (Nat.le_of_ble_eq_true rfl) d_FC_init_61 ?_
  refine e_ws [(x, .inr (0, [.ref g, .ref ly, .null, .int 0, .long 0, .long 0, .long 0, .int 0, .int 0, .long 0, .long 0])), oGR g (nI w) (nI h) (nI (w * h)) 0 ((fosF w h (nI (w * h)) 0).1) ((fosF w h (nI (w * h)) 0).2) (-1) (-1), oLY ly g ru (nI 64) sz ld wy bk cd nc 0 0 0, oDG ru g 1, aI cI sz (w * h + 1) (fun _ => 0), aI cI ld (w * h * 64) (fun _ => 0), aJ cJ wy ((w * h + 1) * 64) (fun _ => 0), aI cI bk 512 (fun _ => 0), aI cI cd 64 (fun _ => 0), aI cI nc 64 (fun _ => 0)] rfl ?_
  refine e_aload_n C d_FC_init_64 rfl rfl ?_
  refine e_iconst (v := 2) C d_FC_init_65 rfl ?_
  refine e_aload_n C d_FC_init_66 rfl rfl ?_
  refine e_get C hin_FC 0 rfl rfl 0 (by decide) fl_FC_18 rfl d_FC_init_67 ?_
  refine e_getN C hin_GR 1 rfl rfl 2 (by decide) fn_FC_39 rfl d_FC_init_70 ?_
  refine e_imul C d_FC_init_73 ?_
  refine e_st [.int (nI (2 * (w * h))), .ref x] (by rw [show (2 : Int32) * nI (w * h) = nI (2 * (w * h)) from pk_mul 2 (w * h)]) ?_
  refine e_newI (N := (2 * (w * h))) C 0 rfl ac_int (nI_pos (by omega)) (nI_clamp (by omega)) (by show (2 * (w * h)) * 4 ≤ 536870912; omega) (Nat.le_of_ble_eq_true rfl) (by show _ + (2 * (w * h)) ≤ _; simp only []; omega) d_FC_init_74 (fun sa => ?_)
  refine e_wide (k' := 10) (n' := 7818) (Nat.le_of_ble_eq_true rfl) (by omega) ?_
  refine e_ws [(x, .inr (0, [.ref g, .ref ly, .null, .int 0, .long 0, .long 0, .long 0, .int 0, .int 0, .long 0, .long 0])), oGR g (nI w) (nI h) (nI (w * h)) 0 ((fosF w h (nI (w * h)) 0).1) ((fosF w h (nI (w * h)) 0).2) (-1) (-1), oLY ly g ru (nI 64) sz ld wy bk cd nc 0 0 0, oDG ru g 1, aI cI sz (w * h + 1) (fun _ => 0), aI cI ld (w * h * 64) (fun _ => 0), aJ cJ wy ((w * h + 1) * 64) (fun _ => 0), aI cI bk 512 (fun _ => 0), aI cI cd 64 (fun _ => 0), aI cI nc 64 (fun _ => 0), aI cI sa (2 * (w * h)) (fun _ => 0)] rfl ?_
  refine e_putF C IN hin_FC ty_FC tyk_FC nm_FC 0 rfl rfl 2 (by decide) fl_FC_43 rfl rfl rfl rfl (Nat.le_of_ble_eq_true rfl) d_FC_init_76 ?_
  refine e_ws [oFC x g ly sa 0 0 0 0 0 0 0 0, oGR g (nI w) (nI h) (nI (w * h)) 0 ((fosF w h (nI (w * h)) 0).1) ((fosF w h (nI (w * h)) 0).2) (-1) (-1), oLY ly g ru (nI 64) sz ld wy bk cd nc 0 0 0, oDG ru g 1, aI cI sz (w * h + 1) (fun _ => 0), aI cI ld (w * h * 64) (fun _ => 0), aJ cJ wy ((w * h + 1) * 64) (fun _ => 0), aI cI bk 512 (fun _ => 0), aI cI cd 64 (fun _ => 0), aI cI nc 64 (fun _ => 0), aI cI sa (2 * (w * h)) (fun _ => 0)] rfl ?_
  refine e_aload_n C d_FC_init_79 rfl rfl ?_
  refine e_ldc2 C kl_FC_47 d_FC_init_80 ?_
  refine e_put C hin_FC ty_FC tyk_FC nm_FC 0 rfl rfl 10 (by decide) fl_FC_49 rfl rfl rfl (Nat.le_of_ble_eq_true rfl) d_FC_init_83 ?_
  refine e_ws [oFC x g ly sa 0 0 0 0 0 0 0 (-1), oGR g (nI w) (nI h) (nI (w * h)) 0 ((fosF w h (nI (w * h)) 0).1) ((fosF w h (nI (w * h)) 0).2) (-1) (-1), oLY ly g ru (nI 64) sz ld wy bk cd nc 0 0 0, oDG ru g 1, aI cI sz (w * h + 1) (fun _ => 0), aI cI ld (w * h * 64) (fun _ => 0), aJ cJ wy ((w * h + 1) * 64) (fun _ => 0), aI cI bk 512 (fun _ => 0), aI cI cd 64 (fun _ => 0), aI cI nc 64 (fun _ => 0), aI cI sa (2 * (w * h)) (fun _ => 0)] rfl ?_
  refine e_aload_n C d_FC_init_86 rfl rfl ?_
  refine e_callV (As := []) (st := []) (wc := [oFC x g ly sa 0 0 0 0 0 0 0 (-1), oGR g (nI w) (nI h) (nI (w * h)) 0 ((fosF w h (nI (w * h)) 0).1) ((fosF w h (nI (w * h)) 0).2) (-1) (-1), aI cI sa (2 * (w * h)) (fun _ => 0)]) (wr := [oLY ly g ru (nI 64) sz ld wy bk cd nc 0 0 0, oDG ru g 1, aI cI sz (w * h + 1) (fun _ => 0), aI cI ld (w * h * 64) (fun _ => 0), aJ cJ wy ((w * h + 1) * 64) (fun _ => 0), aI cI bk 512 (fun _ => 0), aI cI cd 64 (fun _ => 0), aI cI nc 64 (fun _ => 0)]) C (M_FC_numberEdges l D cI cJ cZ x g ly sa (w * h) hP 0 (fun _ => 0) 0 0 0 false false 0 (-1) (nI w) (nI h) 0 (fosF w h (nI (w * h)) 0).1 (fosF w h (nI (w * h)) 0).2 (-1) (-1)) v_FC_numberEdges ml_FC_53 0 rfl rfl nwW_ok ⟨Nat.le_of_ble_eq_true rfl, Nat.le_of_ble_eq_true rfl⟩ ⟨Nat.le_of_ble_eq_true rfl, Nat.le_of_ble_eq_true rfl⟩ [0, 1, 10] [2, 3, 4, 5, 6, 7, 8, 9] rfl rfl rfl rfl (by decide) (Nat.le_of_ble_eq_true rfl) rfl d_FC_init_87 (fun v w1 hp => ?_)
  obtain ⟨fs2, rfl, rfl, hR2⟩ := hp
  refine e_perm (st' := []) (ws' := [oFC x g ly sa (nI (slF (w * h) (fosF w h (nI (w * h)) 0).1 0).length) 0 0 0 (bI false) (bI false) 0 (-1), oGR g (nI w) (nI h) (nI (w * h)) 0 ((fosF w h (nI (w * h)) 0).1) ((fosF w h (nI (w * h)) 0).2) (-1) (-1), oLY ly g ru (nI 64) sz ld wy bk cd nc 0 0 0, oDG ru g 1, aI cI sz (w * h + 1) (fun _ => 0), aI cI ld (w * h * 64) (fun _ => 0), aJ cJ wy ((w * h + 1) * 64) (fun _ => 0), aI cI bk 512 (fun _ => 0), aI cI cd 64 (fun _ => 0), aI cI nc 64 (fun _ => 0), aI cI sa (2 * (w * h)) fs2]) [8, 9, 0, 1, 2, 3, 4, 5, 6, 7, 10] rfl rfl rfl ?_
  exact e_vret C Z (Nat.le_of_ble_eq_true rfl) (Nat.le_of_ble_eq_true rfl) (⟨g, ly, ru, sz, ld, wy, bk, cd, nc, sa, fs2, rfl, rfl, hR2⟩) d_FC_init_90

set_option maxHeartbeats 4000000 in
set_option maxRecDepth 100000 in
theorem M_FC_init_1 (l : Launch) (D : va_G) (cI cJ cZ : ClassId) (x : Nat) (kind width height : Int32) (w h : Nat) (hw : w ≤ 5) (hh : h ≤ 5) (ek : heldF kind 0 4 = 1) (ew : heldF width 1 5 = nI w) (eh : heldF height 1 5 = nI h) : MK l D cI cJ cZ y_FC_init c_FC_init 5 none 5 108 [.ref x, .int kind, .int width, .int height] [(x, .inr (0, [.null, .null, .null, .int 0, .long 0, .long 0, .long 0, .int 0, .int 0, .long 0, .long 0]))] 10 7818 (fun v w1 => ∃ (g ly ru sz ld wy bk cd nc sa : Nat) (fs2 : Nat → Int32), v = none ∧ w1 = [oFC x g ly sa (nI (slF (w * h) (fosF w h (nI (w * h)) 0).1 0).length) 0 0 0 (bI false) (bI false) 0 (-1), oGR g (nI w) (nI h) (nI (w * h)) 0 ((fosF w h (nI (w * h)) 0).1) ((fosF w h (nI (w * h)) 0).2) (-1) (-1), oLY ly g ru (nI 136) sz ld wy bk cd nc 0 0 0, oLN ru g (bI false), aI cI sz (w * h + 1) (fun _ => 0), aI cI ld (w * h * 136) (fun _ => 0), aJ cJ wy ((w * h + 1) * 136) (fun _ => 0), aI cI bk 512 (fun _ => 0), aI cI cd 136 (fun _ => 0), aI cI nc 136 (fun _ => 0), aI cI sa (2 * (w * h)) fs2] ∧ slR (slF (w * h) (fosF w h (nI (w * h)) 0).1 0) fs2) := by
  refine MC.of (by decide) bigW_good (Nat.le_of_ble_eq_true rfl) (fun κ C Z IN => ?_)
  have hP : w * h ≤ 25 := Nat.mul_le_mul hw hh
  refine e_aload_n C d_FC_init_0 rfl rfl ?_
  refine e_objInit C ml_FC_1 imm_objectInit cod_objectInit d_FC_init_1 (Nat.le_of_ble_eq_true rfl) (Nat.le_of_ble_eq_true rfl) ?_
  refine e_aload_n C d_FC_init_4 rfl rfl ?_
  refine e_new (fs := [.int 0, .int 0, .int 0, .int 0, .long 0, .int 0, .int 0, .int 0]) C hin_GR ty_GR tyk_GR cl_FC_7 ins_GR ini_GR (ci := 1) rfl (by decide +kernel) (Nat.le_of_ble_eq_true rfl) (Nat.le_of_ble_eq_true rfl) d_FC_init_5 (fun g => ?_)
  refine e_ws [(x, .inr (0, [.null, .null, .null, .int 0, .long 0, .long 0, .long 0, .int 0, .int 0, .long 0, .long 0])), oGR g 0 0 0 0 0 0 0 0] rfl ?_
  refine e_dup C d_FC_init_8 rfl ?_
  refine e_iload_n C d_FC_init_9 rfl rfl ?_
  refine e_iconst (v := 1) C d_FC_init_10 rfl ?_
  refine e_iconst (v := 5) C d_FC_init_11 rfl ?_
  refine e_callS (As := [.int width, .int 1, .int 5]) (st := [.ref g, .ref g, .ref x]) (wc := []) (wr := [(x, .inr (0, [.null, .null, .null, .int 0, .long 0, .long 0, .long 0, .int 0, .int 0, .long 0, .long 0])), oGR g 0 0 0 0 0 0 0 0]) C (M_FC_held l D cI cJ cZ width 1 5) s_FC_held ml_FC_11 nwW_ok ⟨Nat.le_of_ble_eq_true rfl, Nat.le_of_ble_eq_true rfl⟩ ⟨Nat.le_of_ble_eq_true rfl, Nat.le_of_ble_eq_true rfl⟩ [] [0, 1] rfl rfl rfl rfl (by decide) (Nat.le_of_ble_eq_true rfl) rfl d_FC_init_12 (fun v w1 hp => ?_)
  obtain ⟨rfl, rfl⟩ := hp
  refine e_perm (st' := [.int (heldF width 1 5), .ref g, .ref g, .ref x]) (ws' := [(x, .inr (0, [.null, .null, .null, .int 0, .long 0, .long 0, .long 0, .int 0, .int 0, .long 0, .long 0])), oGR g 0 0 0 0 0 0 0 0]) [0, 1] rfl rfl rfl ?_
  refine e_st [.int (nI w), .ref g, .ref g, .ref x] (by rw [ew]) ?_
  refine e_iload_n C d_FC_init_15 rfl rfl ?_
  refine e_iconst (v := 1) C d_FC_init_16 rfl ?_
  refine e_iconst (v := 5) C d_FC_init_17 rfl ?_
  refine e_callS (As := [.int height, .int 1, .int 5]) (st := [.int (nI w), .ref g, .ref g, .ref x]) (wc := []) (wr := [(x, .inr (0, [.null, .null, .null, .int 0, .long 0, .long 0, .long 0, .int 0, .int 0, .long 0, .long 0])), oGR g 0 0 0 0 0 0 0 0]) C (M_FC_held l D cI cJ cZ height 1 5) s_FC_held ml_FC_11 nwW_ok ⟨Nat.le_of_ble_eq_true rfl, Nat.le_of_ble_eq_true rfl⟩ ⟨Nat.le_of_ble_eq_true rfl, Nat.le_of_ble_eq_true rfl⟩ [] [0, 1] rfl rfl rfl rfl (by decide) (Nat.le_of_ble_eq_true rfl) rfl d_FC_init_18 (fun v w1 hp => ?_)
  obtain ⟨rfl, rfl⟩ := hp
  refine e_perm (st' := [.int (heldF height 1 5), .int (nI w), .ref g, .ref g, .ref x]) (ws' := [(x, .inr (0, [.null, .null, .null, .int 0, .long 0, .long 0, .long 0, .int 0, .int 0, .long 0, .long 0])), oGR g 0 0 0 0 0 0 0 0]) [0, 1] rfl rfl rfl ?_
  refine e_st [.int (nI h), .int (nI w), .ref g, .ref g, .ref x] (by rw [eh]) ?_
  refine e_callIN (ret := none) (As := [.int (nI w), .int (nI h)]) (st := [.ref g, .ref x]) (wc := [oGR g 0 0 0 0 0 0 0 0]) (wr := [(x, .inr (0, [.null, .null, .null, .int 0, .long 0, .long 0, .long 0, .int 0, .int 0, .long 0, .long 0]))]) C (M_GR_init l D cI cJ cZ g w h hw hh) i_GR_init mn_FC_15 nwW_ok ⟨Nat.le_of_ble_eq_true rfl, Nat.le_of_ble_eq_true rfl⟩ ⟨Nat.le_of_ble_eq_true rfl, Nat.le_of_ble_eq_true rfl⟩ [1] [0] rfl rfl rfl rfl (by decide) (Nat.le_of_ble_eq_true rfl) rfl d_FC_init_21 (fun v w1 hp => ?_)
  obtain ⟨rfl, rfl⟩ := hp
  refine e_perm (st' := [.ref g, .ref x]) (ws' := [(x, .inr (0, [.null, .null, .null, .int 0, .long 0, .long 0, .long 0, .int 0, .int 0, .long 0, .long 0])), oGR g (nI w) (nI h) (nI w * nI h) 0 ((fosF w h (nI w * nI h) 0).1) ((fosF w h (nI w * nI h) 0).2) (-1) (-1)]) [0, 1] rfl rfl rfl ?_
  refine e_ws [(x, .inr (0, [.null, .null, .null, .int 0, .long 0, .long 0, .long 0, .int 0, .int 0, .long 0, .long 0])), oGR g (nI w) (nI h) (nI (w * h)) 0 ((fosF w h (nI (w * h)) 0).1) ((fosF w h (nI (w * h)) 0).2) (-1) (-1)] (by rw [pk_mul]) ?_
  refine e_putF C IN hin_FC ty_FC tyk_FC nm_FC 0 rfl rfl 0 (by decide) fl_FC_18 rfl rfl rfl rfl (Nat.le_of_ble_eq_true rfl) d_FC_init_24 ?_
  refine e_ws [(x, .inr (0, [.ref g, .null, .null, .int 0, .long 0, .long 0, .long 0, .int 0, .int 0, .long 0, .long 0])), oGR g (nI w) (nI h) (nI (w * h)) 0 ((fosF w h (nI (w * h)) 0).1) ((fosF w h (nI (w * h)) 0).2) (-1) (-1)] rfl ?_
  refine e_iload_n C d_FC_init_27 rfl rfl ?_
  refine e_iconst (v := 0) C d_FC_init_28 rfl ?_
  refine e_iconst (v := 4) C d_FC_init_29 rfl ?_
  refine e_callS (As := [.int kind, .int 0, .int 4]) (st := []) (wc := []) (wr := [(x, .inr (0, [.ref g, .null, .null, .int 0, .long 0, .long 0, .long 0, .int 0, .int 0, .long 0, .long 0])), oGR g (nI w) (nI h) (nI (w * h)) 0 ((fosF w h (nI (w * h)) 0).1) ((fosF w h (nI (w * h)) 0).2) (-1) (-1)]) C (M_FC_held l D cI cJ cZ kind 0 4) s_FC_held ml_FC_11 nwW_ok ⟨Nat.le_of_ble_eq_true rfl, Nat.le_of_ble_eq_true rfl⟩ ⟨Nat.le_of_ble_eq_true rfl, Nat.le_of_ble_eq_true rfl⟩ [] [0, 1] rfl rfl rfl rfl (by decide) (Nat.le_of_ble_eq_true rfl) rfl d_FC_init_30 (fun v w1 hp => ?_)
  obtain ⟨rfl, rfl⟩ := hp
  refine e_perm (st' := [.int (heldF kind 0 4)]) (ws' := [(x, .inr (0, [.ref g, .null, .null, .int 0, .long 0, .long 0, .long 0, .int 0, .int 0, .long 0, .long 0])), oGR g (nI w) (nI h) (nI (w * h)) 0 ((fosF w h (nI (w * h)) 0).1) ((fosF w h (nI (w * h)) 0).2) (-1) (-1)]) [0, 1] rfl rfl rfl ?_
  refine e_st [.int 1] (by rw [ek]) ?_
  refine e_istore C d_FC_init_33 (by decide) ?_
  refine e_aload_n C d_FC_init_35 rfl rfl ?_
  refine e_new (fs := [.null, .null, .int 0, .null, .null, .null, .null, .null, .null, .int 0, .long 0, .long 0]) C hin_LY ty_LY tyk_LY cl_FC_22 ins_LY ini_LY (ci := 2) rfl (by decide +kernel) (Nat.le_of_ble_eq_true rfl) (Nat.le_of_ble_eq_true rfl) d_FC_init_36 (fun ly => ?_)
  refine e_ws [(x, .inr (0, [.ref g, .null, .null, .int 0, .long 0, .long 0, .long 0, .int 0, .int 0, .long 0, .long 0])), oGR g (nI w) (nI h) (nI (w * h)) 0 ((fosF w h (nI (w * h)) 0).1) ((fosF w h (nI (w * h)) 0).2) (-1) (-1), (ly, .inr (2, [.null, .null, .int 0, .null, .null, .null, .null, .null, .null, .int 0, .long 0, .long 0]))] rfl ?_
  refine e_dup C d_FC_init_39 rfl ?_
  refine e_aload_n C d_FC_init_40 rfl rfl ?_
  refine e_get C hin_FC 0 rfl rfl 0 (by decide) fl_FC_18 rfl d_FC_init_41 ?_
  refine e_iload C d_FC_init_44 rfl ?_
  refine e_aload_n C d_FC_init_46 rfl rfl ?_
  refine e_get C hin_FC 0 rfl rfl 0 (by decide) fl_FC_18 rfl d_FC_init_47 ?_
  refine e_callS (As := [.int 1, .ref g]) (st := [.ref g, .ref ly, .ref ly, .ref x]) (wc := []) (wr := [(x, .inr (0, [.ref g, .null, .null, .int 0, .long 0, .long 0, .long 0, .int 0, .int 0, .long 0, .long 0])), oGR g (nI w) (nI h) (nI (w * h)) 0 ((fosF w h (nI (w * h)) 0).1) ((fosF w h (nI (w * h)) 0).2) (-1) (-1), (ly, .inr (2, [.null, .null, .int 0, .null, .null, .null, .null, .null, .null, .int 0, .long 0, .long 0]))]) C (M_FC_ruleOf_1 l D cI cJ cZ g) s_FC_ruleOf ml_FC_24 nwW_ok ⟨Nat.le_of_ble_eq_true rfl, Nat.le_of_ble_eq_true rfl⟩ ⟨Nat.le_of_ble_eq_true rfl, Nat.le_of_ble_eq_true rfl⟩ [] [0, 1, 2] rfl rfl rfl rfl (by decide) (Nat.le_of_ble_eq_true rfl) rfl d_FC_init_50 (fun v w1 hp => ?_)
  obtain ⟨ru, rfl, rfl⟩ := hp
  refine e_perm (st' := [.ref ru, .ref g, .ref ly, .ref ly, .ref x]) (ws' := [(x, .inr (0, [.ref g, .null, .null, .int 0, .long 0, .long 0, .long 0, .int 0, .int 0, .long 0, .long 0])), oGR g (nI w) (nI h) (nI (w * h)) 0 ((fosF w h (nI (w * h)) 0).1) ((fosF w h (nI (w * h)) 0).2) (-1) (-1), (ly, .inr (2, [.null, .null, .int 0, .null, .null, .null, .null, .null, .null, .int 0, .long 0, .long 0])), oLN ru g (bI false)]) [0, 1, 2, 3] rfl rfl rfl ?_
  refine e_iload C d_FC_init_53 rfl ?_
  refine e_callS (As := [.int 1]) (st := [.ref ru, .ref g, .ref ly, .ref ly, .ref x]) (wc := []) (wr := [(x, .inr (0, [.ref g, .null, .null, .int 0, .long 0, .long 0, .long 0, .int 0, .int 0, .long 0, .long 0])), oGR g (nI w) (nI h) (nI (w * h)) 0 ((fosF w h (nI (w * h)) 0).1) ((fosF w h (nI (w * h)) 0).2) (-1) (-1), (ly, .inr (2, [.null, .null, .int 0, .null, .null, .null, .null, .null, .null, .int 0, .long 0, .long 0])), oLN ru g (bI false)]) C (M_FC_mostCodes_1 l D cI cJ cZ) s_FC_mostCodes ml_FC_28 nwW_ok ⟨Nat.le_of_ble_eq_true rfl, Nat.le_of_ble_eq_true rfl⟩ ⟨Nat.le_of_ble_eq_true rfl, Nat.le_of_ble_eq_true rfl⟩ [] [0, 1, 2, 3] rfl rfl rfl rfl (by decide) (Nat.le_of_ble_eq_true rfl) rfl d_FC_init_55 (fun v w1 hp => ?_)
  obtain ⟨rfl, rfl⟩ := hp
  refine e_perm (st' := [.int 136, .ref ru, .ref g, .ref ly, .ref ly, .ref x]) (ws' := [(x, .inr (0, [.ref g, .null, .null, .int 0, .long 0, .long 0, .long 0, .int 0, .int 0, .long 0, .long 0])), oGR g (nI w) (nI h) (nI (w * h)) 0 ((fosF w h (nI (w * h)) 0).1) ((fosF w h (nI (w * h)) 0).2) (-1) (-1), (ly, .inr (2, [.null, .null, .int 0, .null, .null, .null, .null, .null, .null, .int 0, .long 0, .long 0])), oLN ru g (bI false)]) [0, 1, 2, 3] rfl rfl rfl ?_
  refine e_st [.int (nI 136), .ref ru, .ref g, .ref ly, .ref ly, .ref x] rfl ?_
  refine e_callIN (ret := none) (As := [.ref g, .ref ru, .int (nI 136)]) (st := [.ref ly, .ref x]) (wc := [(ly, .inr (2, [.null, .null, .int 0, .null, .null, .null, .null, .null, .null, .int 0, .long 0, .long 0])), oGR g (nI w) (nI h) (nI (w * h)) 0 ((fosF w h (nI (w * h)) 0).1) ((fosF w h (nI (w * h)) 0).2) (-1) (-1)]) (wr := [(x, .inr (0, [.ref g, .null, .null, .int 0, .long 0, .long 0, .long 0, .int 0, .int 0, .long 0, .long 0])), oLN ru g (bI false)]) C (M_LY_init l D cI cJ cZ ly g ru (w * h) 136 hP (by decide) (nI w) (nI h) 0 (fosF w h (nI (w * h)) 0).1 (fosF w h (nI (w * h)) 0).2 (-1) (-1)) i_LY_init mn_FC_32 nwW_ok ⟨Nat.le_of_ble_eq_true rfl, Nat.le_of_ble_eq_true rfl⟩ ⟨Nat.le_of_ble_eq_true rfl, Nat.le_of_ble_eq_true rfl⟩ [2, 1] [0, 3] rfl rfl rfl rfl (by decide) (Nat.le_of_ble_eq_true rfl) rfl d_FC_init_58 (fun v w1 hp => ?_)
  obtain ⟨sz, ld, wy, bk, cd, nc, rfl, rfl⟩ := hp
  refine e_perm (st' := [.ref ly, .ref x]) (ws' := [(x, .inr (0, [.ref g, .null, .null, .int 0, .long 0, .long 0, .long 0, .int 0, .int 0, .long 0, .long 0])), oGR g (nI w) (nI h) (nI (w * h)) 0 ((fosF w h (nI (w * h)) 0).1) ((fosF w h (nI (w * h)) 0).2) (-1) (-1), oLY ly g ru (nI 136) sz ld wy bk cd nc 0 0 0, oLN ru g (bI false), aI cI sz (w * h + 1) (fun _ => 0), aI cI ld (w * h * 136) (fun _ => 0), aJ cJ wy ((w * h + 1) * 136) (fun _ => 0), aI cI bk 512 (fun _ => 0), aI cI cd 136 (fun _ => 0), aI cI nc 136 (fun _ => 0)]) [0, 3, 2, 1, 4, 5, 6, 7, 8, 9] rfl rfl rfl ?_
  refine e_putF C IN hin_FC ty_FC tyk_FC nm_FC 0 rfl rfl 1 (by decide) fl_FC_35 rfl rfl rfl rfl (Nat.le_of_ble_eq_true rfl) d_FC_init_61 ?_
  refine e_ws [(x, .inr (0, [.ref g, .ref ly, .null, .int 0, .long 0, .long 0, .long 0, .int 0, .int 0, .long 0, .long 0])), oGR g (nI w) (nI h) (nI (w * h)) 0 ((fosF w h (nI (w * h)) 0).1) ((fosF w h (nI (w * h)) 0).2) (-1) (-1), oLY ly g ru (nI 136) sz ld wy bk cd nc 0 0 0, oLN ru g (bI false), aI cI sz (w * h + 1) (fun _ => 0), aI cI ld (w * h * 136) (fun _ => 0), aJ cJ wy ((w * h + 1) * 136) (fun _ => 0), aI cI bk 512 (fun _ => 0), aI cI cd 136 (fun _ => 0), aI cI nc 136 (fun _ => 0)] rfl ?_
  refine e_aload_n C d_FC_init_64 rfl rfl ?_
  refine e_iconst (v := 2) C d_FC_init_65 rfl ?_
  refine e_aload_n C d_FC_init_66 rfl rfl ?_
  refine e_get C hin_FC 0 rfl rfl 0 (by decide) fl_FC_18 rfl d_FC_init_67 ?_
  refine e_getN C hin_GR 1 rfl rfl 2 (by decide) fn_FC_39 rfl d_FC_init_70 ?_
  refine e_imul C d_FC_init_73 ?_
  refine e_st [.int (nI (2 * (w * h))), .ref x] (by rw [show (2 : Int32) * nI (w * h) = nI (2 * (w * h)) from pk_mul 2 (w * h)]) ?_
  refine e_newI (N := (2 * (w * h))) C 0 rfl ac_int (nI_pos (by omega)) (nI_clamp (by omega)) (by show (2 * (w * h)) * 4 ≤ 536870912; omega) (Nat.le_of_ble_eq_true rfl) (by show _ + (2 * (w * h)) ≤ _; simp only []; omega) d_FC_init_74 (fun sa => ?_)
  refine e_wide (k' := 10) (n' := 7818) (Nat.le_of_ble_eq_true rfl) (by omega) ?_
  refine e_ws [(x, .inr (0, [.ref g, .ref ly, .null, .int 0, .long 0, .long 0, .long 0, .int 0, .int 0, .long 0, .long 0])), oGR g (nI w) (nI h) (nI (w * h)) 0 ((fosF w h (nI (w * h)) 0).1) ((fosF w h (nI (w * h)) 0).2) (-1) (-1), oLY ly g ru (nI 136) sz ld wy bk cd nc 0 0 0, oLN ru g (bI false), aI cI sz (w * h + 1) (fun _ => 0), aI cI ld (w * h * 136) (fun _ => 0), aJ cJ wy ((w * h + 1) * 136) (fun _ => 0), aI cI bk 512 (fun _ => 0), aI cI cd 136 (fun _ => 0), aI cI nc 136 (fun _ => 0), aI cI sa (2 * (w * h)) (fun _ => 0)] rfl ?_
  refine e_putF C IN hin_FC ty_FC tyk_FC nm_FC 0 rfl rfl 2 (by decide) fl_FC_43 rfl rfl rfl rfl (Nat.le_of_ble_eq_true rfl) d_FC_init_76 ?_
  refine e_ws [oFC x g ly sa 0 0 0 0 0 0 0 0, oGR g (nI w) (nI h) (nI (w * h)) 0 ((fosF w h (nI (w * h)) 0).1) ((fosF w h (nI (w * h)) 0).2) (-1) (-1), oLY ly g ru (nI 136) sz ld wy bk cd nc 0 0 0, oLN ru g (bI false), aI cI sz (w * h + 1) (fun _ => 0), aI cI ld (w * h * 136) (fun _ => 0), aJ cJ wy ((w * h + 1) * 136) (fun _ => 0), aI cI bk 512 (fun _ => 0), aI cI cd 136 (fun _ => 0), aI cI nc 136 (fun _ => 0), aI cI sa (2 * (w * h)) (fun _ => 0)] rfl ?_
  refine e_aload_n C d_FC_init_79 rfl rfl ?_
  refine e_ldc2 C kl_FC_47 d_FC_init_80 ?_
  refine e_put C hin_FC ty_FC tyk_FC nm_FC 0 rfl rfl 10 (by decide) fl_FC_49 rfl rfl rfl (Nat.le_of_ble_eq_true rfl) d_FC_init_83 ?_
  refine e_ws [oFC x g ly sa 0 0 0 0 0 0 0 (-1), oGR g (nI w) (nI h) (nI (w * h)) 0 ((fosF w h (nI (w * h)) 0).1) ((fosF w h (nI (w * h)) 0).2) (-1) (-1), oLY ly g ru (nI 136) sz ld wy bk cd nc 0 0 0, oLN ru g (bI false), aI cI sz (w * h + 1) (fun _ => 0), aI cI ld (w * h * 136) (fun _ => 0), aJ cJ wy ((w * h + 1) * 136) (fun _ => 0), aI cI bk 512 (fun _ => 0), aI cI cd 136 (fun _ => 0), aI cI nc 136 (fun _ => 0), aI cI sa (2 * (w * h)) (fun _ => 0)] rfl ?_
  refine e_aload_n C d_FC_init_86 rfl rfl ?_
  refine e_callV (As := []) (st := []) (wc := [oFC x g ly sa 0 0 0 0 0 0 0 (-1), oGR g (nI w) (nI h) (nI (w * h)) 0 ((fosF w h (nI (w * h)) 0).1) ((fosF w h (nI (w * h)) 0).2) (-1) (-1), aI cI sa (2 * (w * h)) (fun _ => 0)]) (wr := [oLY ly g ru (nI 136) sz ld wy bk cd nc 0 0 0, oLN ru g (bI false), aI cI sz (w * h + 1) (fun _ => 0), aI cI ld (w * h * 136) (fun _ => 0), aJ cJ wy ((w * h + 1) * 136) (fun _ => 0), aI cI bk 512 (fun _ => 0), aI cI cd 136 (fun _ => 0), aI cI nc 136 (fun _ => 0)]) C (M_FC_numberEdges l D cI cJ cZ x g ly sa (w * h) hP 0 (fun _ => 0) 0 0 0 false false 0 (-1) (nI w) (nI h) 0 (fosF w h (nI (w * h)) 0).1 (fosF w h (nI (w * h)) 0).2 (-1) (-1)) v_FC_numberEdges ml_FC_53 0 rfl rfl nwW_ok ⟨Nat.le_of_ble_eq_true rfl, Nat.le_of_ble_eq_true rfl⟩ ⟨Nat.le_of_ble_eq_true rfl, Nat.le_of_ble_eq_true rfl⟩ [0, 1, 10] [2, 3, 4, 5, 6, 7, 8, 9] rfl rfl rfl rfl (by decide) (Nat.le_of_ble_eq_true rfl) rfl d_FC_init_87 (fun v w1 hp => ?_)
  obtain ⟨fs2, rfl, rfl, hR2⟩ := hp
  refine e_perm (st' := []) (ws' := [oFC x g ly sa (nI (slF (w * h) (fosF w h (nI (w * h)) 0).1 0).length) 0 0 0 (bI false) (bI false) 0 (-1), oGR g (nI w) (nI h) (nI (w * h)) 0 ((fosF w h (nI (w * h)) 0).1) ((fosF w h (nI (w * h)) 0).2) (-1) (-1), oLY ly g ru (nI 136) sz ld wy bk cd nc 0 0 0, oLN ru g (bI false), aI cI sz (w * h + 1) (fun _ => 0), aI cI ld (w * h * 136) (fun _ => 0), aJ cJ wy ((w * h + 1) * 136) (fun _ => 0), aI cI bk 512 (fun _ => 0), aI cI cd 136 (fun _ => 0), aI cI nc 136 (fun _ => 0), aI cI sa (2 * (w * h)) fs2]) [8, 9, 0, 1, 2, 3, 4, 5, 6, 7, 10] rfl rfl rfl ?_
  exact e_vret C Z (Nat.le_of_ble_eq_true rfl) (Nat.le_of_ble_eq_true rfl) (⟨g, ly, ru, sz, ld, wy, bk, cd, nc, sa, fs2, rfl, rfl, hR2⟩) d_FC_init_90

set_option maxHeartbeats 4000000 in
set_option maxRecDepth 100000 in
theorem M_FC_init_2 (l : Launch) (D : va_G) (cI cJ cZ : ClassId) (x : Nat) (kind width height : Int32) (w h : Nat) (hw : w ≤ 5) (hh : h ≤ 5) (ek : heldF kind 0 4 = 2) (ew : heldF width 1 5 = nI w) (eh : heldF height 1 5 = nI h) : MK l D cI cJ cZ y_FC_init c_FC_init 5 none 5 108 [.ref x, .int kind, .int width, .int height] [(x, .inr (0, [.null, .null, .null, .int 0, .long 0, .long 0, .long 0, .int 0, .int 0, .long 0, .long 0]))] 10 7818 (fun v w1 => ∃ (g ly ru sz ld wy bk cd nc sa : Nat) (fs2 : Nat → Int32), v = none ∧ w1 = [oFC x g ly sa (nI (slF (w * h) (fosF w h (nI (w * h)) 0).1 0).length) 0 0 0 (bI false) (bI false) 0 (-1), oGR g (nI w) (nI h) (nI (w * h)) 0 ((fosF w h (nI (w * h)) 0).1) ((fosF w h (nI (w * h)) 0).2) (-1) (-1), oLY ly g ru (nI 136) sz ld wy bk cd nc 0 0 0, oLN ru g (bI true), aI cI sz (w * h + 1) (fun _ => 0), aI cI ld (w * h * 136) (fun _ => 0), aJ cJ wy ((w * h + 1) * 136) (fun _ => 0), aI cI bk 512 (fun _ => 0), aI cI cd 136 (fun _ => 0), aI cI nc 136 (fun _ => 0), aI cI sa (2 * (w * h)) fs2] ∧ slR (slF (w * h) (fosF w h (nI (w * h)) 0).1 0) fs2) := by
  refine MC.of (by decide) bigW_good (Nat.le_of_ble_eq_true rfl) (fun κ C Z IN => ?_)
  have hP : w * h ≤ 25 := Nat.mul_le_mul hw hh
  refine e_aload_n C d_FC_init_0 rfl rfl ?_
  refine e_objInit C ml_FC_1 imm_objectInit cod_objectInit d_FC_init_1 (Nat.le_of_ble_eq_true rfl) (Nat.le_of_ble_eq_true rfl) ?_
  refine e_aload_n C d_FC_init_4 rfl rfl ?_
  refine e_new (fs := [.int 0, .int 0, .int 0, .int 0, .long 0, .int 0, .int 0, .int 0]) C hin_GR ty_GR tyk_GR cl_FC_7 ins_GR ini_GR (ci := 1) rfl (by decide +kernel) (Nat.le_of_ble_eq_true rfl) (Nat.le_of_ble_eq_true rfl) d_FC_init_5 (fun g => ?_)
  refine e_ws [(x, .inr (0, [.null, .null, .null, .int 0, .long 0, .long 0, .long 0, .int 0, .int 0, .long 0, .long 0])), oGR g 0 0 0 0 0 0 0 0] rfl ?_
  refine e_dup C d_FC_init_8 rfl ?_
  refine e_iload_n C d_FC_init_9 rfl rfl ?_
  refine e_iconst (v := 1) C d_FC_init_10 rfl ?_
  refine e_iconst (v := 5) C d_FC_init_11 rfl ?_
  refine e_callS (As := [.int width, .int 1, .int 5]) (st := [.ref g, .ref g, .ref x]) (wc := []) (wr := [(x, .inr (0, [.null, .null, .null, .int 0, .long 0, .long 0, .long 0, .int 0, .int 0, .long 0, .long 0])), oGR g 0 0 0 0 0 0 0 0]) C (M_FC_held l D cI cJ cZ width 1 5) s_FC_held ml_FC_11 nwW_ok ⟨Nat.le_of_ble_eq_true rfl, Nat.le_of_ble_eq_true rfl⟩ ⟨Nat.le_of_ble_eq_true rfl, Nat.le_of_ble_eq_true rfl⟩ [] [0, 1] rfl rfl rfl rfl (by decide) (Nat.le_of_ble_eq_true rfl) rfl d_FC_init_12 (fun v w1 hp => ?_)
  obtain ⟨rfl, rfl⟩ := hp
  refine e_perm (st' := [.int (heldF width 1 5), .ref g, .ref g, .ref x]) (ws' := [(x, .inr (0, [.null, .null, .null, .int 0, .long 0, .long 0, .long 0, .int 0, .int 0, .long 0, .long 0])), oGR g 0 0 0 0 0 0 0 0]) [0, 1] rfl rfl rfl ?_
  refine e_st [.int (nI w), .ref g, .ref g, .ref x] (by rw [ew]) ?_
  refine e_iload_n C d_FC_init_15 rfl rfl ?_
  refine e_iconst (v := 1) C d_FC_init_16 rfl ?_
  refine e_iconst (v := 5) C d_FC_init_17 rfl ?_
  refine e_callS (As := [.int height, .int 1, .int 5]) (st := [.int (nI w), .ref g, .ref g, .ref x]) (wc := []) (wr := [(x, .inr (0, [.null, .null, .null, .int 0, .long 0, .long 0, .long 0, .int 0, .int 0, .long 0, .long 0])), oGR g 0 0 0 0 0 0 0 0]) C (M_FC_held l D cI cJ cZ height 1 5) s_FC_held ml_FC_11 nwW_ok ⟨Nat.le_of_ble_eq_true rfl, Nat.le_of_ble_eq_true rfl⟩ ⟨Nat.le_of_ble_eq_true rfl, Nat.le_of_ble_eq_true rfl⟩ [] [0, 1] rfl rfl rfl rfl (by decide) (Nat.le_of_ble_eq_true rfl) rfl d_FC_init_18 (fun v w1 hp => ?_)
  obtain ⟨rfl, rfl⟩ := hp
  refine e_perm (st' := [.int (heldF height 1 5), .int (nI w), .ref g, .ref g, .ref x]) (ws' := [(x, .inr (0, [.null, .null, .null, .int 0, .long 0, .long 0, .long 0, .int 0, .int 0, .long 0, .long 0])), oGR g 0 0 0 0 0 0 0 0]) [0, 1] rfl rfl rfl ?_
  refine e_st [.int (nI h), .int (nI w), .ref g, .ref g, .ref x] (by rw [eh]) ?_
  refine e_callIN (ret := none) (As := [.int (nI w), .int (nI h)]) (st := [.ref g, .ref x]) (wc := [oGR g 0 0 0 0 0 0 0 0]) (wr := [(x, .inr (0, [.null, .null, .null, .int 0, .long 0, .long 0, .long 0, .int 0, .int 0, .long 0, .long 0]))]) C (M_GR_init l D cI cJ cZ g w h hw hh) i_GR_init mn_FC_15 nwW_ok ⟨Nat.le_of_ble_eq_true rfl, Nat.le_of_ble_eq_true rfl⟩ ⟨Nat.le_of_ble_eq_true rfl, Nat.le_of_ble_eq_true rfl⟩ [1] [0] rfl rfl rfl rfl (by decide) (Nat.le_of_ble_eq_true rfl) rfl d_FC_init_21 (fun v w1 hp => ?_)
  obtain ⟨rfl, rfl⟩ := hp
  refine e_perm (st' := [.ref g, .ref x]) (ws' := [(x, .inr (0, [.null, .null, .null, .int 0, .long 0, .long 0, .long 0, .int 0, .int 0, .long 0, .long 0])), oGR g (nI w) (nI h) (nI w * nI h) 0 ((fosF w h (nI w * nI h) 0).1) ((fosF w h (nI w * nI h) 0).2) (-1) (-1)]) [0, 1] rfl rfl rfl ?_
  refine e_ws [(x, .inr (0, [.null, .null, .null, .int 0, .long 0, .long 0, .long 0, .int 0, .int 0, .long 0, .long 0])), oGR g (nI w) (nI h) (nI (w * h)) 0 ((fosF w h (nI (w * h)) 0).1) ((fosF w h (nI (w * h)) 0).2) (-1) (-1)] (by rw [pk_mul]) ?_
  refine e_putF C IN hin_FC ty_FC tyk_FC nm_FC 0 rfl rfl 0 (by decide) fl_FC_18 rfl rfl rfl rfl (Nat.le_of_ble_eq_true rfl) d_FC_init_24 ?_
  refine e_ws [(x, .inr (0, [.ref g, .null, .null, .int 0, .long 0, .long 0, .long 0, .int 0, .int 0, .long 0, .long 0])), oGR g (nI w) (nI h) (nI (w * h)) 0 ((fosF w h (nI (w * h)) 0).1) ((fosF w h (nI (w * h)) 0).2) (-1) (-1)] rfl ?_
  refine e_iload_n C d_FC_init_27 rfl rfl ?_
  refine e_iconst (v := 0) C d_FC_init_28 rfl ?_
  refine e_iconst (v := 4) C d_FC_init_29 rfl ?_
  refine e_callS (As := [.int kind, .int 0, .int 4]) (st := []) (wc := []) (wr := [(x, .inr (0, [.ref g, .null, .null, .int 0, .long 0, .long 0, .long 0, .int 0, .int 0, .long 0, .long 0])), oGR g (nI w) (nI h) (nI (w * h)) 0 ((fosF w h (nI (w * h)) 0).1) ((fosF w h (nI (w * h)) 0).2) (-1) (-1)]) C (M_FC_held l D cI cJ cZ kind 0 4) s_FC_held ml_FC_11 nwW_ok ⟨Nat.le_of_ble_eq_true rfl, Nat.le_of_ble_eq_true rfl⟩ ⟨Nat.le_of_ble_eq_true rfl, Nat.le_of_ble_eq_true rfl⟩ [] [0, 1] rfl rfl rfl rfl (by decide) (Nat.le_of_ble_eq_true rfl) rfl d_FC_init_30 (fun v w1 hp => ?_)
  obtain ⟨rfl, rfl⟩ := hp
  refine e_perm (st' := [.int (heldF kind 0 4)]) (ws' := [(x, .inr (0, [.ref g, .null, .null, .int 0, .long 0, .long 0, .long 0, .int 0, .int 0, .long 0, .long 0])), oGR g (nI w) (nI h) (nI (w * h)) 0 ((fosF w h (nI (w * h)) 0).1) ((fosF w h (nI (w * h)) 0).2) (-1) (-1)]) [0, 1] rfl rfl rfl ?_
  refine e_st [.int 2] (by rw [ek]) ?_
  refine e_istore C d_FC_init_33 (by decide) ?_
  refine e_aload_n C d_FC_init_35 rfl rfl ?_
  refine e_new (fs := [.null, .null, .int 0, .null, .null, .null, .null, .null, .null, .int 0, .long 0, .long 0]) C hin_LY ty_LY tyk_LY cl_FC_22 ins_LY ini_LY (ci := 2) rfl (by decide +kernel) (Nat.le_of_ble_eq_true rfl) (Nat.le_of_ble_eq_true rfl) d_FC_init_36 (fun ly => ?_)
  refine e_ws [(x, .inr (0, [.ref g, .null, .null, .int 0, .long 0, .long 0, .long 0, .int 0, .int 0, .long 0, .long 0])), oGR g (nI w) (nI h) (nI (w * h)) 0 ((fosF w h (nI (w * h)) 0).1) ((fosF w h (nI (w * h)) 0).2) (-1) (-1), (ly, .inr (2, [.null, .null, .int 0, .null, .null, .null, .null, .null, .null, .int 0, .long 0, .long 0]))] rfl ?_
  refine e_dup C d_FC_init_39 rfl ?_
  refine e_aload_n C d_FC_init_40 rfl rfl ?_
  refine e_get C hin_FC 0 rfl rfl 0 (by decide) fl_FC_18 rfl d_FC_init_41 ?_
  refine e_iload C d_FC_init_44 rfl ?_
  refine e_aload_n C d_FC_init_46 rfl rfl ?_
  refine e_get C hin_FC 0 rfl rfl 0 (by decide) fl_FC_18 rfl d_FC_init_47 ?_
  refine e_callS (As := [.int 2, .ref g]) (st := [.ref g, .ref ly, .ref ly, .ref x]) (wc := []) (wr := [(x, .inr (0, [.ref g, .null, .null, .int 0, .long 0, .long 0, .long 0, .int 0, .int 0, .long 0, .long 0])), oGR g (nI w) (nI h) (nI (w * h)) 0 ((fosF w h (nI (w * h)) 0).1) ((fosF w h (nI (w * h)) 0).2) (-1) (-1), (ly, .inr (2, [.null, .null, .int 0, .null, .null, .null, .null, .null, .null, .int 0, .long 0, .long 0]))]) C (M_FC_ruleOf_2 l D cI cJ cZ g) s_FC_ruleOf ml_FC_24 nwW_ok ⟨Nat.le_of_ble_eq_true rfl, Nat.le_of_ble_eq_true rfl⟩ ⟨Nat.le_of_ble_eq_true rfl, Nat.le_of_ble_eq_true rfl⟩ [] [0, 1, 2] rfl rfl rfl rfl (by decide) (Nat.le_of_ble_eq_true rfl) rfl d_FC_init_50 (fun v w1 hp => ?_)
  obtain ⟨ru, rfl, rfl⟩ := hp
  refine e_perm (st' := [.ref ru, .ref g, .ref ly, .ref ly, .ref x]) (ws' := [(x, .inr (0, [.ref g, .null, .null, .int 0, .long 0, .long 0, .long 0, .int 0, .int 0, .long 0, .long 0])), oGR g (nI w) (nI h) (nI (w * h)) 0 ((fosF w h (nI (w * h)) 0).1) ((fosF w h (nI (w * h)) 0).2) (-1) (-1), (ly, .inr (2, [.null, .null, .int 0, .null, .null, .null, .null, .null, .null, .int 0, .long 0, .long 0])), oLN ru g (bI true)]) [0, 1, 2, 3] rfl rfl rfl ?_
  refine e_iload C d_FC_init_53 rfl ?_
  refine e_callS (As := [.int 2]) (st := [.ref ru, .ref g, .ref ly, .ref ly, .ref x]) (wc := []) (wr := [(x, .inr (0, [.ref g, .null, .null, .int 0, .long 0, .long 0, .long 0, .int 0, .int 0, .long 0, .long 0])), oGR g (nI w) (nI h) (nI (w * h)) 0 ((fosF w h (nI (w * h)) 0).1) ((fosF w h (nI (w * h)) 0).2) (-1) (-1), (ly, .inr (2, [.null, .null, .int 0, .null, .null, .null, .null, .null, .null, .int 0, .long 0, .long 0])), oLN ru g (bI true)]) C (M_FC_mostCodes_2 l D cI cJ cZ) s_FC_mostCodes ml_FC_28 nwW_ok ⟨Nat.le_of_ble_eq_true rfl, Nat.le_of_ble_eq_true rfl⟩ ⟨Nat.le_of_ble_eq_true rfl, Nat.le_of_ble_eq_true rfl⟩ [] [0, 1, 2, 3] rfl rfl rfl rfl (by decide) (Nat.le_of_ble_eq_true rfl) rfl d_FC_init_55 (fun v w1 hp => ?_)
  obtain ⟨rfl, rfl⟩ := hp
  refine e_perm (st' := [.int 136, .ref ru, .ref g, .ref ly, .ref ly, .ref x]) (ws' := [(x, .inr (0, [.ref g, .null, .null, .int 0, .long 0, .long 0, .long 0, .int 0, .int 0, .long 0, .long 0])), oGR g (nI w) (nI h) (nI (w * h)) 0 ((fosF w h (nI (w * h)) 0).1) ((fosF w h (nI (w * h)) 0).2) (-1) (-1), (ly, .inr (2, [.null, .null, .int 0, .null, .null, .null, .null, .null, .null, .int 0, .long 0, .long 0])), oLN ru g (bI true)]) [0, 1, 2, 3] rfl rfl rfl ?_
  refine e_st [.int (nI 136), .ref ru, .ref g, .ref ly, .ref ly, .ref x] rfl ?_
  refine e_callIN (ret := none) (As := [.ref g, .ref ru, .int (nI 136)]) (st := [.ref ly, .ref x]) (wc := [(ly, .inr (2, [.null, .null, .int 0, .null, .null, .null, .null, .null, .null, .int 0, .long 0, .long 0])), oGR g (nI w) (nI h) (nI (w * h)) 0 ((fosF w h (nI (w * h)) 0).1) ((fosF w h (nI (w * h)) 0).2) (-1) (-1)]) (wr := [(x, .inr (0, [.ref g, .null, .null, .int 0, .long 0, .long 0, .long 0, .int 0, .int 0, .long 0, .long 0])), oLN ru g (bI true)]) C (M_LY_init l D cI cJ cZ ly g ru (w * h) 136 hP (by decide) (nI w) (nI h) 0 (fosF w h (nI (w * h)) 0).1 (fosF w h (nI (w * h)) 0).2 (-1) (-1)) i_LY_init mn_FC_32 nwW_ok ⟨Nat.le_of_ble_eq_true rfl, Nat.le_of_ble_eq_true rfl⟩ ⟨Nat.le_of_ble_eq_true rfl, Nat.le_of_ble_eq_true rfl⟩ [2, 1] [0, 3] rfl rfl rfl rfl (by decide) (Nat.le_of_ble_eq_true rfl) rfl d_FC_init_58 (fun v w1 hp => ?_)
  obtain ⟨sz, ld, wy, bk, cd, nc, rfl, rfl⟩ := hp
  refine e_perm (st' := [.ref ly, .ref x]) (ws' := [(x, .inr (0, [.ref g, .null, .null, .int 0, .long 0, .long 0, .long 0, .int 0, .int 0, .long 0, .long 0])), oGR g (nI w) (nI h) (nI (w * h)) 0 ((fosF w h (nI (w * h)) 0).1) ((fosF w h (nI (w * h)) 0).2) (-1) (-1), oLY ly g ru (nI 136) sz ld wy bk cd nc 0 0 0, oLN ru g (bI true), aI cI sz (w * h + 1) (fun _ => 0), aI cI ld (w * h * 136) (fun _ => 0), aJ cJ wy ((w * h + 1) * 136) (fun _ => 0), aI cI bk 512 (fun _ => 0), aI cI cd 136 (fun _ => 0), aI cI nc 136 (fun _ => 0)]) [0, 3, 2, 1, 4, 5, 6, 7, 8, 9] rfl rfl rfl ?_
  refine e_putF C IN hin_FC ty_FC tyk_FC nm_FC 0 rfl rfl 1 (by decide) fl_FC_35 rfl rfl rfl rfl (Nat.le_of_ble_eq_true rfl) d_FC_init_61 ?_
  refine e_ws [(x, .inr (0, [.ref g, .ref ly, .null, .int 0, .long 0, .long 0, .long 0, .int 0, .int 0, .long 0, .long 0])), oGR g (nI w) (nI h) (nI (w * h)) 0 ((fosF w h (nI (w * h)) 0).1) ((fosF w h (nI (w * h)) 0).2) (-1) (-1), oLY ly g ru (nI 136) sz ld wy bk cd nc 0 0 0, oLN ru g (bI true), aI cI sz (w * h + 1) (fun _ => 0), aI cI ld (w * h * 136) (fun _ => 0), aJ cJ wy ((w * h + 1) * 136) (fun _ => 0), aI cI bk 512 (fun _ => 0), aI cI cd 136 (fun _ => 0), aI cI nc 136 (fun _ => 0)] rfl ?_
  refine e_aload_n C d_FC_init_64 rfl rfl ?_
  refine e_iconst (v := 2) C d_FC_init_65 rfl ?_
  refine e_aload_n C d_FC_init_66 rfl rfl ?_
  refine e_get C hin_FC 0 rfl rfl 0 (by decide) fl_FC_18 rfl d_FC_init_67 ?_
  refine e_getN C hin_GR 1 rfl rfl 2 (by decide) fn_FC_39 rfl d_FC_init_70 ?_
  refine e_imul C d_FC_init_73 ?_
  refine e_st [.int (nI (2 * (w * h))), .ref x] (by rw [show (2 : Int32) * nI (w * h) = nI (2 * (w * h)) from pk_mul 2 (w * h)]) ?_
  refine e_newI (N := (2 * (w * h))) C 0 rfl ac_int (nI_pos (by omega)) (nI_clamp (by omega)) (by show (2 * (w * h)) * 4 ≤ 536870912; omega) (Nat.le_of_ble_eq_true rfl) (by show _ + (2 * (w * h)) ≤ _; simp only []; omega) d_FC_init_74 (fun sa => ?_)
  refine e_wide (k' := 10) (n' := 7818) (Nat.le_of_ble_eq_true rfl) (by omega) ?_
  refine e_ws [(x, .inr (0, [.ref g, .ref ly, .null, .int 0, .long 0, .long 0, .long 0, .int 0, .int 0, .long 0, .long 0])), oGR g (nI w) (nI h) (nI (w * h)) 0 ((fosF w h (nI (w * h)) 0).1) ((fosF w h (nI (w * h)) 0).2) (-1) (-1), oLY ly g ru (nI 136) sz ld wy bk cd nc 0 0 0, oLN ru g (bI true), aI cI sz (w * h + 1) (fun _ => 0), aI cI ld (w * h * 136) (fun _ => 0), aJ cJ wy ((w * h + 1) * 136) (fun _ => 0), aI cI bk 512 (fun _ => 0), aI cI cd 136 (fun _ => 0), aI cI nc 136 (fun _ => 0), aI cI sa (2 * (w * h)) (fun _ => 0)] rfl ?_
  refine e_putF C IN hin_FC ty_FC tyk_FC nm_FC 0 rfl rfl 2 (by decide) fl_FC_43 rfl rfl rfl rfl (Nat.le_of_ble_eq_true rfl) d_FC_init_76 ?_
  refine e_ws [oFC x g ly sa 0 0 0 0 0 0 0 0, oGR g (nI w) (nI h) (nI (w * h)) 0 ((fosF w h (nI (w * h)) 0).1) ((fosF w h (nI (w * h)) 0).2) (-1) (-1), oLY ly g ru (nI 136) sz ld wy bk cd nc 0 0 0, oLN ru g (bI true), aI cI sz (w * h + 1) (fun _ => 0), aI cI ld (w * h * 136) (fun _ => 0), aJ cJ wy ((w * h + 1) * 136) (fun _ => 0), aI cI bk 512 (fun _ => 0), aI cI cd 136 (fun _ => 0), aI cI nc 136 (fun _ => 0), aI cI sa (2 * (w * h)) (fun _ => 0)] rfl ?_
  refine e_aload_n C d_FC_init_79 rfl rfl ?_
  refine e_ldc2 C kl_FC_47 d_FC_init_80 ?_
  refine e_put C hin_FC ty_FC tyk_FC nm_FC 0 rfl rfl 10 (by decide) fl_FC_49 rfl rfl rfl (Nat.le_of_ble_eq_true rfl) d_FC_init_83 ?_
  refine e_ws [oFC x g ly sa 0 0 0 0 0 0 0 (-1), oGR g (nI w) (nI h) (nI (w * h)) 0 ((fosF w h (nI (w * h)) 0).1) ((fosF w h (nI (w * h)) 0).2) (-1) (-1), oLY ly g ru (nI 136) sz ld wy bk cd nc 0 0 0, oLN ru g (bI true), aI cI sz (w * h + 1) (fun _ => 0), aI cI ld (w * h * 136) (fun _ => 0), aJ cJ wy ((w * h + 1) * 136) (fun _ => 0), aI cI bk 512 (fun _ => 0), aI cI cd 136 (fun _ => 0), aI cI nc 136 (fun _ => 0), aI cI sa (2 * (w * h)) (fun _ => 0)] rfl ?_
  refine e_aload_n C d_FC_init_86 rfl rfl ?_
  refine e_callV (As := []) (st := []) (wc := [oFC x g ly sa 0 0 0 0 0 0 0 (-1), oGR g (nI w) (nI h) (nI (w * h)) 0 ((fosF w h (nI (w * h)) 0).1) ((fosF w h (nI (w * h)) 0).2) (-1) (-1), aI cI sa (2 * (w * h)) (fun _ => 0)]) (wr := [oLY ly g ru (nI 136) sz ld wy bk cd nc 0 0 0, oLN ru g (bI true), aI cI sz (w * h + 1) (fun _ => 0), aI cI ld (w * h * 136) (fun _ => 0), aJ cJ wy ((w * h + 1) * 136) (fun _ => 0), aI cI bk 512 (fun _ => 0), aI cI cd 136 (fun _ => 0), aI cI nc 136 (fun _ => 0)]) C (M_FC_numberEdges l D cI cJ cZ x g ly sa (w * h) hP 0 (fun _ => 0) 0 0 0 false false 0 (-1) (nI w) (nI h) 0 (fosF w h (nI (w * h)) 0).1 (fosF w h (nI (w * h)) 0).2 (-1) (-1)) v_FC_numberEdges ml_FC_53 0 rfl rfl nwW_ok ⟨Nat.le_of_ble_eq_true rfl, Nat.le_of_ble_eq_true rfl⟩ ⟨Nat.le_of_ble_eq_true rfl, Nat.le_of_ble_eq_true rfl⟩ [0, 1, 10] [2, 3, 4, 5, 6, 7, 8, 9] rfl rfl rfl rfl (by decide) (Nat.le_of_ble_eq_true rfl) rfl d_FC_init_87 (fun v w1 hp => ?_)
  obtain ⟨fs2, rfl, rfl, hR2⟩ := hp
  refine e_perm (st' := []) (ws' := [oFC x g ly sa (nI (slF (w * h) (fosF w h (nI (w * h)) 0).1 0).length) 0 0 0 (bI false) (bI false) 0 (-1), oGR g (nI w) (nI h) (nI (w * h)) 0 ((fosF w h (nI (w * h)) 0).1) ((fosF w h (nI (w * h)) 0).2) (-1) (-1), oLY ly g ru (nI 136) sz ld wy bk cd nc 0 0 0, oLN ru g (bI true), aI cI sz (w * h + 1) (fun _ => 0), aI cI ld (w * h * 136) (fun _ => 0), aJ cJ wy ((w * h + 1) * 136) (fun _ => 0), aI cI bk 512 (fun _ => 0), aI cI cd 136 (fun _ => 0), aI cI nc 136 (fun _ => 0), aI cI sa (2 * (w * h)) fs2]) [8, 9, 0, 1, 2, 3, 4, 5, 6, 7, 10] rfl rfl rfl ?_
  exact e_vret C Z (Nat.le_of_ble_eq_true rfl) (Nat.le_of_ble_eq_true rfl) (⟨g, ly, ru, sz, ld, wy, bk, cd, nc, sa, fs2, rfl, rfl, hR2⟩) d_FC_init_90

set_option maxHeartbeats 4000000 in
set_option maxRecDepth 100000 in
theorem M_FC_init_3 (l : Launch) (D : va_G) (cI cJ cZ : ClassId) (x : Nat) (kind width height : Int32) (w h : Nat) (hw : w ≤ 5) (hh : h ≤ 5) (ek : heldF kind 0 4 = 3) (ew : heldF width 1 5 = nI w) (eh : heldF height 1 5 = nI h) : MK l D cI cJ cZ y_FC_init c_FC_init 5 none 5 108 [.ref x, .int kind, .int width, .int height] [(x, .inr (0, [.null, .null, .null, .int 0, .long 0, .long 0, .long 0, .int 0, .int 0, .long 0, .long 0]))] 11 7823 (fun v w1 => ∃ (g ly ru pcs sz ld wy bk cd nc sa : Nat) (fs2 : Nat → Int32), v = none ∧ w1 = [oFC x g ly sa (nI (slF (w * h) (fosF w h (nI (w * h)) 0).1 0).length) 0 0 0 (bI false) (bI false) 0 (-1), oGR g (nI w) (nI h) (nI (w * h)) 0 ((fosF w h (nI (w * h)) 0).1) ((fosF w h (nI (w * h)) 0).2) (-1) (-1), oLY ly g ru (nI 42) sz ld wy bk cd nc 0 0 0, oTR ru g pcs, aI cI pcs w (fun _ => 0), aI cI sz (w * h + 1) (fun _ => 0), aI cI ld (w * h * 42) (fun _ => 0), aJ cJ wy ((w * h + 1) * 42) (fun _ => 0), aI cI bk 512 (fun _ => 0), aI cI cd 42 (fun _ => 0), aI cI nc 42 (fun _ => 0), aI cI sa (2 * (w * h)) fs2] ∧ slR (slF (w * h) (fosF w h (nI (w * h)) 0).1 0) fs2) := by
  refine MC.of (by decide) bigW_good (Nat.le_of_ble_eq_true rfl) (fun κ C Z IN => ?_)
  have hP : w * h ≤ 25 := Nat.mul_le_mul hw hh
  refine e_aload_n C d_FC_init_0 rfl rfl ?_
  refine e_objInit C ml_FC_1 imm_objectInit cod_objectInit d_FC_init_1 (Nat.le_of_ble_eq_true rfl) (Nat.le_of_ble_eq_true rfl) ?_
  refine e_aload_n C d_FC_init_4 rfl rfl ?_
  refine e_new (fs := [.int 0, .int 0, .int 0, .int 0, .long 0, .int 0, .int 0, .int 0]) C hin_GR ty_GR tyk_GR cl_FC_7 ins_GR ini_GR (ci := 1) rfl (by decide +kernel) (Nat.le_of_ble_eq_true rfl) (Nat.le_of_ble_eq_true rfl) d_FC_init_5 (fun g => ?_)
  refine e_ws [(x, .inr (0, [.null, .null, .null, .int 0, .long 0, .long 0, .long 0, .int 0, .int 0, .long 0, .long 0])), oGR g 0 0 0 0 0 0 0 0] rfl ?_
  refine e_dup C d_FC_init_8 rfl ?_
  refine e_iload_n C d_FC_init_9 rfl rfl ?_
  refine e_iconst (v := 1) C d_FC_init_10 rfl ?_
  refine e_iconst (v := 5) C d_FC_init_11 rfl ?_
  refine e_callS (As := [.int width, .int 1, .int 5]) (st := [.ref g, .ref g, .ref x]) (wc := []) (wr := [(x, .inr (0, [.null, .null, .null, .int 0, .long 0, .long 0, .long 0, .int 0, .int 0, .long 0, .long 0])), oGR g 0 0 0 0 0 0 0 0]) C (M_FC_held l D cI cJ cZ width 1 5) s_FC_held ml_FC_11 nwW_ok ⟨Nat.le_of_ble_eq_true rfl, Nat.le_of_ble_eq_true rfl⟩ ⟨Nat.le_of_ble_eq_true rfl, Nat.le_of_ble_eq_true rfl⟩ [] [0, 1] rfl rfl rfl rfl (by decide) (Nat.le_of_ble_eq_true rfl) rfl d_FC_init_12 (fun v w1 hp => ?_)
  obtain ⟨rfl, rfl⟩ := hp
  refine e_perm (st' := [.int (heldF width 1 5), .ref g, .ref g, .ref x]) (ws' := [(x, .inr (0, [.null, .null, .null, .int 0, .long 0, .long 0, .long 0, .int 0, .int 0, .long 0, .long 0])), oGR g 0 0 0 0 0 0 0 0]) [0, 1] rfl rfl rfl ?_
  refine e_st [.int (nI w), .ref g, .ref g, .ref x] (by rw [ew]) ?_
  refine e_iload_n C d_FC_init_15 rfl rfl ?_
  refine e_iconst (v := 1) C d_FC_init_16 rfl ?_
  refine e_iconst (v := 5) C d_FC_init_17 rfl ?_
  refine e_callS (As := [.int height, .int 1, .int 5]) (st := [.int (nI w), .ref g, .ref g, .ref x]) (wc := []) (wr := [(x, .inr (0, [.null, .null, .null, .int 0, .long 0, .long 0, .long 0, .int 0, .int 0, .long 0, .long 0])), oGR g 0 0 0 0 0 0 0 0]) C (M_FC_held l D cI cJ cZ height 1 5) s_FC_held ml_FC_11 nwW_ok ⟨Nat.le_of_ble_eq_true rfl, Nat.le_of_ble_eq_true rfl⟩ ⟨Nat.le_of_ble_eq_true rfl, Nat.le_of_ble_eq_true rfl⟩ [] [0, 1] rfl rfl rfl rfl (by decide) (Nat.le_of_ble_eq_true rfl) rfl d_FC_init_18 (fun v w1 hp => ?_)
  obtain ⟨rfl, rfl⟩ := hp
  refine e_perm (st' := [.int (heldF height 1 5), .int (nI w), .ref g, .ref g, .ref x]) (ws' := [(x, .inr (0, [.null, .null, .null, .int 0, .long 0, .long 0, .long 0, .int 0, .int 0, .long 0, .long 0])), oGR g 0 0 0 0 0 0 0 0]) [0, 1] rfl rfl rfl ?_
  refine e_st [.int (nI h), .int (nI w), .ref g, .ref g, .ref x] (by rw [eh]) ?_
  refine e_callIN (ret := none) (As := [.int (nI w), .int (nI h)]) (st := [.ref g, .ref x]) (wc := [oGR g 0 0 0 0 0 0 0 0]) (wr := [(x, .inr (0, [.null, .null, .null, .int 0, .long 0, .long 0, .long 0, .int 0, .int 0, .long 0, .long 0]))]) C (M_GR_init l D cI cJ cZ g w h hw hh) i_GR_init mn_FC_15 nwW_ok ⟨Nat.le_of_ble_eq_true rfl, Nat.le_of_ble_eq_true rfl⟩ ⟨Nat.le_of_ble_eq_true rfl, Nat.le_of_ble_eq_true rfl⟩ [1] [0] rfl rfl rfl rfl (by decide) (Nat.le_of_ble_eq_true rfl) rfl d_FC_init_21 (fun v w1 hp => ?_)
  obtain ⟨rfl, rfl⟩ := hp
  refine e_perm (st' := [.ref g, .ref x]) (ws' := [(x, .inr (0, [.null, .null, .null, .int 0, .long 0, .long 0, .long 0, .int 0, .int 0, .long 0, .long 0])), oGR g (nI w) (nI h) (nI w * nI h) 0 ((fosF w h (nI w * nI h) 0).1) ((fosF w h (nI w * nI h) 0).2) (-1) (-1)]) [0, 1] rfl rfl rfl ?_
  refine e_ws [(x, .inr (0, [.null, .null, .null, .int 0, .long 0, .long 0, .long 0, .int 0, .int 0, .long 0, .long 0])), oGR g (nI w) (nI h) (nI (w * h)) 0 ((fosF w h (nI (w * h)) 0).1) ((fosF w h (nI (w * h)) 0).2) (-1) (-1)] (by rw [pk_mul]) ?_
  refine e_putF C IN hin_FC ty_FC tyk_FC nm_FC 0 rfl rfl 0 (by decide) fl_FC_18 rfl rfl rfl rfl (Nat.le_of_ble_eq_true rfl) d_FC_init_24 ?_
  refine e_ws [(x, .inr (0, [.ref g, .null, .null, .int 0, .long 0, .long 0, .long 0, .int 0, .int 0, .long 0, .long 0])), oGR g (nI w) (nI h) (nI (w * h)) 0 ((fosF w h (nI (w * h)) 0).1) ((fosF w h (nI (w * h)) 0).2) (-1) (-1)] rfl ?_
  refine e_iload_n C d_FC_init_27 rfl rfl ?_
  refine e_iconst (v := 0) C d_FC_init_28 rfl ?_
  refine e_iconst (v := 4) C d_FC_init_29 rfl ?_
  refine e_callS (As := [.int kind, .int 0, .int 4]) (st := []) (wc := []) (wr := [(x, .inr (0, [.ref g, .null, .null, .int 0, .long 0, .long 0, .long 0, .int 0, .int 0, .long 0, .long 0])), oGR g (nI w) (nI h) (nI (w * h)) 0 ((fosF w h (nI (w * h)) 0).1) ((fosF w h (nI (w * h)) 0).2) (-1) (-1)]) C (M_FC_held l D cI cJ cZ kind 0 4) s_FC_held ml_FC_11 nwW_ok ⟨Nat.le_of_ble_eq_true rfl, Nat.le_of_ble_eq_true rfl⟩ ⟨Nat.le_of_ble_eq_true rfl, Nat.le_of_ble_eq_true rfl⟩ [] [0, 1] rfl rfl rfl rfl (by decide) (Nat.le_of_ble_eq_true rfl) rfl d_FC_init_30 (fun v w1 hp => ?_)
  obtain ⟨rfl, rfl⟩ := hp
  refine e_perm (st' := [.int (heldF kind 0 4)]) (ws' := [(x, .inr (0, [.ref g, .null, .null, .int 0, .long 0, .long 0, .long 0, .int 0, .int 0, .long 0, .long 0])), oGR g (nI w) (nI h) (nI (w * h)) 0 ((fosF w h (nI (w * h)) 0).1) ((fosF w h (nI (w * h)) 0).2) (-1) (-1)]) [0, 1] rfl rfl rfl ?_
  refine e_st [.int 3] (by rw [ek]) ?_
  refine e_istore C d_FC_init_33 (by decide) ?_
  refine e_aload_n C d_FC_init_35 rfl rfl ?_
  refine e_new (fs := [.null, .null, .int 0, .null, .null, .null, .null, .null, .null, .int 0, .long 0, .long 0]) C hin_LY ty_LY tyk_LY cl_FC_22 ins_LY ini_LY (ci := 2) rfl (by decide +kernel) (Nat.le_of_ble_eq_true rfl) (Nat.le_of_ble_eq_true rfl) d_FC_init_36 (fun ly => ?_)
  refine e_ws [(x, .inr (0, [.ref g, .null, .null, .int 0, .long 0, .long 0, .long 0, .int 0, .int 0, .long 0, .long 0])), oGR g (nI w) (nI h) (nI (w * h)) 0 ((fosF w h (nI (w * h)) 0).1) ((fosF w h (nI (w * h)) 0).2) (-1) (-1), (ly, .inr (2, [.null, .null, .int 0, .null, .null, .null, .null, .null, .null, .int 0, .long 0, .long 0]))] rfl ?_
  refine e_dup C d_FC_init_39 rfl ?_
  refine e_aload_n C d_FC_init_40 rfl rfl ?_
  refine e_get C hin_FC 0 rfl rfl 0 (by decide) fl_FC_18 rfl d_FC_init_41 ?_
  refine e_iload C d_FC_init_44 rfl ?_
  refine e_aload_n C d_FC_init_46 rfl rfl ?_
  refine e_get C hin_FC 0 rfl rfl 0 (by decide) fl_FC_18 rfl d_FC_init_47 ?_
  refine e_callS (As := [.int 3, .ref g]) (st := [.ref g, .ref ly, .ref ly, .ref x]) (wc := [oGR g (nI w) (nI h) (nI (w * h)) 0 ((fosF w h (nI (w * h)) 0).1) ((fosF w h (nI (w * h)) 0).2) (-1) (-1)]) (wr := [(x, .inr (0, [.ref g, .null, .null, .int 0, .long 0, .long 0, .long 0, .int 0, .int 0, .long 0, .long 0])), (ly, .inr (2, [.null, .null, .int 0, .null, .null, .null, .null, .null, .null, .int 0, .long 0, .long 0]))]) C (M_FC_ruleOf_3 l D cI cJ cZ g w hw (nI h) (nI (w * h)) 0 (fosF w h (nI (w * h)) 0).1 (fosF w h (nI (w * h)) 0).2 (-1) (-1)) s_FC_ruleOf ml_FC_24 nwW_ok ⟨Nat.le_of_ble_eq_true rfl, Nat.le_of_ble_eq_true rfl⟩ ⟨Nat.le_of_ble_eq_true rfl, Nat.le_of_ble_eq_true rfl⟩ [1] [0, 2] rfl rfl rfl rfl (by decide) (Nat.le_of_ble_eq_true rfl) rfl d_FC_init_50 (fun v w1 hp => ?_)
  obtain ⟨ru, pcs, rfl, rfl⟩ := hp
  refine e_perm (st' := [.ref ru, .ref g, .ref ly, .ref ly, .ref x]) (ws' := [(x, .inr (0, [.ref g, .null, .null, .int 0, .long 0, .long 0, .long 0, .int 0, .int 0, .long 0, .long 0])), oGR g (nI w) (nI h) (nI (w * h)) 0 ((fosF w h (nI (w * h)) 0).1) ((fosF w h (nI (w * h)) 0).2) (-1) (-1), (ly, .inr (2, [.null, .null, .int 0, .null, .null, .null, .null, .null, .null, .int 0, .long 0, .long 0])), oTR ru g pcs, aI cI pcs w (fun _ => 0)]) [0, 2, 1, 3, 4] rfl rfl rfl ?_
  refine e_iload C d_FC_init_53 rfl ?_
  refine e_callS (As := [.int 3]) (st := [.ref ru, .ref g, .ref ly, .ref ly, .ref x]) (wc := []) (wr := [(x, .inr (0, [.ref g, .null, .null, .int 0, .long 0, .long 0, .long 0, .int 0, .int 0, .long 0, .long 0])), oGR g (nI w) (nI h) (nI (w * h)) 0 ((fosF w h (nI (w * h)) 0).1) ((fosF w h (nI (w * h)) 0).2) (-1) (-1), (ly, .inr (2, [.null, .null, .int 0, .null, .null, .null, .null, .null, .null, .int 0, .long 0, .long 0])), oTR ru g pcs, aI cI pcs w (fun _ => 0)]) C (M_FC_mostCodes_3 l D cI cJ cZ) s_FC_mostCodes ml_FC_28 nwW_ok ⟨Nat.le_of_ble_eq_true rfl, Nat.le_of_ble_eq_true rfl⟩ ⟨Nat.le_of_ble_eq_true rfl, Nat.le_of_ble_eq_true rfl⟩ [] [0, 1, 2, 3, 4] rfl rfl rfl rfl (by decide) (Nat.le_of_ble_eq_true rfl) rfl d_FC_init_55 (fun v w1 hp => ?_)
  obtain ⟨rfl, rfl⟩ := hp
  refine e_perm (st' := [.int 42, .ref ru, .ref g, .ref ly, .ref ly, .ref x]) (ws' := [(x, .inr (0, [.ref g, .null, .null, .int 0, .long 0, .long 0, .long 0, .int 0, .int 0, .long 0, .long 0])), oGR g (nI w) (nI h) (nI (w * h)) 0 ((fosF w h (nI (w * h)) 0).1) ((fosF w h (nI (w * h)) 0).2) (-1) (-1), (ly, .inr (2, [.null, .null, .int 0, .null, .null, .null, .null, .null, .null, .int 0, .long 0, .long 0])), oTR ru g pcs, aI cI pcs w (fun _ => 0)]) [0, 1, 2, 3, 4] rfl rfl rfl ?_
  refine e_st [.int (nI 42), .ref ru, .ref g, .ref ly, .ref ly, .ref x] rfl ?_
  refine e_callIN (ret := none) (As := [.ref g, .ref ru, .int (nI 42)]) (st := [.ref ly, .ref x]) (wc := [(ly, .inr (2, [.null, .null, .int 0, .null, .null, .null, .null, .null, .null, .int 0, .long 0, .long 0])), oGR g (nI w) (nI h) (nI (w * h)) 0 ((fosF w h (nI (w * h)) 0).1) ((fosF w h (nI (w * h)) 0).2) (-1) (-1)]) (wr := [(x, .inr (0, [.ref g, .null, .null, .int 0, .long 0, .long 0, .long 0, .int 0, .int 0, .long 0, .long 0])), oTR ru g pcs, aI cI pcs w (fun _ => 0)]) C (M_LY_init l D cI cJ cZ ly g ru (w * h) 42 hP (by decide) (nI w) (nI h) 0 (fosF w h (nI (w * h)) 0).1 (fosF w h (nI (w * h)) 0).2 (-1) (-1)) i_LY_init mn_FC_32 nwW_ok ⟨Nat.le_of_ble_eq_true rfl, Nat.le_of_ble_eq_true rfl⟩ ⟨Nat.le_of_ble_eq_true rfl, Nat.le_of_ble_eq_true rfl⟩ [2, 1] [0, 3, 4] rfl rfl rfl rfl (by decide) (Nat.le_of_ble_eq_true rfl) rfl d_FC_init_58 (fun v w1 hp => ?_)
  obtain ⟨sz, ld, wy, bk, cd, nc, rfl, rfl⟩ := hp
  refine e_perm (st' := [.ref ly, .ref x]) (ws' := [(x, .inr (0, [.ref g, .null, .null, .int 0, .long 0, .long 0, .long 0, .int 0, .int 0, .long 0, .long 0])), oGR g (nI w) (nI h) (nI (w * h)) 0 ((fosF w h (nI (w * h)) 0).1) ((fosF w h (nI (w * h)) 0).2) (-1) (-1), oLY ly g ru (nI 42) sz ld wy bk cd nc 0 0 0, oTR ru g pcs, aI cI pcs w (fun _ => 0), aI cI sz (w * h + 1) (fun _ => 0), aI cI ld (w * h * 42) (fun _ => 0), aJ cJ wy ((w * h + 1) * 42) (fun _ => 0), aI cI bk 512 (fun _ => 0), aI cI cd 42 (fun _ => 0), aI cI nc 42 (fun _ => 0)]) [0, 4, 3, 1, 2, 5, 6, 7, 8, 9, 10] rfl rfl rfl ?_
  refine e_putF C IN hin_FC ty_FC tyk_FC nm_FC 0 rfl rfl 1 (by decide) fl_FC_35 rfl rfl rfl rfl (Nat.le_of_ble_eq_true rfl) d_FC_init_61 ?_
  refine e_ws [(x, .inr (0, [.ref g, .ref ly, .null, .int 0, .long 0, .long 0, .long 0, .int 0, .int 0, .long 0, .long 0])), oGR g (nI w) (nI h) (nI (w * h)) 0 ((fosF w h (nI (w * h)) 0).1) ((fosF w h (nI (w * h)) 0).2) (-1) (-1), oLY ly g ru (nI 42) sz ld wy bk cd nc 0 0 0, oTR ru g pcs, aI cI pcs w (fun _ => 0), aI cI sz (w * h + 1) (fun _ => 0), aI cI ld (w * h * 42) (fun _ => 0), aJ cJ wy ((w * h + 1) * 42) (fun _ => 0), aI cI bk 512 (fun _ => 0), aI cI cd 42 (fun _ => 0), aI cI nc 42 (fun _ => 0)] rfl ?_
  refine e_aload_n C d_FC_init_64 rfl rfl ?_
  refine e_iconst (v := 2) C d_FC_init_65 rfl ?_
  refine e_aload_n C d_FC_init_66 rfl rfl ?_
  refine e_get C hin_FC 0 rfl rfl 0 (by decide) fl_FC_18 rfl d_FC_init_67 ?_
  refine e_getN C hin_GR 1 rfl rfl 2 (by decide) fn_FC_39 rfl d_FC_init_70 ?_
  refine e_imul C d_FC_init_73 ?_
  refine e_st [.int (nI (2 * (w * h))), .ref x] (by rw [show (2 : Int32) * nI (w * h) = nI (2 * (w * h)) from pk_mul 2 (w * h)]) ?_
  refine e_newI (N := (2 * (w * h))) C 0 rfl ac_int (nI_pos (by omega)) (nI_clamp (by omega)) (by show (2 * (w * h)) * 4 ≤ 536870912; omega) (Nat.le_of_ble_eq_true rfl) (by show _ + (2 * (w * h)) ≤ _; simp only []; omega) d_FC_init_74 (fun sa => ?_)
  refine e_wide (k' := 11) (n' := 7823) (Nat.le_of_ble_eq_true rfl) (by omega) ?_
  refine e_ws [(x, .inr (0, [.ref g, .ref ly, .null, .int 0, .long 0, .long 0, .long 0, .int 0, .int 0, .long 0, .long 0])), oGR g (nI w) (nI h) (nI (w * h)) 0 ((fosF w h (nI (w * h)) 0).1) ((fosF w h (nI (w * h)) 0).2) (-1) (-1), oLY ly g ru (nI 42) sz ld wy bk cd nc 0 0 0, oTR ru g pcs, aI cI pcs w (fun _ => 0), aI cI sz (w * h + 1) (fun _ => 0), aI cI ld (w * h * 42) (fun _ => 0), aJ cJ wy ((w * h + 1) * 42) (fun _ => 0), aI cI bk 512 (fun _ => 0), aI cI cd 42 (fun _ => 0), aI cI nc 42 (fun _ => 0), aI cI sa (2 * (w * h)) (fun _ => 0)] rfl ?_
  refine e_putF C IN hin_FC ty_FC tyk_FC nm_FC 0 rfl rfl 2 (by decide) fl_FC_43 rfl rfl rfl rfl (Nat.le_of_ble_eq_true rfl) d_FC_init_76 ?_
  refine e_ws [oFC x g ly sa 0 0 0 0 0 0 0 0, oGR g (nI w) (nI h) (nI (w * h)) 0 ((fosF w h (nI (w * h)) 0).1) ((fosF w h (nI (w * h)) 0).2) (-1) (-1), oLY ly g ru (nI 42) sz ld wy bk cd nc 0 0 0, oTR ru g pcs, aI cI pcs w (fun _ => 0), aI cI sz (w * h + 1) (fun _ => 0), aI cI ld (w * h * 42) (fun _ => 0), aJ cJ wy ((w * h + 1) * 42) (fun _ => 0), aI cI bk 512 (fun _ => 0), aI cI cd 42 (fun _ => 0), aI cI nc 42 (fun _ => 0), aI cI sa (2 * (w * h)) (fun _ => 0)] rfl ?_
  refine e_aload_n C d_FC_init_79 rfl rfl ?_
  refine e_ldc2 C kl_FC_47 d_FC_init_80 ?_
  refine e_put C hin_FC ty_FC tyk_FC nm_FC 0 rfl rfl 10 (by decide) fl_FC_49 rfl rfl rfl (Nat.le_of_ble_eq_true rfl) d_FC_init_83 ?_
  refine e_ws [oFC x g ly sa 0 0 0 0 0 0 0 (-1), oGR g (nI w) (nI h) (nI (w * h)) 0 ((fosF w h (nI (w * h)) 0).1) ((fosF w h (nI (w * h)) 0).2) (-1) (-1), oLY ly g ru (nI 42) sz ld wy bk cd nc 0 0 0, oTR ru g pcs, aI cI pcs w (fun _ => 0), aI cI sz (w * h + 1) (fun _ => 0), aI cI ld (w * h * 42) (fun _ => 0), aJ cJ wy ((w * h + 1) * 42) (fun _ => 0), aI cI bk 512 (fun _ => 0), aI cI cd 42 (fun _ => 0), aI cI nc 42 (fun _ => 0), aI cI sa (2 * (w * h)) (fun _ => 0)] rfl ?_
  refine e_aload_n C d_FC_init_86 rfl rfl ?_
  refine e_callV (As := []) (st := []) (wc := [oFC x g ly sa 0 0 0 0 0 0 0 (-1), oGR g (nI w) (nI h) (nI (w * h)) 0 ((fosF w h (nI (w * h)) 0).1) ((fosF w h (nI (w * h)) 0).2) (-1) (-1), aI cI sa (2 * (w * h)) (fun _ => 0)]) (wr := [oLY ly g ru (nI 42) sz ld wy bk cd nc 0 0 0, oTR ru g pcs, aI cI pcs w (fun _ => 0), aI cI sz (w * h + 1) (fun _ => 0), aI cI ld (w * h * 42) (fun _ => 0), aJ cJ wy ((w * h + 1) * 42) (fun _ => 0), aI cI bk 512 (fun _ => 0), aI cI cd 42 (fun _ => 0), aI cI nc 42 (fun _ => 0)]) C (M_FC_numberEdges l D cI cJ cZ x g ly sa (w * h) hP 0 (fun _ => 0) 0 0 0 false false 0 (-1) (nI w) (nI h) 0 (fosF w h (nI (w * h)) 0).1 (fosF w h (nI (w * h)) 0).2 (-1) (-1)) v_FC_numberEdges ml_FC_53 0 rfl rfl nwW_ok ⟨Nat.le_of_ble_eq_true rfl, Nat.le_of_ble_eq_true rfl⟩ ⟨Nat.le_of_ble_eq_true rfl, Nat.le_of_ble_eq_true rfl⟩ [0, 1, 11] [2, 3, 4, 5, 6, 7, 8, 9, 10] rfl rfl rfl rfl (by decide) (Nat.le_of_ble_eq_true rfl) rfl d_FC_init_87 (fun v w1 hp => ?_)
  obtain ⟨fs2, rfl, rfl, hR2⟩ := hp
  refine e_perm (st' := []) (ws' := [oFC x g ly sa (nI (slF (w * h) (fosF w h (nI (w * h)) 0).1 0).length) 0 0 0 (bI false) (bI false) 0 (-1), oGR g (nI w) (nI h) (nI (w * h)) 0 ((fosF w h (nI (w * h)) 0).1) ((fosF w h (nI (w * h)) 0).2) (-1) (-1), oLY ly g ru (nI 42) sz ld wy bk cd nc 0 0 0, oTR ru g pcs, aI cI pcs w (fun _ => 0), aI cI sz (w * h + 1) (fun _ => 0), aI cI ld (w * h * 42) (fun _ => 0), aJ cJ wy ((w * h + 1) * 42) (fun _ => 0), aI cI bk 512 (fun _ => 0), aI cI cd 42 (fun _ => 0), aI cI nc 42 (fun _ => 0), aI cI sa (2 * (w * h)) fs2]) [9, 10, 0, 1, 2, 3, 4, 5, 6, 7, 8, 11] rfl rfl rfl ?_
  exact e_vret C Z (Nat.le_of_ble_eq_true rfl) (Nat.le_of_ble_eq_true rfl) (⟨g, ly, ru, pcs, sz, ld, wy, bk, cd, nc, sa, fs2, rfl, rfl, hR2⟩) d_FC_init_90

set_option maxHeartbeats 4000000 in
set_option maxRecDepth 100000 in
theorem M_FC_init_4 (l : Launch) (D : va_G) (cI cJ cZ : ClassId) (x : Nat) (kind width height : Int32) (w h : Nat) (hw : w ≤ 5) (hh : h ≤ 5) (ek : heldF kind 0 4 = 4) (ew : heldF width 1 5 = nI w) (eh : heldF height 1 5 = nI h) : MK l D cI cJ cZ y_FC_init c_FC_init 5 none 5 108 [.ref x, .int kind, .int width, .int height] [(x, .inr (0, [.null, .null, .null, .int 0, .long 0, .long 0, .long 0, .int 0, .int 0, .long 0, .long 0]))] 10 7818 (fun v w1 => ∃ (g ly ru sz ld wy bk cd nc sa : Nat) (fs2 : Nat → Int32), v = none ∧ w1 = [oFC x g ly sa (nI (slF (w * h) (fosF w h (nI (w * h)) 0).1 0).length) 0 0 0 (bI false) (bI false) 0 (-1), oGR g (nI w) (nI h) (nI (w * h)) 0 ((fosF w h (nI (w * h)) 0).1) ((fosF w h (nI (w * h)) 0).2) (-1) (-1), oLY ly g ru (nI 64) sz ld wy bk cd nc 0 0 0, oDG ru g 2, aI cI sz (w * h + 1) (fun _ => 0), aI cI ld (w * h * 64) (fun _ => 0), aJ cJ wy ((w * h + 1) * 64) (fun _ => 0), aI cI bk 512 (fun _ => 0), aI cI cd 64 (fun _ => 0), aI cI nc 64 (fun _ => 0), aI cI sa (2 * (w * h)) fs2] ∧ slR (slF (w * h) (fosF w h (nI (w * h)) 0).1 0) fs2) := by
  refine MC.of (by decide) bigW_good (Nat.le_of_ble_eq_true rfl) (fun κ C Z IN => ?_)
  have hP : w * h ≤ 25 := Nat.mul_le_mul hw hh
  refine e_aload_n C d_FC_init_0 rfl rfl ?_
  refine e_objInit C ml_FC_1 imm_objectInit cod_objectInit d_FC_init_1 (Nat.le_of_ble_eq_true rfl) (Nat.le_of_ble_eq_true rfl) ?_
  refine e_aload_n C d_FC_init_4 rfl rfl ?_
  refine e_new (fs := [.int 0, .int 0, .int 0, .int 0, .long 0, .int 0, .int 0, .int 0]) C hin_GR ty_GR tyk_GR cl_FC_7 ins_GR ini_GR (ci := 1) rfl (by decide +kernel) (Nat.le_of_ble_eq_true rfl) (Nat.le_of_ble_eq_true rfl) d_FC_init_5 (fun g => ?_)
  refine e_ws [(x, .inr (0, [.null, .null, .null, .int 0, .long 0, .long 0, .long 0, .int 0, .int 0, .long 0, .long 0])), oGR g 0 0 0 0 0 0 0 0] rfl ?_
  refine e_dup C d_FC_init_8 rfl ?_
  refine e_iload_n C d_FC_init_9 rfl rfl ?_
  refine e_iconst (v := 1) C d_FC_init_10 rfl ?_
  refine e_iconst (v := 5) C d_FC_init_11 rfl ?_
  refine e_callS (As := [.int width, .int 1, .int 5]) (st := [.ref g, .ref g, .ref x]) (wc := []) (wr := [(x, .inr (0, [.null, .null, .null, .int 0, .long 0, .long 0, .long 0, .int 0, .int 0, .long 0, .long 0])), oGR g 0 0 0 0 0 0 0 0]) C (M_FC_held l D cI cJ cZ width 1 5) s_FC_held ml_FC_11 nwW_ok ⟨Nat.le_of_ble_eq_true rfl, Nat.le_of_ble_eq_true rfl⟩ ⟨Nat.le_of_ble_eq_true rfl, Nat.le_of_ble_eq_true rfl⟩ [] [0, 1] rfl rfl rfl rfl (by decide) (Nat.le_of_ble_eq_true rfl) rfl d_FC_init_12 (fun v w1 hp => ?_)
  obtain ⟨rfl, rfl⟩ := hp
  refine e_perm (st' := [.int (heldF width 1 5), .ref g, .ref g, .ref x]) (ws' := [(x, .inr (0, [.null, .null, .null, .int 0, .long 0, .long 0, .long 0, .int 0, .int 0, .long 0, .long 0])), oGR g 0 0 0 0 0 0 0 0]) [0, 1] rfl rfl rfl ?_
  refine e_st [.int (nI w), .ref g, .ref g, .ref x] (by rw [ew]) ?_
  refine e_iload_n C d_FC_init_15 rfl rfl ?_
  refine e_iconst (v := 1) C d_FC_init_16 rfl ?_
  refine e_iconst (v := 5) C d_FC_init_17 rfl ?_
  refine e_callS (As := [.int height, .int 1, .int 5]) (st := [.int (nI w), .ref g, .ref g, .ref x]) (wc := []) (wr := [(x, .inr (0, [.null, .null, .null, .int 0, .long 0, .long 0, .long 0, .int 0, .int 0, .long 0, .long 0])), oGR g 0 0 0 0 0 0 0 0]) C (M_FC_held l D cI cJ cZ height 1 5) s_FC_held ml_FC_11 nwW_ok ⟨Nat.le_of_ble_eq_true rfl, Nat.le_of_ble_eq_true rfl⟩ ⟨Nat.le_of_ble_eq_true rfl, Nat.le_of_ble_eq_true rfl⟩ [] [0, 1] rfl rfl rfl rfl (by decide) (Nat.le_of_ble_eq_true rfl) rfl d_FC_init_18 (fun v w1 hp => ?_)
  obtain ⟨rfl, rfl⟩ := hp
  refine e_perm (st' := [.int (heldF height 1 5), .int (nI w), .ref g, .ref g, .ref x]) (ws' := [(x, .inr (0, [.null, .null, .null, .int 0, .long 0, .long 0, .long 0, .int 0, .int 0, .long 0, .long 0])), oGR g 0 0 0 0 0 0 0 0]) [0, 1] rfl rfl rfl ?_
  refine e_st [.int (nI h), .int (nI w), .ref g, .ref g, .ref x] (by rw [eh]) ?_
  refine e_callIN (ret := none) (As := [.int (nI w), .int (nI h)]) (st := [.ref g, .ref x]) (wc := [oGR g 0 0 0 0 0 0 0 0]) (wr := [(x, .inr (0, [.null, .null, .null, .int 0, .long 0, .long 0, .long 0, .int 0, .int 0, .long 0, .long 0]))]) C (M_GR_init l D cI cJ cZ g w h hw hh) i_GR_init mn_FC_15 nwW_ok ⟨Nat.le_of_ble_eq_true rfl, Nat.le_of_ble_eq_true rfl⟩ ⟨Nat.le_of_ble_eq_true rfl, Nat.le_of_ble_eq_true rfl⟩ [1] [0] rfl rfl rfl rfl (by decide) (Nat.le_of_ble_eq_true rfl) rfl d_FC_init_21 (fun v w1 hp => ?_)
  obtain ⟨rfl, rfl⟩ := hp
  refine e_perm (st' := [.ref g, .ref x]) (ws' := [(x, .inr (0, [.null, .null, .null, .int 0, .long 0, .long 0, .long 0, .int 0, .int 0, .long 0, .long 0])), oGR g (nI w) (nI h) (nI w * nI h) 0 ((fosF w h (nI w * nI h) 0).1) ((fosF w h (nI w * nI h) 0).2) (-1) (-1)]) [0, 1] rfl rfl rfl ?_
  refine e_ws [(x, .inr (0, [.null, .null, .null, .int 0, .long 0, .long 0, .long 0, .int 0, .int 0, .long 0, .long 0])), oGR g (nI w) (nI h) (nI (w * h)) 0 ((fosF w h (nI (w * h)) 0).1) ((fosF w h (nI (w * h)) 0).2) (-1) (-1)] (by rw [pk_mul]) ?_
  refine e_putF C IN hin_FC ty_FC tyk_FC nm_FC 0 rfl rfl 0 (by decide) fl_FC_18 rfl rfl rfl rfl (Nat.le_of_ble_eq_true rfl) d_FC_init_24 ?_
  refine e_ws [(x, .inr (0, [.ref g, .null, .null, .int 0, .long 0, .long 0, .long 0, .int 0, .int 0, .long 0, .long 0])), oGR g (nI w) (nI h) (nI (w * h)) 0 ((fosF w h (nI (w * h)) 0).1) ((fosF w h (nI (w * h)) 0).2) (-1) (-1)] rfl ?_
  refine e_iload_n C d_FC_init_27 rfl rfl ?_
  refine e_iconst (v := 0) C d_FC_init_28 rfl ?_
  refine e_iconst (v := 4) C d_FC_init_29 rfl ?_
  refine e_callS (As := [.int kind, .int 0, .int 4]) (st := []) (wc := []) (wr := [(x, .inr (0, [.ref g, .null, .null, .int 0, .long 0, .long 0, .long 0, .int 0, .int 0, .long 0, .long 0])), oGR g (nI w) (nI h) (nI (w * h)) 0 ((fosF w h (nI (w * h)) 0).1) ((fosF w h (nI (w * h)) 0).2) (-1) (-1)]) C (M_FC_held l D cI cJ cZ kind 0 4) s_FC_held ml_FC_11 nwW_ok ⟨Nat.le_of_ble_eq_true rfl, Nat.le_of_ble_eq_true rfl⟩ ⟨Nat.le_of_ble_eq_true rfl, Nat.le_of_ble_eq_true rfl⟩ [] [0, 1] rfl rfl rfl rfl (by decide) (Nat.le_of_ble_eq_true rfl) rfl d_FC_init_30 (fun v w1 hp => ?_)
  obtain ⟨rfl, rfl⟩ := hp
  refine e_perm (st' := [.int (heldF kind 0 4)]) (ws' := [(x, .inr (0, [.ref g, .null, .null, .int 0, .long 0, .long 0, .long 0, .int 0, .int 0, .long 0, .long 0])), oGR g (nI w) (nI h) (nI (w * h)) 0 ((fosF w h (nI (w * h)) 0).1) ((fosF w h (nI (w * h)) 0).2) (-1) (-1)]) [0, 1] rfl rfl rfl ?_
  refine e_st [.int 4] (by rw [ek]) ?_
  refine e_istore C d_FC_init_33 (by decide) ?_
  refine e_aload_n C d_FC_init_35 rfl rfl ?_
  refine e_new (fs := [.null, .null, .int 0, .null, .null, .null, .null, .null, .null, .int 0, .long 0, .long 0]) C hin_LY ty_LY tyk_LY cl_FC_22 ins_LY ini_LY (ci := 2) rfl (by decide +kernel) (Nat.le_of_ble_eq_true rfl) (Nat.le_of_ble_eq_true rfl) d_FC_init_36 (fun ly => ?_)
  refine e_ws [(x, .inr (0, [.ref g, .null, .null, .int 0, .long 0, .long 0, .long 0, .int 0, .int 0, .long 0, .long 0])), oGR g (nI w) (nI h) (nI (w * h)) 0 ((fosF w h (nI (w * h)) 0).1) ((fosF w h (nI (w * h)) 0).2) (-1) (-1), (ly, .inr (2, [.null, .null, .int 0, .null, .null, .null, .null, .null, .null, .int 0, .long 0, .long 0]))] rfl ?_
  refine e_dup C d_FC_init_39 rfl ?_
  refine e_aload_n C d_FC_init_40 rfl rfl ?_
  refine e_get C hin_FC 0 rfl rfl 0 (by decide) fl_FC_18 rfl d_FC_init_41 ?_
  refine e_iload C d_FC_init_44 rfl ?_
  refine e_aload_n C d_FC_init_46 rfl rfl ?_
  refine e_get C hin_FC 0 rfl rfl 0 (by decide) fl_FC_18 rfl d_FC_init_47 ?_
  refine e_callS (As := [.int 4, .ref g]) (st := [.ref g, .ref ly, .ref ly, .ref x]) (wc := []) (wr := [(x, .inr (0, [.ref g, .null, .null, .int 0, .long 0, .long 0, .long 0, .int 0, .int 0, .long 0, .long 0])), oGR g (nI w) (nI h) (nI (w * h)) 0 ((fosF w h (nI (w * h)) 0).1) ((fosF w h (nI (w * h)) 0).2) (-1) (-1), (ly, .inr (2, [.null, .null, .int 0, .null, .null, .null, .null, .null, .null, .int 0, .long 0, .long 0]))]) C (M_FC_ruleOf_4 l D cI cJ cZ g) s_FC_ruleOf ml_FC_24 nwW_ok ⟨Nat.le_of_ble_eq_true rfl, Nat.le_of_ble_eq_true rfl⟩ ⟨Nat.le_of_ble_eq_true rfl, Nat.le_of_ble_eq_true rfl⟩ [] [0, 1, 2] rfl rfl rfl rfl (by decide) (Nat.le_of_ble_eq_true rfl) rfl d_FC_init_50 (fun v w1 hp => ?_)
  obtain ⟨ru, rfl, rfl⟩ := hp
  refine e_perm (st' := [.ref ru, .ref g, .ref ly, .ref ly, .ref x]) (ws' := [(x, .inr (0, [.ref g, .null, .null, .int 0, .long 0, .long 0, .long 0, .int 0, .int 0, .long 0, .long 0])), oGR g (nI w) (nI h) (nI (w * h)) 0 ((fosF w h (nI (w * h)) 0).1) ((fosF w h (nI (w * h)) 0).2) (-1) (-1), (ly, .inr (2, [.null, .null, .int 0, .null, .null, .null, .null, .null, .null, .int 0, .long 0, .long 0])), oDG ru g 2]) [0, 1, 2, 3] rfl rfl rfl ?_
  refine e_iload C d_FC_init_53 rfl ?_
  refine e_callS (As := [.int 4]) (st := [.ref ru, .ref g, .ref ly, .ref ly, .ref x]) (wc := []) (wr := [(x, .inr (0, [.ref g, .null, .null, .int 0, .long 0, .long 0, .long 0, .int 0, .int 0, .long 0, .long 0])), oGR g (nI w) (nI h) (nI (w * h)) 0 ((fosF w h (nI (w * h)) 0).1) ((fosF w h (nI (w * h)) 0).2) (-1) (-1), (ly, .inr (2, [.null, .null, .int 0, .null, .null, .null, .null, .null, .null, .int 0, .long 0, .long 0])), oDG ru g 2]) C (M_FC_mostCodes_4 l D cI cJ cZ) s_FC_mostCodes ml_FC_28 nwW_ok ⟨Nat.le_of_ble_eq_true rfl, Nat.le_of_ble_eq_true rfl⟩ ⟨Nat.le_of_ble_eq_true rfl, Nat.le_of_ble_eq_true rfl⟩ [] [0, 1, 2, 3] rfl rfl rfl rfl (by decide) (Nat.le_of_ble_eq_true rfl) rfl d_FC_init_55 (fun v w1 hp => ?_)
  obtain ⟨rfl, rfl⟩ := hp
  refine e_perm (st' := [.int 64, .ref ru, .ref g, .ref ly, .ref ly, .ref x]) (ws' := [(x, .inr (0, [.ref g, .null, .null, .int 0, .long 0, .long 0, .long 0, .int 0, .int 0, .long 0, .long 0])), oGR g (nI w) (nI h) (nI (w * h)) 0 ((fosF w h (nI (w * h)) 0).1) ((fosF w h (nI (w * h)) 0).2) (-1) (-1), (ly, .inr (2, [.null, .null, .int 0, .null, .null, .null, .null, .null, .null, .int 0, .long 0, .long 0])), oDG ru g 2]) [0, 1, 2, 3] rfl rfl rfl ?_
  refine e_st [.int (nI 64), .ref ru, .ref g, .ref ly, .ref ly, .ref x] rfl ?_
  refine e_callIN (ret := none) (As := [.ref g, .ref ru, .int (nI 64)]) (st := [.ref ly, .ref x]) (wc := [(ly, .inr (2, [.null, .null, .int 0, .null, .null, .null, .null, .null, .null, .int 0, .long 0, .long 0])), oGR g (nI w) (nI h) (nI (w * h)) 0 ((fosF w h (nI (w * h)) 0).1) ((fosF w h (nI (w * h)) 0).2) (-1) (-1)]) (wr := [(x, .inr (0, [.ref g, .null, .null, .int 0, .long 0, .long 0, .long 0, .int 0, .int 0, .long 0, .long 0])), oDG ru g 2]) C (M_LY_init l D cI cJ cZ ly g ru (w * h) 64 hP (by decide) (nI w) (nI h) 0 (fosF w h (nI (w * h)) 0).1 (fosF w h (nI (w * h)) 0).2 (-1) (-1)) i_LY_init mn_FC_32 nwW_ok ⟨Nat.le_of_ble_eq_true rfl, Nat.le_of_ble_eq_true rfl⟩ ⟨Nat.le_of_ble_eq_true rfl, Nat.le_of_ble_eq_true rfl⟩ [2, 1] [0, 3] rfl rfl rfl rfl (by decide) (Nat.le_of_ble_eq_true rfl) rfl d_FC_init_58 (fun v w1 hp => ?_)
  obtain ⟨sz, ld, wy, bk, cd, nc, rfl, rfl⟩ := hp
  refine e_perm (st' := [.ref ly, .ref x]) (ws' := [(x, .inr (0, [.ref g, .null, .null, .int 0, .long 0, .long 0, .long 0, .int 0, .int 0, .long 0, .long 0])), oGR g (nI w) (nI h) (nI (w * h)) 0 ((fosF w h (nI (w * h)) 0).1) ((fosF w h (nI (w * h)) 0).2) (-1) (-1), oLY ly g ru (nI 64) sz ld wy bk cd nc 0 0 0, oDG ru g 2, aI cI sz (w * h + 1) (fun _ => 0), aI cI ld (w * h * 64) (fun _ => 0), aJ cJ wy ((w * h + 1) * 64) (fun _ => 0), aI cI bk 512 (fun _ => 0), aI cI cd 64 (fun _ => 0), aI cI nc 64 (fun _ => 0)]) [0, 3, 2, 1, 4, 5, 6, 7, 8, 9] rfl rfl rfl ?_
  refine e_putF C IN hin_FC ty_FC tyk_FC nm_FC 0 rfl rfl 1 (by decide) fl_FC_35 rfl rfl rfl rfl (Nat.le_of_ble_eq_true rfl) d_FC_init_61 ?_
  refine e_ws [(x, .inr (0, [.ref g, .ref ly, .null, .int 0, .long 0, .long 0, .long 0, .int 0, .int 0, .long 0, .long 0])), oGR g (nI w) (nI h) (nI (w * h)) 0 ((fosF w h (nI (w * h)) 0).1) ((fosF w h (nI (w * h)) 0).2) (-1) (-1), oLY ly g ru (nI 64) sz ld wy bk cd nc 0 0 0, oDG ru g 2, aI cI sz (w * h + 1) (fun _ => 0), aI cI ld (w * h * 64) (fun _ => 0), aJ cJ wy ((w * h + 1) * 64) (fun _ => 0), aI cI bk 512 (fun _ => 0), aI cI cd 64 (fun _ => 0), aI cI nc 64 (fun _ => 0)] rfl ?_
  refine e_aload_n C d_FC_init_64 rfl rfl ?_
  refine e_iconst (v := 2) C d_FC_init_65 rfl ?_
  refine e_aload_n C d_FC_init_66 rfl rfl ?_
  refine e_get C hin_FC 0 rfl rfl 0 (by decide) fl_FC_18 rfl d_FC_init_67 ?_
  refine e_getN C hin_GR 1 rfl rfl 2 (by decide) fn_FC_39 rfl d_FC_init_70 ?_
  refine e_imul C d_FC_init_73 ?_
  refine e_st [.int (nI (2 * (w * h))), .ref x] (by rw [show (2 : Int32) * nI (w * h) = nI (2 * (w * h)) from pk_mul 2 (w * h)]) ?_
  refine e_newI (N := (2 * (w * h))) C 0 rfl ac_int (nI_pos (by omega)) (nI_clamp (by omega)) (by show (2 * (w * h)) * 4 ≤ 536870912; omega) (Nat.le_of_ble_eq_true rfl) (by show _ + (2 * (w * h)) ≤ _; simp only []; omega) d_FC_init_74 (fun sa => ?_)
  refine e_wide (k' := 10) (n' := 7818) (Nat.le_of_ble_eq_true rfl) (by omega) ?_
  refine e_ws [(x, .inr (0, [.ref g, .ref ly, .null, .int 0, .long 0, .long 0, .long 0, .int 0, .int 0, .long 0, .long 0])), oGR g (nI w) (nI h) (nI (w * h)) 0 ((fosF w h (nI (w * h)) 0).1) ((fosF w h (nI (w * h)) 0).2) (-1) (-1), oLY ly g ru (nI 64) sz ld wy bk cd nc 0 0 0, oDG ru g 2, aI cI sz (w * h + 1) (fun _ => 0), aI cI ld (w * h * 64) (fun _ => 0), aJ cJ wy ((w * h + 1) * 64) (fun _ => 0), aI cI bk 512 (fun _ => 0), aI cI cd 64 (fun _ => 0), aI cI nc 64 (fun _ => 0), aI cI sa (2 * (w * h)) (fun _ => 0)] rfl ?_
  refine e_putF C IN hin_FC ty_FC tyk_FC nm_FC 0 rfl rfl 2 (by decide) fl_FC_43 rfl rfl rfl rfl (Nat.le_of_ble_eq_true rfl) d_FC_init_76 ?_
  refine e_ws [oFC x g ly sa 0 0 0 0 0 0 0 0, oGR g (nI w) (nI h) (nI (w * h)) 0 ((fosF w h (nI (w * h)) 0).1) ((fosF w h (nI (w * h)) 0).2) (-1) (-1), oLY ly g ru (nI 64) sz ld wy bk cd nc 0 0 0, oDG ru g 2, aI cI sz (w * h + 1) (fun _ => 0), aI cI ld (w * h * 64) (fun _ => 0), aJ cJ wy ((w * h + 1) * 64) (fun _ => 0), aI cI bk 512 (fun _ => 0), aI cI cd 64 (fun _ => 0), aI cI nc 64 (fun _ => 0), aI cI sa (2 * (w * h)) (fun _ => 0)] rfl ?_
  refine e_aload_n C d_FC_init_79 rfl rfl ?_
  refine e_ldc2 C kl_FC_47 d_FC_init_80 ?_
  refine e_put C hin_FC ty_FC tyk_FC nm_FC 0 rfl rfl 10 (by decide) fl_FC_49 rfl rfl rfl (Nat.le_of_ble_eq_true rfl) d_FC_init_83 ?_
  refine e_ws [oFC x g ly sa 0 0 0 0 0 0 0 (-1), oGR g (nI w) (nI h) (nI (w * h)) 0 ((fosF w h (nI (w * h)) 0).1) ((fosF w h (nI (w * h)) 0).2) (-1) (-1), oLY ly g ru (nI 64) sz ld wy bk cd nc 0 0 0, oDG ru g 2, aI cI sz (w * h + 1) (fun _ => 0), aI cI ld (w * h * 64) (fun _ => 0), aJ cJ wy ((w * h + 1) * 64) (fun _ => 0), aI cI bk 512 (fun _ => 0), aI cI cd 64 (fun _ => 0), aI cI nc 64 (fun _ => 0), aI cI sa (2 * (w * h)) (fun _ => 0)] rfl ?_
  refine e_aload_n C d_FC_init_86 rfl rfl ?_
  refine e_callV (As := []) (st := []) (wc := [oFC x g ly sa 0 0 0 0 0 0 0 (-1), oGR g (nI w) (nI h) (nI (w * h)) 0 ((fosF w h (nI (w * h)) 0).1) ((fosF w h (nI (w * h)) 0).2) (-1) (-1), aI cI sa (2 * (w * h)) (fun _ => 0)]) (wr := [oLY ly g ru (nI 64) sz ld wy bk cd nc 0 0 0, oDG ru g 2, aI cI sz (w * h + 1) (fun _ => 0), aI cI ld (w * h * 64) (fun _ => 0), aJ cJ wy ((w * h + 1) * 64) (fun _ => 0), aI cI bk 512 (fun _ => 0), aI cI cd 64 (fun _ => 0), aI cI nc 64 (fun _ => 0)]) C (M_FC_numberEdges l D cI cJ cZ x g ly sa (w * h) hP 0 (fun _ => 0) 0 0 0 false false 0 (-1) (nI w) (nI h) 0 (fosF w h (nI (w * h)) 0).1 (fosF w h (nI (w * h)) 0).2 (-1) (-1)) v_FC_numberEdges ml_FC_53 0 rfl rfl nwW_ok ⟨Nat.le_of_ble_eq_true rfl, Nat.le_of_ble_eq_true rfl⟩ ⟨Nat.le_of_ble_eq_true rfl, Nat.le_of_ble_eq_true rfl⟩ [0, 1, 10] [2, 3, 4, 5, 6, 7, 8, 9] rfl rfl rfl rfl (by decide) (Nat.le_of_ble_eq_true rfl) rfl d_FC_init_87 (fun v w1 hp => ?_)
  obtain ⟨fs2, rfl, rfl, hR2⟩ := hp
  refine e_perm (st' := []) (ws' := [oFC x g ly sa (nI (slF (w * h) (fosF w h (nI (w * h)) 0).1 0).length) 0 0 0 (bI false) (bI false) 0 (-1), oGR g (nI w) (nI h) (nI (w * h)) 0 ((fosF w h (nI (w * h)) 0).1) ((fosF w h (nI (w * h)) 0).2) (-1) (-1), oLY ly g ru (nI 64) sz ld wy bk cd nc 0 0 0, oDG ru g 2, aI cI sz (w * h + 1) (fun _ => 0), aI cI ld (w * h * 64) (fun _ => 0), aJ cJ wy ((w * h + 1) * 64) (fun _ => 0), aI cI bk 512 (fun _ => 0), aI cI cd 64 (fun _ => 0), aI cI nc 64 (fun _ => 0), aI cI sa (2 * (w * h)) fs2]) [8, 9, 0, 1, 2, 3, 4, 5, 6, 7, 10] rfl rfl rfl ?_
  exact e_vret C Z (Nat.le_of_ble_eq_true rfl) (Nat.le_of_ble_eq_true rfl) (⟨g, ly, ru, sz, ld, wy, bk, cd, nc, sa, fs2, rfl, rfl, hR2⟩) d_FC_init_90
