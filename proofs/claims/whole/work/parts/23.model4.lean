/-! THE REFERENCE: constructor, isAllowed, countOfPlaces, power -/
def cpF (hb : Nat → Bool) : Nat → Nat
  | 0 => 0
  | n + 1 => cpF hb n + (if hb n = true then 0 else 1)
theorem cpF_le (hb : Nat → Bool) : ∀ n, cpF hb n ≤ n
  | 0 => Nat.le_refl _
  | n + 1 => by
    have h := cpF_le hb n
    unfold cpF
    by_cases z : hb n = true
    · rw [if_pos z]; omega
    · rw [if_neg z]; omega
set_option maxHeartbeats 4000000 in
set_option maxRecDepth 100000 in
theorem M_MD_countOfPlaces (l : Launch) (D : va_G) (cI cJ cZ : ClassId) (m aho aaw aen ato awa aot awk atr ase ade ala ach apa asq : Nat) (w h : Nat) (hw : w ≤ 5) (hh : h ≤ 5) (hw1 : 1 ≤ w) (hh1 : 1 ≤ h) (th kd fi sc : Int32) (el : List (Nat × Nat)) (li : Bool) (mny : Nat) (drn : Bool) (wyv rkv : Int64) (hb : Nat → Bool) : MK l D cI cJ cZ y_MD_countOfPlaces c_MD_countOfPlaces 3 (some FieldType.int) 1 20 [.ref m] [oMD m th kd (nI w) (nI h) aho aaw fi sc (nI el.length) aen ato (bI li) (nI mny) awa aot (bI drn) wyv rkv awk atr ase ade ala ach apa asq, aZ cZ aho 25 (bF hb)] 0 0 (rI (nI (cpF hb (w * h))) [oMD m th kd (nI w) (nI h) aho aaw fi sc (nI el.length) aen ato (bI li) (nI mny) awa aot (bI drn) wyv rkv awk atr ase ade ala ach apa asq, aZ cZ aho 25 (bF hb)]) := by
  refine MC.of (by decide) bigW_good (Nat.le_of_ble_eq_true rfl) (fun κ C Z IN => ?_)
  have hP : w * h ≤ 25 := Nat.mul_le_mul hw hh
  refine e_iconst (v := 0) C d_MD_countOfPlaces_0 rfl ?_
  refine e_istore_n C d_MD_countOfPlaces_1 rfl (by decide) ?_
  refine e_iconst (v := 0) C d_MD_countOfPlaces_2 rfl ?_
  refine e_istore_n C d_MD_countOfPlaces_3 rfl (by decide) ?_
  have LP : ∀ (fuel : Nat) (p : Nat), p ≤ w * h →  w * h - p < fuel → E κ (lu_o [(0, .ref m), (1, .int (nI (cpF hb p))), (2, .int (nI p))]) [] [oMD m th kd (nI w) (nI h) aho aaw fi sc (nI el.length) aen ato (bI li) (nI mny) awa aot (bI drn) wyv rkv awk atr ase ade ala ach apa asq, aZ cZ aho 25 (bF hb)] 0 0 4 := by
    intro fuel
    induction fuel with
    | zero => intro p hp hm; exact absurd hm (Nat.not_lt_zero _)
    | succ fuel ihLP =>
      intro p hp hm
      refine e_iload_n C d_MD_countOfPlaces_4 rfl rfl ?_
      refine e_aload_n C d_MD_countOfPlaces_5 rfl rfl ?_
      refine e_callV (As := []) (st := [.int (nI p)]) (wc := [oMD m th kd (nI w) (nI h) aho aaw fi sc (nI el.length) aen ato (bI li) (nI mny) awa aot (bI drn) wyv rkv awk atr ase ade ala ach apa asq]) (wr := [aZ cZ aho 25 (bF hb)]) C (M_MD_places l D cI cJ cZ m aho aaw aen ato awa aot awk atr ase ade ala ach apa asq w h hw hh hw1 hh1 th kd fi sc el li mny drn wyv rkv) v_MD_places ml_MD_81 0 rfl rfl nwW_ok ⟨Nat.le_of_ble_eq_true rfl, Nat.le_of_ble_eq_true rfl⟩ ⟨Nat.le_of_ble_eq_true rfl, Nat.le_of_ble_eq_true rfl⟩ [0] [1] rfl rfl rfl rfl (by decide) (Nat.le_of_ble_eq_true rfl) rfl d_MD_countOfPlaces_6 (fun v w1 hp => ?_)
      obtain ⟨rfl, rfl⟩ := hp
      refine e_perm (st' := [.int (nI (w * h)), .int (nI p)]) (ws' := [oMD m th kd (nI w) (nI h) aho aaw fi sc (nI el.length) aen ato (bI li) (nI mny) awa aot (bI drn) wyv rkv awk atr ase ade ala ach apa asq, aZ cZ aho 25 (bF hb)]) [1, 0] rfl rfl rfl ?_
      refine e_icmp_ge (tgt := 35) C d_MD_countOfPlaces_9 (by decide) (fun h9 => ?_) (fun h9 => ?_)
      · -- 35
        have hpP : w * h = p := by have q := (nI_leI (by omega) (by omega)).mp h9; omega
        subst hpP
        refine e_iload_n C d_MD_countOfPlaces_35 rfl rfl ?_
        exact e_iret C Z rfl (Nat.le_of_ble_eq_true rfl) (Nat.le_of_ble_eq_true rfl) (⟨rfl, rfl⟩) d_MD_countOfPlaces_36
      · -- 12
        have hpP : p < w * h := by rcases Nat.lt_or_ge p (w * h) with q | q; exact q; exact absurd (nI_le q (by omega)) h9
        refine e_iload_n C d_MD_countOfPlaces_12 rfl rfl ?_
        refine e_aload_n C d_MD_countOfPlaces_13 rfl rfl ?_
        refine e_get C hin_MD 0 rfl rfl 4 (by decide) fl_MD_7 rfl d_MD_countOfPlaces_14 ?_
        refine e_iload_n C d_MD_countOfPlaces_17 rfl rfl ?_
        refine e_zald C 1 2 rfl rfl (vp_in_nI (by omega) (by omega)) d_MD_countOfPlaces_18 ?_
        refine e_st [.int (bI (hb p)), .int (nI (cpF hb p))] (by rw [nI_clamp (by omega)]; rfl) ?_
        refine e_if_eq (tgt := 26) C d_MD_countOfPlaces_19 (by decide) (fun h19 => ?_) (fun h19 => ?_)
        · -- 26
          refine e_iconst (v := 1) C d_MD_countOfPlaces_26 rfl ?_
          refine e_iadd C d_MD_countOfPlaces_27 ?_
          refine e_istore_n C d_MD_countOfPlaces_28 rfl (by decide) ?_
          refine e_iinc (v := (nI p) + 1) C d_MD_countOfPlaces_29 rfl rfl (by decide) ?_
          refine e_goto (tgt := 4) C d_MD_countOfPlaces_32 (by decide) ?_
          refine e_lv [(0, .ref m), (1, .int (nI (cpF hb (p + 1)))), (2, .int (nI (p + 1)))] ⟨rfl, (by show some (Value.int _) = _; simp only [bI_eq0, Bool.not_eq_false] at h19; rw [show cpF hb (p + 1) = cpF hb p + (if hb p = true then 0 else 1) from rfl, h19]; first | rw [if_pos rfl, Nat.add_zero, Int32.add_zero] | (rw [if_neg (by decide), nI_1])), congrArg (fun z => some (Value.int z)) (nI_1 p), trivial⟩ ?_
          refine e_ws [oMD m th kd (nI w) (nI h) aho aaw fi sc (nI el.length) aen ato (bI li) (nI mny) awa aot (bI drn) wyv rkv awk atr ase ade ala ach apa asq, aZ cZ aho 25 (bF hb)] rfl ?_
          exact ihLP (p + 1) (by omega) (by omega)
        · -- 22
          refine e_iconst (v := 0) C d_MD_countOfPlaces_22 rfl ?_
          refine e_goto (tgt := 27) C d_MD_countOfPlaces_23 (by decide) ?_
          refine e_iadd C d_MD_countOfPlaces_27 ?_
          refine e_istore_n C d_MD_countOfPlaces_28 rfl (by decide) ?_
          refine e_iinc (v := (nI p) + 1) C d_MD_countOfPlaces_29 rfl rfl (by decide) ?_
          refine e_goto (tgt := 4) C d_MD_countOfPlaces_32 (by decide) ?_
          refine e_lv [(0, .ref m), (1, .int (nI (cpF hb (p + 1)))), (2, .int (nI (p + 1)))] ⟨rfl, (by show some (Value.int _) = _; simp only [bI_eq0, Bool.not_eq_false] at h19; rw [show cpF hb (p + 1) = cpF hb p + (if hb p = true then 0 else 1) from rfl, h19]; first | rw [if_pos rfl, Nat.add_zero, Int32.add_zero] | (rw [if_neg (by decide), nI_1])), congrArg (fun z => some (Value.int z)) (nI_1 p), trivial⟩ ?_
          refine e_ws [oMD m th kd (nI w) (nI h) aho aaw fi sc (nI el.length) aen ato (bI li) (nI mny) awa aot (bI drn) wyv rkv awk atr ase ade ala ach apa asq, aZ cZ aho 25 (bF hb)] rfl ?_
          exact ihLP (p + 1) (by omega) (by omega)
  refine e_lv [(0, .ref m), (1, .int (nI (cpF hb 0))), (2, .int (nI 0))] ⟨rfl, rfl, rfl, trivial⟩ ?_
  refine e_ws [oMD m th kd (nI w) (nI h) aho aaw fi sc (nI el.length) aen ato (bI li) (nI mny) awa aot (bI drn) wyv rkv awk atr ase ade ala ach apa asq, aZ cZ aho 25 (bF hb)] rfl ?_
  exact LP _ 0 (Nat.zero_le _) (Nat.lt_succ_self _)

def alOne (fto : Nat → Int32) (set : Int64) (e : Nat) : Bool := !(decide (fto e = 1) && !mBit set (nI e)) && !(decide (fto e = 2) && mBit set (nI e))
def alAll (fto : Nat → Int32) (set : Int64) : Nat → Bool
  | 0 => true
  | n + 1 => alAll fto set n && alOne fto set n
theorem alAll_no {fto : Nat → Int32} {set : Int64} {i : Nat} (h : alOne fto set i = false) : ∀ {n : Nat}, i < n → alAll fto set n = false
  | n + 1, hn => by
    show (alAll fto set n && alOne fto set n) = false
    rcases Nat.lt_or_ge i n with q | q
    · rw [alAll_no h q]; rfl
    · rw [show n = i by omega, h, Bool.and_false]
set_option maxHeartbeats 4000000 in
set_option maxRecDepth 100000 in
theorem M_MD_isAllowed (l : Launch) (D : va_G) (cI cJ cZ : ClassId) (m aho aaw aen ato awa aot awk atr ase ade ala ach apa asq : Nat) (w h : Nat) (hw : w ≤ 5) (hh : h ≤ 5) (hw1 : 1 ≤ w) (hh1 : 1 ≤ h) (th kd fi sc : Int32) (el : List (Nat × Nat)) (li : Bool) (mny : Nat) (drn : Bool) (wyv rkv : Int64) (fto : Nat → Int32) (set : Int64) (hel : el.length ≤ 40) : MK l D cI cJ cZ y_MD_isAllowed c_MD_isAllowed 5 (some FieldType.boolean) 0 0 [.ref m, .long set] [oMD m th kd (nI w) (nI h) aho aaw fi sc (nI el.length) aen ato (bI li) (nI mny) awa aot (bI drn) wyv rkv awk atr ase ade ala ach apa asq, aI cI ato 40 fto] 0 0 (rI (bI (alAll fto set el.length)) [oMD m th kd (nI w) (nI h) aho aaw fi sc (nI el.length) aen ato (bI li) (nI mny) awa aot (bI drn) wyv rkv awk atr ase ade ala ach apa asq, aI cI ato 40 fto]) := by
  refine MC.of (by decide) bigW_good (Nat.le_of_ble_eq_true rfl) (fun κ C Z IN => ?_)
  have hP : w * h ≤ 25 := Nat.mul_le_mul hw hh
  refine e_iconst (v := 0) C d_MD_isAllowed_0 rfl ?_
  refine e_istore_n C d_MD_isAllowed_1 rfl (by decide) ?_
  have LP : ∀ (fuel : Nat) (i : Nat), i ≤ el.length → alAll fto set i = true →  el.length - i < fuel → E κ (lu_o [(0, .ref m), (1, .long set), (3, .int (nI i))]) [] [oMD m th kd (nI w) (nI h) aho aaw fi sc (nI el.length) aen ato (bI li) (nI mny) awa aot (bI drn) wyv rkv awk atr ase ade ala ach apa asq, aI cI ato 40 fto] 0 0 2 := by
    intro fuel
    induction fuel with
    | zero => intro i hi hS hm; exact absurd hm (Nat.not_lt_zero _)
    | succ fuel ihLP =>
      intro i hi hS hm
      refine e_iload_n C d_MD_isAllowed_2 rfl rfl ?_
      refine e_aload_n C d_MD_isAllowed_3 rfl rfl ?_
      refine e_get C hin_MD 0 rfl rfl 8 (by decide) fl_MD_85 rfl d_MD_isAllowed_4 ?_
      refine e_icmp_ge (tgt := 65) C d_MD_isAllowed_7 (by decide) (fun h7 => ?_) (fun h7 => ?_)
      · -- 65
        have hiw : i = el.length := by have q := (nI_leI (by omega) (by omega)).mp h7; omega
        rw [hiw] at hS
        refine e_iconst (v := 1) C d_MD_isAllowed_65 rfl ?_
        exact e_iret C Z rfl (Nat.le_of_ble_eq_true rfl) (Nat.le_of_ble_eq_true rfl) (⟨by rw [hS]; rfl, rfl⟩) d_MD_isAllowed_66
      · -- 10
        have hiw : i < el.length := by rcases Nat.lt_or_ge (i) el.length with q | q; exact q; exact absurd (nI_le q (by omega)) h7
        refine e_lload_n C d_MD_isAllowed_10 rfl rfl ?_
        refine e_iload_n C d_MD_isAllowed_11 rfl rfl ?_
        refine e_lshr C d_MD_isAllowed_12 ?_
        refine e_lconst (v := 1) C d_MD_isAllowed_13 rfl ?_
        refine e_land C d_MD_isAllowed_14 ?_
        refine e_lconst (v := 1) C d_MD_isAllowed_15 rfl ?_
        refine e_lcmp C d_MD_isAllowed_16 ?_
        refine e_lv [(0, .ref m), (1, .long set), (3, .int (nI i))] ⟨rfl, rfl, rfl, trivial⟩ ?_
        have J25 : ∀ (y25 : Int32), y25 = bI (mBit set (nI i)) → E κ (lu_o [(0, .ref m), (1, .long set), (3, .int (nI i))]) [.int y25] [oMD m th kd (nI w) (nI h) aho aaw fi sc (nI el.length) aen ato (bI li) (nI mny) awa aot (bI drn) wyv rkv awk atr ase ade ala ach apa asq, aI cI ato 40 fto] 0 0 25 := by
          intro y25 ey25
          refine e_istore C d_MD_isAllowed_25 (by decide) ?_
          subst ey25
          refine e_lv [(0, .ref m), (1, .long set), (3, .int (nI i)), (4, .int (bI (mBit set (nI i))))] ⟨rfl, rfl, rfl, rfl, trivial⟩ ?_
          refine e_aload_n C d_MD_isAllowed_27 rfl rfl ?_
          refine e_get C hin_MD 0 rfl rfl 10 (by decide) fl_MD_27 rfl d_MD_isAllowed_28 ?_
          refine e_iload_n C d_MD_isAllowed_31 rfl rfl ?_
          refine e_iald C 1 0 rfl rfl (vp_in_nI (by omega) (by omega)) d_MD_isAllowed_32 ?_
          refine e_st [.int (fto i)] (by rw [nI_clamp (by omega)]) ?_
          refine e_iconst (v := 1) C d_MD_isAllowed_33 rfl ?_
          refine e_icmp_ne (tgt := 42) C d_MD_isAllowed_34 (by decide) (fun h34 => ?_) (fun h34 => ?_)
          · -- 42
            refine e_aload_n C d_MD_isAllowed_42 rfl rfl ?_
            refine e_get C hin_MD 0 rfl rfl 10 (by decide) fl_MD_27 rfl d_MD_isAllowed_43 ?_
            refine e_iload_n C d_MD_isAllowed_46 rfl rfl ?_
            refine e_iald C 1 0 rfl rfl (vp_in_nI (by omega) (by omega)) d_MD_isAllowed_47 ?_
            refine e_st [.int (fto i)] (by rw [nI_clamp (by omega)]) ?_
            refine e_iconst (v := 2) C d_MD_isAllowed_48 rfl ?_
            refine e_icmp_ne (tgt := 59) C d_MD_isAllowed_49 (by decide) (fun h49 => ?_) (fun h49 => ?_)
            · -- 59
              have hyes : alOne fto set i = true := by unfold alOne; simp [h34, h49]
              refine e_iinc (v := (nI i) + 1) C d_MD_isAllowed_59 rfl rfl (by decide) ?_
              refine e_goto (tgt := 2) C d_MD_isAllowed_62 (by decide) ?_
              refine e_lv [(0, .ref m), (1, .long set), (3, .int (nI (i + 1)))] ⟨rfl, rfl, congrArg (fun z => some (Value.int z)) (nI_1 i), trivial⟩ ?_
              refine e_ws [oMD m th kd (nI w) (nI h) aho aaw fi sc (nI el.length) aen ato (bI li) (nI mny) awa aot (bI drn) wyv rkv awk atr ase ade ala ach apa asq, aI cI ato 40 fto] rfl ?_
              exact ihLP (i + 1) (by omega) (by show (alAll fto set i && alOne fto set i) = true; rw [hS, hyes]; rfl) (by omega)
            · -- 52
              refine e_iload C d_MD_isAllowed_52 rfl ?_
              refine e_if_eq (tgt := 59) C d_MD_isAllowed_54 (by decide) (fun h54 => ?_) (fun h54 => ?_)
              · -- 59
                have hyes : alOne fto set i = true := by (try simp only [bI_eq0, Bool.not_eq_false] at h54); unfold alOne; simp [h34, h49, h54]
                refine e_iinc (v := (nI i) + 1) C d_MD_isAllowed_59 rfl rfl (by decide) ?_
                refine e_goto (tgt := 2) C d_MD_isAllowed_62 (by decide) ?_
                refine e_lv [(0, .ref m), (1, .long set), (3, .int (nI (i + 1)))] ⟨rfl, rfl, congrArg (fun z => some (Value.int z)) (nI_1 i), trivial⟩ ?_
                refine e_ws [oMD m th kd (nI w) (nI h) aho aaw fi sc (nI el.length) aen ato (bI li) (nI mny) awa aot (bI drn) wyv rkv awk atr ase ade ala ach apa asq, aI cI ato 40 fto] rfl ?_
                exact ihLP (i + 1) (by omega) (by show (alAll fto set i && alOne fto set i) = true; rw [hS, hyes]; rfl) (by omega)
              · -- 57
                have hno : alOne fto set i = false := by simp only [bI_eq0, Bool.not_eq_false] at h54; unfold alOne; rw [h54, decide_eq_true h49]; simp
                refine e_iconst (v := 0) C d_MD_isAllowed_57 rfl ?_
                exact e_iret C Z rfl (Nat.le_of_ble_eq_true rfl) (Nat.le_of_ble_eq_true rfl) (⟨by rw [alAll_no hno hiw]; rfl, rfl⟩) d_MD_isAllowed_58
          · -- 37
            refine e_iload C d_MD_isAllowed_37 rfl ?_
            refine e_if_eq (tgt := 57) C d_MD_isAllowed_39 (by decide) (fun h39 => ?_) (fun h39 => ?_)
            · -- 57
              have hno : alOne fto set i = false := by simp only [bI_eq0] at h39; unfold alOne; rw [h39, decide_eq_true h34]; rfl
              refine e_iconst (v := 0) C d_MD_isAllowed_57 rfl ?_
              exact e_iret C Z rfl (Nat.le_of_ble_eq_true rfl) (Nat.le_of_ble_eq_true rfl) (⟨by rw [alAll_no hno hiw]; rfl, rfl⟩) d_MD_isAllowed_58
            · -- 42
              refine e_aload_n C d_MD_isAllowed_42 rfl rfl ?_
              refine e_get C hin_MD 0 rfl rfl 10 (by decide) fl_MD_27 rfl d_MD_isAllowed_43 ?_
              refine e_iload_n C d_MD_isAllowed_46 rfl rfl ?_
              refine e_iald C 1 0 rfl rfl (vp_in_nI (by omega) (by omega)) d_MD_isAllowed_47 ?_
              refine e_st [.int (fto i)] (by rw [nI_clamp (by omega)]) ?_
              refine e_iconst (v := 2) C d_MD_isAllowed_48 rfl ?_
              refine e_icmp_ne (tgt := 59) C d_MD_isAllowed_49 (by decide) (fun h49 => ?_) (fun h49 => ?_)
              · -- 59
                have hyes : alOne fto set i = true := by (try simp only [bI_eq0, Bool.not_eq_false] at h39); unfold alOne; simp [h34, h39, h49]
                refine e_iinc (v := (nI i) + 1) C d_MD_isAllowed_59 rfl rfl (by decide) ?_
                refine e_goto (tgt := 2) C d_MD_isAllowed_62 (by decide) ?_
                refine e_lv [(0, .ref m), (1, .long set), (3, .int (nI (i + 1)))] ⟨rfl, rfl, congrArg (fun z => some (Value.int z)) (nI_1 i), trivial⟩ ?_
                refine e_ws [oMD m th kd (nI w) (nI h) aho aaw fi sc (nI el.length) aen ato (bI li) (nI mny) awa aot (bI drn) wyv rkv awk atr ase ade ala ach apa asq, aI cI ato 40 fto] rfl ?_
                exact ihLP (i + 1) (by omega) (by show (alAll fto set i && alOne fto set i) = true; rw [hS, hyes]; rfl) (by omega)
              · exact absurd (h34.symm.trans h49) (by decide)
        refine e_if_ne (tgt := 24) C d_MD_isAllowed_17 (by decide) (fun h17 => ?_) (fun h17 => ?_)
        · -- 24
          refine e_iconst (v := 0) C d_MD_isAllowed_24 rfl ?_
          refine e_lv [(0, .ref m), (1, .long set), (3, .int (nI i))] ⟨rfl, rfl, rfl, trivial⟩ ?_
          exact J25 0 (by unfold mBit; rw [decide_eq_false h17]; rfl)
        · -- 20
          refine e_iconst (v := 1) C d_MD_isAllowed_20 rfl ?_
          refine e_goto (tgt := 25) C d_MD_isAllowed_21 (by decide) ?_
          refine e_lv [(0, .ref m), (1, .long set), (3, .int (nI i))] ⟨rfl, rfl, rfl, trivial⟩ ?_
          exact J25 1 (by unfold mBit; rw [decide_eq_true h17]; rfl)
  refine e_lv [(0, .ref m), (1, .long set), (3, .int (nI 0))] ⟨rfl, rfl, rfl, trivial⟩ ?_
  refine e_ws [oMD m th kd (nI w) (nI h) aho aaw fi sc (nI el.length) aen ato (bI li) (nI mny) awa aot (bI drn) wyv rkv awk atr ase ade ala ach apa asq, aI cI ato 40 fto] rfl ?_
  exact LP _ 0 (Nat.zero_le _) rfl (Nat.lt_succ_self _)

def pwF : Nat → Nat → Nat → Nat → Nat
  | 0, r, _, _ => r
  | f + 1, r, b, left => if left = 0 then r else pwF f (if left % 2 = 1 then r * b % 2147483647 else r) (b * b % 2147483647) (left / 2)
theorem pwF_0 (f r b : Nat) : pwF f r b 0 = r := by cases f <;> rfl
theorem lrem_N {a b : Nat} (ha : a < 2 ^ 63) (h0 : 0 < b) (hb : b < 2 ^ 63) {x y : Int64} (hx : x = lN a) (hy : y = lN b) : x - x / y * y = lN (a % b) := by
  subst hx; subst hy
  exact pk_lRem ha h0 hb
theorem mul_lt62 {a b : Nat} (ha : a < 2147483647) (hb : b < 2147483647) : a * b < 2 ^ 63 := Nat.lt_of_le_of_lt (Nat.mul_le_mul (Nat.le_of_lt ha) (Nat.le_of_lt hb)) (by decide)
theorem lg_lN {a b : Nat} (ha : a < 2 ^ 63) (hb : b < 2 ^ 63) : lg_cmp (lN a) (lN b) = if b < a then 1 else if a = b then 0 else -1 := by
  unfold lg_cmp
  by_cases h : b < a
  · rw [if_pos h, if_pos (show lN b < lN a from (pk_lLT hb ha).mpr h)]
  · rw [if_neg h, if_neg (fun q => h ((pk_lLT hb ha).mp q))]
    by_cases e : a = b
    · rw [if_pos e, if_pos (by rw [e])]
    · rw [if_neg e, if_neg (fun q => e ((pk_lEQ ha hb).mp q))]
set_option maxHeartbeats 4000000 in
set_option maxRecDepth 100000 in
theorem M_MD_power (l : Launch) (D : va_G) (cI cJ cZ : ClassId) (b0 n0 : Nat) (hb0 : b0 < 2147483647) (hn0 : n0 < 2 ^ 31) : MK l D cI cJ cZ y_MD_power c_MD_power 10 (some FieldType.long) 0 0 [.long (lN b0), .long (lN n0)] [] 0 0 (rJ (lN (pwF n0 1 b0 n0)) []) := by
  refine MC.of (by decide) bigW_good (Nat.le_of_ble_eq_true rfl) (fun κ C Z IN => ?_)
  refine e_lconst (v := 1) C d_MD_power_0 rfl ?_
  refine e_lstore C d_MD_power_1 (by decide) ?_
  refine e_lload_n C d_MD_power_3 rfl rfl ?_
  refine e_lstore C d_MD_power_4 (by decide) ?_
  refine e_lload_n C d_MD_power_6 rfl rfl ?_
  refine e_lstore C d_MD_power_7 (by decide) ?_
  have LP : ∀ (fuel : Nat) (f r b q : Nat), r < 2147483647 → b < 2147483647 → q < 2 ^ 31 → q ≤ f → pwF f r b q = pwF n0 1 b0 n0 →  q < fuel → E κ (lu_o [(4, .long (lN r)), (6, .long (lN b)), (8, .long (lN q))]) [] [] 0 0 9 := by
    intro fuel
    induction fuel with
    | zero => intro f r b q hr hb hq hqf heq hm; exact absurd hm (Nat.not_lt_zero _)
    | succ fuel ihLP =>
      intro f r b q hr hb hq hqf heq hm
      refine e_lload C d_MD_power_9 rfl ?_
      refine e_lconst (v := 0) C d_MD_power_11 rfl ?_
      refine e_lcmp C d_MD_power_12 ?_
      refine e_if_le (tgt := 60) C d_MD_power_13 (by decide) (fun h13 => ?_) (fun h13 => ?_)
      · -- 60
        refine e_lload C d_MD_power_60 rfl ?_
        exact e_lret C Z (Nat.le_of_ble_eq_true rfl) (Nat.le_of_ble_eq_true rfl) (⟨by rw [← heq]; have z : q = 0 := (by rcases Nat.eq_zero_or_pos q with z | z; exact z; exact absurd h13 (by rw [show (0 : Int64) = lN 0 from rfl, lg_lN (by omega) (by decide), if_pos z] <;> decide)); rw [z, pwF_0], rfl⟩) d_MD_power_62
      · -- 16
        have hq0 : q ≠ 0 := fun z => by rw [z] at h13; exact h13 (by decide)
        obtain ⟨f, rfl⟩ : ∃ g, f = g + 1 := ⟨f - 1, by omega⟩
        have heq : pwF f (if q % 2 = 1 then r * b % 2147483647 else r) (b * b % 2147483647) (q / 2) = pwF n0 1 b0 n0 := by rw [← heq]; conv => rhs; unfold pwF; rw [if_neg hq0]
        refine e_lload C d_MD_power_16 rfl ?_
        refine e_ldc2 C kl_MD_138 d_MD_power_18 ?_
        refine e_lrem C d_MD_power_21 (by decide) ?_
        refine e_st [.long (lN (q % 2))] (by exact congrArg (fun z => [Value.long z]) (lrem_N (a := q) (b := 2) (by omega) (by decide) (by decide) rfl rfl)) ?_
        refine e_lconst (v := 1) C d_MD_power_22 rfl ?_
        refine e_lcmp C d_MD_power_23 ?_
        refine e_st [.int (if 1 < q % 2 then 1 else if q % 2 = 1 then 0 else -1)] (by rw [show (1 : Int64) = lN 1 from rfl, lg_lN (by omega) (by decide)]) ?_
        refine e_if_ne (tgt := 38) C d_MD_power_24 (by decide) (fun h24 => ?_) (fun h24 => ?_)
        · -- 38
          have hodd : ¬ q % 2 = 1 := fun z => by rw [if_neg (by omega), if_pos z] at h24; exact h24 rfl
          refine e_lload C d_MD_power_38 rfl ?_
          refine e_lload C d_MD_power_40 rfl ?_
          refine e_lmul C d_MD_power_42 ?_
          refine e_ldc2 C kl_MD_140 d_MD_power_43 ?_
          refine e_lrem C d_MD_power_46 (by decide) ?_
          refine e_st [.long (lN (b * b % 2147483647))] (by exact congrArg (fun z => [Value.long z]) (lrem_N (a := b * b) (b := 2147483647) (mul_lt62 hb hb) (by decide) (by decide) (lN_mul b b) rfl)) ?_
          refine e_lstore C d_MD_power_47 (by decide) ?_
          refine e_lload C d_MD_power_49 rfl ?_
          refine e_ldc2 C kl_MD_138 d_MD_power_51 ?_
          refine e_ldiv C d_MD_power_54 (by decide) ?_
          refine e_st [.long (lN (q / 2))] (by rw [show (2 : Int64) = lN 2 from rfl, pk_lDiv (by omega) (by decide) (by decide)]) ?_
          refine e_lstore C d_MD_power_55 (by decide) ?_
          refine e_goto (tgt := 9) C d_MD_power_57 (by decide) ?_
          refine e_lv [(4, .long (lN r)), (6, .long (lN (b * b % 2147483647))), (8, .long (lN (q / 2)))] ⟨rfl, rfl, rfl, trivial⟩ ?_
          refine e_ws [] rfl ?_
          exact ihLP f r (b * b % 2147483647) (q / 2) hr (Nat.mod_lt _ (by decide)) (by omega) (by omega) (by rw [← heq, if_neg hodd]) (by omega)
        · -- 27
          have hodd : q % 2 = 1 := by by_cases z : q % 2 = 1; exact z; (rw [if_neg (by omega), if_neg z] at h24; exact absurd h24 (by decide))
          refine e_lload C d_MD_power_27 rfl ?_
          refine e_lload C d_MD_power_29 rfl ?_
          refine e_lmul C d_MD_power_31 ?_
          refine e_ldc2 C kl_MD_140 d_MD_power_32 ?_
          refine e_lrem C d_MD_power_35 (by decide) ?_
          refine e_st [.long (lN (r * b % 2147483647))] (by exact congrArg (fun z => [Value.long z]) (lrem_N (a := r * b) (b := 2147483647) (mul_lt62 hr hb) (by decide) (by decide) (lN_mul r b) rfl)) ?_
          refine e_lstore C d_MD_power_36 (by decide) ?_
          refine e_lload C d_MD_power_38 rfl ?_
          refine e_lload C d_MD_power_40 rfl ?_
          refine e_lmul C d_MD_power_42 ?_
          refine e_ldc2 C kl_MD_140 d_MD_power_43 ?_
          refine e_lrem C d_MD_power_46 (by decide) ?_
          refine e_st [.long (lN (b * b % 2147483647))] (by exact congrArg (fun z => [Value.long z]) (lrem_N (a := b * b) (b := 2147483647) (mul_lt62 hb hb) (by decide) (by decide) (lN_mul b b) rfl)) ?_
          refine e_lstore C d_MD_power_47 (by decide) ?_
          refine e_lload C d_MD_power_49 rfl ?_
          refine e_ldc2 C kl_MD_138 d_MD_power_51 ?_
          refine e_ldiv C d_MD_power_54 (by decide) ?_
          refine e_st [.long (lN (q / 2))] (by rw [show (2 : Int64) = lN 2 from rfl, pk_lDiv (by omega) (by decide) (by decide)]) ?_
          refine e_lstore C d_MD_power_55 (by decide) ?_
          refine e_goto (tgt := 9) C d_MD_power_57 (by decide) ?_
          refine e_lv [(4, .long (lN (r * b % 2147483647))), (6, .long (lN (b * b % 2147483647))), (8, .long (lN (q / 2)))] ⟨rfl, rfl, rfl, trivial⟩ ?_
          refine e_ws [] rfl ?_
          exact ihLP f (r * b % 2147483647) (b * b % 2147483647) (q / 2) (Nat.mod_lt _ (by decide)) (Nat.mod_lt _ (by decide)) (by omega) (by omega) (by rw [← heq, if_pos hodd]) (by omega)
  refine e_lv [(4, .long (lN 1)), (6, .long (lN b0)), (8, .long (lN n0))] ⟨rfl, rfl, rfl, trivial⟩ ?_
  refine e_ws [] rfl ?_
  exact LP _ n0 1 b0 n0 (by decide) hb0 hn0 (Nat.le_refl _) rfl (Nat.lt_succ_self _)

set_option maxHeartbeats 4000000 in
set_option maxRecDepth 100000 in
theorem M_MD_init (l : Launch) (D : va_G) (cI cJ cZ : ClassId) (m : Nat) (kind width height kd : Int32) (w h : Nat) (hw : w ≤ 5) (hh : h ≤ 5) (hw1 : 1 ≤ w) (hh1 : 1 ≤ h) (ek : mheldF kind 0 4 = kd) (ew : mheldF width 1 5 = nI w) (eh : mheldF height 1 5 = nI h) : MK l D cI cJ cZ y_MD_init c_MD_init 4 none 2 44 [.ref m, .int kind, .int width, .int height] [(m, .inr (6, [.int 0, .int 0, .int 0, .int 0, .null, .null, .int 0, .int 0, .int 0, .null, .null, .int 0, .int 0, .null, .null, .int 0, .long 0, .long 0, .null, .null, .null, .null, .null, .null, .null, .null]))] 14 81014 (fun v w1 => ∃ (aho aaw aen ato awa aot awk atr ase ade ala ach apa asq : Nat) (fe2 ft2 : Nat → Int32), v = none ∧ w1 = [oMD m 0 kd (nI w) (nI h) aho aaw (-1) (-1) (nI (mNum w h (fun _ => false) (fun _ => false)).length) aen ato (bI false) (nI 0) awa aot (bI false) 0 0 awk atr ase ade ala ach apa asq, aZ cZ aho 25 (bF (fun _ => false)), aZ cZ aaw 50 (bF (fun _ => false)), aI cI aen 80 fe2, aI cI ato 40 ft2, aJ cJ awa 40000 (fun _ => 0), aJ cJ aot 40000 (fun _ => 0), aI cI awk 26 (fun _ => 0), aI cI atr 26 (fun _ => 0), aJ cJ ase 26 (fun _ => 0), aI cI ade 25 (fun _ => 0), aI cI ala 25 (fun _ => 0), aI cI ach 41 (fun _ => 0), aI cI apa 25 (fun _ => 0), aJ cJ asq 625 (fun _ => 0)] ∧ enR (mNum w h (fun _ => false) (fun _ => false)) fe2 ∧ (∀ i, i < 40 → ft2 i = 0)) := by
  refine MC.of (by decide) bigW_good (Nat.le_of_ble_eq_true rfl) (fun κ C Z IN => ?_)
  refine e_aload_n C d_MD_init_0 rfl rfl ?_
  refine e_objInit C ml_MD_1 imm_objectInit cod_objectInit d_MD_init_1 (Nat.le_of_ble_eq_true rfl) (Nat.le_of_ble_eq_true rfl) ?_
  refine e_aload_n C d_MD_init_4 rfl rfl ?_
  refine e_bipush (v := 25) C d_MD_init_5 (by decide) ?_
  refine e_st [.int (nI 25), .ref m] rfl ?_
  refine e_newZ (N := 25) C 2 rfl ac_boolean (nI_pos (by decide)) (nI_clamp (by decide)) (by decide) (Nat.le_of_ble_eq_true rfl) (Nat.le_of_ble_eq_true rfl) d_MD_init_7 (fun aho => ?_)
  refine e_wide (k' := 1) (n' := 25) (Nat.le_of_ble_eq_true rfl) (Nat.le_of_ble_eq_true rfl) ?_
  refine e_ws [(m, .inr (6, [.int 0, .int 0, .int 0, .int 0, .null, .null, .int 0, .int 0, .int 0, .null, .null, .int 0, .int 0, .null, .null, .int 0, .long 0, .long 0, .null, .null, .null, .null, .null, .null, .null, .null])), aZ cZ aho 25 (bF (fun _ => false))] rfl ?_
  refine e_putF C IN hin_MD ty_MD tyk_MD nm_MD 0 rfl rfl 4 (by decide) fl_MD_7 rfl rfl rfl rfl (Nat.le_of_ble_eq_true rfl) d_MD_init_9 ?_
  refine e_ws [(m, .inr (6, [.int 0, .int 0, .int 0, .int 0, .ref aho, .null, .int 0, .int 0, .int 0, .null, .null, .int 0, .int 0, .null, .null, .int 0, .long 0, .long 0, .null, .null, .null, .null, .null, .null, .null, .null])), aZ cZ aho 25 (bF (fun _ => false))] rfl ?_
  refine e_aload_n C d_MD_init_12 rfl rfl ?_
  refine e_bipush (v := 50) C d_MD_init_13 (by decide) ?_
  refine e_st [.int (nI 50), .ref m] rfl ?_
  refine e_newZ (N := 50) C 2 rfl ac_boolean (nI_pos (by decide)) (nI_clamp (by decide)) (by decide) (Nat.le_of_ble_eq_true rfl) (Nat.le_of_ble_eq_true rfl) d_MD_init_15 (fun aaw => ?_)
  refine e_wide (k' := 2) (n' := 75) (Nat.le_of_ble_eq_true rfl) (Nat.le_of_ble_eq_true rfl) ?_
  refine e_ws [(m, .inr (6, [.int 0, .int 0, .int 0, .int 0, .ref aho, .null, .int 0, .int 0, .int 0, .null, .null, .int 0, .int 0, .null, .null, .int 0, .long 0, .long 0, .null, .null, .null, .null, .null, .null, .null, .null])), aZ cZ aho 25 (bF (fun _ => false)), aZ cZ aaw 50 (bF (fun _ => false))] rfl ?_
  refine e_putF C IN hin_MD ty_MD tyk_MD nm_MD 0 rfl rfl 5 (by decide) fl_MD_13 rfl rfl rfl rfl (Nat.le_of_ble_eq_true rfl) d_MD_init_17 ?_
  refine e_ws [(m, .inr (6, [.int 0, .int 0, .int 0, .int 0, .ref aho, .ref aaw, .int 0, .int 0, .int 0, .null, .null, .int 0, .int 0, .null, .null, .int 0, .long 0, .long 0, .null, .null, .null, .null, .null, .null, .null, .null])), aZ cZ aho 25 (bF (fun _ => false)), aZ cZ aaw 50 (bF (fun _ => false))] rfl ?_
  refine e_aload_n C d_MD_init_20 rfl rfl ?_
  refine e_iconst (v := (-1)) C d_MD_init_21 rfl ?_
  refine e_put C hin_MD ty_MD tyk_MD nm_MD 0 rfl rfl 6 (by decide) fl_MD_16 rfl rfl rfl (Nat.le_of_ble_eq_true rfl) d_MD_init_22 ?_
  refine e_ws [(m, .inr (6, [.int 0, .int 0, .int 0, .int 0, .ref aho, .ref aaw, .int (-1), .int 0, .int 0, .null, .null, .int 0, .int 0, .null, .null, .int 0, .long 0, .long 0, .null, .null, .null, .null, .null, .null, .null, .null])), aZ cZ aho 25 (bF (fun _ => false)), aZ cZ aaw 50 (bF (fun _ => false))] rfl ?_
  refine e_aload_n C d_MD_init_25 rfl rfl ?_
  refine e_iconst (v := (-1)) C d_MD_init_26 rfl ?_
  refine e_put C hin_MD ty_MD tyk_MD nm_MD 0 rfl rfl 7 (by decide) fl_MD_20 rfl rfl rfl (Nat.le_of_ble_eq_true rfl) d_MD_init_27 ?_
  refine e_ws [(m, .inr (6, [.int 0, .int 0, .int 0, .int 0, .ref aho, .ref aaw, .int (-1), .int (-1), .int 0, .null, .null, .int 0, .int 0, .null, .null, .int 0, .long 0, .long 0, .null, .null, .null, .null, .null, .null, .null, .null])), aZ cZ aho 25 (bF (fun _ => false)), aZ cZ aaw 50 (bF (fun _ => false))] rfl ?_
  refine e_aload_n C d_MD_init_30 rfl rfl ?_
  refine e_bipush (v := 80) C d_MD_init_31 (by decide) ?_
  refine e_st [.int (nI 80), .ref m] rfl ?_
  refine e_newI (N := 80) C 0 rfl ac_int (nI_pos (by decide)) (nI_clamp (by decide)) (by decide) (Nat.le_of_ble_eq_true rfl) (Nat.le_of_ble_eq_true rfl) d_MD_init_33 (fun aen => ?_)
  refine e_wide (k' := 3) (n' := 155) (Nat.le_of_ble_eq_true rfl) (Nat.le_of_ble_eq_true rfl) ?_
  refine e_ws [(m, .inr (6, [.int 0, .int 0, .int 0, .int 0, .ref aho, .ref aaw, .int (-1), .int (-1), .int 0, .null, .null, .int 0, .int 0, .null, .null, .int 0, .long 0, .long 0, .null, .null, .null, .null, .null, .null, .null, .null])), aZ cZ aho 25 (bF (fun _ => false)), aZ cZ aaw 50 (bF (fun _ => false)), aI cI aen 80 (fun _ => 0)] rfl ?_
  refine e_putF C IN hin_MD ty_MD tyk_MD nm_MD 0 rfl rfl 9 (by decide) fl_MD_23 rfl rfl rfl rfl (Nat.le_of_ble_eq_true rfl) d_MD_init_35 ?_
  refine e_ws [(m, .inr (6, [.int 0, .int 0, .int 0, .int 0, .ref aho, .ref aaw, .int (-1), .int (-1), .int 0, .ref aen, .null, .int 0, .int 0, .null, .null, .int 0, .long 0, .long 0, .null, .null, .null, .null, .null, .null, .null, .null])), aZ cZ aho 25 (bF (fun _ => false)), aZ cZ aaw 50 (bF (fun _ => false)), aI cI aen 80 (fun _ => 0)] rfl ?_
  refine e_aload_n C d_MD_init_38 rfl rfl ?_
  refine e_bipush (v := 40) C d_MD_init_39 (by decide) ?_
  refine e_st [.int (nI 40), .ref m] rfl ?_
  refine e_newI (N := 40) C 0 rfl ac_int (nI_pos (by decide)) (nI_clamp (by decide)) (by decide) (Nat.le_of_ble_eq_true rfl) (Nat.le_of_ble_eq_true rfl) d_MD_init_41 (fun ato => ?_)
  refine e_wide (k' := 4) (n' := 195) (Nat.le_of_ble_eq_true rfl) (Nat.le_of_ble_eq_true rfl) ?_
  refine e_ws [(m, .inr (6, [.int 0, .int 0, .int 0, .int 0, .ref aho, .ref aaw, .int (-1), .int (-1), .int 0, .ref aen, .null, .int 0, .int 0, .null, .null, .int 0, .long 0, .long 0, .null, .null, .null, .null, .null, .null, .null, .null])), aZ cZ aho 25 (bF (fun _ => false)), aZ cZ aaw 50 (bF (fun _ => false)), aI cI aen 80 (fun _ => 0), aI cI ato 40 (fun _ => 0)] rfl ?_
  refine e_putF C IN hin_MD ty_MD tyk_MD nm_MD 0 rfl rfl 10 (by decide) fl_MD_27 rfl rfl rfl rfl (Nat.le_of_ble_eq_true rfl) d_MD_init_43 ?_
  refine e_ws [(m, .inr (6, [.int 0, .int 0, .int 0, .int 0, .ref aho, .ref aaw, .int (-1), .int (-1), .int 0, .ref aen, .ref ato, .int 0, .int 0, .null, .null, .int 0, .long 0, .long 0, .null, .null, .null, .null, .null, .null, .null, .null])), aZ cZ aho 25 (bF (fun _ => false)), aZ cZ aaw 50 (bF (fun _ => false)), aI cI aen 80 (fun _ => 0), aI cI ato 40 (fun _ => 0)] rfl ?_
  refine e_aload_n C d_MD_init_46 rfl rfl ?_
  refine e_ldc C kl_MD_30 d_MD_init_47 ?_
  refine e_st [.int (nI 40000), .ref m] rfl ?_
  refine e_newJ (N := 40000) C 1 rfl ac_long (nI_pos (by decide)) (nI_clamp (by decide)) (by decide) (Nat.le_of_ble_eq_true rfl) (Nat.le_of_ble_eq_true rfl) d_MD_init_49 (fun awa => ?_)
  refine e_wide (k' := 5) (n' := 40195) (Nat.le_of_ble_eq_true rfl) (Nat.le_of_ble_eq_true rfl) ?_
  refine e_ws [(m, .inr (6, [.int 0, .int 0, .int 0, .int 0, .ref aho, .ref aaw, .int (-1), .int (-1), .int 0, .ref aen, .ref ato, .int 0, .int 0, .null, .null, .int 0, .long 0, .long 0, .null, .null, .null, .null, .null, .null, .null, .null])), aZ cZ aho 25 (bF (fun _ => false)), aZ cZ aaw 50 (bF (fun _ => false)), aI cI aen 80 (fun _ => 0), aI cI ato 40 (fun _ => 0), aJ cJ awa 40000 (fun _ => 0)] rfl ?_
  refine e_put C hin_MD ty_MD tyk_MD nm_MD 0 rfl rfl 13 (by decide) fl_MD_31 rfl rfl rfl (Nat.le_of_ble_eq_true rfl) d_MD_init_51 ?_
  refine e_ws [(m, .inr (6, [.int 0, .int 0, .int 0, .int 0, .ref aho, .ref aaw, .int (-1), .int (-1), .int 0, .ref aen, .ref ato, .int 0, .int 0, .ref awa, .null, .int 0, .long 0, .long 0, .null, .null, .null, .null, .null, .null, .null, .null])), aZ cZ aho 25 (bF (fun _ => false)), aZ cZ aaw 50 (bF (fun _ => false)), aI cI aen 80 (fun _ => 0), aI cI ato 40 (fun _ => 0), aJ cJ awa 40000 (fun _ => 0)] rfl ?_
  refine e_aload_n C d_MD_init_54 rfl rfl ?_
  refine e_ldc C kl_MD_30 d_MD_init_55 ?_
  refine e_st [.int (nI 40000), .ref m] rfl ?_
  refine e_newJ (N := 40000) C 1 rfl ac_long (nI_pos (by decide)) (nI_clamp (by decide)) (by decide) (Nat.le_of_ble_eq_true rfl) (Nat.le_of_ble_eq_true rfl) d_MD_init_57 (fun aot => ?_)
  refine e_wide (k' := 6) (n' := 80195) (Nat.le_of_ble_eq_true rfl) (Nat.le_of_ble_eq_true rfl) ?_
  refine e_ws [(m, .inr (6, [.int 0, .int 0, .int 0, .int 0, .ref aho, .ref aaw, .int (-1), .int (-1), .int 0, .ref aen, .ref ato, .int 0, .int 0, .ref awa, .null, .int 0, .long 0, .long 0, .null, .null, .null, .null, .null, .null, .null, .null])), aZ cZ aho 25 (bF (fun _ => false)), aZ cZ aaw 50 (bF (fun _ => false)), aI cI aen 80 (fun _ => 0), aI cI ato 40 (fun _ => 0), aJ cJ awa 40000 (fun _ => 0), aJ cJ aot 40000 (fun _ => 0)] rfl ?_
  refine e_put C hin_MD ty_MD tyk_MD nm_MD 0 rfl rfl 14 (by decide) fl_MD_35 rfl rfl rfl (Nat.le_of_ble_eq_true rfl) d_MD_init_59 ?_
  refine e_ws [(m, .inr (6, [.int 0, .int 0, .int 0, .int 0, .ref aho, .ref aaw, .int (-1), .int (-1), .int 0, .ref aen, .ref ato, .int 0, .int 0, .ref awa, .ref aot, .int 0, .long 0, .long 0, .null, .null, .null, .null, .null, .null, .null, .null])), aZ cZ aho 25 (bF (fun _ => false)), aZ cZ aaw 50 (bF (fun _ => false)), aI cI aen 80 (fun _ => 0), aI cI ato 40 (fun _ => 0), aJ cJ awa 40000 (fun _ => 0), aJ cJ aot 40000 (fun _ => 0)] rfl ?_
  refine e_aload_n C d_MD_init_62 rfl rfl ?_
  refine e_bipush (v := 26) C d_MD_init_63 (by decide) ?_
  refine e_st [.int (nI 26), .ref m] rfl ?_
  refine e_newI (N := 26) C 0 rfl ac_int (nI_pos (by decide)) (nI_clamp (by decide)) (by decide) (Nat.le_of_ble_eq_true rfl) (Nat.le_of_ble_eq_true rfl) d_MD_init_65 (fun awk => ?_)
  refine e_wide (k' := 7) (n' := 80221) (Nat.le_of_ble_eq_true rfl) (Nat.le_of_ble_eq_true rfl) ?_
  refine e_ws [(m, .inr (6, [.int 0, .int 0, .int 0, .int 0, .ref aho, .ref aaw, .int (-1), .int (-1), .int 0, .ref aen, .ref ato, .int 0, .int 0, .ref awa, .ref aot, .int 0, .long 0, .long 0, .null, .null, .null, .null, .null, .null, .null, .null])), aZ cZ aho 25 (bF (fun _ => false)), aZ cZ aaw 50 (bF (fun _ => false)), aI cI aen 80 (fun _ => 0), aI cI ato 40 (fun _ => 0), aJ cJ awa 40000 (fun _ => 0), aJ cJ aot 40000 (fun _ => 0), aI cI awk 26 (fun _ => 0)] rfl ?_
  refine e_putF C IN hin_MD ty_MD tyk_MD nm_MD 0 rfl rfl 18 (by decide) fl_MD_38 rfl rfl rfl rfl (Nat.le_of_ble_eq_true rfl) d_MD_init_67 ?_
  refine e_ws [(m, .inr (6, [.int 0, .int 0, .int 0, .int 0, .ref aho, .ref aaw, .int (-1), .int (-1), .int 0, .ref aen, .ref ato, .int 0, .int 0, .ref awa, .ref aot, .int 0, .long 0, .long 0, .ref awk, .null, .null, .null, .null, .null, .null, .null])), aZ cZ aho 25 (bF (fun _ => false)), aZ cZ aaw 50 (bF (fun _ => false)), aI cI aen 80 (fun _ => 0), aI cI ato 40 (fun _ => 0), aJ cJ awa 40000 (fun _ => 0), aJ cJ aot 40000 (fun _ => 0), aI cI awk 26 (fun _ => 0)] rfl ?_
  refine e_aload_n C d_MD_init_70 rfl rfl ?_
  refine e_bipush (v := 26) C d_MD_init_71 (by decide) ?_
  refine e_st [.int (nI 26), .ref m] rfl ?_
  refine e_newI (N := 26) C 0 rfl ac_int (nI_pos (by decide)) (nI_clamp (by decide)) (by decide) (Nat.le_of_ble_eq_true rfl) (Nat.le_of_ble_eq_true rfl) d_MD_init_73 (fun atr => ?_)
  refine e_wide (k' := 8) (n' := 80247) (Nat.le_of_ble_eq_true rfl) (Nat.le_of_ble_eq_true rfl) ?_
  refine e_ws [(m, .inr (6, [.int 0, .int 0, .int 0, .int 0, .ref aho, .ref aaw, .int (-1), .int (-1), .int 0, .ref aen, .ref ato, .int 0, .int 0, .ref awa, .ref aot, .int 0, .long 0, .long 0, .ref awk, .null, .null, .null, .null, .null, .null, .null])), aZ cZ aho 25 (bF (fun _ => false)), aZ cZ aaw 50 (bF (fun _ => false)), aI cI aen 80 (fun _ => 0), aI cI ato 40 (fun _ => 0), aJ cJ awa 40000 (fun _ => 0), aJ cJ aot 40000 (fun _ => 0), aI cI awk 26 (fun _ => 0), aI cI atr 26 (fun _ => 0)] rfl ?_
  refine e_putF C IN hin_MD ty_MD tyk_MD nm_MD 0 rfl rfl 19 (by decide) fl_MD_41 rfl rfl rfl rfl (Nat.le_of_ble_eq_true rfl) d_MD_init_75 ?_
  refine e_ws [(m, .inr (6, [.int 0, .int 0, .int 0, .int 0, .ref aho, .ref aaw, .int (-1), .int (-1), .int 0, .ref aen, .ref ato, .int 0, .int 0, .ref awa, .ref aot, .int 0, .long 0, .long 0, .ref awk, .ref atr, .null, .null, .null, .null, .null, .null])), aZ cZ aho 25 (bF (fun _ => false)), aZ cZ aaw 50 (bF (fun _ => false)), aI cI aen 80 (fun _ => 0), aI cI ato 40 (fun _ => 0), aJ cJ awa 40000 (fun _ => 0), aJ cJ aot 40000 (fun _ => 0), aI cI awk 26 (fun _ => 0), aI cI atr 26 (fun _ => 0)] rfl ?_
  refine e_aload_n C d_MD_init_78 rfl rfl ?_
  refine e_bipush (v := 26) C d_MD_init_79 (by decide) ?_
  refine e_st [.int (nI 26), .ref m] rfl ?_
  refine e_newJ (N := 26) C 1 rfl ac_long (nI_pos (by decide)) (nI_clamp (by decide)) (by decide) (Nat.le_of_ble_eq_true rfl) (Nat.le_of_ble_eq_true rfl) d_MD_init_81 (fun ase => ?_)
  refine e_wide (k' := 9) (n' := 80273) (Nat.le_of_ble_eq_true rfl) (Nat.le_of_ble_eq_true rfl) ?_
  refine e_ws [(m, .inr (6, [.int 0, .int 0, .int 0, .int 0, .ref aho, .ref aaw, .int (-1), .int (-1), .int 0, .ref aen, .ref ato, .int 0, .int 0, .ref awa, .ref aot, .int 0, .long 0, .long 0, .ref awk, .ref atr, .null, .null, .null, .null, .null, .null])), aZ cZ aho 25 (bF (fun _ => false)), aZ cZ aaw 50 (bF (fun _ => false)), aI cI aen 80 (fun _ => 0), aI cI ato 40 (fun _ => 0), aJ cJ awa 40000 (fun _ => 0), aJ cJ aot 40000 (fun _ => 0), aI cI awk 26 (fun _ => 0), aI cI atr 26 (fun _ => 0), aJ cJ ase 26 (fun _ => 0)] rfl ?_
  refine e_putF C IN hin_MD ty_MD tyk_MD nm_MD 0 rfl rfl 20 (by decide) fl_MD_44 rfl rfl rfl rfl (Nat.le_of_ble_eq_true rfl) d_MD_init_83 ?_
  refine e_ws [(m, .inr (6, [.int 0, .int 0, .int 0, .int 0, .ref aho, .ref aaw, .int (-1), .int (-1), .int 0, .ref aen, .ref ato, .int 0, .int 0, .ref awa, .ref aot, .int 0, .long 0, .long 0, .ref awk, .ref atr, .ref ase, .null, .null, .null, .null, .null])), aZ cZ aho 25 (bF (fun _ => false)), aZ cZ aaw 50 (bF (fun _ => false)), aI cI aen 80 (fun _ => 0), aI cI ato 40 (fun _ => 0), aJ cJ awa 40000 (fun _ => 0), aJ cJ aot 40000 (fun _ => 0), aI cI awk 26 (fun _ => 0), aI cI atr 26 (fun _ => 0), aJ cJ ase 26 (fun _ => 0)] rfl ?_
  refine e_aload_n C d_MD_init_86 rfl rfl ?_
  refine e_bipush (v := 25) C d_MD_init_87 (by decide) ?_
  refine e_st [.int (nI 25), .ref m] rfl ?_
  refine e_newI (N := 25) C 0 rfl ac_int (nI_pos (by decide)) (nI_clamp (by decide)) (by decide) (Nat.le_of_ble_eq_true rfl) (Nat.le_of_ble_eq_true rfl) d_MD_init_89 (fun ade => ?_)
  refine e_wide (k' := 10) (n' := 80298) (Nat.le_of_ble_eq_true rfl) (Nat.le_of_ble_eq_true rfl) ?_
  refine e_ws [(m, .inr (6, [.int 0, .int 0, .int 0, .int 0, .ref aho, .ref aaw, .int (-1), .int (-1), .int 0, .ref aen, .ref ato, .int 0, .int 0, .ref awa, .ref aot, .int 0, .long 0, .long 0, .ref awk, .ref atr, .ref ase, .null, .null, .null, .null, .null])), aZ cZ aho 25 (bF (fun _ => false)), aZ cZ aaw 50 (bF (fun _ => false)), aI cI aen 80 (fun _ => 0), aI cI ato 40 (fun _ => 0), aJ cJ awa 40000 (fun _ => 0), aJ cJ aot 40000 (fun _ => 0), aI cI awk 26 (fun _ => 0), aI cI atr 26 (fun _ => 0), aJ cJ ase 26 (fun _ => 0), aI cI ade 25 (fun _ => 0)] rfl ?_
  refine e_putF C IN hin_MD ty_MD tyk_MD nm_MD 0 rfl rfl 21 (by decide) fl_MD_47 rfl rfl rfl rfl (Nat.le_of_ble_eq_true rfl) d_MD_init_91 ?_
  refine e_ws [(m, .inr (6, [.int 0, .int 0, .int 0, .int 0, .ref aho, .ref aaw, .int (-1), .int (-1), .int 0, .ref aen, .ref ato, .int 0, .int 0, .ref awa, .ref aot, .int 0, .long 0, .long 0, .ref awk, .ref atr, .ref ase, .ref ade, .null, .null, .null, .null])), aZ cZ aho 25 (bF (fun _ => false)), aZ cZ aaw 50 (bF (fun _ => false)), aI cI aen 80 (fun _ => 0), aI cI ato 40 (fun _ => 0), aJ cJ awa 40000 (fun _ => 0), aJ cJ aot 40000 (fun _ => 0), aI cI awk 26 (fun _ => 0), aI cI atr 26 (fun _ => 0), aJ cJ ase 26 (fun _ => 0), aI cI ade 25 (fun _ => 0)] rfl ?_
  refine e_aload_n C d_MD_init_94 rfl rfl ?_
  refine e_bipush (v := 25) C d_MD_init_95 (by decide) ?_
  refine e_st [.int (nI 25), .ref m] rfl ?_
  refine e_newI (N := 25) C 0 rfl ac_int (nI_pos (by decide)) (nI_clamp (by decide)) (by decide) (Nat.le_of_ble_eq_true rfl) (Nat.le_of_ble_eq_true rfl) d_MD_init_97 (fun ala => ?_)
  refine e_wide (k' := 11) (n' := 80323) (Nat.le_of_ble_eq_true rfl) (Nat.le_of_ble_eq_true rfl) ?_
  refine e_ws [(m, .inr (6, [.int 0, .int 0, .int 0, .int 0, .ref aho, .ref aaw, .int (-1), .int (-1), .int 0, .ref aen, .ref ato, .int 0, .int 0, .ref awa, .ref aot, .int 0, .long 0, .long 0, .ref awk, .ref atr, .ref ase, .ref ade, .null, .null, .null, .null])), aZ cZ aho 25 (bF (fun _ => false)), aZ cZ aaw 50 (bF (fun _ => false)), aI cI aen 80 (fun _ => 0), aI cI ato 40 (fun _ => 0), aJ cJ awa 40000 (fun _ => 0), aJ cJ aot 40000 (fun _ => 0), aI cI awk 26 (fun _ => 0), aI cI atr 26 (fun _ => 0), aJ cJ ase 26 (fun _ => 0), aI cI ade 25 (fun _ => 0), aI cI ala 25 (fun _ => 0)] rfl ?_
  refine e_putF C IN hin_MD ty_MD tyk_MD nm_MD 0 rfl rfl 22 (by decide) fl_MD_50 rfl rfl rfl rfl (Nat.le_of_ble_eq_true rfl) d_MD_init_99 ?_
  refine e_ws [(m, .inr (6, [.int 0, .int 0, .int 0, .int 0, .ref aho, .ref aaw, .int (-1), .int (-1), .int 0, .ref aen, .ref ato, .int 0, .int 0, .ref awa, .ref aot, .int 0, .long 0, .long 0, .ref awk, .ref atr, .ref ase, .ref ade, .ref ala, .null, .null, .null])), aZ cZ aho 25 (bF (fun _ => false)), aZ cZ aaw 50 (bF (fun _ => false)), aI cI aen 80 (fun _ => 0), aI cI ato 40 (fun _ => 0), aJ cJ awa 40000 (fun _ => 0), aJ cJ aot 40000 (fun _ => 0), aI cI awk 26 (fun _ => 0), aI cI atr 26 (fun _ => 0), aJ cJ ase 26 (fun _ => 0), aI cI ade 25 (fun _ => 0), aI cI ala 25 (fun _ => 0)] rfl ?_
  refine e_aload_n C d_MD_init_102 rfl rfl ?_
  refine e_bipush (v := 41) C d_MD_init_103 (by decide) ?_
  refine e_st [.int (nI 41), .ref m] rfl ?_
  refine e_newI (N := 41) C 0 rfl ac_int (nI_pos (by decide)) (nI_clamp (by decide)) (by decide) (Nat.le_of_ble_eq_true rfl) (Nat.le_of_ble_eq_true rfl) d_MD_init_105 (fun ach => ?_)
  refine e_wide (k' := 12) (n' := 80364) (Nat.le_of_ble_eq_true rfl) (Nat.le_of_ble_eq_true rfl) ?_
  refine e_ws [(m, .inr (6, [.int 0, .int 0, .int 0, .int 0, .ref aho, .ref aaw, .int (-1), .int (-1), .int 0, .ref aen, .ref ato, .int 0, .int 0, .ref awa, .ref aot, .int 0, .long 0, .long 0, .ref awk, .ref atr, .ref ase, .ref ade, .ref ala, .null, .null, .null])), aZ cZ aho 25 (bF (fun _ => false)), aZ cZ aaw 50 (bF (fun _ => false)), aI cI aen 80 (fun _ => 0), aI cI ato 40 (fun _ => 0), aJ cJ awa 40000 (fun _ => 0), aJ cJ aot 40000 (fun _ => 0), aI cI awk 26 (fun _ => 0), aI cI atr 26 (fun _ => 0), aJ cJ ase 26 (fun _ => 0), aI cI ade 25 (fun _ => 0), aI cI ala 25 (fun _ => 0), aI cI ach 41 (fun _ => 0)] rfl ?_
  refine e_putF C IN hin_MD ty_MD tyk_MD nm_MD 0 rfl rfl 23 (by decide) fl_MD_53 rfl rfl rfl rfl (Nat.le_of_ble_eq_true rfl) d_MD_init_107 ?_
  refine e_ws [(m, .inr (6, [.int 0, .int 0, .int 0, .int 0, .ref aho, .ref aaw, .int (-1), .int (-1), .int 0, .ref aen, .ref ato, .int 0, .int 0, .ref awa, .ref aot, .int 0, .long 0, .long 0, .ref awk, .ref atr, .ref ase, .ref ade, .ref ala, .ref ach, .null, .null])), aZ cZ aho 25 (bF (fun _ => false)), aZ cZ aaw 50 (bF (fun _ => false)), aI cI aen 80 (fun _ => 0), aI cI ato 40 (fun _ => 0), aJ cJ awa 40000 (fun _ => 0), aJ cJ aot 40000 (fun _ => 0), aI cI awk 26 (fun _ => 0), aI cI atr 26 (fun _ => 0), aJ cJ ase 26 (fun _ => 0), aI cI ade 25 (fun _ => 0), aI cI ala 25 (fun _ => 0), aI cI ach 41 (fun _ => 0)] rfl ?_
  refine e_aload_n C d_MD_init_110 rfl rfl ?_
  refine e_bipush (v := 25) C d_MD_init_111 (by decide) ?_
  refine e_st [.int (nI 25), .ref m] rfl ?_
  refine e_newI (N := 25) C 0 rfl ac_int (nI_pos (by decide)) (nI_clamp (by decide)) (by decide) (Nat.le_of_ble_eq_true rfl) (Nat.le_of_ble_eq_true rfl) d_MD_init_113 (fun apa => ?_)
  refine e_wide (k' := 13) (n' := 80389) (Nat.le_of_ble_eq_true rfl) (Nat.le_of_ble_eq_true rfl) ?_
  refine e_ws [(m, .inr (6, [.int 0, .int 0, .int 0, .int 0, .ref aho, .ref aaw, .int (-1), .int (-1), .int 0, .ref aen, .ref ato, .int 0, .int 0, .ref awa, .ref aot, .int 0, .long 0, .long 0, .ref awk, .ref atr, .ref ase, .ref ade, .ref ala, .ref ach, .null, .null])), aZ cZ aho 25 (bF (fun _ => false)), aZ cZ aaw 50 (bF (fun _ => false)), aI cI aen 80 (fun _ => 0), aI cI ato 40 (fun _ => 0), aJ cJ awa 40000 (fun _ => 0), aJ cJ aot 40000 (fun _ => 0), aI cI awk 26 (fun _ => 0), aI cI atr 26 (fun _ => 0), aJ cJ ase 26 (fun _ => 0), aI cI ade 25 (fun _ => 0), aI cI ala 25 (fun _ => 0), aI cI ach 41 (fun _ => 0), aI cI apa 25 (fun _ => 0)] rfl ?_
  refine e_putF C IN hin_MD ty_MD tyk_MD nm_MD 0 rfl rfl 24 (by decide) fl_MD_56 rfl rfl rfl rfl (Nat.le_of_ble_eq_true rfl) d_MD_init_115 ?_
  refine e_ws [(m, .inr (6, [.int 0, .int 0, .int 0, .int 0, .ref aho, .ref aaw, .int (-1), .int (-1), .int 0, .ref aen, .ref ato, .int 0, .int 0, .ref awa, .ref aot, .int 0, .long 0, .long 0, .ref awk, .ref atr, .ref ase, .ref ade, .ref ala, .ref ach, .ref apa, .null])), aZ cZ aho 25 (bF (fun _ => false)), aZ cZ aaw 50 (bF (fun _ => false)), aI cI aen 80 (fun _ => 0), aI cI ato 40 (fun _ => 0), aJ cJ awa 40000 (fun _ => 0), aJ cJ aot 40000 (fun _ => 0), aI cI awk 26 (fun _ => 0), aI cI atr 26 (fun _ => 0), aJ cJ ase 26 (fun _ => 0), aI cI ade 25 (fun _ => 0), aI cI ala 25 (fun _ => 0), aI cI ach 41 (fun _ => 0), aI cI apa 25 (fun _ => 0)] rfl ?_
  refine e_aload_n C d_MD_init_118 rfl rfl ?_
  refine e_sipush (v := 625) C d_MD_init_119 (by decide) ?_
  refine e_st [.int (nI 625), .ref m] rfl ?_
  refine e_newJ (N := 625) C 1 rfl ac_long (nI_pos (by decide)) (nI_clamp (by decide)) (by decide) (Nat.le_of_ble_eq_true rfl) (Nat.le_of_ble_eq_true rfl) d_MD_init_122 (fun asq => ?_)
  refine e_wide (k' := 14) (n' := 81014) (Nat.le_of_ble_eq_true rfl) (Nat.le_of_ble_eq_true rfl) ?_
  refine e_ws [(m, .inr (6, [.int 0, .int 0, .int 0, .int 0, .ref aho, .ref aaw, .int (-1), .int (-1), .int 0, .ref aen, .ref ato, .int 0, .int 0, .ref awa, .ref aot, .int 0, .long 0, .long 0, .ref awk, .ref atr, .ref ase, .ref ade, .ref ala, .ref ach, .ref apa, .null])), aZ cZ aho 25 (bF (fun _ => false)), aZ cZ aaw 50 (bF (fun _ => false)), aI cI aen 80 (fun _ => 0), aI cI ato 40 (fun _ => 0), aJ cJ awa 40000 (fun _ => 0), aJ cJ aot 40000 (fun _ => 0), aI cI awk 26 (fun _ => 0), aI cI atr 26 (fun _ => 0), aJ cJ ase 26 (fun _ => 0), aI cI ade 25 (fun _ => 0), aI cI ala 25 (fun _ => 0), aI cI ach 41 (fun _ => 0), aI cI apa 25 (fun _ => 0), aJ cJ asq 625 (fun _ => 0)] rfl ?_
  refine e_putF C IN hin_MD ty_MD tyk_MD nm_MD 0 rfl rfl 25 (by decide) fl_MD_59 rfl rfl rfl rfl (Nat.le_of_ble_eq_true rfl) d_MD_init_124 ?_
  refine e_ws [oMD m 0 0 0 0 aho aaw (-1) (-1) 0 aen ato 0 0 awa aot 0 0 0 awk atr ase ade ala ach apa asq, aZ cZ aho 25 (bF (fun _ => false)), aZ cZ aaw 50 (bF (fun _ => false)), aI cI aen 80 (fun _ => 0), aI cI ato 40 (fun _ => 0), aJ cJ awa 40000 (fun _ => 0), aJ cJ aot 40000 (fun _ => 0), aI cI awk 26 (fun _ => 0), aI cI atr 26 (fun _ => 0), aJ cJ ase 26 (fun _ => 0), aI cI ade 25 (fun _ => 0), aI cI ala 25 (fun _ => 0), aI cI ach 41 (fun _ => 0), aI cI apa 25 (fun _ => 0), aJ cJ asq 625 (fun _ => 0)] rfl ?_
  refine e_aload_n C d_MD_init_127 rfl rfl ?_
  refine e_iload_n C d_MD_init_128 rfl rfl ?_
  refine e_iconst (v := 0) C d_MD_init_129 rfl ?_
  refine e_iconst (v := 4) C d_MD_init_130 rfl ?_
  refine e_callS (As := [.int kind, .int 0, .int 4]) (st := [.ref m]) (wc := []) (wr := [oMD m 0 0 0 0 aho aaw (-1) (-1) 0 aen ato 0 0 awa aot 0 0 0 awk atr ase ade ala ach apa asq, aZ cZ aho 25 (bF (fun _ => false)), aZ cZ aaw 50 (bF (fun _ => false)), aI cI aen 80 (fun _ => 0), aI cI ato 40 (fun _ => 0), aJ cJ awa 40000 (fun _ => 0), aJ cJ aot 40000 (fun _ => 0), aI cI awk 26 (fun _ => 0), aI cI atr 26 (fun _ => 0), aJ cJ ase 26 (fun _ => 0), aI cI ade 25 (fun _ => 0), aI cI ala 25 (fun _ => 0), aI cI ach 41 (fun _ => 0), aI cI apa 25 (fun _ => 0), aJ cJ asq 625 (fun _ => 0)]) C (M_MD_held l D cI cJ cZ kind 0 4) s_MD_held ml_MD_62 nwW_ok ⟨Nat.le_of_ble_eq_true rfl, Nat.le_of_ble_eq_true rfl⟩ ⟨Nat.le_of_ble_eq_true rfl, Nat.le_of_ble_eq_true rfl⟩ [] [0, 1, 2, 3, 4, 5, 6, 7, 8, 9, 10, 11, 12, 13, 14] rfl rfl rfl rfl (by decide) (Nat.le_of_ble_eq_true rfl) rfl d_MD_init_131 (fun v w1 hp => ?_)
  obtain ⟨rfl, rfl⟩ := hp
  refine e_perm (st' := [.int (mheldF kind 0 4), .ref m]) (ws' := [oMD m 0 0 0 0 aho aaw (-1) (-1) 0 aen ato 0 0 awa aot 0 0 0 awk atr ase ade ala ach apa asq, aZ cZ aho 25 (bF (fun _ => false)), aZ cZ aaw 50 (bF (fun _ => false)), aI cI aen 80 (fun _ => 0), aI cI ato 40 (fun _ => 0), aJ cJ awa 40000 (fun _ => 0), aJ cJ aot 40000 (fun _ => 0), aI cI awk 26 (fun _ => 0), aI cI atr 26 (fun _ => 0), aJ cJ ase 26 (fun _ => 0), aI cI ade 25 (fun _ => 0), aI cI ala 25 (fun _ => 0), aI cI ach 41 (fun _ => 0), aI cI apa 25 (fun _ => 0), aJ cJ asq 625 (fun _ => 0)]) [0, 1, 2, 3, 4, 5, 6, 7, 8, 9, 10, 11, 12, 13, 14] rfl rfl rfl ?_
  refine e_st [.int kd, .ref m] (by rw [ek]) ?_
  refine e_putF C IN hin_MD ty_MD tyk_MD nm_MD 0 rfl rfl 1 (by decide) fl_MD_66 rfl rfl rfl rfl (Nat.le_of_ble_eq_true rfl) d_MD_init_134 ?_
  refine e_ws [oMD m 0 kd 0 0 aho aaw (-1) (-1) 0 aen ato 0 0 awa aot 0 0 0 awk atr ase ade ala ach apa asq, aZ cZ aho 25 (bF (fun _ => false)), aZ cZ aaw 50 (bF (fun _ => false)), aI cI aen 80 (fun _ => 0), aI cI ato 40 (fun _ => 0), aJ cJ awa 40000 (fun _ => 0), aJ cJ aot 40000 (fun _ => 0), aI cI awk 26 (fun _ => 0), aI cI atr 26 (fun _ => 0), aJ cJ ase 26 (fun _ => 0), aI cI ade 25 (fun _ => 0), aI cI ala 25 (fun _ => 0), aI cI ach 41 (fun _ => 0), aI cI apa 25 (fun _ => 0), aJ cJ asq 625 (fun _ => 0)] rfl ?_
  refine e_aload_n C d_MD_init_137 rfl rfl ?_
  refine e_iload_n C d_MD_init_138 rfl rfl ?_
  refine e_iconst (v := 1) C d_MD_init_139 rfl ?_
  refine e_iconst (v := 5) C d_MD_init_140 rfl ?_
  refine e_callS (As := [.int width, .int 1, .int 5]) (st := [.ref m]) (wc := []) (wr := [oMD m 0 kd 0 0 aho aaw (-1) (-1) 0 aen ato 0 0 awa aot 0 0 0 awk atr ase ade ala ach apa asq, aZ cZ aho 25 (bF (fun _ => false)), aZ cZ aaw 50 (bF (fun _ => false)), aI cI aen 80 (fun _ => 0), aI cI ato 40 (fun _ => 0), aJ cJ awa 40000 (fun _ => 0), aJ cJ aot 40000 (fun _ => 0), aI cI awk 26 (fun _ => 0), aI cI atr 26 (fun _ => 0), aJ cJ ase 26 (fun _ => 0), aI cI ade 25 (fun _ => 0), aI cI ala 25 (fun _ => 0), aI cI ach 41 (fun _ => 0), aI cI apa 25 (fun _ => 0), aJ cJ asq 625 (fun _ => 0)]) C (M_MD_held l D cI cJ cZ width 1 5) s_MD_held ml_MD_62 nwW_ok ⟨Nat.le_of_ble_eq_true rfl, Nat.le_of_ble_eq_true rfl⟩ ⟨Nat.le_of_ble_eq_true rfl, Nat.le_of_ble_eq_true rfl⟩ [] [0, 1, 2, 3, 4, 5, 6, 7, 8, 9, 10, 11, 12, 13, 14] rfl rfl rfl rfl (by decide) (Nat.le_of_ble_eq_true rfl) rfl d_MD_init_141 (fun v w1 hp => ?_)
  obtain ⟨rfl, rfl⟩ := hp
  refine e_perm (st' := [.int (mheldF width 1 5), .ref m]) (ws' := [oMD m 0 kd 0 0 aho aaw (-1) (-1) 0 aen ato 0 0 awa aot 0 0 0 awk atr ase ade ala ach apa asq, aZ cZ aho 25 (bF (fun _ => false)), aZ cZ aaw 50 (bF (fun _ => false)), aI cI aen 80 (fun _ => 0), aI cI ato 40 (fun _ => 0), aJ cJ awa 40000 (fun _ => 0), aJ cJ aot 40000 (fun _ => 0), aI cI awk 26 (fun _ => 0), aI cI atr 26 (fun _ => 0), aJ cJ ase 26 (fun _ => 0), aI cI ade 25 (fun _ => 0), aI cI ala 25 (fun _ => 0), aI cI ach 41 (fun _ => 0), aI cI apa 25 (fun _ => 0), aJ cJ asq 625 (fun _ => 0)]) [0, 1, 2, 3, 4, 5, 6, 7, 8, 9, 10, 11, 12, 13, 14] rfl rfl rfl ?_
  refine e_st [.int (nI w), .ref m] (by rw [ew]) ?_
  refine e_putF C IN hin_MD ty_MD tyk_MD nm_MD 0 rfl rfl 2 (by decide) fl_MD_69 rfl rfl rfl rfl (Nat.le_of_ble_eq_true rfl) d_MD_init_144 ?_
  refine e_ws [oMD m 0 kd (nI w) 0 aho aaw (-1) (-1) 0 aen ato 0 0 awa aot 0 0 0 awk atr ase ade ala ach apa asq, aZ cZ aho 25 (bF (fun _ => false)), aZ cZ aaw 50 (bF (fun _ => false)), aI cI aen 80 (fun _ => 0), aI cI ato 40 (fun _ => 0), aJ cJ awa 40000 (fun _ => 0), aJ cJ aot 40000 (fun _ => 0), aI cI awk 26 (fun _ => 0), aI cI atr 26 (fun _ => 0), aJ cJ ase 26 (fun _ => 0), aI cI ade 25 (fun _ => 0), aI cI ala 25 (fun _ => 0), aI cI ach 41 (fun _ => 0), aI cI apa 25 (fun _ => 0), aJ cJ asq 625 (fun _ => 0)] rfl ?_
  refine e_aload_n C d_MD_init_147 rfl rfl ?_
  refine e_iload_n C d_MD_init_148 rfl rfl ?_
  refine e_iconst (v := 1) C d_MD_init_149 rfl ?_
  refine e_iconst (v := 5) C d_MD_init_150 rfl ?_
  refine e_callS (As := [.int height, .int 1, .int 5]) (st := [.ref m]) (wc := []) (wr := [oMD m 0 kd (nI w) 0 aho aaw (-1) (-1) 0 aen ato 0 0 awa aot 0 0 0 awk atr ase ade ala ach apa asq, aZ cZ aho 25 (bF (fun _ => false)), aZ cZ aaw 50 (bF (fun _ => false)), aI cI aen 80 (fun _ => 0), aI cI ato 40 (fun _ => 0), aJ cJ awa 40000 (fun _ => 0), aJ cJ aot 40000 (fun _ => 0), aI cI awk 26 (fun _ => 0), aI cI atr 26 (fun _ => 0), aJ cJ ase 26 (fun _ => 0), aI cI ade 25 (fun _ => 0), aI cI ala 25 (fun _ => 0), aI cI ach 41 (fun _ => 0), aI cI apa 25 (fun _ => 0), aJ cJ asq 625 (fun _ => 0)]) C (M_MD_held l D cI cJ cZ height 1 5) s_MD_held ml_MD_62 nwW_ok ⟨Nat.le_of_ble_eq_true rfl, Nat.le_of_ble_eq_true rfl⟩ ⟨Nat.le_of_ble_eq_true rfl, Nat.le_of_ble_eq_true rfl⟩ [] [0, 1, 2, 3, 4, 5, 6, 7, 8, 9, 10, 11, 12, 13, 14] rfl rfl rfl rfl (by decide) (Nat.le_of_ble_eq_true rfl) rfl d_MD_init_151 (fun v w1 hp => ?_)
  obtain ⟨rfl, rfl⟩ := hp
  refine e_perm (st' := [.int (mheldF height 1 5), .ref m]) (ws' := [oMD m 0 kd (nI w) 0 aho aaw (-1) (-1) 0 aen ato 0 0 awa aot 0 0 0 awk atr ase ade ala ach apa asq, aZ cZ aho 25 (bF (fun _ => false)), aZ cZ aaw 50 (bF (fun _ => false)), aI cI aen 80 (fun _ => 0), aI cI ato 40 (fun _ => 0), aJ cJ awa 40000 (fun _ => 0), aJ cJ aot 40000 (fun _ => 0), aI cI awk 26 (fun _ => 0), aI cI atr 26 (fun _ => 0), aJ cJ ase 26 (fun _ => 0), aI cI ade 25 (fun _ => 0), aI cI ala 25 (fun _ => 0), aI cI ach 41 (fun _ => 0), aI cI apa 25 (fun _ => 0), aJ cJ asq 625 (fun _ => 0)]) [0, 1, 2, 3, 4, 5, 6, 7, 8, 9, 10, 11, 12, 13, 14] rfl rfl rfl ?_
  refine e_st [.int (nI h), .ref m] (by rw [eh]) ?_
  refine e_putF C IN hin_MD ty_MD tyk_MD nm_MD 0 rfl rfl 3 (by decide) fl_MD_72 rfl rfl rfl rfl (Nat.le_of_ble_eq_true rfl) d_MD_init_154 ?_
  refine e_ws [oMD m 0 kd (nI w) (nI h) aho aaw (-1) (-1) 0 aen ato 0 0 awa aot 0 0 0 awk atr ase ade ala ach apa asq, aZ cZ aho 25 (bF (fun _ => false)), aZ cZ aaw 50 (bF (fun _ => false)), aI cI aen 80 (fun _ => 0), aI cI ato 40 (fun _ => 0), aJ cJ awa 40000 (fun _ => 0), aJ cJ aot 40000 (fun _ => 0), aI cI awk 26 (fun _ => 0), aI cI atr 26 (fun _ => 0), aJ cJ ase 26 (fun _ => 0), aI cI ade 25 (fun _ => 0), aI cI ala 25 (fun _ => 0), aI cI ach 41 (fun _ => 0), aI cI apa 25 (fun _ => 0), aJ cJ asq 625 (fun _ => 0)] rfl ?_
  refine e_aload_n C d_MD_init_157 rfl rfl ?_
  refine e_callV (As := []) (st := []) (wc := [oMD m 0 kd (nI w) (nI h) aho aaw (-1) (-1) 0 aen ato 0 0 awa aot 0 0 0 awk atr ase ade ala ach apa asq, aZ cZ aho 25 (bF (fun _ => false)), aZ cZ aaw 50 (bF (fun _ => false)), aI cI aen 80 (fun _ => 0), aI cI ato 40 (fun _ => 0)]) (wr := [aJ cJ awa 40000 (fun _ => 0), aJ cJ aot 40000 (fun _ => 0), aI cI awk 26 (fun _ => 0), aI cI atr 26 (fun _ => 0), aJ cJ ase 26 (fun _ => 0), aI cI ade 25 (fun _ => 0), aI cI ala 25 (fun _ => 0), aI cI ach 41 (fun _ => 0), aI cI apa 25 (fun _ => 0), aJ cJ asq 625 (fun _ => 0)]) C (M_MD_number l D cI cJ cZ m aho aaw aen ato awa aot awk atr ase ade ala ach apa asq w h hw hh hw1 hh1 0 kd (-1) (-1) 0 false 0 false 0 0 (fun _ => false) (fun _ => false) (fun _ => 0) (fun _ => 0)) v_MD_number ml_MD_75 0 rfl rfl nwW_ok ⟨Nat.le_of_ble_eq_true rfl, Nat.le_of_ble_eq_true rfl⟩ ⟨Nat.le_of_ble_eq_true rfl, Nat.le_of_ble_eq_true rfl⟩ [0, 1, 2, 3, 4] [5, 6, 7, 8, 9, 10, 11, 12, 13, 14] rfl rfl rfl rfl (by decide) (Nat.le_of_ble_eq_true rfl) rfl d_MD_init_158 (fun v w1 hp => ?_)
  obtain ⟨fe2, ft2, rfl, rfl, hR2, hT2⟩ := hp
  refine e_perm (st' := []) (ws' := [oMD m 0 kd (nI w) (nI h) aho aaw (-1) (-1) (nI (mNum w h (fun _ => false) (fun _ => false)).length) aen ato (bI false) (nI 0) awa aot (bI false) 0 0 awk atr ase ade ala ach apa asq, aZ cZ aho 25 (bF (fun _ => false)), aZ cZ aaw 50 (bF (fun _ => false)), aI cI aen 80 fe2, aI cI ato 40 ft2, aJ cJ awa 40000 (fun _ => 0), aJ cJ aot 40000 (fun _ => 0), aI cI awk 26 (fun _ => 0), aI cI atr 26 (fun _ => 0), aJ cJ ase 26 (fun _ => 0), aI cI ade 25 (fun _ => 0), aI cI ala 25 (fun _ => 0), aI cI ach 41 (fun _ => 0), aI cI apa 25 (fun _ => 0), aJ cJ asq 625 (fun _ => 0)]) [10, 11, 12, 13, 14, 0, 1, 2, 3, 4, 5, 6, 7, 8, 9] rfl rfl rfl ?_
  exact e_vret C Z (Nat.le_of_ble_eq_true rfl) (Nat.le_of_ble_eq_true rfl) (⟨aho, aaw, aen, ato, awa, aot, awk, atr, ase, ade, ala, ach, apa, asq, fe2, ft2, rfl, rfl, hR2, hT2⟩) d_MD_init_161
