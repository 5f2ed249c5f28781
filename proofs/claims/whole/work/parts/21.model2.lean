/-! THE REFERENCE: the face without counting, and the small helpers of the walk -/
def mEndsOK (n : Nat) (a b : Int32) : Bool := mPlace n a && mPlace n b && !decide (a = b)
set_option maxHeartbeats 4000000 in
set_option maxRecDepth 100000 in
theorem M_MD_ends (l : Launch) (D : va_G) (cI cJ cZ : ClassId) (m aho aaw aen ato awa aot awk atr ase ade ala ach apa asq : Nat) (w h : Nat) (hw : w ≤ 5) (hh : h ≤ 5) (hw1 : 1 ≤ w) (hh1 : 1 ≤ h) (th kd fi sc : Int32) (el : List (Nat × Nat)) (li : Bool) (mny : Nat) (drn : Bool) (wyv rkv : Int64) (a b : Int32) : MK l D cI cJ cZ y_MD_ends c_MD_ends 3 (some FieldType.boolean) 2 41 [.ref m, .int a, .int b] [oMD m th kd (nI w) (nI h) aho aaw fi sc (nI el.length) aen ato (bI li) (nI mny) awa aot (bI drn) wyv rkv awk atr ase ade ala ach apa asq] 0 0 (fun v w1 => (mEndsOK (w * h) a b = false ∧ v = some (.int 0) ∧ w1 = [oMD m 0 kd (nI w) (nI h) aho aaw fi sc (nI el.length) aen ato (bI li) (nI mny) awa aot (bI drn) wyv rkv awk atr ase ade ala ach apa asq]) ∨ (mEndsOK (w * h) a b = true ∧ v = some (.int 1) ∧ w1 = [oMD m 0 kd (nI w) (nI h) aho aaw a b (nI el.length) aen ato (bI false) (nI mny) awa aot (bI false) wyv rkv awk atr ase ade ala ach apa asq])) := by
  refine MC.of (by decide) bigW_good (Nat.le_of_ble_eq_true rfl) (fun κ C Z IN => ?_)
  have hP : w * h ≤ 25 := Nat.mul_le_mul hw hh
  refine e_aload_n C d_MD_ends_0 rfl rfl ?_
  refine e_iconst (v := 0) C d_MD_ends_1 rfl ?_
  refine e_put C hin_MD ty_MD tyk_MD nm_MD 0 rfl rfl 0 (by decide) fl_MD_78 rfl rfl rfl (Nat.le_of_ble_eq_true rfl) d_MD_ends_2 ?_
  refine e_ws [oMD m 0 kd (nI w) (nI h) aho aaw fi sc (nI el.length) aen ato (bI li) (nI mny) awa aot (bI drn) wyv rkv awk atr ase ade ala ach apa asq] rfl ?_
  refine e_aload_n C d_MD_ends_5 rfl rfl ?_
  refine e_iload_n C d_MD_ends_6 rfl rfl ?_
  refine e_callV (As := [.int a]) (st := []) (wc := [oMD m 0 kd (nI w) (nI h) aho aaw fi sc (nI el.length) aen ato (bI li) (nI mny) awa aot (bI drn) wyv rkv awk atr ase ade ala ach apa asq]) (wr := []) C (M_MD_isPlace l D cI cJ cZ m aho aaw aen ato awa aot awk atr ase ade ala ach apa asq w h hw hh hw1 hh1 0 kd fi sc el li mny drn wyv rkv a) v_MD_isPlace ml_MD_99 0 rfl rfl nwW_ok ⟨Nat.le_of_ble_eq_true rfl, Nat.le_of_ble_eq_true rfl⟩ ⟨Nat.le_of_ble_eq_true rfl, Nat.le_of_ble_eq_true rfl⟩ [0] [] rfl rfl rfl rfl (by decide) (Nat.le_of_ble_eq_true rfl) rfl d_MD_ends_7 (fun v w1 hp => ?_)
  obtain ⟨rfl, rfl⟩ := hp
  refine e_perm (st' := [.int (bI (mPlace (w * h) a))]) (ws' := [oMD m 0 kd (nI w) (nI h) aho aaw fi sc (nI el.length) aen ato (bI li) (nI mny) awa aot (bI drn) wyv rkv awk atr ase ade ala ach apa asq]) [0] rfl rfl rfl ?_
  refine e_if_eq (tgt := 26) C d_MD_ends_10 (by decide) (fun h10 => ?_) (fun h10 => ?_)
  · -- 26
    have hok : mEndsOK (w * h) a b = false := by (try simp only [bI_eq0, Bool.not_eq_false] at h10); unfold mEndsOK; simp [h10]
    refine e_iconst (v := 0) C d_MD_ends_26 rfl ?_
    exact e_iret C Z rfl (Nat.le_of_ble_eq_true rfl) (Nat.le_of_ble_eq_true rfl) (Or.inl ⟨hok, rfl, rfl⟩) d_MD_ends_27
  · -- 13
    refine e_aload_n C d_MD_ends_13 rfl rfl ?_
    refine e_iload_n C d_MD_ends_14 rfl rfl ?_
    refine e_callV (As := [.int b]) (st := []) (wc := [oMD m 0 kd (nI w) (nI h) aho aaw fi sc (nI el.length) aen ato (bI li) (nI mny) awa aot (bI drn) wyv rkv awk atr ase ade ala ach apa asq]) (wr := []) C (M_MD_isPlace l D cI cJ cZ m aho aaw aen ato awa aot awk atr ase ade ala ach apa asq w h hw hh hw1 hh1 0 kd fi sc el li mny drn wyv rkv b) v_MD_isPlace ml_MD_99 0 rfl rfl nwW_ok ⟨Nat.le_of_ble_eq_true rfl, Nat.le_of_ble_eq_true rfl⟩ ⟨Nat.le_of_ble_eq_true rfl, Nat.le_of_ble_eq_true rfl⟩ [0] [] rfl rfl rfl rfl (by decide) (Nat.le_of_ble_eq_true rfl) rfl d_MD_ends_15 (fun v w1 hp => ?_)
    obtain ⟨rfl, rfl⟩ := hp
    refine e_perm (st' := [.int (bI (mPlace (w * h) b))]) (ws' := [oMD m 0 kd (nI w) (nI h) aho aaw fi sc (nI el.length) aen ato (bI li) (nI mny) awa aot (bI drn) wyv rkv awk atr ase ade ala ach apa asq]) [0] rfl rfl rfl ?_
    refine e_if_eq (tgt := 26) C d_MD_ends_18 (by decide) (fun h18 => ?_) (fun h18 => ?_)
    · -- 26
      have hok : mEndsOK (w * h) a b = false := by (try simp only [bI_eq0, Bool.not_eq_false] at h10 h18); unfold mEndsOK; simp [h10, h18]
      refine e_iconst (v := 0) C d_MD_ends_26 rfl ?_
      exact e_iret C Z rfl (Nat.le_of_ble_eq_true rfl) (Nat.le_of_ble_eq_true rfl) (Or.inl ⟨hok, rfl, rfl⟩) d_MD_ends_27
    · -- 21
      refine e_iload_n C d_MD_ends_21 rfl rfl ?_
      refine e_iload_n C d_MD_ends_22 rfl rfl ?_
      refine e_icmp_ne (tgt := 28) C d_MD_ends_23 (by decide) (fun h23 => ?_) (fun h23 => ?_)
      · -- 28
        have hok : mEndsOK (w * h) a b = true := by (try simp only [bI_eq0, Bool.not_eq_false] at h10 h18); unfold mEndsOK; simp [h10, h18, h23]
        refine e_aload_n C d_MD_ends_28 rfl rfl ?_
        refine e_iload_n C d_MD_ends_29 rfl rfl ?_
        refine e_put C hin_MD ty_MD tyk_MD nm_MD 0 rfl rfl 6 (by decide) fl_MD_16 rfl rfl rfl (Nat.le_of_ble_eq_true rfl) d_MD_ends_30 ?_
        refine e_ws [oMD m 0 kd (nI w) (nI h) aho aaw a sc (nI el.length) aen ato (bI li) (nI mny) awa aot (bI drn) wyv rkv awk atr ase ade ala ach apa asq] rfl ?_
        refine e_aload_n C d_MD_ends_33 rfl rfl ?_
        refine e_iload_n C d_MD_ends_34 rfl rfl ?_
        refine e_put C hin_MD ty_MD tyk_MD nm_MD 0 rfl rfl 7 (by decide) fl_MD_20 rfl rfl rfl (Nat.le_of_ble_eq_true rfl) d_MD_ends_35 ?_
        refine e_ws [oMD m 0 kd (nI w) (nI h) aho aaw a b (nI el.length) aen ato (bI li) (nI mny) awa aot (bI drn) wyv rkv awk atr ase ade ala ach apa asq] rfl ?_
        refine e_aload_n C d_MD_ends_38 rfl rfl ?_
        refine e_iconst (v := 0) C d_MD_ends_39 rfl ?_
        refine e_put C hin_MD ty_MD tyk_MD nm_MD 0 rfl rfl 11 (by decide) fl_MD_92 rfl rfl rfl (Nat.le_of_ble_eq_true rfl) d_MD_ends_40 ?_
        refine e_ws [oMD m 0 kd (nI w) (nI h) aho aaw a b (nI el.length) aen ato 0 (nI mny) awa aot (bI drn) wyv rkv awk atr ase ade ala ach apa asq] rfl ?_
        refine e_aload_n C d_MD_ends_43 rfl rfl ?_
        refine e_iconst (v := 0) C d_MD_ends_44 rfl ?_
        refine e_put C hin_MD ty_MD tyk_MD nm_MD 0 rfl rfl 15 (by decide) fl_MD_96 rfl rfl rfl (Nat.le_of_ble_eq_true rfl) d_MD_ends_45 ?_
        refine e_ws [oMD m 0 kd (nI w) (nI h) aho aaw a b (nI el.length) aen ato 0 (nI mny) awa aot 0 wyv rkv awk atr ase ade ala ach apa asq] rfl ?_
        refine e_iconst (v := 1) C d_MD_ends_48 rfl ?_
        exact e_iret C Z rfl (Nat.le_of_ble_eq_true rfl) (Nat.le_of_ble_eq_true rfl) (Or.inr ⟨hok, rfl, rfl⟩) d_MD_ends_49
      · -- 26
        have hok : mEndsOK (w * h) a b = false := by (try simp only [bI_eq0, Bool.not_eq_false] at h10 h18); unfold mEndsOK; simp [h10, h18, h23]
        refine e_iconst (v := 0) C d_MD_ends_26 rfl ?_
        exact e_iret C Z rfl (Nat.le_of_ble_eq_true rfl) (Nat.le_of_ble_eq_true rfl) (Or.inl ⟨hok, rfl, rfl⟩) d_MD_ends_27

def mEndF (el : List (Nat × Nat)) (e : Int32) (gr : Bool) : Int32 := if mPlace el.length e = true then (match el[e.toNatClampNeg]? with
    | some q => if gr = true then nI q.2 else nI q.1
    | none => -1) else -1
theorem mEndF_at {el : List (Nat × Nat)} {j a b : Nat} {gr : Bool} (hj : j < 2 ^ 31) (hp : mPlace el.length (nI j) = true) (h : el[j]? = some (a, b)) : mEndF el (nI j) gr = if gr = true then nI b else nI a := by
  unfold mEndF
  rw [if_pos hp, nI_clamp hj, h]
set_option maxHeartbeats 4000000 in
set_option maxRecDepth 100000 in
theorem M_MD_end (l : Launch) (D : va_G) (cI cJ cZ : ClassId) (m aho aaw aen ato awa aot awk atr ase ade ala ach apa asq : Nat) (w h : Nat) (hw : w ≤ 5) (hh : h ≤ 5) (hw1 : 1 ≤ w) (hh1 : 1 ≤ h) (th kd fi sc : Int32) (el : List (Nat × Nat)) (li : Bool) (mny : Nat) (drn : Bool) (wyv rkv : Int64) (fen : Nat → Int32) (e : Int32) (gr : Bool) (hen : enR el fen) (hel : el.length ≤ 40) : MK l D cI cJ cZ y_MD_end c_MD_end 3 (some FieldType.int) 1 21 [.ref m, .int e, .int (bI gr)] [oMD m th kd (nI w) (nI h) aho aaw fi sc (nI el.length) aen ato (bI li) (nI mny) awa aot (bI drn) wyv rkv awk atr ase ade ala ach apa asq, aI cI aen 80 fen] 0 0 (rI (mEndF el e gr) [oMD m 0 kd (nI w) (nI h) aho aaw fi sc (nI el.length) aen ato (bI li) (nI mny) awa aot (bI drn) wyv rkv awk atr ase ade ala ach apa asq, aI cI aen 80 fen]) := by
  refine MC.of (by decide) bigW_good (Nat.le_of_ble_eq_true rfl) (fun κ C Z IN => ?_)
  have hP : w * h ≤ 25 := Nat.mul_le_mul hw hh
  refine e_aload_n C d_MD_end_0 rfl rfl ?_
  refine e_iconst (v := 0) C d_MD_end_1 rfl ?_
  refine e_put C hin_MD ty_MD tyk_MD nm_MD 0 rfl rfl 0 (by decide) fl_MD_78 rfl rfl rfl (Nat.le_of_ble_eq_true rfl) d_MD_end_2 ?_
  refine e_ws [oMD m 0 kd (nI w) (nI h) aho aaw fi sc (nI el.length) aen ato (bI li) (nI mny) awa aot (bI drn) wyv rkv awk atr ase ade ala ach apa asq, aI cI aen 80 fen] rfl ?_
  refine e_aload_n C d_MD_end_5 rfl rfl ?_
  refine e_iload_n C d_MD_end_6 rfl rfl ?_
  refine e_callV (As := [.int e]) (st := []) (wc := [oMD m 0 kd (nI w) (nI h) aho aaw fi sc (nI el.length) aen ato (bI li) (nI mny) awa aot (bI drn) wyv rkv awk atr ase ade ala ach apa asq]) (wr := [aI cI aen 80 fen]) C (M_MD_isEdge l D cI cJ cZ m aho aaw aen ato awa aot awk atr ase ade ala ach apa asq w h hw hh hw1 hh1 0 kd fi sc el li mny drn wyv rkv e) v_MD_isEdge ml_MD_103 0 rfl rfl nwW_ok ⟨Nat.le_of_ble_eq_true rfl, Nat.le_of_ble_eq_true rfl⟩ ⟨Nat.le_of_ble_eq_true rfl, Nat.le_of_ble_eq_true rfl⟩ [0] [1] rfl rfl rfl rfl (by decide) (Nat.le_of_ble_eq_true rfl) rfl d_MD_end_7 (fun v w1 hp => ?_)
  obtain ⟨rfl, rfl⟩ := hp
  refine e_perm (st' := [.int (bI (mPlace el.length e))]) (ws' := [oMD m 0 kd (nI w) (nI h) aho aaw fi sc (nI el.length) aen ato (bI li) (nI mny) awa aot (bI drn) wyv rkv awk atr ase ade ala ach apa asq, aI cI aen 80 fen]) [1, 0] rfl rfl rfl ?_
  refine e_if_eq (tgt := 34) C d_MD_end_10 (by decide) (fun h10 => ?_) (fun h10 => ?_)
  · -- 34
    refine e_iconst (v := (-1)) C d_MD_end_34 rfl ?_
    exact e_iret C Z rfl (Nat.le_of_ble_eq_true rfl) (Nat.le_of_ble_eq_true rfl) (⟨by simp only [bI_eq0] at h10; unfold mEndF; rw [if_neg (Bool.eq_false_iff.mp h10)], rfl⟩) d_MD_end_35
  · -- 13
    have hie : mPlace el.length e = true := by simp only [bI_eq0, Bool.not_eq_false] at h10; exact h10
    obtain ⟨j, hj, hje⟩ := mPlace_nI (by omega) hie
    subst hje
    obtain ⟨⟨ea, eb⟩, hsv⟩ : ∃ q, el[j]? = some q := ⟨_, List.getElem?_eq_getElem hj⟩
    refine e_aload_n C d_MD_end_13 rfl rfl ?_
    refine e_get C hin_MD 0 rfl rfl 9 (by decide) fl_MD_23 rfl d_MD_end_14 ?_
    refine e_iconst (v := 2) C d_MD_end_17 rfl ?_
    refine e_iload_n C d_MD_end_18 rfl rfl ?_
    refine e_imul C d_MD_end_19 ?_
    refine e_iload_n C d_MD_end_20 rfl rfl ?_
    refine e_if_eq (tgt := 28) C d_MD_end_21 (by decide) (fun h21 => ?_) (fun h21 => ?_)
    · -- 28
      refine e_iconst (v := 0) C d_MD_end_28 rfl ?_
      refine e_iadd C d_MD_end_29 ?_
      refine e_st [.int (nI (2 * j)), .ref aen] (by rw [show (2 : Int32) * nI j = nI (2 * j) from pk_mul 2 j]; rw [show nI (2 * j) + 0 = nI (2 * j) from Int32.add_zero _]) ?_
      refine e_iald C 1 0 rfl rfl (vp_in_nI (by omega) (by omega)) d_MD_end_30 ?_
      refine e_st [.int (fen (2 * j))] (by rw [nI_clamp (by omega)]) ?_
      refine e_st [.int (nI ea)] (by rw [(hen j ea eb hsv).1]) ?_
      refine e_goto (tgt := 35) C d_MD_end_31 (by decide) ?_
      exact e_iret C Z rfl (Nat.le_of_ble_eq_true rfl) (Nat.le_of_ble_eq_true rfl) (⟨by simp only [bI_eq0, Bool.not_eq_false] at h21; rw [mEndF_at (by omega) hie hsv]; first | rw [if_pos h21] | rw [if_neg (Bool.eq_false_iff.mp h21)], rfl⟩) d_MD_end_35
    · -- 24
      refine e_iconst (v := 1) C d_MD_end_24 rfl ?_
      refine e_goto (tgt := 29) C d_MD_end_25 (by decide) ?_
      refine e_iadd C d_MD_end_29 ?_
      refine e_st [.int (nI (2 * j + 1)), .ref aen] (by rw [show (2 : Int32) * nI j = nI (2 * j) from pk_mul 2 j, nI_1]) ?_
      refine e_iald C 1 0 rfl rfl (vp_in_nI (by omega) (by omega)) d_MD_end_30 ?_
      refine e_st [.int (fen (2 * j + 1))] (by rw [nI_clamp (by omega)]) ?_
      refine e_st [.int (nI eb)] (by rw [(hen j ea eb hsv).2]) ?_
      refine e_goto (tgt := 35) C d_MD_end_31 (by decide) ?_
      exact e_iret C Z rfl (Nat.le_of_ble_eq_true rfl) (Nat.le_of_ble_eq_true rfl) (⟨by simp only [bI_eq0, Bool.not_eq_false] at h21; rw [mEndF_at (by omega) hie hsv]; first | rw [if_pos h21] | rw [if_neg (Bool.eq_false_iff.mp h21)], rfl⟩) d_MD_end_35

def mForceOK (n : Nat) (e how : Int32) : Bool := mPlace n e && !decide (how < 0) && decide (how ≤ 2)
set_option maxHeartbeats 4000000 in
set_option maxRecDepth 100000 in
theorem M_MD_force (l : Launch) (D : va_G) (cI cJ cZ : ClassId) (m aho aaw aen ato awa aot awk atr ase ade ala ach apa asq : Nat) (w h : Nat) (hw : w ≤ 5) (hh : h ≤ 5) (hw1 : 1 ≤ w) (hh1 : 1 ≤ h) (th kd fi sc : Int32) (el : List (Nat × Nat)) (li : Bool) (mny : Nat) (drn : Bool) (wyv rkv : Int64) (fto : Nat → Int32) (e how : Int32) (hel : el.length ≤ 40) : MK l D cI cJ cZ y_MD_force c_MD_force 3 (some FieldType.boolean) 1 21 [.ref m, .int e, .int how] [oMD m th kd (nI w) (nI h) aho aaw fi sc (nI el.length) aen ato (bI li) (nI mny) awa aot (bI drn) wyv rkv awk atr ase ade ala ach apa asq, aI cI ato 40 fto] 0 0 (fun v w1 => (mForceOK el.length e how = false ∧ v = some (.int 0) ∧ w1 = [oMD m 0 kd (nI w) (nI h) aho aaw fi sc (nI el.length) aen ato (bI li) (nI mny) awa aot (bI drn) wyv rkv awk atr ase ade ala ach apa asq, aI cI ato 40 fto]) ∨ (mForceOK el.length e how = true ∧ v = some (.int 1) ∧ w1 = [oMD m 0 kd (nI w) (nI h) aho aaw fi sc (nI el.length) aen ato (bI li) (nI mny) awa aot (bI false) wyv rkv awk atr ase ade ala ach apa asq, aI cI ato 40 (upd fto e.toNatClampNeg how)])) := by
  refine MC.of (by decide) bigW_good (Nat.le_of_ble_eq_true rfl) (fun κ C Z IN => ?_)
  have hP : w * h ≤ 25 := Nat.mul_le_mul hw hh
  refine e_aload_n C d_MD_force_0 rfl rfl ?_
  refine e_iconst (v := 0) C d_MD_force_1 rfl ?_
  refine e_put C hin_MD ty_MD tyk_MD nm_MD 0 rfl rfl 0 (by decide) fl_MD_78 rfl rfl rfl (Nat.le_of_ble_eq_true rfl) d_MD_force_2 ?_
  refine e_ws [oMD m 0 kd (nI w) (nI h) aho aaw fi sc (nI el.length) aen ato (bI li) (nI mny) awa aot (bI drn) wyv rkv awk atr ase ade ala ach apa asq, aI cI ato 40 fto] rfl ?_
  refine e_aload_n C d_MD_force_5 rfl rfl ?_
  refine e_iload_n C d_MD_force_6 rfl rfl ?_
  refine e_callV (As := [.int e]) (st := []) (wc := [oMD m 0 kd (nI w) (nI h) aho aaw fi sc (nI el.length) aen ato (bI li) (nI mny) awa aot (bI drn) wyv rkv awk atr ase ade ala ach apa asq]) (wr := [aI cI ato 40 fto]) C (M_MD_isEdge l D cI cJ cZ m aho aaw aen ato awa aot awk atr ase ade ala ach apa asq w h hw hh hw1 hh1 0 kd fi sc el li mny drn wyv rkv e) v_MD_isEdge ml_MD_103 0 rfl rfl nwW_ok ⟨Nat.le_of_ble_eq_true rfl, Nat.le_of_ble_eq_true rfl⟩ ⟨Nat.le_of_ble_eq_true rfl, Nat.le_of_ble_eq_true rfl⟩ [0] [1] rfl rfl rfl rfl (by decide) (Nat.le_of_ble_eq_true rfl) rfl d_MD_force_7 (fun v w1 hp => ?_)
  obtain ⟨rfl, rfl⟩ := hp
  refine e_perm (st' := [.int (bI (mPlace el.length e))]) (ws' := [oMD m 0 kd (nI w) (nI h) aho aaw fi sc (nI el.length) aen ato (bI li) (nI mny) awa aot (bI drn) wyv rkv awk atr ase ade ala ach apa asq, aI cI ato 40 fto]) [1, 0] rfl rfl rfl ?_
  refine e_if_eq (tgt := 22) C d_MD_force_10 (by decide) (fun h10 => ?_) (fun h10 => ?_)
  · -- 22
    have hok : mForceOK el.length e how = false := by unfold mForceOK; simp only [bI_eq0] at h10; rw [h10]; rfl
    refine e_iconst (v := 0) C d_MD_force_22 rfl ?_
    exact e_iret C Z rfl (Nat.le_of_ble_eq_true rfl) (Nat.le_of_ble_eq_true rfl) (Or.inl ⟨hok, rfl, rfl⟩) d_MD_force_23
  · -- 13
    refine e_iload_n C d_MD_force_13 rfl rfl ?_
    refine e_if_lt (tgt := 22) C d_MD_force_14 (by decide) (fun h14 => ?_) (fun h14 => ?_)
    · -- 22
      have hok : mForceOK el.length e how = false := by unfold mForceOK; rw [decide_eq_true h14]; simp
      refine e_iconst (v := 0) C d_MD_force_22 rfl ?_
      exact e_iret C Z rfl (Nat.le_of_ble_eq_true rfl) (Nat.le_of_ble_eq_true rfl) (Or.inl ⟨hok, rfl, rfl⟩) d_MD_force_23
    · -- 17
      refine e_iload_n C d_MD_force_17 rfl rfl ?_
      refine e_iconst (v := 2) C d_MD_force_18 rfl ?_
      refine e_icmp_le (tgt := 24) C d_MD_force_19 (by decide) (fun h19 => ?_) (fun h19 => ?_)
      · -- 24
        have hie : mPlace el.length e = true := by simp only [bI_eq0, Bool.not_eq_false] at h10; exact h10
        have hok : mForceOK el.length e how = true := by unfold mForceOK; rw [hie, decide_eq_false h14, decide_eq_true h19]; rfl
        obtain ⟨j, hj, hje⟩ := mPlace_nI (by omega) hie
        subst hje
        refine e_aload_n C d_MD_force_24 rfl rfl ?_
        refine e_get C hin_MD 0 rfl rfl 10 (by decide) fl_MD_27 rfl d_MD_force_25 ?_
        refine e_iload_n C d_MD_force_28 rfl rfl ?_
        refine e_iload_n C d_MD_force_29 rfl rfl ?_
        refine e_iast C 1 0 rfl rfl (vp_in_nI (by omega) (by omega)) d_MD_force_30 ?_
        refine e_ws [oMD m 0 kd (nI w) (nI h) aho aaw fi sc (nI el.length) aen ato (bI li) (nI mny) awa aot (bI drn) wyv rkv awk atr ase ade ala ach apa asq, aI cI ato 40 (upd fto j how)] (by rw [nI_clamp (by omega)]; rfl) ?_
        refine e_aload_n C d_MD_force_31 rfl rfl ?_
        refine e_iconst (v := 0) C d_MD_force_32 rfl ?_
        refine e_put C hin_MD ty_MD tyk_MD nm_MD 0 rfl rfl 15 (by decide) fl_MD_96 rfl rfl rfl (Nat.le_of_ble_eq_true rfl) d_MD_force_33 ?_
        refine e_ws [oMD m 0 kd (nI w) (nI h) aho aaw fi sc (nI el.length) aen ato (bI li) (nI mny) awa aot 0 wyv rkv awk atr ase ade ala ach apa asq, aI cI ato 40 (upd fto j how)] rfl ?_
        refine e_iconst (v := 1) C d_MD_force_36 rfl ?_
        exact e_iret C Z rfl (Nat.le_of_ble_eq_true rfl) (Nat.le_of_ble_eq_true rfl) (Or.inr ⟨hok, rfl, by rw [nI_clamp (by omega)]; rfl⟩) d_MD_force_37
      · -- 22
        have hok : mForceOK el.length e how = false := by unfold mForceOK; rw [decide_eq_false h19]; simp
        refine e_iconst (v := 0) C d_MD_force_22 rfl ?_
        exact e_iret C Z rfl (Nat.le_of_ble_eq_true rfl) (Nat.le_of_ble_eq_true rfl) (Or.inl ⟨hok, rfl, rfl⟩) d_MD_force_23

def mBit (way : Int64) (e : Int32) : Bool := decide (lg_cmp ((way >>> (e.toInt64 &&& 63)) &&& 1) 1 = 0)
def mDrawn (drn : Bool) (n : Nat) (way : Int64) (e : Int32) : Bool := drn && mPlace n e && mBit way e
set_option maxHeartbeats 4000000 in
set_option maxRecDepth 100000 in
theorem M_MD_drawn (l : Launch) (D : va_G) (cI cJ cZ : ClassId) (m aho aaw aen ato awa aot awk atr ase ade ala ach apa asq : Nat) (w h : Nat) (hw : w ≤ 5) (hh : h ≤ 5) (hw1 : 1 ≤ w) (hh1 : 1 ≤ h) (th kd fi sc : Int32) (el : List (Nat × Nat)) (li : Bool) (mny : Nat) (drn : Bool) (wyv rkv : Int64) (e : Int32) : MK l D cI cJ cZ y_MD_drawn c_MD_drawn 2 (some FieldType.boolean) 1 21 [.ref m, .int e] [oMD m th kd (nI w) (nI h) aho aaw fi sc (nI el.length) aen ato (bI li) (nI mny) awa aot (bI drn) wyv rkv awk atr ase ade ala ach apa asq] 0 0 (rI (bI (mDrawn drn el.length wyv e)) [oMD m 0 kd (nI w) (nI h) aho aaw fi sc (nI el.length) aen ato (bI li) (nI mny) awa aot (bI drn) wyv rkv awk atr ase ade ala ach apa asq]) := by
  refine MC.of (by decide) bigW_good (Nat.le_of_ble_eq_true rfl) (fun κ C Z IN => ?_)
  have hP : w * h ≤ 25 := Nat.mul_le_mul hw hh
  refine e_aload_n C d_MD_drawn_0 rfl rfl ?_
  refine e_iconst (v := 0) C d_MD_drawn_1 rfl ?_
  refine e_put C hin_MD ty_MD tyk_MD nm_MD 0 rfl rfl 0 (by decide) fl_MD_78 rfl rfl rfl (Nat.le_of_ble_eq_true rfl) d_MD_drawn_2 ?_
  refine e_ws [oMD m 0 kd (nI w) (nI h) aho aaw fi sc (nI el.length) aen ato (bI li) (nI mny) awa aot (bI drn) wyv rkv awk atr ase ade ala ach apa asq] rfl ?_
  refine e_aload_n C d_MD_drawn_5 rfl rfl ?_
  refine e_get C hin_MD 0 rfl rfl 15 (by decide) fl_MD_96 rfl d_MD_drawn_6 ?_
  refine e_if_eq (tgt := 37) C d_MD_drawn_9 (by decide) (fun h9 => ?_) (fun h9 => ?_)
  · -- 37
    refine e_iconst (v := 0) C d_MD_drawn_37 rfl ?_
    exact e_iret C Z rfl (Nat.le_of_ble_eq_true rfl) (Nat.le_of_ble_eq_true rfl) (⟨by (try simp only [bI_eq0, Bool.not_eq_false] at h9); unfold mDrawn; simp [bI, mBit, h9], rfl⟩) d_MD_drawn_38
  · -- 12
    refine e_aload_n C d_MD_drawn_12 rfl rfl ?_
    refine e_iload_n C d_MD_drawn_13 rfl rfl ?_
    refine e_callV (As := [.int e]) (st := []) (wc := [oMD m 0 kd (nI w) (nI h) aho aaw fi sc (nI el.length) aen ato (bI li) (nI mny) awa aot (bI drn) wyv rkv awk atr ase ade ala ach apa asq]) (wr := []) C (M_MD_isEdge l D cI cJ cZ m aho aaw aen ato awa aot awk atr ase ade ala ach apa asq w h hw hh hw1 hh1 0 kd fi sc el li mny drn wyv rkv e) v_MD_isEdge ml_MD_103 0 rfl rfl nwW_ok ⟨Nat.le_of_ble_eq_true rfl, Nat.le_of_ble_eq_true rfl⟩ ⟨Nat.le_of_ble_eq_true rfl, Nat.le_of_ble_eq_true rfl⟩ [0] [] rfl rfl rfl rfl (by decide) (Nat.le_of_ble_eq_true rfl) rfl d_MD_drawn_14 (fun v w1 hp => ?_)
    obtain ⟨rfl, rfl⟩ := hp
    refine e_perm (st' := [.int (bI (mPlace el.length e))]) (ws' := [oMD m 0 kd (nI w) (nI h) aho aaw fi sc (nI el.length) aen ato (bI li) (nI mny) awa aot (bI drn) wyv rkv awk atr ase ade ala ach apa asq]) [0] rfl rfl rfl ?_
    refine e_if_eq (tgt := 37) C d_MD_drawn_17 (by decide) (fun h17 => ?_) (fun h17 => ?_)
    · -- 37
      refine e_iconst (v := 0) C d_MD_drawn_37 rfl ?_
      exact e_iret C Z rfl (Nat.le_of_ble_eq_true rfl) (Nat.le_of_ble_eq_true rfl) (⟨by (try simp only [bI_eq0, Bool.not_eq_false] at h9 h17); unfold mDrawn; simp [bI, mBit, h9, h17], rfl⟩) d_MD_drawn_38
    · -- 20
      refine e_aload_n C d_MD_drawn_20 rfl rfl ?_
      refine e_get C hin_MD 0 rfl rfl 16 (by decide) fl_MD_157 rfl d_MD_drawn_21 ?_
      refine e_iload_n C d_MD_drawn_24 rfl rfl ?_
      refine e_lshr C d_MD_drawn_25 ?_
      refine e_lconst (v := 1) C d_MD_drawn_26 rfl ?_
      refine e_land C d_MD_drawn_27 ?_
      refine e_lconst (v := 1) C d_MD_drawn_28 rfl ?_
      refine e_lcmp C d_MD_drawn_29 ?_
      refine e_if_ne (tgt := 37) C d_MD_drawn_30 (by decide) (fun h30 => ?_) (fun h30 => ?_)
      · -- 37
        refine e_iconst (v := 0) C d_MD_drawn_37 rfl ?_
        exact e_iret C Z rfl (Nat.le_of_ble_eq_true rfl) (Nat.le_of_ble_eq_true rfl) (⟨by (try simp only [bI_eq0, Bool.not_eq_false] at h9 h17 h30); unfold mDrawn; simp [bI, mBit, h9, h17, h30], rfl⟩) d_MD_drawn_38
      · -- 33
        refine e_iconst (v := 1) C d_MD_drawn_33 rfl ?_
        refine e_goto (tgt := 38) C d_MD_drawn_34 (by decide) ?_
        exact e_iret C Z rfl (Nat.le_of_ble_eq_true rfl) (Nat.le_of_ble_eq_true rfl) (⟨by (try simp only [bI_eq0, Bool.not_eq_false] at h9 h17 h30); unfold mDrawn; simp [bI, mBit, h9, h17, h30], rfl⟩) d_MD_drawn_38

set_option maxHeartbeats 4000000 in
set_option maxRecDepth 100000 in
theorem M_MD_add (l : Launch) (D : va_G) (cI cJ cZ : ClassId) (m aho aaw aen ato awa aot awk atr ase ade ala ach apa asq : Nat) (w h : Nat) (hw : w ≤ 5) (hh : h ≤ 5) (hw1 : 1 ≤ w) (hh1 : 1 ≤ h) (th kd fi sc : Int32) (el : List (Nat × Nat)) (li : Bool) (mny : Nat) (drn : Bool) (wyv rkv : Int64) (fwa : Nat → Int64) (v : Int64) (hm : mny < 40000) : MK l D cI cJ cZ y_MD_add c_MD_add 3 none 0 0 [.ref m, .long v] [oMD m th kd (nI w) (nI h) aho aaw fi sc (nI el.length) aen ato (bI li) (nI mny) awa aot (bI drn) wyv rkv awk atr ase ade ala ach apa asq, aJ cJ awa 40000 fwa] 0 0 (rV [oMD m th kd (nI w) (nI h) aho aaw fi sc (nI el.length) aen ato (bI li) (nI (mny + 1)) awa aot (bI drn) wyv rkv awk atr ase ade ala ach apa asq, aJ cJ awa 40000 (vp_updL fwa mny v)]) := by
  refine MC.of (by decide) bigW_good (Nat.le_of_ble_eq_true rfl) (fun κ C Z IN => ?_)
  have hP : w * h ≤ 25 := Nat.mul_le_mul hw hh
  refine e_aload_n C d_MD_add_0 rfl rfl ?_
  refine e_get C hin_MD 0 rfl rfl 13 (by decide) fl_MD_31 rfl d_MD_add_1 ?_
  refine e_aload_n C d_MD_add_4 rfl rfl ?_
  refine e_get C hin_MD 0 rfl rfl 12 (by decide) fl_MD_106 rfl d_MD_add_5 ?_
  refine e_lload_n C d_MD_add_8 rfl rfl ?_
  refine e_last C 1 1 rfl rfl (vp_in_nI (by omega) (by omega)) d_MD_add_9 ?_
  refine e_ws [oMD m th kd (nI w) (nI h) aho aaw fi sc (nI el.length) aen ato (bI li) (nI mny) awa aot (bI drn) wyv rkv awk atr ase ade ala ach apa asq, aJ cJ awa 40000 (vp_updL fwa mny v)] (by rw [nI_clamp (by omega)]; rfl) ?_
  refine e_aload_n C d_MD_add_10 rfl rfl ?_
  refine e_dup C d_MD_add_11 rfl ?_
  refine e_get C hin_MD 0 rfl rfl 12 (by decide) fl_MD_106 rfl d_MD_add_12 ?_
  refine e_iconst (v := 1) C d_MD_add_15 rfl ?_
  refine e_iadd C d_MD_add_16 ?_
  refine e_put C hin_MD ty_MD tyk_MD nm_MD 0 rfl rfl 12 (by decide) fl_MD_106 rfl rfl rfl (Nat.le_of_ble_eq_true rfl) d_MD_add_17 ?_
  refine e_ws [oMD m th kd (nI w) (nI h) aho aaw fi sc (nI el.length) aen ato (bI li) ((nI mny) + 1) awa aot (bI drn) wyv rkv awk atr ase ade ala ach apa asq, aJ cJ awa 40000 (vp_updL fwa mny v)] rfl ?_
  exact e_vret C Z (Nat.le_of_ble_eq_true rfl) (Nat.le_of_ble_eq_true rfl) (⟨rfl, by rw [nI_1]⟩) d_MD_add_20

def acF (q : Nat × Nat) (p : Int32) : Int32 := if nI q.1 = p then nI q.2 else if nI q.2 = p then nI q.1 else -1
set_option maxHeartbeats 4000000 in
set_option maxRecDepth 100000 in
theorem M_MD_across (l : Launch) (D : va_G) (cI cJ cZ : ClassId) (m aho aaw aen ato awa aot awk atr ase ade ala ach apa asq : Nat) (w h : Nat) (hw : w ≤ 5) (hh : h ≤ 5) (hw1 : 1 ≤ w) (hh1 : 1 ≤ h) (th kd fi sc : Int32) (el : List (Nat × Nat)) (li : Bool) (mny : Nat) (drn : Bool) (wyv rkv : Int64) (fen : Nat → Int32) (j ea eb : Nat) (p : Int32) (hj : j < 40) (hen : enR el fen) (hsv : el[j]? = some (ea, eb)) : MK l D cI cJ cZ y_MD_across c_MD_across 3 (some FieldType.int) 0 0 [.ref m, .int (nI j), .int p] [oMD m th kd (nI w) (nI h) aho aaw fi sc (nI el.length) aen ato (bI li) (nI mny) awa aot (bI drn) wyv rkv awk atr ase ade ala ach apa asq, aI cI aen 80 fen] 0 0 (rI (acF (ea, eb) p) [oMD m th kd (nI w) (nI h) aho aaw fi sc (nI el.length) aen ato (bI li) (nI mny) awa aot (bI drn) wyv rkv awk atr ase ade ala ach apa asq, aI cI aen 80 fen]) := by
  refine MC.of (by decide) bigW_good (Nat.le_of_ble_eq_true rfl) (fun κ C Z IN => ?_)
  have hP : w * h ≤ 25 := Nat.mul_le_mul hw hh
  refine e_aload_n C d_MD_across_0 rfl rfl ?_
  refine e_get C hin_MD 0 rfl rfl 9 (by decide) fl_MD_23 rfl d_MD_across_1 ?_
  refine e_iconst (v := 2) C d_MD_across_4 rfl ?_
  refine e_iload_n C d_MD_across_5 rfl rfl ?_
  refine e_imul C d_MD_across_6 ?_
  refine e_st [.int (nI (2 * j)), .ref aen] (by rw [show (2 : Int32) * nI j = nI (2 * j) from pk_mul 2 j]) ?_
  refine e_iald C 1 0 rfl rfl (vp_in_nI (by omega) (by omega)) d_MD_across_7 ?_
  refine e_st [.int (fen (2 * j))] (by rw [nI_clamp (by omega)]) ?_
  refine e_st [.int (nI ea)] (by rw [(hen j ea eb hsv).1]) ?_
  refine e_iload_n C d_MD_across_8 rfl rfl ?_
  refine e_icmp_ne (tgt := 25) C d_MD_across_9 (by decide) (fun h9 => ?_) (fun h9 => ?_)
  · -- 25
    refine e_aload_n C d_MD_across_25 rfl rfl ?_
    refine e_get C hin_MD 0 rfl rfl 9 (by decide) fl_MD_23 rfl d_MD_across_26 ?_
    refine e_iconst (v := 2) C d_MD_across_29 rfl ?_
    refine e_iload_n C d_MD_across_30 rfl rfl ?_
    refine e_imul C d_MD_across_31 ?_
    refine e_iconst (v := 1) C d_MD_across_32 rfl ?_
    refine e_iadd C d_MD_across_33 ?_
    refine e_st [.int (nI (2 * j + 1)), .ref aen] (by rw [show (2 : Int32) * nI j = nI (2 * j) from pk_mul 2 j, nI_1]) ?_
    refine e_iald C 1 0 rfl rfl (vp_in_nI (by omega) (by omega)) d_MD_across_34 ?_
    refine e_st [.int (fen (2 * j + 1))] (by rw [nI_clamp (by omega)]) ?_
    refine e_st [.int (nI eb)] (by rw [(hen j ea eb hsv).2]) ?_
    refine e_iload_n C d_MD_across_35 rfl rfl ?_
    refine e_icmp_ne (tgt := 50) C d_MD_across_36 (by decide) (fun h36 => ?_) (fun h36 => ?_)
    · -- 50
      refine e_iconst (v := (-1)) C d_MD_across_50 rfl ?_
      exact e_iret C Z rfl (Nat.le_of_ble_eq_true rfl) (Nat.le_of_ble_eq_true rfl) (⟨by (try simp only [bI_eq0, Bool.not_eq_false] at h9 h36); unfold acF; (first | rw [if_pos h9] | rw [if_neg h9] | rw [if_neg (Bool.eq_false_iff.mp h9)] | skip); (first | rw [if_pos h36] | rw [if_neg h36] | rw [if_neg (Bool.eq_false_iff.mp h36)] | skip), rfl⟩) d_MD_across_51
    · -- 39
      refine e_aload_n C d_MD_across_39 rfl rfl ?_
      refine e_get C hin_MD 0 rfl rfl 9 (by decide) fl_MD_23 rfl d_MD_across_40 ?_
      refine e_iconst (v := 2) C d_MD_across_43 rfl ?_
      refine e_iload_n C d_MD_across_44 rfl rfl ?_
      refine e_imul C d_MD_across_45 ?_
      refine e_st [.int (nI (2 * j)), .ref aen] (by rw [show (2 : Int32) * nI j = nI (2 * j) from pk_mul 2 j]) ?_
      refine e_iald C 1 0 rfl rfl (vp_in_nI (by omega) (by omega)) d_MD_across_46 ?_
      refine e_st [.int (fen (2 * j))] (by rw [nI_clamp (by omega)]) ?_
      refine e_st [.int (nI ea)] (by rw [(hen j ea eb hsv).1]) ?_
      refine e_goto (tgt := 51) C d_MD_across_47 (by decide) ?_
      exact e_iret C Z rfl (Nat.le_of_ble_eq_true rfl) (Nat.le_of_ble_eq_true rfl) (⟨by (try simp only [bI_eq0, Bool.not_eq_false] at h9 h36); unfold acF; (first | rw [if_pos h9] | rw [if_neg h9] | rw [if_neg (Bool.eq_false_iff.mp h9)] | skip); (first | rw [if_pos h36] | rw [if_neg h36] | rw [if_neg (Bool.eq_false_iff.mp h36)] | skip), rfl⟩) d_MD_across_51
  · -- 12
    refine e_aload_n C d_MD_across_12 rfl rfl ?_
    refine e_get C hin_MD 0 rfl rfl 9 (by decide) fl_MD_23 rfl d_MD_across_13 ?_
    refine e_iconst (v := 2) C d_MD_across_16 rfl ?_
    refine e_iload_n C d_MD_across_17 rfl rfl ?_
    refine e_imul C d_MD_across_18 ?_
    refine e_iconst (v := 1) C d_MD_across_19 rfl ?_
    refine e_iadd C d_MD_across_20 ?_
    refine e_st [.int (nI (2 * j + 1)), .ref aen] (by rw [show (2 : Int32) * nI j = nI (2 * j) from pk_mul 2 j, nI_1]) ?_
    refine e_iald C 1 0 rfl rfl (vp_in_nI (by omega) (by omega)) d_MD_across_21 ?_
    refine e_st [.int (fen (2 * j + 1))] (by rw [nI_clamp (by omega)]) ?_
    refine e_st [.int (nI eb)] (by rw [(hen j ea eb hsv).2]) ?_
    refine e_goto (tgt := 51) C d_MD_across_22 (by decide) ?_
    exact e_iret C Z rfl (Nat.le_of_ble_eq_true rfl) (Nat.le_of_ble_eq_true rfl) (⟨by (try simp only [bI_eq0, Bool.not_eq_false] at h9); unfold acF; (first | rw [if_pos h9] | rw [if_neg h9] | rw [if_neg (Bool.eq_false_iff.mp h9)] | skip), rfl⟩) d_MD_across_51

set_option maxHeartbeats 4000000 in
set_option maxRecDepth 100000 in
theorem M_MD_isOn (l : Launch) (D : va_G) (cI cJ cZ : ClassId) (m aho aaw aen ato awa aot awk atr ase ade ala ach apa asq : Nat) (w h : Nat) (hw : w ≤ 5) (hh : h ≤ 5) (hw1 : 1 ≤ w) (hh1 : 1 ≤ h) (th kd fi sc : Int32) (el : List (Nat × Nat)) (li : Bool) (mny : Nat) (drn : Bool) (wyv rkv : Int64) (fwk : Nat → Int32) (n : Nat) (p : Int32) (hn : n ≤ 26) : MK l D cI cJ cZ y_MD_isOn c_MD_isOn 4 (some FieldType.boolean) 0 0 [.ref m, .int (nI n), .int p] [oMD m th kd (nI w) (nI h) aho aaw fi sc (nI el.length) aen ato (bI li) (nI mny) awa aot (bI drn) wyv rkv awk atr ase ade ala ach apa asq, aI cI awk 26 fwk] 0 0 (rI (bI (thereF fwk p n)) [oMD m th kd (nI w) (nI h) aho aaw fi sc (nI el.length) aen ato (bI li) (nI mny) awa aot (bI drn) wyv rkv awk atr ase ade ala ach apa asq, aI cI awk 26 fwk]) := by
  refine MC.of (by decide) bigW_good (Nat.le_of_ble_eq_true rfl) (fun κ C Z IN => ?_)
  have hP : w * h ≤ 25 := Nat.mul_le_mul hw hh
  refine e_iconst (v := 0) C d_MD_isOn_0 rfl ?_
  refine e_istore_n C d_MD_isOn_1 rfl (by decide) ?_
  have LP : ∀ (fuel : Nat) (i : Nat), i ≤ n → thereF fwk p i = false →  n - i < fuel → E κ (lu_o [(0, .ref m), (1, .int (nI n)), (2, .int p), (3, .int (nI i))]) [] [oMD m th kd (nI w) (nI h) aho aaw fi sc (nI el.length) aen ato (bI li) (nI mny) awa aot (bI drn) wyv rkv awk atr ase ade ala ach apa asq, aI cI awk 26 fwk] 0 0 2 := by
    intro fuel
    induction fuel with
    | zero => intro i hi hS hm; exact absurd hm (Nat.not_lt_zero _)
    | succ fuel ihLP =>
      intro i hi hS hm
      refine e_iload_n C d_MD_isOn_2 rfl rfl ?_
      refine e_iload_n C d_MD_isOn_3 rfl rfl ?_
      refine e_icmp_ge (tgt := 25) C d_MD_isOn_4 (by decide) (fun h4 => ?_) (fun h4 => ?_)
      · -- 25
        have hiw : n = i := by have q := (nI_leI (by omega) (by omega)).mp h4; omega
        subst hiw
        refine e_iconst (v := 0) C d_MD_isOn_25 rfl ?_
        exact e_iret C Z rfl (Nat.le_of_ble_eq_true rfl) (Nat.le_of_ble_eq_true rfl) (⟨by rw [hS]; rfl, rfl⟩) d_MD_isOn_26
      · -- 7
        have hiw : i < n := by rcases Nat.lt_or_ge (i) n with q | q; exact q; exact absurd (nI_le q (by omega)) h4
        refine e_aload_n C d_MD_isOn_7 rfl rfl ?_
        refine e_get C hin_MD 0 rfl rfl 18 (by decide) fl_MD_38 rfl d_MD_isOn_8 ?_
        refine e_iload_n C d_MD_isOn_11 rfl rfl ?_
        refine e_iald C 1 0 rfl rfl (vp_in_nI (by omega) (by omega)) d_MD_isOn_12 ?_
        refine e_st [.int (fwk i)] (by rw [nI_clamp (by omega)]) ?_
        refine e_iload_n C d_MD_isOn_13 rfl rfl ?_
        refine e_icmp_ne (tgt := 19) C d_MD_isOn_14 (by decide) (fun h14 => ?_) (fun h14 => ?_)
        · -- 19
          refine e_iinc (v := (nI i) + 1) C d_MD_isOn_19 rfl rfl (by decide) ?_
          refine e_goto (tgt := 2) C d_MD_isOn_22 (by decide) ?_
          refine e_lv [(0, .ref m), (1, .int (nI n)), (2, .int p), (3, .int (nI (i + 1)))] ⟨rfl, rfl, rfl, congrArg (fun z => some (Value.int z)) (nI_1 i), trivial⟩ ?_
          refine e_ws [oMD m th kd (nI w) (nI h) aho aaw fi sc (nI el.length) aen ato (bI li) (nI mny) awa aot (bI drn) wyv rkv awk atr ase ade ala ach apa asq, aI cI awk 26 fwk] rfl ?_
          exact ihLP (i + 1) (by omega) (by show (thereF fwk p i || decide (fwk i = p)) = false; rw [hS, decide_eq_false h14]; rfl) (by omega)
        · -- 17
          refine e_iconst (v := 1) C d_MD_isOn_17 rfl ?_
          exact e_iret C Z rfl (Nat.le_of_ble_eq_true rfl) (Nat.le_of_ble_eq_true rfl) (⟨by rw [thereF_of h14 hiw]; rfl, rfl⟩) d_MD_isOn_18
  refine e_lv [(0, .ref m), (1, .int (nI n)), (2, .int p), (3, .int (nI 0))] ⟨rfl, rfl, rfl, rfl, trivial⟩ ?_
  refine e_ws [oMD m th kd (nI w) (nI h) aho aaw fi sc (nI el.length) aen ato (bI li) (nI mny) awa aot (bI drn) wyv rkv awk atr ase ade ala ach apa asq, aI cI awk 26 fwk] rfl ?_
  exact LP _ 0 (Nat.zero_le _) rfl (Nat.lt_succ_self _)

def mLess (a b : Int64) : Bool := decide (lg_cmp (a &&& ((a ^^^ b) &&& -(a ^^^ b))) 0 = 0) && !decide (lg_cmp (a ^^^ b) 0 = 0)
set_option maxHeartbeats 4000000 in
set_option maxRecDepth 100000 in
theorem M_MD_isLess (l : Launch) (D : va_G) (cI cJ cZ : ClassId) (a b : Int64) : MK l D cI cJ cZ y_MD_isLess c_MD_isLess 6 (some FieldType.boolean) 0 0 [.long a, .long b] [] 0 0 (rI (bI (mLess a b)) []) := by
  refine MC.of (by decide) bigW_good (Nat.le_of_ble_eq_true rfl) (fun κ C Z IN => ?_)
  refine e_lload_n C d_MD_isLess_0 rfl rfl ?_
  refine e_lload_n C d_MD_isLess_1 rfl rfl ?_
  refine e_lxor C d_MD_isLess_2 ?_
  refine e_lstore C d_MD_isLess_3 (by decide) ?_
  refine e_lload_n C d_MD_isLess_5 rfl rfl ?_
  refine e_lload C d_MD_isLess_6 rfl ?_
  refine e_lload C d_MD_isLess_8 rfl ?_
  refine e_lneg C d_MD_isLess_10 ?_
  refine e_land C d_MD_isLess_11 ?_
  refine e_land C d_MD_isLess_12 ?_
  refine e_lconst (v := 0) C d_MD_isLess_13 rfl ?_
  refine e_lcmp C d_MD_isLess_14 ?_
  refine e_if_ne (tgt := 29) C d_MD_isLess_15 (by decide) (fun h15 => ?_) (fun h15 => ?_)
  · -- 29
    refine e_iconst (v := 0) C d_MD_isLess_29 rfl ?_
    exact e_iret C Z rfl (Nat.le_of_ble_eq_true rfl) (Nat.le_of_ble_eq_true rfl) (⟨by (try simp only [bI_eq0, Bool.not_eq_false] at h15); simp [mLess, bI, h15], rfl⟩) d_MD_isLess_30
  · -- 18
    refine e_lload C d_MD_isLess_18 rfl ?_
    refine e_lconst (v := 0) C d_MD_isLess_20 rfl ?_
    refine e_lcmp C d_MD_isLess_21 ?_
    refine e_if_eq (tgt := 29) C d_MD_isLess_22 (by decide) (fun h22 => ?_) (fun h22 => ?_)
    · -- 29
      refine e_iconst (v := 0) C d_MD_isLess_29 rfl ?_
      exact e_iret C Z rfl (Nat.le_of_ble_eq_true rfl) (Nat.le_of_ble_eq_true rfl) (⟨by (try simp only [bI_eq0, Bool.not_eq_false] at h15 h22); simp [mLess, bI, h15, h22], rfl⟩) d_MD_isLess_30
    · -- 25
      refine e_iconst (v := 1) C d_MD_isLess_25 rfl ?_
      refine e_goto (tgt := 30) C d_MD_isLess_26 (by decide) ?_
      exact e_iret C Z rfl (Nat.le_of_ble_eq_true rfl) (Nat.le_of_ble_eq_true rfl) (⟨by (try simp only [bI_eq0, Bool.not_eq_false] at h15 h22); simp [mLess, bI, h15, h22], rfl⟩) d_MD_isLess_30
