/-! THE REFERENCE: hole, edge, and its constructor -/
def mpos (w : Nat) (u v : Int32) : Nat := (nI w * v + u).toNatClampNeg
theorem mHole_nI {w h : Nat} {u v : Int32} (hw : w ≤ 5) (hh : h ≤ 5) (hk : holeOK w h u v = true) : ∃ a b : Nat, a < w ∧ b < h ∧ u = nI a ∧ v = nI b := by
  unfold holeOK at hk
  simp only [Bool.and_eq_true, Bool.not_eq_true', decide_eq_false_iff_not, decide_eq_true_eq] at hk
  obtain ⟨⟨⟨h1, h2⟩, h3⟩, h4⟩ := hk
  rcases pk_ix u (n := w) (by omega) with z | z | ⟨a, ha, rfl⟩
  · exact absurd z h1
  · exact absurd z h2
  · rcases pk_ix v (n := h) (by omega) with z | z | ⟨b, hb, rfl⟩
    · exact absurd z h3
    · exact absurd h4 (by intro q; exact absurd z (Int32.not_le.mpr q))
    · exact ⟨a, b, ha, hb, rfl, rfl⟩
theorem upB_fill {aw : Nat → Bool} {i : Nat} : upB (fun q => if q < i then false else aw q) i false = fun q => if q < i + 1 then false else aw q := by
  funext q
  unfold upB
  by_cases e : q = i
  · subst e; simp
  · by_cases l : q < i
    · have : q < i + 1 := by omega
      simp [e, l, this]
    · have : ¬ q < i + 1 := by omega
      simp [e, l, this]
set_option maxHeartbeats 4000000 in
set_option maxRecDepth 100000 in
theorem M_MD_hole (l : Launch) (D : va_G) (cI cJ cZ : ClassId) (m aho aaw aen ato awa aot awk atr ase ade ala ach apa asq : Nat) (w h : Nat) (hw : w ≤ 5) (hh : h ≤ 5) (hw1 : 1 ≤ w) (hh1 : 1 ≤ h) (th kd fi sc : Int32) (el : List (Nat × Nat)) (li : Bool) (mny : Nat) (drn : Bool) (wyv rkv : Int64) (hb aw : Nat → Bool) (fen fto : Nat → Int32) (u v : Int32) : MK l D cI cJ cZ y_MD_hole c_MD_hole 5 (some FieldType.boolean) 2 44 [.ref m, .int u, .int v] [oMD m th kd (nI w) (nI h) aho aaw fi sc (nI el.length) aen ato (bI li) (nI mny) awa aot (bI drn) wyv rkv awk atr ase ade ala ach apa asq, aZ cZ aho 25 (bF hb), aZ cZ aaw 50 (bF aw), aI cI aen 80 fen, aI cI ato 40 fto] 0 0 (fun r w1 => (holeOK w h u v = false ∧ r = some (.int 0) ∧ w1 = [oMD m 0 kd (nI w) (nI h) aho aaw fi sc (nI el.length) aen ato (bI li) (nI mny) awa aot (bI drn) wyv rkv awk atr ase ade ala ach apa asq, aZ cZ aho 25 (bF hb), aZ cZ aaw 50 (bF aw), aI cI aen 80 fen, aI cI ato 40 fto]) ∨ (holeOK w h u v = true ∧ ∃ (aw2 : Nat → Bool) (fe2 ft2 : Nat → Int32), (∀ q, q < 50 → aw2 q = false) ∧ r = some (.int 1) ∧ w1 = [oMD m 0 kd (nI w) (nI h) aho aaw fi sc (nI (mNum w h (upB hb (mpos w u v) (!hb (mpos w u v))) aw2).length) aen ato (bI false) (nI mny) awa aot (bI false) wyv rkv awk atr ase ade ala ach apa asq, aZ cZ aho 25 (bF (upB hb (mpos w u v) (!hb (mpos w u v)))), aZ cZ aaw 50 (bF aw2), aI cI aen 80 fe2, aI cI ato 40 ft2] ∧ enR (mNum w h (upB hb (mpos w u v) (!hb (mpos w u v))) aw2) fe2 ∧ (∀ i, i < 40 → ft2 i = 0))) := by
  refine MC.of (by decide) bigW_good (Nat.le_of_ble_eq_true rfl) (fun κ C Z IN => ?_)
  have hP : w * h ≤ 25 := Nat.mul_le_mul hw hh
  refine e_aload_n C d_MD_hole_0 rfl rfl ?_
  refine e_iconst (v := 0) C d_MD_hole_1 rfl ?_
  refine e_put C hin_MD ty_MD tyk_MD nm_MD 0 rfl rfl 0 (by decide) fl_MD_78 rfl rfl rfl (Nat.le_of_ble_eq_true rfl) d_MD_hole_2 ?_
  refine e_ws [oMD m 0 kd (nI w) (nI h) aho aaw fi sc (nI el.length) aen ato (bI li) (nI mny) awa aot (bI drn) wyv rkv awk atr ase ade ala ach apa asq, aZ cZ aho 25 (bF hb), aZ cZ aaw 50 (bF aw), aI cI aen 80 fen, aI cI ato 40 fto] rfl ?_
  refine e_iload_n C d_MD_hole_5 rfl rfl ?_
  refine e_if_lt (tgt := 29) C d_MD_hole_6 (by decide) (fun h6 => ?_) (fun h6 => ?_)
  · -- 29
    have hok : holeOK w h u v = false := by unfold holeOK; simp [h6]
    refine e_iconst (v := 0) C d_MD_hole_29 rfl ?_
    exact e_iret C Z rfl (Nat.le_of_ble_eq_true rfl) (Nat.le_of_ble_eq_true rfl) (Or.inl ⟨hok, rfl, rfl⟩) d_MD_hole_30
  · -- 9
    refine e_iload_n C d_MD_hole_9 rfl rfl ?_
    refine e_aload_n C d_MD_hole_10 rfl rfl ?_
    refine e_get C hin_MD 0 rfl rfl 2 (by decide) fl_MD_69 rfl d_MD_hole_11 ?_
    refine e_icmp_ge (tgt := 29) C d_MD_hole_14 (by decide) (fun h14 => ?_) (fun h14 => ?_)
    · -- 29
      have hok : holeOK w h u v = false := by unfold holeOK; simp [h6, h14]
      refine e_iconst (v := 0) C d_MD_hole_29 rfl ?_
      exact e_iret C Z rfl (Nat.le_of_ble_eq_true rfl) (Nat.le_of_ble_eq_true rfl) (Or.inl ⟨hok, rfl, rfl⟩) d_MD_hole_30
    · -- 17
      refine e_iload_n C d_MD_hole_17 rfl rfl ?_
      refine e_if_lt (tgt := 29) C d_MD_hole_18 (by decide) (fun h18 => ?_) (fun h18 => ?_)
      · -- 29
        have hok : holeOK w h u v = false := by unfold holeOK; simp [h6, h14, h18]
        refine e_iconst (v := 0) C d_MD_hole_29 rfl ?_
        exact e_iret C Z rfl (Nat.le_of_ble_eq_true rfl) (Nat.le_of_ble_eq_true rfl) (Or.inl ⟨hok, rfl, rfl⟩) d_MD_hole_30
      · -- 21
        refine e_iload_n C d_MD_hole_21 rfl rfl ?_
        refine e_aload_n C d_MD_hole_22 rfl rfl ?_
        refine e_get C hin_MD 0 rfl rfl 3 (by decide) fl_MD_72 rfl d_MD_hole_23 ?_
        refine e_icmp_lt (tgt := 31) C d_MD_hole_26 (by decide) (fun h26 => ?_) (fun h26 => ?_)
        · -- 31
          have hok : holeOK w h u v = true := by unfold holeOK; rw [decide_eq_false h6, decide_eq_false h14, decide_eq_false h18, decide_eq_true h26]; rfl
          obtain ⟨a, b, ha, hb2, rfl, rfl⟩ := mHole_nI hw hh hok
          have hab : w * b + a < 25 := by have q1 := Nat.mul_le_mul_left w (show b + 1 ≤ h from hb2); rw [Nat.mul_add] at q1; omega
          have hps : mpos w (nI a) (nI b) = w * b + a := by unfold mpos; rw [pk_mul, nI_add, nI_clamp (by omega)]
          refine e_aload_n C d_MD_hole_31 rfl rfl ?_
          refine e_get C hin_MD 0 rfl rfl 2 (by decide) fl_MD_69 rfl d_MD_hole_32 ?_
          refine e_iload_n C d_MD_hole_35 rfl rfl ?_
          refine e_imul C d_MD_hole_36 ?_
          refine e_iload_n C d_MD_hole_37 rfl rfl ?_
          refine e_iadd C d_MD_hole_38 ?_
          refine e_st [.int (nI (w * b + a))] (by rw [pk_mul, nI_add]) ?_
          refine e_istore_n C d_MD_hole_39 rfl (by decide) ?_
          refine e_aload_n C d_MD_hole_40 rfl rfl ?_
          refine e_get C hin_MD 0 rfl rfl 4 (by decide) fl_MD_7 rfl d_MD_hole_41 ?_
          refine e_iload_n C d_MD_hole_44 rfl rfl ?_
          refine e_aload_n C d_MD_hole_45 rfl rfl ?_
          refine e_get C hin_MD 0 rfl rfl 4 (by decide) fl_MD_7 rfl d_MD_hole_46 ?_
          refine e_iload_n C d_MD_hole_49 rfl rfl ?_
          refine e_zald C 1 2 rfl rfl (vp_in_nI (by omega) (by omega)) d_MD_hole_50 ?_
          refine e_st [.int (bI (hb (w * b + a))), .int (nI (w * b + a)), .ref aho] (by rw [nI_clamp (by omega)]; rfl) ?_
          refine e_lv [(0, .ref m), (1, .int (nI a)), (2, .int (nI b)), (3, .int (nI (w * b + a)))] ⟨rfl, rfl, rfl, rfl, trivial⟩ ?_
          have J60 : E κ (lu_o [(0, .ref m), (1, .int (nI a)), (2, .int (nI b)), (3, .int (nI (w * b + a)))]) [] [oMD m 0 kd (nI w) (nI h) aho aaw fi sc (nI el.length) aen ato (bI li) (nI mny) awa aot (bI drn) wyv rkv awk atr ase ade ala ach apa asq, aZ cZ aho 25 (bF (upB hb (w * b + a) (!hb (w * b + a)))), aZ cZ aaw 50 (bF aw), aI cI aen 80 fen, aI cI ato 40 fto] 0 0 60 := by
            refine e_iconst (v := 0) C d_MD_hole_60 rfl ?_
            refine e_istore C d_MD_hole_61 (by decide) ?_
            have LA : ∀ (fuel : Nat) (i : Nat), i ≤ 50 →  50 - i < fuel → E κ (lu_o [(0, .ref m), (4, .int (nI i))]) [] [oMD m 0 kd (nI w) (nI h) aho aaw fi sc (nI el.length) aen ato (bI li) (nI mny) awa aot (bI drn) wyv rkv awk atr ase ade ala ach apa asq, aZ cZ aho 25 (bF (upB hb (w * b + a) (!hb (w * b + a)))), aZ cZ aaw 50 (bF (fun q => if q < i then false else aw q)), aI cI aen 80 fen, aI cI ato 40 fto] 0 0 63 := by
              intro fuel
              induction fuel with
              | zero => intro i hi hm; exact absurd hm (Nat.not_lt_zero _)
              | succ fuel ihLA =>
                intro i hi hm
                refine e_iload C d_MD_hole_63 rfl ?_
                refine e_bipush (v := 50) C d_MD_hole_65 (by decide) ?_
                refine e_icmp_ge (tgt := 84) C d_MD_hole_67 (by decide) (fun h67 => ?_) (fun h67 => ?_)
                · -- 84
                  have hi5 : 50 = i := by have q := (nI_leI (a := 50) (by omega) (by omega)).mp h67; omega
                  refine e_aload_n C d_MD_hole_84 rfl rfl ?_
                  refine e_callV (As := []) (st := []) (wc := [oMD m 0 kd (nI w) (nI h) aho aaw fi sc (nI el.length) aen ato (bI li) (nI mny) awa aot (bI drn) wyv rkv awk atr ase ade ala ach apa asq, aZ cZ aho 25 (bF (upB hb (w * b + a) (!hb (w * b + a)))), aZ cZ aaw 50 (bF (fun q => if q < i then false else aw q)), aI cI aen 80 fen, aI cI ato 40 fto]) (wr := []) C (M_MD_number l D cI cJ cZ m aho aaw aen ato awa aot awk atr ase ade ala ach apa asq w h hw hh hw1 hh1 0 kd fi sc (nI el.length) li mny drn wyv rkv (upB hb (w * b + a) (!hb (w * b + a))) (fun q => if q < i then false else aw q) fen fto) v_MD_number ml_MD_75 0 rfl rfl nwW_ok ⟨Nat.le_of_ble_eq_true rfl, Nat.le_of_ble_eq_true rfl⟩ ⟨Nat.le_of_ble_eq_true rfl, Nat.le_of_ble_eq_true rfl⟩ [0, 1, 2, 3, 4] [] rfl rfl rfl rfl (by decide) (Nat.le_of_ble_eq_true rfl) rfl d_MD_hole_85 (fun v w1 hp => ?_)
                  obtain ⟨fe2, ft2, rfl, rfl, hR2, hT2⟩ := hp
                  refine e_perm (st' := []) (ws' := [oMD m 0 kd (nI w) (nI h) aho aaw fi sc (nI (mNum w h (upB hb (w * b + a) (!hb (w * b + a))) (fun q => if q < i then false else aw q)).length) aen ato (bI false) (nI mny) awa aot (bI false) wyv rkv awk atr ase ade ala ach apa asq, aZ cZ aho 25 (bF (upB hb (w * b + a) (!hb (w * b + a)))), aZ cZ aaw 50 (bF (fun q => if q < i then false else aw q)), aI cI aen 80 fe2, aI cI ato 40 ft2]) [0, 1, 2, 3, 4] rfl rfl rfl ?_
                  refine e_iconst (v := 1) C d_MD_hole_88 rfl ?_
                  exact e_iret C Z rfl (Nat.le_of_ble_eq_true rfl) (Nat.le_of_ble_eq_true rfl) (Or.inr ⟨hok, fun q => if q < i then false else aw q, fe2, ft2, fun q hq => if_pos (by omega), rfl, by rw [hps], by rw [hps]; exact hR2, hT2⟩) d_MD_hole_89
                · -- 70
                  have hi5 : i < 50 := by rcases Nat.lt_or_ge i 50 with q | q; exact q; exact absurd (nI_le (a := 50) q (by omega)) h67
                  refine e_aload_n C d_MD_hole_70 rfl rfl ?_
                  refine e_get C hin_MD 0 rfl rfl 5 (by decide) fl_MD_13 rfl d_MD_hole_71 ?_
                  refine e_iload C d_MD_hole_74 rfl ?_
                  refine e_iconst (v := 0) C d_MD_hole_76 rfl ?_
                  refine e_zast C 2 2 rfl rfl (vp_in_nI (by omega) (by omega)) d_MD_hole_77 ?_
                  refine e_ws [oMD m 0 kd (nI w) (nI h) aho aaw fi sc (nI el.length) aen ato (bI li) (nI mny) awa aot (bI drn) wyv rkv awk atr ase ade ala ach apa asq, aZ cZ aho 25 (bF (upB hb (w * b + a) (!hb (w * b + a)))), aZ cZ aaw 50 (bF (upB (fun q => if q < i then false else aw q) i false)), aI cI aen 80 fen, aI cI ato 40 fto] (by rw [nI_clamp (by omega), ← bF_upd0]; rfl) ?_
                  refine e_iinc (v := (nI i) + 1) C d_MD_hole_78 rfl rfl (by decide) ?_
                  refine e_goto (tgt := 63) C d_MD_hole_81 (by decide) ?_
                  refine e_lv [(0, .ref m), (4, .int (nI (i + 1)))] ⟨rfl, congrArg (fun z => some (Value.int z)) (nI_1 i), trivial⟩ ?_
                  refine e_ws [oMD m 0 kd (nI w) (nI h) aho aaw fi sc (nI el.length) aen ato (bI li) (nI mny) awa aot (bI drn) wyv rkv awk atr ase ade ala ach apa asq, aZ cZ aho 25 (bF (upB hb (w * b + a) (!hb (w * b + a)))), aZ cZ aaw 50 (bF (fun q => if q < i + 1 then false else aw q)), aI cI aen 80 fen, aI cI ato 40 fto] (by rw [upB_fill]) ?_
                  exact ihLA (i + 1) (by omega) (by omega)
            refine e_lv [(0, .ref m), (4, .int (nI 0))] ⟨rfl, rfl, trivial⟩ ?_
            refine e_ws [oMD m 0 kd (nI w) (nI h) aho aaw fi sc (nI el.length) aen ato (bI li) (nI mny) awa aot (bI drn) wyv rkv awk atr ase ade ala ach apa asq, aZ cZ aho 25 (bF (upB hb (w * b + a) (!hb (w * b + a)))), aZ cZ aaw 50 (bF (fun q => if q < 0 then false else aw q)), aI cI aen 80 fen, aI cI ato 40 fto] (by simp) ?_
            exact LA _ 0 (Nat.zero_le _) (Nat.lt_succ_self _)
          refine e_if_ne (tgt := 58) C d_MD_hole_51 (by decide) (fun h51 => ?_) (fun h51 => ?_)
          · -- 58
            refine e_iconst (v := 0) C d_MD_hole_58 rfl ?_
            refine e_zast C 1 2 rfl rfl (vp_in_nI (by omega) (by omega)) d_MD_hole_59 ?_
            refine e_ws [oMD m 0 kd (nI w) (nI h) aho aaw fi sc (nI el.length) aen ato (bI li) (nI mny) awa aot (bI drn) wyv rkv awk atr ase ade ala ach apa asq, aZ cZ aho 25 (bF (upB hb (w * b + a) false)), aZ cZ aaw 50 (bF aw), aI cI aen 80 fen, aI cI ato 40 fto] (by rw [nI_clamp (by omega), ← bF_upd0]; rfl) ?_
            refine e_lv [(0, .ref m), (1, .int (nI a)), (2, .int (nI b)), (3, .int (nI (w * b + a)))] ⟨rfl, rfl, rfl, rfl, trivial⟩ ?_
            refine e_ws [oMD m 0 kd (nI w) (nI h) aho aaw fi sc (nI el.length) aen ato (bI li) (nI mny) awa aot (bI drn) wyv rkv awk atr ase ade ala ach apa asq, aZ cZ aho 25 (bF (upB hb (w * b + a) (!hb (w * b + a)))), aZ cZ aaw 50 (bF aw), aI cI aen 80 fen, aI cI ato 40 fto] (by simp only [bI_eq0, Bool.not_eq_false] at h51; rw [h51]; rfl) ?_
            exact J60
          · -- 54
            refine e_iconst (v := 1) C d_MD_hole_54 rfl ?_
            refine e_goto (tgt := 59) C d_MD_hole_55 (by decide) ?_
            refine e_zast C 1 2 rfl rfl (vp_in_nI (by omega) (by omega)) d_MD_hole_59 ?_
            refine e_ws [oMD m 0 kd (nI w) (nI h) aho aaw fi sc (nI el.length) aen ato (bI li) (nI mny) awa aot (bI drn) wyv rkv awk atr ase ade ala ach apa asq, aZ cZ aho 25 (bF (upB hb (w * b + a) true)), aZ cZ aaw 50 (bF aw), aI cI aen 80 fen, aI cI ato 40 fto] (by rw [nI_clamp (by omega), ← bF_upd1]; rfl) ?_
            refine e_lv [(0, .ref m), (1, .int (nI a)), (2, .int (nI b)), (3, .int (nI (w * b + a)))] ⟨rfl, rfl, rfl, rfl, trivial⟩ ?_
            refine e_ws [oMD m 0 kd (nI w) (nI h) aho aaw fi sc (nI el.length) aen ato (bI li) (nI mny) awa aot (bI drn) wyv rkv awk atr ase ade ala ach apa asq, aZ cZ aho 25 (bF (upB hb (w * b + a) (!hb (w * b + a)))), aZ cZ aaw 50 (bF aw), aI cI aen 80 fen, aI cI ato 40 fto] (by simp only [bI_eq0, Bool.not_eq_false] at h51; rw [h51]; rfl) ?_
            exact J60
        · -- 29
          have hok : holeOK w h u v = false := by unfold holeOK; simp [h6, h14, h18, h26]
          refine e_iconst (v := 0) C d_MD_hole_29 rfl ?_
          exact e_iret C Z rfl (Nat.le_of_ble_eq_true rfl) (Nat.le_of_ble_eq_true rfl) (Or.inl ⟨hok, rfl, rfl⟩) d_MD_hole_30

def mLo (i j : Nat) : Nat := if i < j then i else j
def mHi (i j : Nat) : Nat := if i < j then j else i
def mRt (w i j : Nat) : Bool := decide (mHi i j = mLo i j + 1) && decide (0 < mHi i j % w)
def mAt (w i j : Nat) : Nat := 2 * mLo i j + (if mRt w i j = true then 0 else 1)
def mEdgeOK (w n : Nat) (hb aw : Nat → Bool) (a b : Int32) (on : Bool) : Bool := mPlace n a && mPlace n b && !hb a.toNatClampNeg && !hb b.toNatClampNeg && (mRt w a.toNatClampNeg b.toNatClampNeg || decide (mHi a.toNatClampNeg b.toNatClampNeg = mLo a.toNatClampNeg b.toNatClampNeg + w)) && decide (aw (mAt w a.toNatClampNeg b.toNatClampNeg) = on)
theorem mLo_le (i j : Nat) : mLo i j ≤ i ∧ mLo i j ≤ j := by
  unfold mLo
  by_cases h : i < j
  · rw [if_pos h]; omega
  · rw [if_neg h]; omega
theorem mHi_lt {i j n : Nat} (h1 : i < n) (h2 : j < n) : mHi i j < n := by
  unfold mHi
  by_cases h : i < j
  · rw [if_pos h]; exact h2
  · rw [if_neg h]; exact h1
set_option maxHeartbeats 4000000 in
set_option maxRecDepth 100000 in
theorem M_MD_edge (l : Launch) (D : va_G) (cI cJ cZ : ClassId) (m aho aaw aen ato awa aot awk atr ase ade ala ach apa asq : Nat) (w h : Nat) (hw : w ≤ 5) (hh : h ≤ 5) (hw1 : 1 ≤ w) (hh1 : 1 ≤ h) (th kd fi sc : Int32) (el : List (Nat × Nat)) (li : Bool) (mny : Nat) (drn : Bool) (wyv rkv : Int64) (hb aw : Nat → Bool) (fen fto : Nat → Int32) (a b : Int32) (on : Bool) : MK l D cI cJ cZ y_MD_edge c_MD_edge 8 (some FieldType.boolean) 2 44 [.ref m, .int a, .int b, .int (bI on)] [oMD m th kd (nI w) (nI h) aho aaw fi sc (nI el.length) aen ato (bI li) (nI mny) awa aot (bI drn) wyv rkv awk atr ase ade ala ach apa asq, aZ cZ aho 25 (bF hb), aZ cZ aaw 50 (bF aw), aI cI aen 80 fen, aI cI ato 40 fto] 0 0 (fun r w1 => (mEdgeOK w (w * h) hb aw a b on = false ∧ r = some (.int 0) ∧ w1 = [oMD m 0 kd (nI w) (nI h) aho aaw fi sc (nI el.length) aen ato (bI li) (nI mny) awa aot (bI drn) wyv rkv awk atr ase ade ala ach apa asq, aZ cZ aho 25 (bF hb), aZ cZ aaw 50 (bF aw), aI cI aen 80 fen, aI cI ato 40 fto]) ∨ (mEdgeOK w (w * h) hb aw a b on = true ∧ ∃ fe2 ft2 : Nat → Int32, r = some (.int 1) ∧ w1 = [oMD m 0 kd (nI w) (nI h) aho aaw fi sc (nI (mNum w h hb (upB aw (mAt w a.toNatClampNeg b.toNatClampNeg) (!on))).length) aen ato (bI false) (nI mny) awa aot (bI false) wyv rkv awk atr ase ade ala ach apa asq, aZ cZ aho 25 (bF hb), aZ cZ aaw 50 (bF (upB aw (mAt w a.toNatClampNeg b.toNatClampNeg) (!on))), aI cI aen 80 fe2, aI cI ato 40 ft2] ∧ enR (mNum w h hb (upB aw (mAt w a.toNatClampNeg b.toNatClampNeg) (!on))) fe2 ∧ (∀ i, i < 40 → ft2 i = 0))) := by
  refine MC.of (by decide) bigW_good (Nat.le_of_ble_eq_true rfl) (fun κ C Z IN => ?_)
  have hP : w * h ≤ 25 := Nat.mul_le_mul hw hh
  refine e_aload_n C d_MD_edge_0 rfl rfl ?_
  refine e_iconst (v := 0) C d_MD_edge_1 rfl ?_
  refine e_put C hin_MD ty_MD tyk_MD nm_MD 0 rfl rfl 0 (by decide) fl_MD_78 rfl rfl rfl (Nat.le_of_ble_eq_true rfl) d_MD_edge_2 ?_
  refine e_ws [oMD m 0 kd (nI w) (nI h) aho aaw fi sc (nI el.length) aen ato (bI li) (nI mny) awa aot (bI drn) wyv rkv awk atr ase ade ala ach apa asq, aZ cZ aho 25 (bF hb), aZ cZ aaw 50 (bF aw), aI cI aen 80 fen, aI cI ato 40 fto] rfl ?_
  refine e_aload_n C d_MD_edge_5 rfl rfl ?_
  refine e_iload_n C d_MD_edge_6 rfl rfl ?_
  refine e_callV (As := [.int a]) (st := []) (wc := [oMD m 0 kd (nI w) (nI h) aho aaw fi sc (nI el.length) aen ato (bI li) (nI mny) awa aot (bI drn) wyv rkv awk atr ase ade ala ach apa asq]) (wr := [aZ cZ aho 25 (bF hb), aZ cZ aaw 50 (bF aw), aI cI aen 80 fen, aI cI ato 40 fto]) C (M_MD_isPlace l D cI cJ cZ m aho aaw aen ato awa aot awk atr ase ade ala ach apa asq w h hw hh hw1 hh1 0 kd fi sc el li mny drn wyv rkv a) v_MD_isPlace ml_MD_99 0 rfl rfl nwW_ok ⟨Nat.le_of_ble_eq_true rfl, Nat.le_of_ble_eq_true rfl⟩ ⟨Nat.le_of_ble_eq_true rfl, Nat.le_of_ble_eq_true rfl⟩ [0] [1, 2, 3, 4] rfl rfl rfl rfl (by decide) (Nat.le_of_ble_eq_true rfl) rfl d_MD_edge_7 (fun v w1 hp => ?_)
  obtain ⟨rfl, rfl⟩ := hp
  refine e_perm (st' := [.int (bI (mPlace (w * h) a))]) (ws' := [oMD m 0 kd (nI w) (nI h) aho aaw fi sc (nI el.length) aen ato (bI li) (nI mny) awa aot (bI drn) wyv rkv awk atr ase ade ala ach apa asq, aZ cZ aho 25 (bF hb), aZ cZ aaw 50 (bF aw), aI cI aen 80 fen, aI cI ato 40 fto]) [4, 0, 1, 2, 3] rfl rfl rfl ?_
  refine e_if_eq (tgt := 39) C d_MD_edge_10 (by decide) (fun h10 => ?_) (fun h10 => ?_)
  · -- 39
    have hok : mEdgeOK w (w * h) hb aw a b on = false := by simp only [bI_eq0] at h10; unfold mEdgeOK; rw [h10]; simp
    refine e_iconst (v := 0) C d_MD_edge_39 rfl ?_
    exact e_iret C Z rfl (Nat.le_of_ble_eq_true rfl) (Nat.le_of_ble_eq_true rfl) (Or.inl ⟨hok, rfl, rfl⟩) d_MD_edge_40
  · -- 13
    refine e_aload_n C d_MD_edge_13 rfl rfl ?_
    refine e_iload_n C d_MD_edge_14 rfl rfl ?_
    refine e_callV (As := [.int b]) (st := []) (wc := [oMD m 0 kd (nI w) (nI h) aho aaw fi sc (nI el.length) aen ato (bI li) (nI mny) awa aot (bI drn) wyv rkv awk atr ase ade ala ach apa asq]) (wr := [aZ cZ aho 25 (bF hb), aZ cZ aaw 50 (bF aw), aI cI aen 80 fen, aI cI ato 40 fto]) C (M_MD_isPlace l D cI cJ cZ m aho aaw aen ato awa aot awk atr ase ade ala ach apa asq w h hw hh hw1 hh1 0 kd fi sc el li mny drn wyv rkv b) v_MD_isPlace ml_MD_99 0 rfl rfl nwW_ok ⟨Nat.le_of_ble_eq_true rfl, Nat.le_of_ble_eq_true rfl⟩ ⟨Nat.le_of_ble_eq_true rfl, Nat.le_of_ble_eq_true rfl⟩ [0] [1, 2, 3, 4] rfl rfl rfl rfl (by decide) (Nat.le_of_ble_eq_true rfl) rfl d_MD_edge_15 (fun v w1 hp => ?_)
    obtain ⟨rfl, rfl⟩ := hp
    refine e_perm (st' := [.int (bI (mPlace (w * h) b))]) (ws' := [oMD m 0 kd (nI w) (nI h) aho aaw fi sc (nI el.length) aen ato (bI li) (nI mny) awa aot (bI drn) wyv rkv awk atr ase ade ala ach apa asq, aZ cZ aho 25 (bF hb), aZ cZ aaw 50 (bF aw), aI cI aen 80 fen, aI cI ato 40 fto]) [4, 0, 1, 2, 3] rfl rfl rfl ?_
    refine e_if_eq (tgt := 39) C d_MD_edge_18 (by decide) (fun h18 => ?_) (fun h18 => ?_)
    · -- 39
      have hok : mEdgeOK w (w * h) hb aw a b on = false := by simp only [bI_eq0] at h18; unfold mEdgeOK; rw [h18]; simp
      refine e_iconst (v := 0) C d_MD_edge_39 rfl ?_
      exact e_iret C Z rfl (Nat.le_of_ble_eq_true rfl) (Nat.le_of_ble_eq_true rfl) (Or.inl ⟨hok, rfl, rfl⟩) d_MD_edge_40
    · -- 21
      have hpa : mPlace (w * h) a = true := by simp only [bI_eq0, Bool.not_eq_false] at h10; exact h10
      have hpb : mPlace (w * h) b = true := by simp only [bI_eq0, Bool.not_eq_false] at h18; exact h18
      obtain ⟨i, hi, rfl⟩ := mPlace_nI (by omega) hpa
      obtain ⟨j, hj, rfl⟩ := mPlace_nI (by omega) hpb
      refine e_aload_n C d_MD_edge_21 rfl rfl ?_
      refine e_get C hin_MD 0 rfl rfl 4 (by decide) fl_MD_7 rfl d_MD_edge_22 ?_
      refine e_iload_n C d_MD_edge_25 rfl rfl ?_
      refine e_zald C 1 2 rfl rfl (vp_in_nI (by omega) (by omega)) d_MD_edge_26 ?_
      refine e_st [.int (bI (hb i))] (by rw [nI_clamp (by omega)]; rfl) ?_
      refine e_if_ne (tgt := 39) C d_MD_edge_27 (by decide) (fun h27 => ?_) (fun h27 => ?_)
      · -- 39
        have hok : mEdgeOK w (w * h) hb aw (nI i) (nI j) on = false := by simp only [bI_eq0, Bool.not_eq_false] at h27; unfold mEdgeOK; rw [nI_clamp (n := i) (by omega), nI_clamp (n := j) (by omega), h27]; simp
        refine e_iconst (v := 0) C d_MD_edge_39 rfl ?_
        exact e_iret C Z rfl (Nat.le_of_ble_eq_true rfl) (Nat.le_of_ble_eq_true rfl) (Or.inl ⟨hok, rfl, rfl⟩) d_MD_edge_40
      · -- 30
        refine e_aload_n C d_MD_edge_30 rfl rfl ?_
        refine e_get C hin_MD 0 rfl rfl 4 (by decide) fl_MD_7 rfl d_MD_edge_31 ?_
        refine e_iload_n C d_MD_edge_34 rfl rfl ?_
        refine e_zald C 1 2 rfl rfl (vp_in_nI (by omega) (by omega)) d_MD_edge_35 ?_
        refine e_st [.int (bI (hb j))] (by rw [nI_clamp (by omega)]; rfl) ?_
        refine e_if_eq (tgt := 41) C d_MD_edge_36 (by decide) (fun h36 => ?_) (fun h36 => ?_)
        · -- 41
          have hni : hb i = false := by simp only [bI_eq0] at h27; exact h27
          have hnj : hb j = false := by simp only [bI_eq0] at h36; exact h36
          have hlo := mLo_le i j
          have hhi := mHi_lt hi hj
          refine e_lv [(0, .ref m), (1, .int (nI i)), (2, .int (nI j)), (3, .int (bI on))] ⟨rfl, rfl, rfl, rfl, trivial⟩ ?_
          have J51 : ∀ (y51 : Int32), y51 = nI (mLo i j) → E κ (lu_o [(0, .ref m), (1, .int (nI i)), (2, .int (nI j)), (3, .int (bI on))]) [.int y51] [oMD m 0 kd (nI w) (nI h) aho aaw fi sc (nI el.length) aen ato (bI li) (nI mny) awa aot (bI drn) wyv rkv awk atr ase ade ala ach apa asq, aZ cZ aho 25 (bF hb), aZ cZ aaw 50 (bF aw), aI cI aen 80 fen, aI cI ato 40 fto] 0 0 51 := by
            intro y51 ey51
            refine e_istore C d_MD_edge_51 (by decide) ?_
            subst ey51
            refine e_lv [(0, .ref m), (1, .int (nI i)), (2, .int (nI j)), (3, .int (bI on)), (4, .int (nI (mLo i j)))] ⟨rfl, rfl, rfl, rfl, rfl, trivial⟩ ?_
            have J63 : ∀ (y63 : Int32), y63 = nI (mHi i j) → E κ (lu_o [(0, .ref m), (1, .int (nI i)), (2, .int (nI j)), (3, .int (bI on)), (4, .int (nI (mLo i j)))]) [.int y63] [oMD m 0 kd (nI w) (nI h) aho aaw fi sc (nI el.length) aen ato (bI li) (nI mny) awa aot (bI drn) wyv rkv awk atr ase ade ala ach apa asq, aZ cZ aho 25 (bF hb), aZ cZ aaw 50 (bF aw), aI cI aen 80 fen, aI cI ato 40 fto] 0 0 63 := by
              intro y63 ey63
              refine e_istore C d_MD_edge_63 (by decide) ?_
              subst ey63
              refine e_lv [(0, .ref m), (1, .int (nI i)), (2, .int (nI j)), (3, .int (bI on)), (4, .int (nI (mLo i j))), (5, .int (nI (mHi i j)))] ⟨rfl, rfl, rfl, rfl, rfl, rfl, trivial⟩ ?_
              have J89 : ∀ (y89 : Int32), y89 = bI (mRt w i j) → E κ (lu_o [(0, .ref m), (1, .int (nI i)), (2, .int (nI j)), (3, .int (bI on)), (4, .int (nI (mLo i j))), (5, .int (nI (mHi i j)))]) [.int y89] [oMD m 0 kd (nI w) (nI h) aho aaw fi sc (nI el.length) aen ato (bI li) (nI mny) awa aot (bI drn) wyv rkv awk atr ase ade ala ach apa asq, aZ cZ aho 25 (bF hb), aZ cZ aaw 50 (bF aw), aI cI aen 80 fen, aI cI ato 40 fto] 0 0 89 := by
                intro y89 ey89
                refine e_istore C d_MD_edge_89 (by decide) ?_
                subst ey89
                refine e_lv [(0, .ref m), (1, .int (nI i)), (2, .int (nI j)), (3, .int (bI on)), (4, .int (nI (mLo i j))), (5, .int (nI (mHi i j))), (6, .int (bI (mRt w i j)))] ⟨rfl, rfl, rfl, rfl, rfl, rfl, rfl, trivial⟩ ?_
                have J110 : (mRt w i j || decide (mHi i j = mLo i j + w)) = true → E κ (lu_o [(0, .ref m), (1, .int (nI i)), (2, .int (nI j)), (3, .int (bI on)), (4, .int (nI (mLo i j))), (5, .int (nI (mHi i j))), (6, .int (bI (mRt w i j)))]) [] [oMD m 0 kd (nI w) (nI h) aho aaw fi sc (nI el.length) aen ato (bI li) (nI mny) awa aot (bI drn) wyv rkv awk atr ase ade ala ach apa asq, aZ cZ aho 25 (bF hb), aZ cZ aaw 50 (bF aw), aI cI aen 80 fen, aI cI ato 40 fto] 0 0 110 := by
                  intro hsd
                  refine e_iconst (v := 2) C d_MD_edge_110 rfl ?_
                  refine e_iload C d_MD_edge_111 rfl ?_
                  refine e_imul C d_MD_edge_113 ?_
                  refine e_lv [(0, .ref m), (1, .int (nI i)), (2, .int (nI j)), (3, .int (bI on)), (4, .int (nI (mLo i j))), (5, .int (nI (mHi i j))), (6, .int (bI (mRt w i j)))] ⟨rfl, rfl, rfl, rfl, rfl, rfl, rfl, trivial⟩ ?_
                  have J124 : ∀ (y124 : Int32), y124 = nI (if mRt w i j = true then 0 else 1) → E κ (lu_o [(0, .ref m), (1, .int (nI i)), (2, .int (nI j)), (3, .int (bI on)), (4, .int (nI (mLo i j))), (5, .int (nI (mHi i j))), (6, .int (bI (mRt w i j)))]) [.int y124, .int (2 * (nI (mLo i j)))] [oMD m 0 kd (nI w) (nI h) aho aaw fi sc (nI el.length) aen ato (bI li) (nI mny) awa aot (bI drn) wyv rkv awk atr ase ade ala ach apa asq, aZ cZ aho 25 (bF hb), aZ cZ aaw 50 (bF aw), aI cI aen 80 fen, aI cI ato 40 fto] 0 0 124 := by
                    intro y124 ey124
                    refine e_iadd C d_MD_edge_124 ?_
                    have hat : mAt w i j < 50 := by unfold mAt; by_cases z : mRt w i j = true; (rw [if_pos z]; omega); (rw [if_neg z]; omega)
                    refine e_st [.int (nI (mAt w i j))] (by rw [ey124, show (2 : Int32) * nI (mLo i j) = nI (2 * mLo i j) from pk_mul 2 _, nI_add]; rfl) ?_
                    refine e_istore C d_MD_edge_125 (by decide) ?_
                    refine e_aload_n C d_MD_edge_127 rfl rfl ?_
                    refine e_get C hin_MD 0 rfl rfl 5 (by decide) fl_MD_13 rfl d_MD_edge_128 ?_
                    refine e_iload C d_MD_edge_131 rfl ?_
                    refine e_zald C 2 2 rfl rfl (vp_in_nI (by omega) (by omega)) d_MD_edge_133 ?_
                    refine e_st [.int (bI (aw (mAt w i j)))] (by rw [nI_clamp (by omega)]; rfl) ?_
                    refine e_iload_n C d_MD_edge_134 rfl rfl ?_
                    refine e_icmp_eq (tgt := 140) C d_MD_edge_135 (by decide) (fun h135 => ?_) (fun h135 => ?_)
                    · -- 140
                      have hok : mEdgeOK w (w * h) hb aw (nI i) (nI j) on = true := by unfold mEdgeOK; rw [nI_clamp (n := i) (by omega), nI_clamp (n := j) (by omega), hpa, hpb, hni, hnj, hsd, decide_eq_true (bI_inj.mp h135)]; rfl
                      refine e_aload_n C d_MD_edge_140 rfl rfl ?_
                      refine e_get C hin_MD 0 rfl rfl 5 (by decide) fl_MD_13 rfl d_MD_edge_141 ?_
                      refine e_iload C d_MD_edge_144 rfl ?_
                      refine e_iload_n C d_MD_edge_146 rfl rfl ?_
                      refine e_lv [(0, .ref m), (1, .int (nI i)), (2, .int (nI j)), (3, .int (bI on)), (4, .int (nI (mLo i j))), (5, .int (nI (mHi i j))), (6, .int (bI (mRt w i j))), (7, .int (nI (mAt w i j)))] ⟨rfl, rfl, rfl, rfl, rfl, rfl, rfl, rfl, trivial⟩ ?_
                      have J156 : E κ (lu_o [(0, .ref m), (1, .int (nI i)), (2, .int (nI j)), (3, .int (bI on)), (4, .int (nI (mLo i j))), (5, .int (nI (mHi i j))), (6, .int (bI (mRt w i j))), (7, .int (nI (mAt w i j)))]) [] [oMD m 0 kd (nI w) (nI h) aho aaw fi sc (nI el.length) aen ato (bI li) (nI mny) awa aot (bI drn) wyv rkv awk atr ase ade ala ach apa asq, aZ cZ aho 25 (bF hb), aZ cZ aaw 50 (bF (upB aw (mAt w i j) (!on))), aI cI aen 80 fen, aI cI ato 40 fto] 0 0 156 := by
                        refine e_aload_n C d_MD_edge_156 rfl rfl ?_
                        refine e_callV (As := []) (st := []) (wc := [oMD m 0 kd (nI w) (nI h) aho aaw fi sc (nI el.length) aen ato (bI li) (nI mny) awa aot (bI drn) wyv rkv awk atr ase ade ala ach apa asq, aZ cZ aho 25 (bF hb), aZ cZ aaw 50 (bF (upB aw (mAt w i j) (!on))), aI cI aen 80 fen, aI cI ato 40 fto]) (wr := []) C (M_MD_number l D cI cJ cZ m aho aaw aen ato awa aot awk atr ase ade ala ach apa asq w h hw hh hw1 hh1 0 kd fi sc (nI el.length) li mny drn wyv rkv hb (upB aw (mAt w i j) (!on)) fen fto) v_MD_number ml_MD_75 0 rfl rfl nwW_ok ⟨Nat.le_of_ble_eq_true rfl, Nat.le_of_ble_eq_true rfl⟩ ⟨Nat.le_of_ble_eq_true rfl, Nat.le_of_ble_eq_true rfl⟩ [0, 1, 2, 3, 4] [] rfl rfl rfl rfl (by decide) (Nat.le_of_ble_eq_true rfl) rfl d_MD_edge_157 (fun v w1 hp => ?_)
                        obtain ⟨fe2, ft2, rfl, rfl, hR2, hT2⟩ := hp
                        refine e_perm (st' := []) (ws' := [oMD m 0 kd (nI w) (nI h) aho aaw fi sc (nI (mNum w h hb (upB aw (mAt w i j) (!on))).length) aen ato (bI false) (nI mny) awa aot (bI false) wyv rkv awk atr ase ade ala ach apa asq, aZ cZ aho 25 (bF hb), aZ cZ aaw 50 (bF (upB aw (mAt w i j) (!on))), aI cI aen 80 fe2, aI cI ato 40 ft2]) [0, 1, 2, 3, 4] rfl rfl rfl ?_
                        refine e_iconst (v := 1) C d_MD_edge_160 rfl ?_
                        exact e_iret C Z rfl (Nat.le_of_ble_eq_true rfl) (Nat.le_of_ble_eq_true rfl) (Or.inr ⟨hok, fe2, ft2, rfl, by rw [nI_clamp (n := i) (by omega), nI_clamp (n := j) (by omega)], by rw [nI_clamp (n := i) (by omega), nI_clamp (n := j) (by omega)]; exact hR2, hT2⟩) d_MD_edge_161
                      refine e_if_ne (tgt := 154) C d_MD_edge_147 (by decide) (fun h147 => ?_) (fun h147 => ?_)
                      · -- 154
                        refine e_iconst (v := 0) C d_MD_edge_154 rfl ?_
                        refine e_zast C 2 2 rfl rfl (vp_in_nI (by omega) (by omega)) d_MD_edge_155 ?_
                        refine e_ws [oMD m 0 kd (nI w) (nI h) aho aaw fi sc (nI el.length) aen ato (bI li) (nI mny) awa aot (bI drn) wyv rkv awk atr ase ade ala ach apa asq, aZ cZ aho 25 (bF hb), aZ cZ aaw 50 (bF (upB aw (mAt w i j) false)), aI cI aen 80 fen, aI cI ato 40 fto] (by rw [nI_clamp (by omega), ← bF_upd0]; rfl) ?_
                        refine e_lv [(0, .ref m), (1, .int (nI i)), (2, .int (nI j)), (3, .int (bI on)), (4, .int (nI (mLo i j))), (5, .int (nI (mHi i j))), (6, .int (bI (mRt w i j))), (7, .int (nI (mAt w i j)))] ⟨rfl, rfl, rfl, rfl, rfl, rfl, rfl, rfl, trivial⟩ ?_
                        refine e_ws [oMD m 0 kd (nI w) (nI h) aho aaw fi sc (nI el.length) aen ato (bI li) (nI mny) awa aot (bI drn) wyv rkv awk atr ase ade ala ach apa asq, aZ cZ aho 25 (bF hb), aZ cZ aaw 50 (bF (upB aw (mAt w i j) (!on))), aI cI aen 80 fen, aI cI ato 40 fto] (by simp only [bI_eq0, Bool.not_eq_false] at h147; rw [h147]; rfl) ?_
                        exact J156
                      · -- 150
                        refine e_iconst (v := 1) C d_MD_edge_150 rfl ?_
                        refine e_goto (tgt := 155) C d_MD_edge_151 (by decide) ?_
                        refine e_zast C 2 2 rfl rfl (vp_in_nI (by omega) (by omega)) d_MD_edge_155 ?_
                        refine e_ws [oMD m 0 kd (nI w) (nI h) aho aaw fi sc (nI el.length) aen ato (bI li) (nI mny) awa aot (bI drn) wyv rkv awk atr ase ade ala ach apa asq, aZ cZ aho 25 (bF hb), aZ cZ aaw 50 (bF (upB aw (mAt w i j) true)), aI cI aen 80 fen, aI cI ato 40 fto] (by rw [nI_clamp (by omega), ← bF_upd1]; rfl) ?_
                        refine e_lv [(0, .ref m), (1, .int (nI i)), (2, .int (nI j)), (3, .int (bI on)), (4, .int (nI (mLo i j))), (5, .int (nI (mHi i j))), (6, .int (bI (mRt w i j))), (7, .int (nI (mAt w i j)))] ⟨rfl, rfl, rfl, rfl, rfl, rfl, rfl, rfl, trivial⟩ ?_
                        refine e_ws [oMD m 0 kd (nI w) (nI h) aho aaw fi sc (nI el.length) aen ato (bI li) (nI mny) awa aot (bI drn) wyv rkv awk atr ase ade ala ach apa asq, aZ cZ aho 25 (bF hb), aZ cZ aaw 50 (bF (upB aw (mAt w i j) (!on))), aI cI aen 80 fen, aI cI ato 40 fto] (by simp only [bI_eq0, Bool.not_eq_false] at h147; rw [h147]; rfl) ?_
                        exact J156
                    · -- 138
                      have hok : mEdgeOK w (w * h) hb aw (nI i) (nI j) on = false := by unfold mEdgeOK; rw [nI_clamp (n := i) (by omega), nI_clamp (n := j) (by omega), hpa, hpb, hni, hnj, hsd, decide_eq_false (fun q => h135 (bI_inj.mpr q))]; rfl
                      refine e_iconst (v := 0) C d_MD_edge_138 rfl ?_
                      exact e_iret C Z rfl (Nat.le_of_ble_eq_true rfl) (Nat.le_of_ble_eq_true rfl) (Or.inl ⟨hok, rfl, rfl⟩) d_MD_edge_139
                  refine e_iload C d_MD_edge_114 rfl ?_
                  refine e_if_eq (tgt := 123) C d_MD_edge_116 (by decide) (fun h116 => ?_) (fun h116 => ?_)
                  · -- 123
                    refine e_iconst (v := 1) C d_MD_edge_123 rfl ?_
                    refine e_lv [(0, .ref m), (1, .int (nI i)), (2, .int (nI j)), (3, .int (bI on)), (4, .int (nI (mLo i j))), (5, .int (nI (mHi i j))), (6, .int (bI (mRt w i j)))] ⟨rfl, rfl, rfl, rfl, rfl, rfl, rfl, trivial⟩ ?_
                    exact J124 1 (by simp only [bI_eq0, Bool.not_eq_false] at h116; rw [h116]; rfl)
                  · -- 119
                    refine e_iconst (v := 0) C d_MD_edge_119 rfl ?_
                    refine e_goto (tgt := 124) C d_MD_edge_120 (by decide) ?_
                    refine e_lv [(0, .ref m), (1, .int (nI i)), (2, .int (nI j)), (3, .int (bI on)), (4, .int (nI (mLo i j))), (5, .int (nI (mHi i j))), (6, .int (bI (mRt w i j)))] ⟨rfl, rfl, rfl, rfl, rfl, rfl, rfl, trivial⟩ ?_
                    exact J124 0 (by simp only [bI_eq0, Bool.not_eq_false] at h116; rw [h116]; rfl)
                refine e_iload C d_MD_edge_91 rfl ?_
                refine e_if_ne (tgt := 110) C d_MD_edge_93 (by decide) (fun h93 => ?_) (fun h93 => ?_)
                · -- 110
                  refine e_lv [(0, .ref m), (1, .int (nI i)), (2, .int (nI j)), (3, .int (bI on)), (4, .int (nI (mLo i j))), (5, .int (nI (mHi i j))), (6, .int (bI (mRt w i j)))] ⟨rfl, rfl, rfl, rfl, rfl, rfl, rfl, trivial⟩ ?_
                  exact J110  (by simp only [bI_eq0, Bool.not_eq_false] at h93; rw [h93]; rfl)
                · -- 96
                  refine e_iload C d_MD_edge_96 rfl ?_
                  refine e_iload C d_MD_edge_98 rfl ?_
                  refine e_aload_n C d_MD_edge_100 rfl rfl ?_
                  refine e_get C hin_MD 0 rfl rfl 2 (by decide) fl_MD_69 rfl d_MD_edge_101 ?_
                  refine e_iadd C d_MD_edge_104 ?_
                  refine e_icmp_eq (tgt := 110) C d_MD_edge_105 (by decide) (fun h105 => ?_) (fun h105 => ?_)
                  · -- 110
                    refine e_lv [(0, .ref m), (1, .int (nI i)), (2, .int (nI j)), (3, .int (bI on)), (4, .int (nI (mLo i j))), (5, .int (nI (mHi i j))), (6, .int (bI (mRt w i j)))] ⟨rfl, rfl, rfl, rfl, rfl, rfl, rfl, trivial⟩ ?_
                    exact J110  (by rw [decide_eq_true (show mHi i j = mLo i j + w from (nI_eq (by omega) (by omega)).mp (by rw [← nI_add]; exact h105)), Bool.or_true])
                  · -- 108
                    have hok : mEdgeOK w (w * h) hb aw (nI i) (nI j) on = false := by simp only [bI_eq0] at h93; unfold mEdgeOK; rw [nI_clamp (n := i) (by omega), nI_clamp (n := j) (by omega), h93, decide_eq_false (fun q => h105 (by rw [q, nI_add]))]; simp
                    refine e_iconst (v := 0) C d_MD_edge_108 rfl ?_
                    exact e_iret C Z rfl (Nat.le_of_ble_eq_true rfl) (Nat.le_of_ble_eq_true rfl) (Or.inl ⟨hok, rfl, rfl⟩) d_MD_edge_109
              refine e_iload C d_MD_edge_65 rfl ?_
              refine e_iload C d_MD_edge_67 rfl ?_
              refine e_iconst (v := 1) C d_MD_edge_69 rfl ?_
              refine e_iadd C d_MD_edge_70 ?_
              refine e_icmp_ne (tgt := 88) C d_MD_edge_71 (by decide) (fun h71 => ?_) (fun h71 => ?_)
              · -- 88
                refine e_iconst (v := 0) C d_MD_edge_88 rfl ?_
                refine e_lv [(0, .ref m), (1, .int (nI i)), (2, .int (nI j)), (3, .int (bI on)), (4, .int (nI (mLo i j))), (5, .int (nI (mHi i j)))] ⟨rfl, rfl, rfl, rfl, rfl, rfl, trivial⟩ ?_
                exact J89 0 (by unfold mRt; rw [decide_eq_false (fun q => h71 (by rw [q, nI_1]))]; rfl)
              · -- 74
                refine e_iload C d_MD_edge_74 rfl ?_
                refine e_aload_n C d_MD_edge_76 rfl rfl ?_
                refine e_get C hin_MD 0 rfl rfl 2 (by decide) fl_MD_69 rfl d_MD_edge_77 ?_
                refine e_irem C d_MD_edge_80 (nI_ne0 hw1 (by omega)) ?_
                refine e_st [.int (nI (mHi i j % w))] (by rw [pk_rem (by omega) (by omega) (by omega)]) ?_
                refine e_if_le (tgt := 88) C d_MD_edge_81 (by decide) (fun h81 => ?_) (fun h81 => ?_)
                · -- 88
                  refine e_iconst (v := 0) C d_MD_edge_88 rfl ?_
                  refine e_lv [(0, .ref m), (1, .int (nI i)), (2, .int (nI j)), (3, .int (bI on)), (4, .int (nI (mLo i j))), (5, .int (nI (mHi i j)))] ⟨rfl, rfl, rfl, rfl, rfl, rfl, trivial⟩ ?_
                  exact J89 0 (by unfold mRt; rw [decide_eq_false (show ¬ 0 < mHi i j % w by have q := (nI_leI (b := 0) (by have := Nat.mod_lt (mHi i j) (show 0 < w by omega); omega) (by omega)).mp h81; omega), Bool.and_false]; rfl)
                · -- 84
                  refine e_iconst (v := 1) C d_MD_edge_84 rfl ?_
                  refine e_goto (tgt := 89) C d_MD_edge_85 (by decide) ?_
                  refine e_lv [(0, .ref m), (1, .int (nI i)), (2, .int (nI j)), (3, .int (bI on)), (4, .int (nI (mLo i j))), (5, .int (nI (mHi i j)))] ⟨rfl, rfl, rfl, rfl, rfl, rfl, trivial⟩ ?_
                  exact J89 1 (by unfold mRt; rw [decide_eq_true (show mHi i j = mLo i j + 1 from (nI_eq (by omega) (by omega)).mp (by rw [← nI_1]; exact h71)), decide_eq_true (show 0 < mHi i j % w by rcases Nat.lt_or_ge 0 (mHi i j % w) with q | q; exact q; exact absurd (nI_le (b := 0) q (by omega)) h81)]; rfl)
            refine e_iload_n C d_MD_edge_53 rfl rfl ?_
            refine e_iload_n C d_MD_edge_54 rfl rfl ?_
            refine e_icmp_ge (tgt := 62) C d_MD_edge_55 (by decide) (fun h55 => ?_) (fun h55 => ?_)
            · -- 62
              refine e_iload_n C d_MD_edge_62 rfl rfl ?_
              refine e_lv [(0, .ref m), (1, .int (nI i)), (2, .int (nI j)), (3, .int (bI on)), (4, .int (nI (mLo i j)))] ⟨rfl, rfl, rfl, rfl, rfl, trivial⟩ ?_
              exact J63 (nI i) (by unfold mHi; rw [if_neg (by have q := (nI_leI (by omega) (by omega)).mp h55; omega)])
            · -- 58
              refine e_iload_n C d_MD_edge_58 rfl rfl ?_
              refine e_goto (tgt := 63) C d_MD_edge_59 (by decide) ?_
              refine e_lv [(0, .ref m), (1, .int (nI i)), (2, .int (nI j)), (3, .int (bI on)), (4, .int (nI (mLo i j)))] ⟨rfl, rfl, rfl, rfl, rfl, trivial⟩ ?_
              exact J63 (nI j) (by unfold mHi; rw [if_pos (by rcases Nat.lt_or_ge i j with q | q; exact q; exact absurd (nI_le q (by omega)) h55)])
          refine e_iload_n C d_MD_edge_41 rfl rfl ?_
          refine e_iload_n C d_MD_edge_42 rfl rfl ?_
          refine e_icmp_ge (tgt := 50) C d_MD_edge_43 (by decide) (fun h43 => ?_) (fun h43 => ?_)
          · -- 50
            refine e_iload_n C d_MD_edge_50 rfl rfl ?_
            refine e_lv [(0, .ref m), (1, .int (nI i)), (2, .int (nI j)), (3, .int (bI on))] ⟨rfl, rfl, rfl, rfl, trivial⟩ ?_
            exact J51 (nI j) (by unfold mLo; rw [if_neg (by have q := (nI_leI (by omega) (by omega)).mp h43; omega)])
          · -- 46
            refine e_iload_n C d_MD_edge_46 rfl rfl ?_
            refine e_goto (tgt := 51) C d_MD_edge_47 (by decide) ?_
            refine e_lv [(0, .ref m), (1, .int (nI i)), (2, .int (nI j)), (3, .int (bI on))] ⟨rfl, rfl, rfl, rfl, trivial⟩ ?_
            exact J51 (nI i) (by unfold mLo; rw [if_pos (by rcases Nat.lt_or_ge i j with q | q; exact q; exact absurd (nI_le q (by omega)) h43)])
        · -- 39
          have hok : mEdgeOK w (w * h) hb aw (nI i) (nI j) on = false := by simp only [bI_eq0, Bool.not_eq_false] at h36; unfold mEdgeOK; rw [nI_clamp (n := i) (by omega), nI_clamp (n := j) (by omega), h36]; simp
          refine e_iconst (v := 0) C d_MD_edge_39 rfl ?_
          exact e_iret C Z rfl (Nat.le_of_ble_eq_true rfl) (Nat.le_of_ble_eq_true rfl) (Or.inl ⟨hok, rfl, rfl⟩) d_MD_edge_40
