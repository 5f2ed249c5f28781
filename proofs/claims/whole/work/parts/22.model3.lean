/-! THE REFERENCE: hole, edge, and its constructor -/
def mpos (w : Nat) (u v : Int32) : Nat := (nI w * v + u).toNatClampNeg
theorem mHole_nI {w h : Nat} {u v : Int32} (hw : w ≤ 5) (hh : h ≤ 5) (hk : holeOK w h u v = true) : ∃ a b : Nat, a < w ∧ b < h ∧ u = nI a ∧ v = nI b := by
  unfold holeOK at hk
  simp only [Bool.and_eq_true, Bool.not_eq_true', decide_eq_false_iff_not, decide_eq_true_eq] at hk
  obtain ⟨⟨⟨h1, h2⟩, h3⟩, h4⟩ := hk
  rcases pk_ix u (n := w) (by omega) with z | z | ⟨a, ha, rfl⟩
  · exact absurd z h1
  · exact absurd z h2
  · rcases pk_ix v (n := h) (by omega) with z | z | ⟨b, hb, rfl⟩
    · exact absurd z h3
    · exact absurd h4 (by intro q; exact absurd z (Int32.not_le.mpr q))
    · exact ⟨a, b, ha, hb, rfl, rfl⟩
theorem upB_fill {aw : Nat → Bool} {i : Nat} : upB (fun q => if q < i then false else aw q) i false = fun q => if q < i + 1 then false else aw q := by
  funext q
  unfold upB
  by_cases e : q = i
  · subst e; simp
  · by_cases l : q < i
    · have : q < i + 1 := by omega
      simp [e, l, this]
    · have : ¬ q < i + 1 := by omega
      simp [e, l, this]
set_option maxHeartbeats 4000000 in
set_option maxRecDepth 100000 in
theorem M_MD_hole (l : Launch) (D : va_G) (cI cJ cZ : ClassId) (m aho aaw aen ato awa aot awk atr ase ade ala ach apa asq : Nat) (w h : Nat) (hw : w ≤ 5) (hh : h ≤ 5) (hw1 : 1 ≤ w) (hh1 : 1 ≤ h) (th kd fi sc : Int32) (el : List (Nat × Nat)) (li : Bool) (mny : Nat) (drn : Bool) (wyv rkv : Int64) (hb aw : Nat → Bool) (fen fto : Nat → Int32) (u v : Int32) : MK l D cI cJ cZ y_MD_hole c_MD_hole 5 (some FieldType.boolean) 2 44 [.ref m, .int u, .int v] [oMD m th kd (nI w) (nI h) aho aaw fi sc (nI el.length) aen ato (bI li) (nI mny) awa aot (bI drn) wyv rkv awk atr ase ade ala ach apa asq, aZ cZ aho 25 (bF hb), aZ cZ aaw 50 (bF aw), aI cI aen 80 fen, aI cI ato 40 fto] 0 0 (fun r w1 => (holeOK w h u v = false ∧ r = some (.int 0) ∧ w1 = [oMD m 0 kd (nI w) (nI h) aho aaw fi sc (nI el.length) aen ato (bI li) (nI mny) awa aot (bI drn) wyv rkv awk atr ase ade ala ach apa asq, aZ cZ aho 25 (bF hb), aZ cZ aaw 50 (bF aw), aI cI aen 80 fen, aI cI ato 40 fto]) ∨ (holeOK w h u v = true ∧ ∃ (aw2 : Nat → Bool) (fe2 ft2 : Nat → Int32), (∀ q, q < 50 → aw2 q = false) ∧ r = some (.int 1) ∧ w1 = [oMD m 0 kd (nI w) (nI h) aho aaw fi sc (nI (mNum w h (upB hb (mpos w u v) (!hb (mpos w u v))) aw2).length) aen ato (bI false) (nI mny) awa aot (bI false) wyv rkv awk atr ase ade ala ach apa asq, aZ cZ aho 25 (bF (upB hb (mpos w u v) (!hb (mpos w u v)))), aZ cZ aaw 50 (bF aw2), aI cI aen 80 fe2, aI cI ato 40 ft2] ∧ enR (mNum w h (upB hb (mpos w u v) (!hb (mpos w u v))) aw2) fe2 ∧ (∀ i, i < 40 → ft2 i = 0))) := by
  refine MC.of (by decide) bigW_good (Nat.le_of_ble_eq_true rfl) (fun κ C Z IN => ?_)
  have hP : w * h ≤ 25 := Nat.mul_le_mul hw hh
  refine e_aload_n C d_MD_hole_0 rfl rfl ?_
  refine e_iconst (v := 0) C d_MD_hole_1 rfl ?_
  refine e_put C hin_MD ty_MD tyk_MD nm_MD 0 rfl rfl 0 (by decide) fl_MD_78 rfl rfl rfl (Nat.le_of_ble_eq_true rfl) d_MD_hole_2 ?_
  refine e_ws [oMD m 0 kd (nI w) (nI h) aho aaw fi sc (nI el.length) aen ato (bI li) (nI mny) awa aot (bI drn) wyv rkv awk atr ase ade ala ach apa asq, aZ cZ aho 25 (bF hb), aZ cZ aaw 50 (bF aw), aI cI aen 80 fen, aI cI ato 40 fto] rfl ?_
  refine e_iload_n C d_MD_hole_5 rfl rfl ?_
  refine e_if_lt (tgt := 29) C d_MD_hole_6 (by decide) (fun h6 => ?_) (fun h6 => ?_)
  · -- 29
    have hok : holeOK w h u v = false := by unfold holeOK; simp [h6]
    refine e_iconst (v := 0) C d_MD_hole_29 rfl ?_
    exact e_iret C Z rfl (Nat.le_of_ble_eq_true rfl) (Nat.le_of_ble_eq_true rfl) (Or.inl ⟨hok, rfl, rfl⟩) d_MD_hole_30
  · -- 9
    refine e_iload_n C d_MD_hole_9 rfl rfl ?_
    refine e_aload_n C d_MD_hole_10 rfl rfl ?_
    refine e_get C hin_MD 0 rfl rfl 2 (by decide) fl_MD_69 rfl d_MD_hole_11 ?_
    refine e_icmp_ge (tgt := 29) C d_MD_hole_14 (by decide) (fun h14 => ?_) (fun h14 => ?_)
    · -- 29
      have hok : holeOK w h u v = false := by unfold holeOK; simp [h6, h14]
      refine e_iconst (v := 0) C d_MD_hole_29 rfl ?_
      exact e_iret C Z rfl (Nat.le_of_ble_eq_true rfl) (Nat.le_of_ble_eq_true rfl) (Or.inl ⟨hok, rfl, rfl⟩) d_MD_hole_30
    · -- 17
      refine e_iload_n C d_MD_hole_17 rfl rfl ?_
      refine e_if_lt (tgt := 29) C d_MD_hole_18 (by decide) (fun h18 => ?_) (fun h18 => ?_)
      · -- 29
        have hok : holeOK w h u v = false := by unfold holeOK; simp [h6, h14, h18]
        refine e_iconst (v := 0) C d_MD_hole_29 rfl ?_
        exact e_iret C Z rfl (Nat.le_of_ble_eq_true rfl) (Nat.le_of_ble_eq_true rfl) (Or.inl ⟨hok, rfl, rfl⟩) d_MD_hole_30
      · -- 21
        refine e_iload_n C d_MD_hole_21 rfl rfl ?_
        refine e_aload_n C d_MD_hole_22 rfl rfl ?_
        refine e_get C hin_MD 0 rfl rfl 3 (by decide) fl_MD_72 rfl d_MD_hole_23 ?_
        refine e_icmp_lt (tgt := 31) C d_MD_hole_26 (by decide) (fun h26 => ?_) (fun h26 => ?_)
        · -- 31
          have hok : holeOK w h u v = true := by unfold holeOK; rw [decide_eq_false h6, decide_eq_false h14, decide_eq_false h18, decide_eq_true h26]; rfl
          obtain ⟨a, b, ha, hb2, rfl, rfl⟩ := mHole_nI hw hh hok
          have hab : w * b + a < 25 := by have q1 := Nat.mul_le_mul_left w (show b + 1 ≤ h from hb2); rw [Nat.mul_add] at q1; omega
          have hps : mpos w (nI a) (nI b) = w * b + a := by unfold mpos; rw [pk_mul, nI_add, nI_clamp (by omega)]
          refine e_aload_n C d_MD_hole_31 rfl rfl ?_
          refine e_get C hin_MD 0 rfl rfl 2 (by decide) fl_MD_69 rfl d_MD_hole_32 ?_
          refine e_iload_n C d_MD_hole_35 rfl rfl ?_
          refine e_imul C d_MD_hole_36 ?_
          refine e_iload_n C d_MD_hole_37 rfl rfl ?_
          refine e_iadd C d_MD_hole_38 ?_
          refine e_st [.int (nI (w * b + a))] (by rw [pk_mul, nI_add]) ?_
          refine e_istore_n C d_MD_hole_39 rfl (by decide) ?_
          refine e_aload_n C d_MD_hole_40 rfl rfl ?_
          refine e_get C hin_MD 0 rfl rfl 4 (by decide) fl_MD_7 rfl d_MD_hole_41 ?_
          refine e_iload_n C d_MD_hole_44 rfl rfl ?_
          refine e_aload_n C d_MD_hole_45 rfl rfl ?_
          refine e_get C hin_MD 0 rfl rfl 4 (by decide) fl_MD_7 rfl d_MD_hole_46 ?_
          refine e_iload_n C d_MD_hole_49 rfl rfl ?_
          refine e_zald C 1 2 rfl rfl (vp_in_nI (by omega) (by omega)) d_MD_hole_50 ?_
          refine e_st [.int (bI (hb (w * b + a))), .int (nI (w * b + a)), .ref aho] (by rw [nI_clamp (by omega)]; rfl) ?_
          refine e_lv [(0, .ref m), (1, .int (nI a)), (2, .int (nI b)), (3, .int (nI (w * b + a)))] ⟨rfl, rfl, rfl, rfl, trivial⟩ ?_
          have J60 : E κ (lu_o [(0, .ref m), (1, .int (nI a)), (2, .int (nI b)), (3, .int (nI (w * b + a)))]) [] [oMD m 0 kd (nI w) (nI h) aho aaw fi sc (nI el.length) aen ato (bI li) (nI mny) awa aot (bI drn) wyv rkv awk atr ase ade ala ach apa asq, aZ cZ aho 25 (bF (upB hb (w * b + a) (!hb (w * b + a)))), aZ cZ aaw 50 (bF aw), aI cI aen 80 fen, aI cI ato 40 fto] 0 0 60 := by
            refine e_iconst (v := 0) C d_MD_hole_60 rfl ?_
            refine e_istore C d_MD_hole_61 (by decide) ?_
            have LA : ∀ (fuel : Nat) (i : Nat), i ≤ 50 →  50 - i < fuel → E κ (lu_o [(0, .ref m), (4, .int (nI i))]) [] [oMD m 0 kd (nI w) (nI h) aho aaw fi sc (nI el.length) aen ato (bI li) (nI mny) awa aot (bI drn) wyv rkv awk atr ase ade ala ach apa asq, aZ cZ aho 25 (bF (upB hb (w * b + a) (!hb (w * b + a)))), aZ cZ aaw 50 (bF (fun q => if q < i then false else aw q)), aI cI aen 80 fen, aI cI ato 40 fto] 0 0 63 := by
              intro fuel
              induction fuel with
              | zero => intro i hi hm; exact absurd hm (Nat.not_lt_zero _)
              | succ fuel ihLA =>
                intro i hi hm
                refine e_iload C d_MD_hole_63 rfl ?_
                refine e_bipush (v := 50) C d_MD_hole_65 (by decide) ?_
                refine e_icmp_ge (tgt := 84) C d_MD_hole_67 (by decide) (fun h67 => ?_) (fun h67 => ?_)
                · -- 84
                  have hi5 : 50 = i := by have q := (nI_leI (a := 50) (by omega) (by omega)).mp h67; omega
                  refine e_aload_n C d_MD_hole_84 rfl rfl ?_
                  refine e_callV (As := []) (st := []) (wc := [oMD m 0 kd (nI w) (nI h) aho aaw fi sc (nI el.length) aen ato (bI li) (nI mny) awa aot (bI drn) wyv rkv awk atr ase ade ala ach apa asq, aZ cZ aho 25 (bF (upB hb (w * b + a) (!hb (w * b + a)))), aZ cZ aaw 50 (bF (fun q => if q < i then false else aw q)), aI cI aen 80 fen, aI cI ato 40 fto]) (wr := []) C (M_MD_number l D cI cJ cZ m aho aaw aen ato awa aot awk atr ase ade ala ach apa asq w h hw hh hw1 hh1 0 kd fi sc (nI el.length) li mny drn wyv rkv (upB hb (w * b + a) (!hb (w * b + a))) (fun q => if q < i then false else aw q) fen fto) v_MD_number ml_MD_75 0 rfl rfl nwW_ok ⟨Nat.le_of_ble_eq_true rfl, Nat.le_of_ble_eq_true rfl⟩ ⟨Nat.le_of_ble_eq_true rfl, Nat.le_of_ble_eq_true rfl⟩ [0, 1, 2, 3, 4] [] rfl rfl rfl rfl (by decide) (Nat.le_of_ble_eq_true rfl) rfl d_MD_hole_85 (fun v w1 hp => ?_)
                  obtain ⟨fe2, ft2, rfl, rfl, hR2, hT2⟩ := hp
                  refine e_perm (st' := []) (ws' := [oMD m 0 kd (nI w) (nI h) aho aaw fi sc (nI (mNum w h (upB hb (w * b + a) (!hb (w * b + a))) (fun q => if q < i then false else aw q)).length) aen ato (bI false) (nI mny) awa aot (bI false) wyv rkv awk atr ase ade ala ach apa asq, aZ cZ aho 25 (bF (upB hb (w * b + a) (!hb (w * b + a)))), aZ cZ aaw 50 (bF (fun q => if q < i then false else aw q)), aI cI aen 80 fe2, aI cI ato 40 ft2]) [0, 1, 2, 3, 4] rfl rfl rfl ?_
                  refine e_iconst (v := 1) C d_MD_hole_88 rfl ?_
                  exact e_iret C Z rfl (Nat.le_of_ble_eq_true rfl) (Nat.le_of_ble_eq_true rfl) (Or.inr ⟨hok, fun q => if q < i then false else aw q, fe2, ft2, fun q hq => if_pos (by omega), rfl, by rw [hps], by rw [hps]; exact hR2, hT2⟩) d_MD_hole_89
                · -- 70
                  have hi5 : i < 50 := by rcases Nat.lt_or_ge i 50 with q | q; exact q; exact absurd (nI_le (a := 50) q (by omega)) h67
                  refine e_aload_n C d_MD_hole_70 rfl rfl ?_
                  refine e_get C hin_MD 0 rfl rfl 5 (by decide) fl_MD_13 rfl d_MD_hole_71 ?_
                  refine e_iload C d_MD_hole_74 rfl ?_
                  refine e_iconst (v := 0) C d_MD_hole_76 rfl ?_
                  refine e_zast C 2 2 rfl rfl (vp_in_nI (by omega) (by omega)) d_MD_hole_77 ?_
                  refine e_ws [oMD m 0 kd (nI w) (nI h) aho aaw fi sc (nI el.length) aen ato (bI li) (nI mny) awa aot (bI drn) wyv rkv awk atr ase ade ala ach apa asq, aZ cZ aho 25 (bF (upB hb (w * b + a) (!hb (w * b + a)))), aZ cZ aaw 50 (bF (upB (fun q => if q < i then false else aw q) i false)), aI cI aen 80 fen, aI cI ato 40 fto] (by rw [nI_clamp (by omega), ← bF_upd0]; rfl) ?_
                  refine e_iinc (v := (nI i) + 1) C d_MD_hole_78 rfl rfl (by decide) ?_
                  refine e_goto (tgt := 63) C d_MD_hole_81 (by decide) ?_
                  refine e_lv [(0, .ref m), (4, .int (nI (i + 1)))] ⟨rfl, congrArg (fun z => some (Value.int z)) (nI_1 i), trivial⟩ ?_
                  refine e_ws [oMD m 0 kd (nI w) (nI h) aho aaw fi sc (nI el.length) aen ato (bI li) (nI mny) awa aot (bI drn) wyv rkv awk atr ase ade ala ach apa asq, aZ cZ aho 25 (bF (upB hb (w * b + a) (!hb (w * b + a)))), aZ cZ aaw 50 (bF (fun q => if q < i + 1 then false else aw q)), aI cI aen 80 fen, aI cI ato 40 fto] (by rw [upB_fill]) ?_
                  exact ihLA (i + 1) (by omega) (by omega)
            refine e_lv [(0, .ref m), (4, .int (nI 0))] ⟨rfl, rfl, trivial⟩ ?_
            refine e_ws [oMD m 0 kd (nI w) (nI h) aho aaw fi sc (nI el.length) aen ato (bI li) (nI mny) awa aot (bI drn) wyv rkv awk atr ase ade ala ach apa asq, aZ cZ aho 25 (bF (upB hb (w * b + a) (!hb (w * b + a)))), aZ cZ aaw 50 (bF (fun q => if q < 0 then false else aw q)), aI cI aen 80 fen, aI cI ato 40 fto] (by simp) ?_
            exact LA _ 0 (Nat.zero_le _) (Nat.lt_succ_self _)
          refine e_if_ne (tgt := 58) C d_MD_hole_51 (by decide) (fun h51 => ?_) (fun h51 => ?_)
          · -- 58
            refine e_iconst (v := 0) C d_MD_hole_58 rfl ?_
            refine e_zast C 1 2 rfl rfl (vp_in_nI (by omega) (by omega)) d_MD_hole_59 ?_
            refine e_ws [oMD m 0 kd (nI w) (nI h) aho aaw fi sc (nI el.length) aen ato (bI li) (nI mny) awa aot (bI drn) wyv rkv awk atr ase ade ala ach apa asq, aZ cZ aho 25 (bF (upB hb (w * b + a) false)), aZ cZ aaw 50 (bF aw), aI cI aen 80 fen, aI cI ato 40 fto] (by rw [nI_clamp (by omega), ← bF_upd0]; rfl) ?_
            refine e_lv [(0, .ref m), (1, .int (nI a)), (2, .int (nI b)), (3, .int (nI (w * b + a)))] ⟨rfl, rfl, rfl, rfl, trivial⟩ ?_
            refine e_ws [oMD m 0 kd (nI w) (nI h) aho aaw fi sc (nI el.length) aen ato (bI li) (nI mny) awa aot (bI drn) wyv rkv awk atr ase ade ala ach apa asq, aZ cZ aho 25 (bF (upB hb (w * b + a) (!hb (w * b + a)))), aZ cZ aaw 50 (bF aw), aI cI aen 80 fen, aI cI ato 40 fto] (by simp only [bI_eq0, Bool.not_eq_false] at h51; rw [h51]; rfl) ?_
            exact J60
          · -- 54
            refine e_iconst (v := 1) C d_MD_hole_54 rfl ?_
            refine e_goto (tgt := 59) C d_MD_hole_55 (by decide) ?_
            refine e_zast C 1 2 rfl rfl (vp_in_nI (by omega) (by omega)) d_MD_hole_59 ?_
            refine e_ws [oMD m 0 kd (nI w) (nI h) aho aaw fi sc (nI el.length) aen ato (bI li) (nI mny) awa aot (bI drn) wyv rkv awk atr ase ade ala ach apa asq, aZ cZ aho 25 (bF (upB hb (w * b + a) true)), aZ cZ aaw 50 (bF aw), aI cI aen 80 fen, aI cI ato 40 fto] (by rw [nI_clamp (by omega), ← bF_upd1]; rfl) ?_
            refine e_lv [(0, .ref m), (1, .int (nI a)), (2, .int (nI b)), (3, .int (nI (w * b + a)))] ⟨rfl, rfl, rfl, rfl, trivial⟩ ?_
            refine e_ws [oMD m 0 kd (nI w) (nI h) aho aaw fi sc (nI el.length) aen ato (bI li) (nI mny) awa aot (bI drn) wyv rkv awk atr ase ade ala ach apa asq, aZ cZ aho 25 (bF (upB hb (w * b + a) (!hb (w * b + a)))), aZ cZ aaw 50 (bF aw), aI cI aen 80 fen, aI cI ato 40 fto] (by simp only [bI_eq0, Bool.not_eq_false] at h51; rw [h51]; rfl) ?_
            exact J60
        · -- 29
          have hok : holeOK w h u v = false := by unfold holeOK; simp [h6, h14, h18, h26]
          refine e_iconst (v := 0) C d_MD_hole_29 rfl ?_
          exact e_iret C Z rfl (Nat.le_of_ble_eq_true rfl) (Nat.le_of_ble_eq_true rfl) (Or.inl ⟨hok, rfl, rfl⟩) d_MD_hole_30
