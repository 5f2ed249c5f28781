/-! THE REFERENCE'S countAll, count, digit, draw -/
def cntM (w h : Nat) (kd fi sc : Int32) (el : List (Nat × Nat)) (hb : Nat → Bool) (fto : Nat → Int32) : Nat := if kd = 3 then treesF w h el hb fto else ((lsAll w h kd fi sc el hb).filter (fun s => alAll fto s el.length)).length
def cnA (P : Int64 → Bool) (L : List Int64) (i : Nat) : Nat := ((L.take i).filter P).length
theorem cnA_s {P : Int64 → Bool} {L : List Int64} {i : Nat} {v : Int64} (h : L[i]? = some v) : cnA P L (i + 1) = cnA P L i + (if P v = true then 1 else 0) := by
  unfold cnA
  rw [List.take_succ, h, List.filter_append, List.length_append]
  show _ + (List.filter P [v]).length = _
  by_cases z : P v = true
  · rw [if_pos z, List.filter_cons_of_pos z]; rfl
  · rw [if_neg z, List.filter_cons_of_neg z]; rfl
theorem cnA_le {P : Int64 → Bool} {L : List Int64} {i : Nat} : cnA P L i ≤ L.length := by
  unfold cnA
  exact Nat.le_trans (List.length_filter_le _ _) (by rw [List.length_take]; omega)
theorem cnA_all {P : Int64 → Bool} {L T : List Int64} (h : L.Perm T) : cnA P L L.length = (T.filter P).length := by
  unfold cnA
  rw [List.take_length]
  exact (h.filter P).length_eq
theorem LsR_len {T : List Int64} {fw : Nat → Int64} {n : Nat} (h : LsR T fw n) : n = T.length := by
  obtain ⟨L, h1, h2, _⟩ := h
  rw [← h1, h2.length_eq]
theorem cntM_lt {w h : Nat} {kd fi sc : Int32} {el : List (Nat × Nat)} {hb : Nat → Bool} {fto : Nat → Int32} (hlim : kd ≠ 3 → (lsAll w h kd fi sc el hb).length ≤ 40000) : cntM w h kd fi sc el hb fto < 2147483647 := by
  unfold cntM
  by_cases z : kd = 3
  · rw [if_pos z]; exact treesF_lt
  · rw [if_neg z]
    have h1 := hlim z
    have h2 := List.length_filter_le (fun s => alAll fto s el.length) (lsAll w h kd fi sc el hb)
    omega
def digR : Nat → Nat → Int32
  | 0, n => nI (n % 10)
  | j + 1, n => if n / 10 = 0 then -1 else digR j (n / 10)
def mDig (n : Nat) (i : Int32) : Int32 := if i < 0 then -1 else digR i.toNatClampNeg n
theorem jl1 (x : Int64) : ∃ n, n < 2 ^ 63 ∧ jlushr x 1 = lN n := by
  refine ⟨x.toBitVec.toNat / 2, by have := x.toBitVec.isLt; omega, ?_⟩
  apply Int64.toBitVec_inj.mp
  apply BitVec.eq_of_toNat_eq
  have h1 : (lN (x.toBitVec.toNat / 2)).toBitVec.toNat = x.toBitVec.toNat / 2 := by
    show (BitVec.ofNat 64 _).toNat = _
    rw [BitVec.toNat_ofNat, Nat.mod_eq_of_lt (by have := x.toBitVec.isLt; omega)]
  rw [h1]
  show (x.toBitVec >>> (((Int32.toInt64 1).toUInt64 &&& Int64.toUInt64 63).mod 64).toBitVec.toNat).toNat = _
  rw [show (((Int32.toInt64 1).toUInt64 &&& Int64.toUInt64 63).mod 64).toBitVec.toNat = 1 from by decide, BitVec.toNat_ushiftRight]
  rfl
theorem ixF_r (seed : Int64) {n : Nat} (h0 : 0 < n) (hn : n < 2 ^ 63) : ∃ r, r < n ∧ ixF seed (lN n) = lN r := by
  obtain ⟨a, ha, he⟩ := jl1 (6364136223846793005 * seed + 1442695040888963407)
  exact ⟨a % n, Nat.mod_lt _ h0, by unfold ixF; rw [he]; exact pk_lRem ha h0 hn⟩
def DrW (w h : Nat) (kd fi sc : Int32) (el : List (Nat × Nat)) (hb : Nat → Bool) (fto : Nat → Int32) (r : Nat) (W : Int64) : Prop := (kd = 3 → W = dtF w h el hb el.length 0 r 0 fto) ∧ (kd ≠ 3 → ∃ L : List Int64, L.Perm (lsAll w h kd fi sc el hb) ∧ L.Pairwise (fun a b => leS a b = true) ∧ (L.filter (fun s => alAll fto s el.length))[r]? = some W)
theorem drp_c {L : List Int64} {k : Nat} {v : Int64} (h : L[k]? = some v) : L.drop k = v :: L.drop (k + 1) := by
  have hi := (List.getElem?_eq_some_iff.mp h).1
  rw [List.drop_eq_getElem_cons hi, (List.getElem?_eq_some_iff.mp h).2]
set_option maxHeartbeats 4000000 in
set_option maxRecDepth 100000 in
theorem M_MD_countAll (l : Launch) (D : va_G) (cI cJ cZ : ClassId) (m aho aaw aen ato awa aot awk atr ase ade ala ach apa asq : Nat) (w h : Nat) (hw : w ≤ 5) (hh : h ≤ 5) (hw1 : 1 ≤ w) (hh1 : 1 ≤ h) (th kd fi sc : Int32) (el : List (Nat × Nat)) (li : Bool) (mny : Nat) (drn : Bool) (wyv rkv : Int64) (hb : Nat → Bool) (fen fto fwk ftr fde fla fch fpa : Nat → Int32) (fse fw fo fsq : Nat → Int64) (hen : enR el fen) (hel : el.length ≤ 40) (hev : ∀ (i a b : Nat), el[i]? = some (a, b) → a < 25 ∧ b < 25 ∧ a ≠ b) (hfs : fi < 0 ∨ ∃ a b : Nat, a < w * h ∧ b < w * h ∧ fi = nI a ∧ sc = nI b) (hlim : kd ≠ 3 → (lsAll w h kd fi sc el hb).length ≤ 40000) (hli : li = true → LsR (lsAll w h kd fi sc el hb) fw mny) : MK l D cI cJ cZ y_MD_countAll c_MD_countAll 4 (some FieldType.long) 3 84 [.ref m] [oMD m th kd (nI w) (nI h) aho aaw fi sc (nI el.length) aen ato (bI li) (nI mny) awa aot (bI drn) wyv rkv awk atr ase ade ala ach apa asq, aZ cZ aho 25 (bF hb), aI cI aen 80 fen, aI cI ato 40 fto, aJ cJ awa 40000 fw, aJ cJ aot 40000 fo, aI cI awk 26 fwk, aI cI atr 26 ftr, aJ cJ ase 26 fse, aI cI ade 25 fde, aI cI ala 25 fla, aI cI ach 41 fch, aI cI apa 25 fpa, aJ cJ asq 625 fsq] 0 0 (fun v w1 => ∃ (wa ot : Nat) (li2 : Bool) (mny2 : Nat) (fw2 fo2 : Nat → Int64) (fwk2 ftr2 : Nat → Int32) (fse2 : Nat → Int64) (fde2 fla2 fch2 fpa2 : Nat → Int32) (fsq2 : Nat → Int64), v = some (.long (lN (cntM w h kd fi sc el hb fto))) ∧ w1 = [oMD m th kd (nI w) (nI h) aho aaw fi sc (nI el.length) aen ato (bI li2) (nI mny2) wa ot (bI drn) wyv rkv awk atr ase ade ala ach apa asq, aZ cZ aho 25 (bF hb), aI cI aen 80 fen, aI cI ato 40 fto, aJ cJ wa 40000 fw2, aJ cJ ot 40000 fo2, aI cI awk 26 fwk2, aI cI atr 26 ftr2, aJ cJ ase 26 fse2, aI cI ade 25 fde2, aI cI ala 25 fla2, aI cI ach 41 fch2, aI cI apa 25 fpa2, aJ cJ asq 625 fsq2] ∧ (li2 = true → LsR (lsAll w h kd fi sc el hb) fw2 mny2) ∧ (kd ≠ 3 → li2 = true)) := by
  refine MC.of (by decide) bigW_good (Nat.le_of_ble_eq_true rfl) (fun κ C Z IN => ?_)
  have hP : w * h ≤ 25 := Nat.mul_le_mul hw hh
  refine e_aload_n C d_MD_countAll_0 rfl rfl ?_
  refine e_get C hin_MD 0 rfl rfl 1 (by decide) fl_MD_66 rfl d_MD_countAll_1 ?_
  refine e_iconst (v := 3) C d_MD_countAll_4 rfl ?_
  refine e_icmp_ne (tgt := 13) C d_MD_countAll_5 (by decide) (fun h5 => ?_) (fun h5 => ?_)
  · -- 13
    refine e_aload_n C d_MD_countAll_13 rfl rfl ?_
    refine e_callV (As := []) (st := []) (wc := [oMD m th kd (nI w) (nI h) aho aaw fi sc (nI el.length) aen ato (bI li) (nI mny) awa aot (bI drn) wyv rkv awk atr ase ade ala ach apa asq, aZ cZ aho 25 (bF hb), aI cI aen 80 fen, aJ cJ awa 40000 fw, aJ cJ aot 40000 fo, aI cI awk 26 fwk, aI cI atr 26 ftr, aJ cJ ase 26 fse, aI cI ade 25 fde, aI cI ala 25 fla, aI cI ach 41 fch]) (wr := [aI cI ato 40 fto, aI cI apa 25 fpa, aJ cJ asq 625 fsq]) C (M_MD_list l D cI cJ cZ m aho aaw aen ato awa aot awk atr ase ade ala ach apa asq w h hw hh hw1 hh1 th kd fi sc el li mny drn wyv rkv hb fen fwk ftr fde fla fch fse fw fo hen hel hev hfs (hlim h5) hli) v_MD_list ml_MD_164 0 rfl rfl nwW_ok ⟨Nat.le_of_ble_eq_true rfl, Nat.le_of_ble_eq_true rfl⟩ ⟨Nat.le_of_ble_eq_true rfl, Nat.le_of_ble_eq_true rfl⟩ [0, 1, 2, 4, 5, 6, 7, 8, 9, 10, 11] [3, 12, 13] rfl rfl rfl rfl (by decide) (Nat.le_of_ble_eq_true rfl) rfl d_MD_countAll_14 (fun v w1 hp => ?_)
    obtain ⟨wa, ot, mny2, fw2, fo2, fwk2, ftr2, fse2, fde2, fla2, fch2, rfl, rfl, hLsR⟩ := hp
    refine e_perm (st' := []) (ws' := [oMD m th kd (nI w) (nI h) aho aaw fi sc (nI el.length) aen ato (bI true) (nI mny2) wa ot (bI drn) wyv rkv awk atr ase ade ala ach apa asq, aZ cZ aho 25 (bF hb), aI cI aen 80 fen, aI cI ato 40 fto, aJ cJ wa 40000 fw2, aJ cJ ot 40000 fo2, aI cI awk 26 fwk2, aI cI atr 26 ftr2, aJ cJ ase 26 fse2, aI cI ade 25 fde2, aI cI ala 25 fla2, aI cI ach 41 fch2, aI cI apa 25 fpa, aJ cJ asq 625 fsq]) [3, 4, 5, 0, 6, 7, 8, 9, 10, 11, 12, 13, 1, 2] rfl rfl rfl ?_
    have hmny2 := LsR_len hLsR
    have hlimb := hlim h5
    obtain ⟨L, hLl, hLp, hLs, hLW⟩ := hLsR
    refine e_lconst (v := 0) C d_MD_countAll_17 rfl ?_
    refine e_lstore_n C d_MD_countAll_18 rfl (by decide) ?_
    refine e_iconst (v := 0) C d_MD_countAll_19 rfl ?_
    refine e_istore_n C d_MD_countAll_20 rfl (by decide) ?_
    have LP : ∀ (fuel : Nat) (i : Nat), i ≤ L.length →  L.length - i < fuel → E κ (lu_o [(0, .ref m), (1, .long (lN (cnA (fun s => alAll fto s el.length) L i))), (3, .int (nI i))]) [] [oMD m th kd (nI w) (nI h) aho aaw fi sc (nI el.length) aen ato (bI true) (nI mny2) wa ot (bI drn) wyv rkv awk atr ase ade ala ach apa asq, aZ cZ aho 25 (bF hb), aI cI aen 80 fen, aI cI ato 40 fto, aJ cJ wa 40000 fw2, aJ cJ ot 40000 fo2, aI cI awk 26 fwk2, aI cI atr 26 ftr2, aJ cJ ase 26 fse2, aI cI ade 25 fde2, aI cI ala 25 fla2, aI cI ach 41 fch2, aI cI apa 25 fpa, aJ cJ asq 625 fsq] 0 0 21 := by
      intro fuel
      induction fuel with
      | zero => intro i hi hm; exact absurd hm (Nat.not_lt_zero _)
      | succ fuel ihLP =>
        intro i hi hm
        refine e_iload_n C d_MD_countAll_21 rfl rfl ?_
        refine e_aload_n C d_MD_countAll_22 rfl rfl ?_
        refine e_get C hin_MD 0 rfl rfl 12 (by decide) fl_MD_106 rfl d_MD_countAll_23 ?_
        refine e_icmp_ge (tgt := 56) C d_MD_countAll_26 (by decide) (fun h26 => ?_) (fun h26 => ?_)
        · -- 56
          have hiL : i = L.length := by have q := (nI_leI (a := mny2) (by omega) (by omega)).mp h26; omega
          have hcnt : cnA (fun s => alAll fto s el.length) L i = (cntM w h kd fi sc el hb fto) := by rw [hiL, cnA_all hLp]; unfold cntM; rw [if_neg h5]
          refine e_lload_n C d_MD_countAll_56 rfl rfl ?_
          exact e_lret C Z (Nat.le_of_ble_eq_true rfl) (Nat.le_of_ble_eq_true rfl) (⟨wa, ot, true, mny2, fw2, fo2, fwk2, ftr2, fse2, fde2, fla2, fch2, fpa, fsq, by rw [hcnt], rfl, fun _ => ⟨L, hLl, hLp, hLs, hLW⟩, fun _ => rfl⟩) d_MD_countAll_57
        · -- 29
          have hiL : i < L.length := by rcases Nat.lt_or_ge i L.length with q | q; exact q; exact absurd (nI_le (a := mny2) (by omega) (by omega)) h26
          obtain ⟨v, hv, hwv⟩ := WaR_get hLW hiL
          refine e_lload_n C d_MD_countAll_29 rfl rfl ?_
          refine e_aload_n C d_MD_countAll_30 rfl rfl ?_
          refine e_aload_n C d_MD_countAll_31 rfl rfl ?_
          refine e_get C hin_MD 0 rfl rfl 13 (by decide) fl_MD_31 rfl d_MD_countAll_32 ?_
          refine e_iload_n C d_MD_countAll_35 rfl rfl ?_
          refine e_lald C 4 1 rfl rfl (vp_in_nI (by omega) (by omega)) d_MD_countAll_36 ?_
          refine e_st [.long (fw2 i), .ref m, .long (lN (cnA (fun s => alAll fto s el.length) L i))] (by rw [nI_clamp (by omega)]) ?_
          refine e_st [.long v, .ref m, .long (lN (cnA (fun s => alAll fto s el.length) L i))] (by rw [hwv]) ?_
          refine e_callV (As := [.long v]) (st := [.long (lN (cnA (fun s => alAll fto s el.length) L i))]) (wc := [oMD m th kd (nI w) (nI h) aho aaw fi sc (nI el.length) aen ato (bI true) (nI mny2) wa ot (bI drn) wyv rkv awk atr ase ade ala ach apa asq, aI cI ato 40 fto]) (wr := [aZ cZ aho 25 (bF hb), aI cI aen 80 fen, aJ cJ wa 40000 fw2, aJ cJ ot 40000 fo2, aI cI awk 26 fwk2, aI cI atr 26 ftr2, aJ cJ ase 26 fse2, aI cI ade 25 fde2, aI cI ala 25 fla2, aI cI ach 41 fch2, aI cI apa 25 fpa, aJ cJ asq 625 fsq]) C (M_MD_isAllowed l D cI cJ cZ m aho aaw aen ato wa ot awk atr ase ade ala ach apa asq w h hw hh hw1 hh1 th kd fi sc el true mny2 drn wyv rkv fto v hel) v_MD_isAllowed ml_MD_167 0 rfl rfl nwW_ok ⟨Nat.le_of_ble_eq_true rfl, Nat.le_of_ble_eq_true rfl⟩ ⟨Nat.le_of_ble_eq_true rfl, Nat.le_of_ble_eq_true rfl⟩ [0, 3] [1, 2, 4, 5, 6, 7, 8, 9, 10, 11, 12, 13] rfl rfl rfl rfl (by decide) (Nat.le_of_ble_eq_true rfl) rfl d_MD_countAll_37 (fun v w1 hp => ?_)
          obtain ⟨rfl, rfl⟩ := hp
          refine e_perm (st' := [.int (bI (alAll fto v el.length)), .long (lN (cnA (fun s => alAll fto s el.length) L i))]) (ws' := [oMD m th kd (nI w) (nI h) aho aaw fi sc (nI el.length) aen ato (bI true) (nI mny2) wa ot (bI drn) wyv rkv awk atr ase ade ala ach apa asq, aZ cZ aho 25 (bF hb), aI cI aen 80 fen, aI cI ato 40 fto, aJ cJ wa 40000 fw2, aJ cJ ot 40000 fo2, aI cI awk 26 fwk2, aI cI atr 26 ftr2, aJ cJ ase 26 fse2, aI cI ade 25 fde2, aI cI ala 25 fla2, aI cI ach 41 fch2, aI cI apa 25 fpa, aJ cJ asq 625 fsq]) [12, 0, 1, 13, 2, 3, 4, 5, 6, 7, 8, 9, 10, 11] rfl rfl rfl ?_
          refine e_if_eq (tgt := 47) C d_MD_countAll_40 (by decide) (fun h40 => ?_) (fun h40 => ?_)
          · -- 47
            refine e_lconst (v := 0) C d_MD_countAll_47 rfl ?_
            refine e_ladd C d_MD_countAll_48 ?_
            refine e_lstore_n C d_MD_countAll_49 rfl (by decide) ?_
            refine e_iinc (v := (nI i) + 1) C d_MD_countAll_50 rfl rfl (by decide) ?_
            refine e_goto (tgt := 21) C d_MD_countAll_53 (by decide) ?_
            refine e_lv [(0, .ref m), (1, .long (lN (cnA (fun s => alAll fto s el.length) L (i + 1)))), (3, .int (nI (i + 1)))] ⟨rfl, (by show some (Value.long _) = _; simp only [bI_eq0] at h40; rw [cnA_s hv, if_neg (Bool.eq_false_iff.mp h40), Nat.add_zero]; exact congrArg (fun z => some (Value.long z)) (Int64.add_zero _)), congrArg (fun z => some (Value.int z)) (nI_1 i), trivial⟩ ?_
            refine e_ws [oMD m th kd (nI w) (nI h) aho aaw fi sc (nI el.length) aen ato (bI true) (nI mny2) wa ot (bI drn) wyv rkv awk atr ase ade ala ach apa asq, aZ cZ aho 25 (bF hb), aI cI aen 80 fen, aI cI ato 40 fto, aJ cJ wa 40000 fw2, aJ cJ ot 40000 fo2, aI cI awk 26 fwk2, aI cI atr 26 ftr2, aJ cJ ase 26 fse2, aI cI ade 25 fde2, aI cI ala 25 fla2, aI cI ach 41 fch2, aI cI apa 25 fpa, aJ cJ asq 625 fsq] rfl ?_
            exact ihLP (i + 1) (by omega) (by omega)
          · -- 43
            refine e_lconst (v := 1) C d_MD_countAll_43 rfl ?_
            refine e_goto (tgt := 48) C d_MD_countAll_44 (by decide) ?_
            refine e_ladd C d_MD_countAll_48 ?_
            refine e_lstore_n C d_MD_countAll_49 rfl (by decide) ?_
            refine e_iinc (v := (nI i) + 1) C d_MD_countAll_50 rfl rfl (by decide) ?_
            refine e_goto (tgt := 21) C d_MD_countAll_53 (by decide) ?_
            refine e_lv [(0, .ref m), (1, .long (lN (cnA (fun s => alAll fto s el.length) L (i + 1)))), (3, .int (nI (i + 1)))] ⟨rfl, (by show some (Value.long _) = _; simp only [bI_eq0, Bool.not_eq_false] at h40; rw [cnA_s hv, if_pos h40, lN_1]), congrArg (fun z => some (Value.int z)) (nI_1 i), trivial⟩ ?_
            refine e_ws [oMD m th kd (nI w) (nI h) aho aaw fi sc (nI el.length) aen ato (bI true) (nI mny2) wa ot (bI drn) wyv rkv awk atr ase ade ala ach apa asq, aZ cZ aho 25 (bF hb), aI cI aen 80 fen, aI cI ato 40 fto, aJ cJ wa 40000 fw2, aJ cJ ot 40000 fo2, aI cI awk 26 fwk2, aI cI atr 26 ftr2, aJ cJ ase 26 fse2, aI cI ade 25 fde2, aI cI ala 25 fla2, aI cI ach 41 fch2, aI cI apa 25 fpa, aJ cJ asq 625 fsq] rfl ?_
            exact ihLP (i + 1) (by omega) (by omega)
    refine e_lv [(0, .ref m), (1, .long (lN (cnA (fun s => alAll fto s el.length) L 0))), (3, .int (nI 0))] ⟨rfl, rfl, rfl, trivial⟩ ?_
    refine e_ws [oMD m th kd (nI w) (nI h) aho aaw fi sc (nI el.length) aen ato (bI true) (nI mny2) wa ot (bI drn) wyv rkv awk atr ase ade ala ach apa asq, aZ cZ aho 25 (bF hb), aI cI aen 80 fen, aI cI ato 40 fto, aJ cJ wa 40000 fw2, aJ cJ ot 40000 fo2, aI cI awk 26 fwk2, aI cI atr 26 ftr2, aJ cJ ase 26 fse2, aI cI ade 25 fde2, aI cI ala 25 fla2, aI cI ach 41 fch2, aI cI apa 25 fpa, aJ cJ asq 625 fsq] rfl ?_
    exact LP _ 0 (Nat.zero_le _) (Nat.lt_succ_self _)
  · -- 8
    refine e_aload_n C d_MD_countAll_8 rfl rfl ?_
    refine e_callV (As := []) (st := []) (wc := [oMD m th kd (nI w) (nI h) aho aaw fi sc (nI el.length) aen ato (bI li) (nI mny) awa aot (bI drn) wyv rkv awk atr ase ade ala ach apa asq, aZ cZ aho 25 (bF hb), aI cI aen 80 fen, aI cI ato 40 fto, aI cI apa 25 fpa, aJ cJ asq 625 fsq]) (wr := [aJ cJ awa 40000 fw, aJ cJ aot 40000 fo, aI cI awk 26 fwk, aI cI atr 26 ftr, aJ cJ ase 26 fse, aI cI ade 25 fde, aI cI ala 25 fla, aI cI ach 41 fch]) C (M_MD_trees l D cI cJ cZ m aho aaw aen ato awa aot awk atr ase ade ala ach apa asq w h hw hh hw1 hh1 th kd fi sc el li mny drn wyv rkv hb fen fto fpa fsq hen hel hev (treesF w h el hb fto) rfl) v_MD_trees ml_MD_161 0 rfl rfl nwW_ok ⟨Nat.le_of_ble_eq_true rfl, Nat.le_of_ble_eq_true rfl⟩ ⟨Nat.le_of_ble_eq_true rfl, Nat.le_of_ble_eq_true rfl⟩ [0, 1, 2, 3, 12, 13] [4, 5, 6, 7, 8, 9, 10, 11] rfl rfl rfl rfl (by decide) (Nat.le_of_ble_eq_true rfl) rfl d_MD_countAll_9 (fun v w1 hp => ?_)
    obtain ⟨fpa3, fsq3, rfl, rfl⟩ := hp
    refine e_perm (st' := [.long (lN (treesF w h el hb fto))]) (ws' := [oMD m th kd (nI w) (nI h) aho aaw fi sc (nI el.length) aen ato (bI li) (nI mny) awa aot (bI drn) wyv rkv awk atr ase ade ala ach apa asq, aZ cZ aho 25 (bF hb), aI cI aen 80 fen, aI cI ato 40 fto, aJ cJ awa 40000 fw, aJ cJ aot 40000 fo, aI cI awk 26 fwk, aI cI atr 26 ftr, aJ cJ ase 26 fse, aI cI ade 25 fde, aI cI ala 25 fla, aI cI ach 41 fch, aI cI apa 25 fpa3, aJ cJ asq 625 fsq3]) [8, 9, 10, 11, 0, 1, 2, 3, 4, 5, 6, 7, 12, 13] rfl rfl rfl ?_
    exact e_lret C Z (Nat.le_of_ble_eq_true rfl) (Nat.le_of_ble_eq_true rfl) (⟨awa, aot, li, mny, fw, fo, fwk, ftr, fse, fde, fla, fch, fpa3, fsq3, by unfold cntM; rw [if_pos h5], rfl, hli, fun z => absurd h5 z⟩) d_MD_countAll_12

set_option maxHeartbeats 4000000 in
set_option maxRecDepth 100000 in
theorem M_MD_count (l : Launch) (D : va_G) (cI cJ cZ : ClassId) (m aho aaw aen ato awa aot awk atr ase ade ala ach apa asq : Nat) (w h : Nat) (hw : w ≤ 5) (hh : h ≤ 5) (hw1 : 1 ≤ w) (hh1 : 1 ≤ h) (th kd fi sc : Int32) (el : List (Nat × Nat)) (li : Bool) (mny : Nat) (drn : Bool) (wyv rkv : Int64) (hb : Nat → Bool) (fen fto fwk ftr fde fla fch fpa : Nat → Int32) (fse fw fo fsq : Nat → Int64) (hen : enR el fen) (hel : el.length ≤ 40) (hev : ∀ (i a b : Nat), el[i]? = some (a, b) → a < 25 ∧ b < 25 ∧ a ≠ b) (hfs : fi < 0 ∨ ∃ a b : Nat, a < w * h ∧ b < w * h ∧ fi = nI a ∧ sc = nI b) (hlim : kd ≠ 3 → (lsAll w h kd fi sc el hb).length ≤ 40000) (hli : li = true → LsR (lsAll w h kd fi sc el hb) fw mny) : MK l D cI cJ cZ y_MD_count c_MD_count 1 (some FieldType.long) 4 107 [.ref m] [oMD m th kd (nI w) (nI h) aho aaw fi sc (nI el.length) aen ato (bI li) (nI mny) awa aot (bI drn) wyv rkv awk atr ase ade ala ach apa asq, aZ cZ aho 25 (bF hb), aI cI aen 80 fen, aI cI ato 40 fto, aJ cJ awa 40000 fw, aJ cJ aot 40000 fo, aI cI awk 26 fwk, aI cI atr 26 ftr, aJ cJ ase 26 fse, aI cI ade 25 fde, aI cI ala 25 fla, aI cI ach 41 fch, aI cI apa 25 fpa, aJ cJ asq 625 fsq] 0 0 (fun v w1 => ∃ (wa ot : Nat) (li2 : Bool) (mny2 : Nat) (fw2 fo2 : Nat → Int64) (fwk2 ftr2 : Nat → Int32) (fse2 : Nat → Int64) (fde2 fla2 fch2 fpa2 : Nat → Int32) (fsq2 : Nat → Int64), v = some (.long (lN (cntM w h kd fi sc el hb fto))) ∧ w1 = [oMD m 0 kd (nI w) (nI h) aho aaw fi sc (nI el.length) aen ato (bI li2) (nI mny2) wa ot (bI drn) wyv rkv awk atr ase ade ala ach apa asq, aZ cZ aho 25 (bF hb), aI cI aen 80 fen, aI cI ato 40 fto, aJ cJ wa 40000 fw2, aJ cJ ot 40000 fo2, aI cI awk 26 fwk2, aI cI atr 26 ftr2, aJ cJ ase 26 fse2, aI cI ade 25 fde2, aI cI ala 25 fla2, aI cI ach 41 fch2, aI cI apa 25 fpa2, aJ cJ asq 625 fsq2] ∧ (li2 = true → LsR (lsAll w h kd fi sc el hb) fw2 mny2) ∧ (kd ≠ 3 → li2 = true)) := by
  refine MC.of (by decide) bigW_good (Nat.le_of_ble_eq_true rfl) (fun κ C Z IN => ?_)
  have hP : w * h ≤ 25 := Nat.mul_le_mul hw hh
  refine e_aload_n C d_MD_count_0 rfl rfl ?_
  refine e_iconst (v := 0) C d_MD_count_1 rfl ?_
  refine e_put C hin_MD ty_MD tyk_MD nm_MD 0 rfl rfl 0 (by decide) fl_MD_78 rfl rfl rfl (Nat.le_of_ble_eq_true rfl) d_MD_count_2 ?_
  refine e_ws [oMD m 0 kd (nI w) (nI h) aho aaw fi sc (nI el.length) aen ato (bI li) (nI mny) awa aot (bI drn) wyv rkv awk atr ase ade ala ach apa asq, aZ cZ aho 25 (bF hb), aI cI aen 80 fen, aI cI ato 40 fto, aJ cJ awa 40000 fw, aJ cJ aot 40000 fo, aI cI awk 26 fwk, aI cI atr 26 ftr, aJ cJ ase 26 fse, aI cI ade 25 fde, aI cI ala 25 fla, aI cI ach 41 fch, aI cI apa 25 fpa, aJ cJ asq 625 fsq] rfl ?_
  refine e_aload_n C d_MD_count_5 rfl rfl ?_
  refine e_callV (As := []) (st := []) (wc := [oMD m 0 kd (nI w) (nI h) aho aaw fi sc (nI el.length) aen ato (bI li) (nI mny) awa aot (bI drn) wyv rkv awk atr ase ade ala ach apa asq, aZ cZ aho 25 (bF hb), aI cI aen 80 fen, aI cI ato 40 fto, aJ cJ awa 40000 fw, aJ cJ aot 40000 fo, aI cI awk 26 fwk, aI cI atr 26 ftr, aJ cJ ase 26 fse, aI cI ade 25 fde, aI cI ala 25 fla, aI cI ach 41 fch, aI cI apa 25 fpa, aJ cJ asq 625 fsq]) (wr := []) C (M_MD_countAll l D cI cJ cZ m aho aaw aen ato awa aot awk atr ase ade ala ach apa asq w h hw hh hw1 hh1 0 kd fi sc el li mny drn wyv rkv hb fen fto fwk ftr fde fla fch fpa fse fw fo fsq hen hel hev hfs hlim hli) v_MD_countAll ml_MD_171 0 rfl rfl nwW_ok ⟨Nat.le_of_ble_eq_true rfl, Nat.le_of_ble_eq_true rfl⟩ ⟨Nat.le_of_ble_eq_true rfl, Nat.le_of_ble_eq_true rfl⟩ [0, 1, 2, 3, 4, 5, 6, 7, 8, 9, 10, 11, 12, 13] [] rfl rfl rfl rfl (by decide) (Nat.le_of_ble_eq_true rfl) rfl d_MD_count_6 (fun v w1 hp => ?_)
  obtain ⟨wa, ot, li2, mny2, fw2, fo2, fwk2, ftr2, fse2, fde2, fla2, fch2, fpa2, fsq2, rfl, rfl, hl2, hl3⟩ := hp
  refine e_perm (st' := [.long (lN (cntM w h kd fi sc el hb fto))]) (ws' := [oMD m 0 kd (nI w) (nI h) aho aaw fi sc (nI el.length) aen ato (bI li2) (nI mny2) wa ot (bI drn) wyv rkv awk atr ase ade ala ach apa asq, aZ cZ aho 25 (bF hb), aI cI aen 80 fen, aI cI ato 40 fto, aJ cJ wa 40000 fw2, aJ cJ ot 40000 fo2, aI cI awk 26 fwk2, aI cI atr 26 ftr2, aJ cJ ase 26 fse2, aI cI ade 25 fde2, aI cI ala 25 fla2, aI cI ach 41 fch2, aI cI apa 25 fpa2, aJ cJ asq 625 fsq2]) [0, 1, 2, 3, 4, 5, 6, 7, 8, 9, 10, 11, 12, 13] rfl rfl rfl ?_
  exact e_lret C Z (Nat.le_of_ble_eq_true rfl) (Nat.le_of_ble_eq_true rfl) (⟨wa, ot, li2, mny2, fw2, fo2, fwk2, ftr2, fse2, fde2, fla2, fch2, fpa2, fsq2, rfl, rfl, hl2, hl3⟩) d_MD_count_9

set_option maxHeartbeats 4000000 in
set_option maxRecDepth 100000 in
theorem M_MD_digit (l : Launch) (D : va_G) (cI cJ cZ : ClassId) (m aho aaw aen ato awa aot awk atr ase ade ala ach apa asq : Nat) (w h : Nat) (hw : w ≤ 5) (hh : h ≤ 5) (hw1 : 1 ≤ w) (hh1 : 1 ≤ h) (th kd fi sc : Int32) (el : List (Nat × Nat)) (li : Bool) (mny : Nat) (drn : Bool) (wyv rkv : Int64) (hb : Nat → Bool) (fen fto fwk ftr fde fla fch fpa : Nat → Int32) (fse fw fo fsq : Nat → Int64) (hen : enR el fen) (hel : el.length ≤ 40) (hev : ∀ (i a b : Nat), el[i]? = some (a, b) → a < 25 ∧ b < 25 ∧ a ≠ b) (hfs : fi < 0 ∨ ∃ a b : Nat, a < w * h ∧ b < w * h ∧ fi = nI a ∧ sc = nI b) (hlim : kd ≠ 3 → (lsAll w h kd fi sc el hb).length ≤ 40000) (hli : li = true → LsR (lsAll w h kd fi sc el hb) fw mny) (i : Int32) : MK l D cI cJ cZ y_MD_digit c_MD_digit 5 (some FieldType.int) 4 107 [.ref m, .int i] [oMD m th kd (nI w) (nI h) aho aaw fi sc (nI el.length) aen ato (bI li) (nI mny) awa aot (bI drn) wyv rkv awk atr ase ade ala ach apa asq, aZ cZ aho 25 (bF hb), aI cI aen 80 fen, aI cI ato 40 fto, aJ cJ awa 40000 fw, aJ cJ aot 40000 fo, aI cI awk 26 fwk, aI cI atr 26 ftr, aJ cJ ase 26 fse, aI cI ade 25 fde, aI cI ala 25 fla, aI cI ach 41 fch, aI cI apa 25 fpa, aJ cJ asq 625 fsq] 0 0 (fun v w1 => ∃ (wa ot : Nat) (li2 : Bool) (mny2 : Nat) (fw2 fo2 : Nat → Int64) (fwk2 ftr2 : Nat → Int32) (fse2 : Nat → Int64) (fde2 fla2 fch2 fpa2 : Nat → Int32) (fsq2 : Nat → Int64), v = some (.int (mDig (cntM w h kd fi sc el hb fto) i)) ∧ w1 = [oMD m 0 kd (nI w) (nI h) aho aaw fi sc (nI el.length) aen ato (bI li2) (nI mny2) wa ot (bI drn) wyv rkv awk atr ase ade ala ach apa asq, aZ cZ aho 25 (bF hb), aI cI aen 80 fen, aI cI ato 40 fto, aJ cJ wa 40000 fw2, aJ cJ ot 40000 fo2, aI cI awk 26 fwk2, aI cI atr 26 ftr2, aJ cJ ase 26 fse2, aI cI ade 25 fde2, aI cI ala 25 fla2, aI cI ach 41 fch2, aI cI apa 25 fpa2, aJ cJ asq 625 fsq2] ∧ (li2 = true → LsR (lsAll w h kd fi sc el hb) fw2 mny2) ∧ (kd ≠ 3 → li2 = true)) := by
  refine MC.of (by decide) bigW_good (Nat.le_of_ble_eq_true rfl) (fun κ C Z IN => ?_)
  have hP : w * h ≤ 25 := Nat.mul_le_mul hw hh
  refine e_aload_n C d_MD_digit_0 rfl rfl ?_
  refine e_iconst (v := 0) C d_MD_digit_1 rfl ?_
  refine e_put C hin_MD ty_MD tyk_MD nm_MD 0 rfl rfl 0 (by decide) fl_MD_78 rfl rfl rfl (Nat.le_of_ble_eq_true rfl) d_MD_digit_2 ?_
  refine e_ws [oMD m 0 kd (nI w) (nI h) aho aaw fi sc (nI el.length) aen ato (bI li) (nI mny) awa aot (bI drn) wyv rkv awk atr ase ade ala ach apa asq, aZ cZ aho 25 (bF hb), aI cI aen 80 fen, aI cI ato 40 fto, aJ cJ awa 40000 fw, aJ cJ aot 40000 fo, aI cI awk 26 fwk, aI cI atr 26 ftr, aJ cJ ase 26 fse, aI cI ade 25 fde, aI cI ala 25 fla, aI cI ach 41 fch, aI cI apa 25 fpa, aJ cJ asq 625 fsq] rfl ?_
  refine e_aload_n C d_MD_digit_5 rfl rfl ?_
  refine e_callV (As := []) (st := []) (wc := [oMD m 0 kd (nI w) (nI h) aho aaw fi sc (nI el.length) aen ato (bI li) (nI mny) awa aot (bI drn) wyv rkv awk atr ase ade ala ach apa asq, aZ cZ aho 25 (bF hb), aI cI aen 80 fen, aI cI ato 40 fto, aJ cJ awa 40000 fw, aJ cJ aot 40000 fo, aI cI awk 26 fwk, aI cI atr 26 ftr, aJ cJ ase 26 fse, aI cI ade 25 fde, aI cI ala 25 fla, aI cI ach 41 fch, aI cI apa 25 fpa, aJ cJ asq 625 fsq]) (wr := []) C (M_MD_countAll l D cI cJ cZ m aho aaw aen ato awa aot awk atr ase ade ala ach apa asq w h hw hh hw1 hh1 0 kd fi sc el li mny drn wyv rkv hb fen fto fwk ftr fde fla fch fpa fse fw fo fsq hen hel hev hfs hlim hli) v_MD_countAll ml_MD_171 0 rfl rfl nwW_ok ⟨Nat.le_of_ble_eq_true rfl, Nat.le_of_ble_eq_true rfl⟩ ⟨Nat.le_of_ble_eq_true rfl, Nat.le_of_ble_eq_true rfl⟩ [0, 1, 2, 3, 4, 5, 6, 7, 8, 9, 10, 11, 12, 13] [] rfl rfl rfl rfl (by decide) (Nat.le_of_ble_eq_true rfl) rfl d_MD_digit_6 (fun v w1 hp => ?_)
  obtain ⟨wa, ot, li2, mny2, fw2, fo2, fwk2, ftr2, fse2, fde2, fla2, fch2, fpa2, fsq2, rfl, rfl, hl2, hl3⟩ := hp
  refine e_perm (st' := [.long (lN (cntM w h kd fi sc el hb fto))]) (ws' := [oMD m 0 kd (nI w) (nI h) aho aaw fi sc (nI el.length) aen ato (bI li2) (nI mny2) wa ot (bI drn) wyv rkv awk atr ase ade ala ach apa asq, aZ cZ aho 25 (bF hb), aI cI aen 80 fen, aI cI ato 40 fto, aJ cJ wa 40000 fw2, aJ cJ ot 40000 fo2, aI cI awk 26 fwk2, aI cI atr 26 ftr2, aJ cJ ase 26 fse2, aI cI ade 25 fde2, aI cI ala 25 fla2, aI cI ach 41 fch2, aI cI apa 25 fpa2, aJ cJ asq 625 fsq2]) [0, 1, 2, 3, 4, 5, 6, 7, 8, 9, 10, 11, 12, 13] rfl rfl rfl ?_
  refine e_lstore_n C d_MD_digit_9 rfl (by decide) ?_
  refine e_iload_n C d_MD_digit_10 rfl rfl ?_
  refine e_if_ge (tgt := 16) C d_MD_digit_11 (by decide) (fun h11 => ?_) (fun h11 => ?_)
  · -- 16
    obtain ⟨j, hj, hje⟩ := nI_of (x := i) (fun z => absurd h11 (fun y => absurd z (Int32.not_lt.mpr y)))
    have hcl := cntM_lt (w := w) (h := h) (kd := kd) (fi := fi) (sc := sc) (el := el) (hb := hb) (fto := fto) hlim
    have hmd : mDig (cntM w h kd fi sc el hb fto) i = digR j (cntM w h kd fi sc el hb fto) := by unfold mDig; rw [if_neg (fun z => absurd h11 (fun y => absurd z (Int32.not_lt.mpr y))), hje, nI_clamp hj]
    refine e_lv [(0, .ref m), (1, .int (nI j)), (2, .long (lN (cntM w h kd fi sc el hb fto)))] ⟨rfl, by rw [hje]; rfl, rfl, trivial⟩ ?_
    refine e_iconst (v := 0) C d_MD_digit_16 rfl ?_
    refine e_istore C d_MD_digit_17 (by decide) ?_
    have LG : ∀ (fuel : Nat) (k left : Nat), k ≤ j → left < 2147483647 → digR (j - k) left = digR j (cntM w h kd fi sc el hb fto) →  j - k < fuel → E κ (lu_o [(0, .ref m), (1, .int (nI j)), (2, .long (lN left)), (4, .int (nI k))]) [] [oMD m 0 kd (nI w) (nI h) aho aaw fi sc (nI el.length) aen ato (bI li2) (nI mny2) wa ot (bI drn) wyv rkv awk atr ase ade ala ach apa asq, aZ cZ aho 25 (bF hb), aI cI aen 80 fen, aI cI ato 40 fto, aJ cJ wa 40000 fw2, aJ cJ ot 40000 fo2, aI cI awk 26 fwk2, aI cI atr 26 ftr2, aJ cJ ase 26 fse2, aI cI ade 25 fde2, aI cI ala 25 fla2, aI cI ach 41 fch2, aI cI apa 25 fpa2, aJ cJ asq 625 fsq2] 0 0 19 := by
      intro fuel
      induction fuel with
      | zero => intro k left hk hle hG hm; exact absurd hm (Nat.not_lt_zero _)
      | succ fuel ihLG =>
        intro k left hk hle hG hm
        refine e_iload C d_MD_digit_19 rfl ?_
        refine e_iload_n C d_MD_digit_21 rfl rfl ?_
        refine e_icmp_ge (tgt := 45) C d_MD_digit_22 (by decide) (fun h22 => ?_) (fun h22 => ?_)
        · -- 45
          have hkj : k = j := by have q := (nI_leI (by omega) (by omega)).mp h22; omega
          have hG0 : nI (left % 10) = digR j (cntM w h kd fi sc el hb fto) := by rw [← hG, hkj, Nat.sub_self]; rfl
          refine e_lload_n C d_MD_digit_45 rfl rfl ?_
          refine e_ldc2 C kl_MD_174 d_MD_digit_46 ?_
          refine e_lrem C d_MD_digit_49 (by decide) ?_
          refine e_st [.long (lN (left % 10))] (by exact congrArg (fun z => [Value.long z]) (lrem_N (a := left) (b := 10) (by omega) (by decide) (by decide) rfl rfl)) ?_
          refine e_l2i C d_MD_digit_50 ?_
          refine e_st [.int (nI (left % 10))] (by rw [lN_i]) ?_
          exact e_iret C Z rfl (Nat.le_of_ble_eq_true rfl) (Nat.le_of_ble_eq_true rfl) (⟨wa, ot, li2, mny2, fw2, fo2, fwk2, ftr2, fse2, fde2, fla2, fch2, fpa2, fsq2, by rw [hmd, hG0], rfl, hl2, hl3⟩) d_MD_digit_51
        · -- 25
          have hkj : k < j := by rcases Nat.lt_or_ge (k) j with q | q; exact q; exact absurd (nI_le q (by omega)) h22
          have hG1 : (if left / 10 = 0 then -1 else digR (j - (k + 1)) (left / 10)) = digR j (cntM w h kd fi sc el hb fto) := by rw [← hG, show j - k = (j - (k + 1)) + 1 by omega]; rfl
          refine e_lload_n C d_MD_digit_25 rfl rfl ?_
          refine e_ldc2 C kl_MD_174 d_MD_digit_26 ?_
          refine e_ldiv C d_MD_digit_29 (by decide) ?_
          refine e_st [.long (lN (left / 10))] (by rw [show (10 : Int64) = lN 10 from rfl, pk_lDiv (by omega) (by decide) (by decide)]) ?_
          refine e_lstore_n C d_MD_digit_30 rfl (by decide) ?_
          refine e_lload_n C d_MD_digit_31 rfl rfl ?_
          refine e_lconst (v := 0) C d_MD_digit_32 rfl ?_
          refine e_lcmp C d_MD_digit_33 ?_
          refine e_if_ne (tgt := 39) C d_MD_digit_34 (by decide) (fun h34 => ?_) (fun h34 => ?_)
          · -- 39
            have h0 : ¬ left / 10 = 0 := fun z => h34 (by rw [z]; exact lg0.mpr rfl)
            refine e_iinc (v := (nI k) + 1) C d_MD_digit_39 rfl rfl (by decide) ?_
            refine e_goto (tgt := 19) C d_MD_digit_42 (by decide) ?_
            refine e_lv [(0, .ref m), (1, .int (nI j)), (2, .long (lN (left / 10))), (4, .int (nI (k + 1)))] ⟨rfl, rfl, rfl, congrArg (fun z => some (Value.int z)) (nI_1 k), trivial⟩ ?_
            refine e_ws [oMD m 0 kd (nI w) (nI h) aho aaw fi sc (nI el.length) aen ato (bI li2) (nI mny2) wa ot (bI drn) wyv rkv awk atr ase ade ala ach apa asq, aZ cZ aho 25 (bF hb), aI cI aen 80 fen, aI cI ato 40 fto, aJ cJ wa 40000 fw2, aJ cJ ot 40000 fo2, aI cI awk 26 fwk2, aI cI atr 26 ftr2, aJ cJ ase 26 fse2, aI cI ade 25 fde2, aI cI ala 25 fla2, aI cI ach 41 fch2, aI cI apa 25 fpa2, aJ cJ asq 625 fsq2] rfl ?_
            exact ihLG (k + 1) (left / 10) (by omega) (by omega) (by rw [if_neg h0] at hG1; exact hG1) (by omega)
          · -- 37
            have h0 : left / 10 = 0 := by rw [show (0 : Int64) = lN 0 from rfl, lg0] at h34; exact (pk_lEQ (by omega) (by decide)).mp h34
            refine e_iconst (v := (-1)) C d_MD_digit_37 rfl ?_
            exact e_iret C Z rfl (Nat.le_of_ble_eq_true rfl) (Nat.le_of_ble_eq_true rfl) (⟨wa, ot, li2, mny2, fw2, fo2, fwk2, ftr2, fse2, fde2, fla2, fch2, fpa2, fsq2, by rw [hmd, ← hG1, if_pos h0], rfl, hl2, hl3⟩) d_MD_digit_38
    refine e_lv [(0, .ref m), (1, .int (nI j)), (2, .long (lN (cntM w h kd fi sc el hb fto))), (4, .int (nI 0))] ⟨rfl, rfl, rfl, rfl, trivial⟩ ?_
    refine e_ws [oMD m 0 kd (nI w) (nI h) aho aaw fi sc (nI el.length) aen ato (bI li2) (nI mny2) wa ot (bI drn) wyv rkv awk atr ase ade ala ach apa asq, aZ cZ aho 25 (bF hb), aI cI aen 80 fen, aI cI ato 40 fto, aJ cJ wa 40000 fw2, aJ cJ ot 40000 fo2, aI cI awk 26 fwk2, aI cI atr 26 ftr2, aJ cJ ase 26 fse2, aI cI ade 25 fde2, aI cI ala 25 fla2, aI cI ach 41 fch2, aI cI apa 25 fpa2, aJ cJ asq 625 fsq2] rfl ?_
    exact LG _ 0 (cntM w h kd fi sc el hb fto) (Nat.zero_le _) hcl rfl (Nat.lt_succ_self _)
  · -- 14
    refine e_iconst (v := (-1)) C d_MD_digit_14 rfl ?_
    exact e_iret C Z rfl (Nat.le_of_ble_eq_true rfl) (Nat.le_of_ble_eq_true rfl) (⟨wa, ot, li2, mny2, fw2, fo2, fwk2, ftr2, fse2, fde2, fla2, fch2, fpa2, fsq2, by unfold mDig; rw [if_pos (Int32.not_le.mp h11)], rfl, hl2, hl3⟩) d_MD_digit_15

set_option maxHeartbeats 4000000 in
set_option maxRecDepth 100000 in
theorem M_MD_draw (l : Launch) (D : va_G) (cI cJ cZ : ClassId) (m aho aaw aen ato awa aot awk atr ase ade ala ach apa asq : Nat) (w h : Nat) (hw : w ≤ 5) (hh : h ≤ 5) (hw1 : 1 ≤ w) (hh1 : 1 ≤ h) (th kd fi sc : Int32) (el : List (Nat × Nat)) (li : Bool) (mny : Nat) (drn : Bool) (wyv rkv : Int64) (hb : Nat → Bool) (fen fto fwk ftr fde fla fch fpa : Nat → Int32) (fse fw fo fsq : Nat → Int64) (hen : enR el fen) (hel : el.length ≤ 40) (hev : ∀ (i a b : Nat), el[i]? = some (a, b) → a < 25 ∧ b < 25 ∧ a ≠ b) (hfs : fi < 0 ∨ ∃ a b : Nat, a < w * h ∧ b < w * h ∧ fi = nI a ∧ sc = nI b) (hlim : kd ≠ 3 → (lsAll w h kd fi sc el hb).length ≤ 40000) (hli : li = true → LsR (lsAll w h kd fi sc el hb) fw mny) (seed : Int64) : MK l D cI cJ cZ y_MD_draw c_MD_draw 8 (some FieldType.boolean) 4 113 [.ref m, .long seed] [oMD m th kd (nI w) (nI h) aho aaw fi sc (nI el.length) aen ato (bI li) (nI mny) awa aot (bI drn) wyv rkv awk atr ase ade ala ach apa asq, aZ cZ aho 25 (bF hb), aI cI aen 80 fen, aI cI ato 40 fto, aJ cJ awa 40000 fw, aJ cJ aot 40000 fo, aI cI awk 26 fwk, aI cI atr 26 ftr, aJ cJ ase 26 fse, aI cI ade 25 fde, aI cI ala 25 fla, aI cI ach 41 fch, aI cI apa 25 fpa, aJ cJ asq 625 fsq] 0 0 (fun v w1 => ∃ (wa ot : Nat) (li2 : Bool) (mny2 : Nat) (fw2 fo2 : Nat → Int64) (fwk2 ftr2 : Nat → Int32) (fse2 : Nat → Int64) (fde2 fla2 fch2 fpa2 : Nat → Int32) (fsq2 : Nat → Int64), (li2 = true → LsR (lsAll w h kd fi sc el hb) fw2 mny2) ∧ (kd ≠ 3 → li2 = true) ∧ (((cntM w h kd fi sc el hb fto) = 0 ∧ v = some (.int 0) ∧ w1 = [oMD m 0 kd (nI w) (nI h) aho aaw fi sc (nI el.length) aen ato (bI li2) (nI mny2) wa ot (bI false) wyv rkv awk atr ase ade ala ach apa asq, aZ cZ aho 25 (bF hb), aI cI aen 80 fen, aI cI ato 40 fto, aJ cJ wa 40000 fw2, aJ cJ ot 40000 fo2, aI cI awk 26 fwk2, aI cI atr 26 ftr2, aJ cJ ase 26 fse2, aI cI ade 25 fde2, aI cI ala 25 fla2, aI cI ach 41 fch2, aI cI apa 25 fpa2, aJ cJ asq 625 fsq2]) ∨ (∃ (r : Nat) (W : Int64), ¬ (cntM w h kd fi sc el hb fto) = 0 ∧ r < (cntM w h kd fi sc el hb fto) ∧ ixF seed (lN (cntM w h kd fi sc el hb fto)) = lN r ∧ DrW w h kd fi sc el hb fto r W ∧ v = some (.int 1) ∧ w1 = [oMD m 0 kd (nI w) (nI h) aho aaw fi sc (nI el.length) aen ato (bI li2) (nI mny2) wa ot (bI true) W (lN r) awk atr ase ade ala ach apa asq, aZ cZ aho 25 (bF hb), aI cI aen 80 fen, aI cI ato 40 fto, aJ cJ wa 40000 fw2, aJ cJ ot 40000 fo2, aI cI awk 26 fwk2, aI cI atr 26 ftr2, aJ cJ ase 26 fse2, aI cI ade 25 fde2, aI cI ala 25 fla2, aI cI ach 41 fch2, aI cI apa 25 fpa2, aJ cJ asq 625 fsq2]))) := by
  refine MC.of (by decide) bigW_good (Nat.le_of_ble_eq_true rfl) (fun κ C Z IN => ?_)
  have hP : w * h ≤ 25 := Nat.mul_le_mul hw hh
  refine e_aload_n C d_MD_draw_0 rfl rfl ?_
  refine e_iconst (v := 0) C d_MD_draw_1 rfl ?_
  refine e_put C hin_MD ty_MD tyk_MD nm_MD 0 rfl rfl 0 (by decide) fl_MD_78 rfl rfl rfl (Nat.le_of_ble_eq_true rfl) d_MD_draw_2 ?_
  refine e_ws [oMD m 0 kd (nI w) (nI h) aho aaw fi sc (nI el.length) aen ato (bI li) (nI mny) awa aot (bI drn) wyv rkv awk atr ase ade ala ach apa asq, aZ cZ aho 25 (bF hb), aI cI aen 80 fen, aI cI ato 40 fto, aJ cJ awa 40000 fw, aJ cJ aot 40000 fo, aI cI awk 26 fwk, aI cI atr 26 ftr, aJ cJ ase 26 fse, aI cI ade 25 fde, aI cI ala 25 fla, aI cI ach 41 fch, aI cI apa 25 fpa, aJ cJ asq 625 fsq] rfl ?_
  refine e_aload_n C d_MD_draw_5 rfl rfl ?_
  refine e_iconst (v := 0) C d_MD_draw_6 rfl ?_
  refine e_put C hin_MD ty_MD tyk_MD nm_MD 0 rfl rfl 15 (by decide) fl_MD_96 rfl rfl rfl (Nat.le_of_ble_eq_true rfl) d_MD_draw_7 ?_
  refine e_ws [oMD m 0 kd (nI w) (nI h) aho aaw fi sc (nI el.length) aen ato (bI li) (nI mny) awa aot 0 wyv rkv awk atr ase ade ala ach apa asq, aZ cZ aho 25 (bF hb), aI cI aen 80 fen, aI cI ato 40 fto, aJ cJ awa 40000 fw, aJ cJ aot 40000 fo, aI cI awk 26 fwk, aI cI atr 26 ftr, aJ cJ ase 26 fse, aI cI ade 25 fde, aI cI ala 25 fla, aI cI ach 41 fch, aI cI apa 25 fpa, aJ cJ asq 625 fsq] rfl ?_
  refine e_aload_n C d_MD_draw_10 rfl rfl ?_
  refine e_callV (As := []) (st := []) (wc := [oMD m 0 kd (nI w) (nI h) aho aaw fi sc (nI el.length) aen ato (bI li) (nI mny) awa aot 0 wyv rkv awk atr ase ade ala ach apa asq, aZ cZ aho 25 (bF hb), aI cI aen 80 fen, aI cI ato 40 fto, aJ cJ awa 40000 fw, aJ cJ aot 40000 fo, aI cI awk 26 fwk, aI cI atr 26 ftr, aJ cJ ase 26 fse, aI cI ade 25 fde, aI cI ala 25 fla, aI cI ach 41 fch, aI cI apa 25 fpa, aJ cJ asq 625 fsq]) (wr := []) C (M_MD_countAll l D cI cJ cZ m aho aaw aen ato awa aot awk atr ase ade ala ach apa asq w h hw hh hw1 hh1 0 kd fi sc el li mny false wyv rkv hb fen fto fwk ftr fde fla fch fpa fse fw fo fsq hen hel hev hfs hlim hli) v_MD_countAll ml_MD_171 0 rfl rfl nwW_ok ⟨Nat.le_of_ble_eq_true rfl, Nat.le_of_ble_eq_true rfl⟩ ⟨Nat.le_of_ble_eq_true rfl, Nat.le_of_ble_eq_true rfl⟩ [0, 1, 2, 3, 4, 5, 6, 7, 8, 9, 10, 11, 12, 13] [] rfl rfl rfl rfl (by decide) (Nat.le_of_ble_eq_true rfl) rfl d_MD_draw_11 (fun v w1 hp => ?_)
  obtain ⟨wa, ot, li2, mny2, fw2, fo2, fwk2, ftr2, fse2, fde2, fla2, fch2, fpa2, fsq2, rfl, rfl, hl2, hl3⟩ := hp
  refine e_perm (st' := [.long (lN (cntM w h kd fi sc el hb fto))]) (ws' := [oMD m 0 kd (nI w) (nI h) aho aaw fi sc (nI el.length) aen ato (bI li2) (nI mny2) wa ot 0 wyv rkv awk atr ase ade ala ach apa asq, aZ cZ aho 25 (bF hb), aI cI aen 80 fen, aI cI ato 40 fto, aJ cJ wa 40000 fw2, aJ cJ ot 40000 fo2, aI cI awk 26 fwk2, aI cI atr 26 ftr2, aJ cJ ase 26 fse2, aI cI ade 25 fde2, aI cI ala 25 fla2, aI cI ach 41 fch2, aI cI apa 25 fpa2, aJ cJ asq 625 fsq2]) [0, 1, 2, 3, 4, 5, 6, 7, 8, 9, 10, 11, 12, 13] rfl rfl rfl ?_
  have hcl := cntM_lt (w := w) (h := h) (kd := kd) (fi := fi) (sc := sc) (el := el) (hb := hb) (fto := fto) hlim
  refine e_lstore_n C d_MD_draw_14 rfl (by decide) ?_
  refine e_lload_n C d_MD_draw_15 rfl rfl ?_
  refine e_lconst (v := 0) C d_MD_draw_16 rfl ?_
  refine e_lcmp C d_MD_draw_17 ?_
  refine e_if_ne (tgt := 23) C d_MD_draw_18 (by decide) (fun h18 => ?_) (fun h18 => ?_)
  · -- 23
    have hc0 : ¬ (cntM w h kd fi sc el hb fto) = 0 := fun z => h18 (by rw [z]; exact lg0.mpr rfl)
    obtain ⟨r, hr, hre⟩ := ixF_r seed (n := (cntM w h kd fi sc el hb fto)) (by omega) (by omega)
    have hl40 : (cntM w h kd fi sc el hb fto) < 2 ^ 63 := by omega
    refine e_aload_n C d_MD_draw_23 rfl rfl ?_
    refine e_ldc2 C kl_MD_176 d_MD_draw_24 ?_
    refine e_lload_n C d_MD_draw_27 rfl rfl ?_
    refine e_lmul C d_MD_draw_28 ?_
    refine e_ldc2 C kl_MD_178 d_MD_draw_29 ?_
    refine e_ladd C d_MD_draw_32 ?_
    refine e_iconst (v := 1) C d_MD_draw_33 rfl ?_
    refine e_lushr C d_MD_draw_34 ?_
    refine e_lload_n C d_MD_draw_35 rfl rfl ?_
    refine e_lrem C d_MD_draw_36 (fun z => hc0 ((pk_lEQ (b := 0) (by omega) (by decide)).mp z)) ?_
    refine e_st [.long (lN r), .ref m] (by rw [← hre]; rfl) ?_
    refine e_put C hin_MD ty_MD tyk_MD nm_MD 0 rfl rfl 17 (by decide) fl_MD_180 rfl rfl rfl (Nat.le_of_ble_eq_true rfl) d_MD_draw_37 ?_
    refine e_ws [oMD m 0 kd (nI w) (nI h) aho aaw fi sc (nI el.length) aen ato (bI li2) (nI mny2) wa ot 0 wyv (lN r) awk atr ase ade ala ach apa asq, aZ cZ aho 25 (bF hb), aI cI aen 80 fen, aI cI ato 40 fto, aJ cJ wa 40000 fw2, aJ cJ ot 40000 fo2, aI cI awk 26 fwk2, aI cI atr 26 ftr2, aJ cJ ase 26 fse2, aI cI ade 25 fde2, aI cI ala 25 fla2, aI cI ach 41 fch2, aI cI apa 25 fpa2, aJ cJ asq 625 fsq2] rfl ?_
    refine e_aload_n C d_MD_draw_40 rfl rfl ?_
    refine e_iconst (v := 1) C d_MD_draw_41 rfl ?_
    refine e_put C hin_MD ty_MD tyk_MD nm_MD 0 rfl rfl 15 (by decide) fl_MD_96 rfl rfl rfl (Nat.le_of_ble_eq_true rfl) d_MD_draw_42 ?_
    refine e_ws [oMD m 0 kd (nI w) (nI h) aho aaw fi sc (nI el.length) aen ato (bI li2) (nI mny2) wa ot 1 wyv (lN r) awk atr ase ade ala ach apa asq, aZ cZ aho 25 (bF hb), aI cI aen 80 fen, aI cI ato 40 fto, aJ cJ wa 40000 fw2, aJ cJ ot 40000 fo2, aI cI awk 26 fwk2, aI cI atr 26 ftr2, aJ cJ ase 26 fse2, aI cI ade 25 fde2, aI cI ala 25 fla2, aI cI ach 41 fch2, aI cI apa 25 fpa2, aJ cJ asq 625 fsq2] rfl ?_
    refine e_aload_n C d_MD_draw_45 rfl rfl ?_
    refine e_get C hin_MD 0 rfl rfl 1 (by decide) fl_MD_66 rfl d_MD_draw_46 ?_
    refine e_iconst (v := 3) C d_MD_draw_49 rfl ?_
    refine e_icmp_ne (tgt := 63) C d_MD_draw_50 (by decide) (fun h50 => ?_) (fun h50 => ?_)
    · -- 63
      have hLR := hl2 (hl3 h50)
      have hmny2 := LsR_len hLR
      have hlimb := hlim h50
      obtain ⟨L, hLl, hLp, hLs, hLW⟩ := hLR
      have hcf : (cntM w h kd fi sc el hb fto) = (L.filter (fun s => alAll fto s el.length)).length := by unfold cntM; rw [if_neg h50]; exact (hLp.filter _).length_eq.symm
      obtain ⟨W, hWr⟩ : ∃ W, (L.filter (fun s => alAll fto s el.length))[r]? = some W := ⟨_, List.getElem?_eq_getElem (by rw [← hcf]; exact hr)⟩
      refine e_aload_n C d_MD_draw_63 rfl rfl ?_
      refine e_get C hin_MD 0 rfl rfl 17 (by decide) fl_MD_180 rfl d_MD_draw_64 ?_
      refine e_lstore C d_MD_draw_67 (by decide) ?_
      refine e_iconst (v := 0) C d_MD_draw_69 rfl ?_
      refine e_istore C d_MD_draw_70 (by decide) ?_
      have LW : ∀ (fuel : Nat) (k left : Nat), k ≤ L.length → left < 2147483647 → ((L.drop k).filter (fun s => alAll fto s el.length))[left]? = some W →  L.length - k < fuel → E κ (lu_o [(0, .ref m), (5, .long (lN left)), (7, .int (nI k))]) [] [oMD m 0 kd (nI w) (nI h) aho aaw fi sc (nI el.length) aen ato (bI li2) (nI mny2) wa ot 1 wyv (lN r) awk atr ase ade ala ach apa asq, aZ cZ aho 25 (bF hb), aI cI aen 80 fen, aI cI ato 40 fto, aJ cJ wa 40000 fw2, aJ cJ ot 40000 fo2, aI cI awk 26 fwk2, aI cI atr 26 ftr2, aJ cJ ase 26 fse2, aI cI ade 25 fde2, aI cI ala 25 fla2, aI cI ach 41 fch2, aI cI apa 25 fpa2, aJ cJ asq 625 fsq2] 0 0 72 := by
        intro fuel
        induction fuel with
        | zero => intro k left hk hle hF hm; exact absurd hm (Nat.not_lt_zero _)
        | succ fuel ihLW =>
          intro k left hk hle hF hm
          have hkL : k < L.length := by rcases Nat.lt_or_ge k L.length with q | q; exact q; (rw [List.drop_eq_nil_of_le q] at hF; simp at hF)
          refine e_lload C d_MD_draw_72 rfl ?_
          refine e_lconst (v := 0) C d_MD_draw_74 rfl ?_
          refine e_lcmp C d_MD_draw_75 ?_
          obtain ⟨v, hv, hwv⟩ := WaR_get hLW hkL
          rw [drp_c hv] at hF
          refine e_st [.int (if 0 < left then 1 else if left = 0 then 0 else -1)] (by rw [show (0 : Int64) = lN 0 from rfl, lg_lN (by omega) (by decide)]) ?_
          refine e_if_gt (tgt := 93) C d_MD_draw_76 (by decide) (fun h76 => ?_) (fun h76 => ?_)
          · -- 93
            have hl0 : 0 < left := by rcases Nat.eq_zero_or_pos left with z | z; (rw [z] at h76; exact absurd h76 (by decide)); exact z
            refine e_lload C d_MD_draw_93 rfl ?_
            refine e_aload_n C d_MD_draw_95 rfl rfl ?_
            refine e_aload_n C d_MD_draw_96 rfl rfl ?_
            refine e_get C hin_MD 0 rfl rfl 13 (by decide) fl_MD_31 rfl d_MD_draw_97 ?_
            refine e_iload C d_MD_draw_100 rfl ?_
            refine e_lald C 4 1 rfl rfl (vp_in_nI (by omega) (by omega)) d_MD_draw_102 ?_
            refine e_st [.long (fw2 k), .ref m, .long (lN left)] (by rw [nI_clamp (by omega)]) ?_
            refine e_st [.long v, .ref m, .long (lN left)] (by rw [hwv]) ?_
            refine e_callV (As := [.long v]) (st := [.long (lN left)]) (wc := [oMD m 0 kd (nI w) (nI h) aho aaw fi sc (nI el.length) aen ato (bI li2) (nI mny2) wa ot 1 wyv (lN r) awk atr ase ade ala ach apa asq, aI cI ato 40 fto]) (wr := [aZ cZ aho 25 (bF hb), aI cI aen 80 fen, aJ cJ wa 40000 fw2, aJ cJ ot 40000 fo2, aI cI awk 26 fwk2, aI cI atr 26 ftr2, aJ cJ ase 26 fse2, aI cI ade 25 fde2, aI cI ala 25 fla2, aI cI ach 41 fch2, aI cI apa 25 fpa2, aJ cJ asq 625 fsq2]) C (M_MD_isAllowed l D cI cJ cZ m aho aaw aen ato wa ot awk atr ase ade ala ach apa asq w h hw hh hw1 hh1 0 kd fi sc el li2 mny2 true wyv (lN r) fto v hel) v_MD_isAllowed ml_MD_167 0 rfl rfl nwW_ok ⟨Nat.le_of_ble_eq_true rfl, Nat.le_of_ble_eq_true rfl⟩ ⟨Nat.le_of_ble_eq_true rfl, Nat.le_of_ble_eq_true rfl⟩ [0, 3] [1, 2, 4, 5, 6, 7, 8, 9, 10, 11, 12, 13] rfl rfl rfl rfl (by decide) (Nat.le_of_ble_eq_true rfl) rfl d_MD_draw_103 (fun v w1 hp => ?_)
            obtain ⟨rfl, rfl⟩ := hp
            refine e_perm (st' := [.int (bI (alAll fto v el.length)), .long (lN left)]) (ws' := [oMD m 0 kd (nI w) (nI h) aho aaw fi sc (nI el.length) aen ato (bI li2) (nI mny2) wa ot 1 wyv (lN r) awk atr ase ade ala ach apa asq, aZ cZ aho 25 (bF hb), aI cI aen 80 fen, aI cI ato 40 fto, aJ cJ wa 40000 fw2, aJ cJ ot 40000 fo2, aI cI awk 26 fwk2, aI cI atr 26 ftr2, aJ cJ ase 26 fse2, aI cI ade 25 fde2, aI cI ala 25 fla2, aI cI ach 41 fch2, aI cI apa 25 fpa2, aJ cJ asq 625 fsq2]) [12, 0, 1, 13, 2, 3, 4, 5, 6, 7, 8, 9, 10, 11] rfl rfl rfl ?_
            refine e_if_eq (tgt := 113) C d_MD_draw_106 (by decide) (fun h106 => ?_) (fun h106 => ?_)
            · -- 113
              refine e_lconst (v := 0) C d_MD_draw_113 rfl ?_
              refine e_lsub C d_MD_draw_114 ?_
              refine e_lstore C d_MD_draw_115 (by decide) ?_
              refine e_iinc (v := (nI k) + 1) C d_MD_draw_117 rfl rfl (by decide) ?_
              refine e_goto (tgt := 72) C d_MD_draw_120 (by decide) ?_
              refine e_lv [(0, .ref m), (5, .long (lN left)), (7, .int (nI (k + 1)))] ⟨rfl, (congrArg (fun z => some (Value.long z)) (Int64.sub_zero _)), congrArg (fun z => some (Value.int z)) (nI_1 k), trivial⟩ ?_
              refine e_ws [oMD m 0 kd (nI w) (nI h) aho aaw fi sc (nI el.length) aen ato (bI li2) (nI mny2) wa ot 1 wyv (lN r) awk atr ase ade ala ach apa asq, aZ cZ aho 25 (bF hb), aI cI aen 80 fen, aI cI ato 40 fto, aJ cJ wa 40000 fw2, aJ cJ ot 40000 fo2, aI cI awk 26 fwk2, aI cI atr 26 ftr2, aJ cJ ase 26 fse2, aI cI ade 25 fde2, aI cI ala 25 fla2, aI cI ach 41 fch2, aI cI apa 25 fpa2, aJ cJ asq 625 fsq2] rfl ?_
              exact ihLW (k + 1) left (by omega) (by omega) (by simp only [bI_eq0] at h106; rw [List.filter_cons_of_neg (by rw [h106]; decide)] at hF; exact hF) (by omega)
            · -- 109
              refine e_lconst (v := 1) C d_MD_draw_109 rfl ?_
              refine e_goto (tgt := 114) C d_MD_draw_110 (by decide) ?_
              refine e_lsub C d_MD_draw_114 ?_
              refine e_lstore C d_MD_draw_115 (by decide) ?_
              refine e_iinc (v := (nI k) + 1) C d_MD_draw_117 rfl rfl (by decide) ?_
              refine e_goto (tgt := 72) C d_MD_draw_120 (by decide) ?_
              obtain ⟨l1, rfl⟩ : ∃ l1, left = l1 + 1 := ⟨left - 1, by omega⟩
              refine e_lv [(0, .ref m), (5, .long (lN l1)), (7, .int (nI (k + 1)))] ⟨rfl, (congrArg (fun z => some (Value.long z)) ((lN_sub (a := l1 + 1) (b := 1) (by omega)).trans rfl)), congrArg (fun z => some (Value.int z)) (nI_1 k), trivial⟩ ?_
              refine e_ws [oMD m 0 kd (nI w) (nI h) aho aaw fi sc (nI el.length) aen ato (bI li2) (nI mny2) wa ot 1 wyv (lN r) awk atr ase ade ala ach apa asq, aZ cZ aho 25 (bF hb), aI cI aen 80 fen, aI cI ato 40 fto, aJ cJ wa 40000 fw2, aJ cJ ot 40000 fo2, aI cI awk 26 fwk2, aI cI atr 26 ftr2, aJ cJ ase 26 fse2, aI cI ade 25 fde2, aI cI ala 25 fla2, aI cI ach 41 fch2, aI cI apa 25 fpa2, aJ cJ asq 625 fsq2] rfl ?_
              exact ihLW (k + 1) l1 (by omega) (by omega) (by simp only [bI_eq0, Bool.not_eq_false] at h106; rw [List.filter_cons_of_pos (by exact h106)] at hF; exact hF) (by omega)
          · -- 79
            have hl0 : left = 0 := by rcases Nat.eq_zero_or_pos left with z | z; exact z; exact absurd (by rw [if_pos z]; decide) h76
            refine e_aload_n C d_MD_draw_79 rfl rfl ?_
            refine e_aload_n C d_MD_draw_80 rfl rfl ?_
            refine e_get C hin_MD 0 rfl rfl 13 (by decide) fl_MD_31 rfl d_MD_draw_81 ?_
            refine e_iload C d_MD_draw_84 rfl ?_
            refine e_lald C 4 1 rfl rfl (vp_in_nI (by omega) (by omega)) d_MD_draw_86 ?_
            refine e_st [.long (fw2 k), .ref m] (by rw [nI_clamp (by omega)]) ?_
            refine e_st [.long v, .ref m] (by rw [hwv]) ?_
            refine e_callV (As := [.long v]) (st := []) (wc := [oMD m 0 kd (nI w) (nI h) aho aaw fi sc (nI el.length) aen ato (bI li2) (nI mny2) wa ot 1 wyv (lN r) awk atr ase ade ala ach apa asq, aI cI ato 40 fto]) (wr := [aZ cZ aho 25 (bF hb), aI cI aen 80 fen, aJ cJ wa 40000 fw2, aJ cJ ot 40000 fo2, aI cI awk 26 fwk2, aI cI atr 26 ftr2, aJ cJ ase 26 fse2, aI cI ade 25 fde2, aI cI ala 25 fla2, aI cI ach 41 fch2, aI cI apa 25 fpa2, aJ cJ asq 625 fsq2]) C (M_MD_isAllowed l D cI cJ cZ m aho aaw aen ato wa ot awk atr ase ade ala ach apa asq w h hw hh hw1 hh1 0 kd fi sc el li2 mny2 true wyv (lN r) fto v hel) v_MD_isAllowed ml_MD_167 0 rfl rfl nwW_ok ⟨Nat.le_of_ble_eq_true rfl, Nat.le_of_ble_eq_true rfl⟩ ⟨Nat.le_of_ble_eq_true rfl, Nat.le_of_ble_eq_true rfl⟩ [0, 3] [1, 2, 4, 5, 6, 7, 8, 9, 10, 11, 12, 13] rfl rfl rfl rfl (by decide) (Nat.le_of_ble_eq_true rfl) rfl d_MD_draw_87 (fun v w1 hp => ?_)
            obtain ⟨rfl, rfl⟩ := hp
            refine e_perm (st' := [.int (bI (alAll fto v el.length))]) (ws' := [oMD m 0 kd (nI w) (nI h) aho aaw fi sc (nI el.length) aen ato (bI li2) (nI mny2) wa ot 1 wyv (lN r) awk atr ase ade ala ach apa asq, aZ cZ aho 25 (bF hb), aI cI aen 80 fen, aI cI ato 40 fto, aJ cJ wa 40000 fw2, aJ cJ ot 40000 fo2, aI cI awk 26 fwk2, aI cI atr 26 ftr2, aJ cJ ase 26 fse2, aI cI ade 25 fde2, aI cI ala 25 fla2, aI cI ach 41 fch2, aI cI apa 25 fpa2, aJ cJ asq 625 fsq2]) [12, 0, 1, 13, 2, 3, 4, 5, 6, 7, 8, 9, 10, 11] rfl rfl rfl ?_
            refine e_if_ne (tgt := 123) C d_MD_draw_90 (by decide) (fun h90 => ?_) (fun h90 => ?_)
            · -- 123
              have hvW : v = W := by simp only [bI_eq0, Bool.not_eq_false] at h90; rw [List.filter_cons_of_pos (by exact h90), hl0] at hF; exact Option.some.inj hF
              refine e_aload_n C d_MD_draw_123 rfl rfl ?_
              refine e_aload_n C d_MD_draw_124 rfl rfl ?_
              refine e_get C hin_MD 0 rfl rfl 13 (by decide) fl_MD_31 rfl d_MD_draw_125 ?_
              refine e_iload C d_MD_draw_128 rfl ?_
              refine e_lald C 4 1 rfl rfl (vp_in_nI (by omega) (by omega)) d_MD_draw_130 ?_
              refine e_st [.long (fw2 k), .ref m] (by rw [nI_clamp (by omega)]) ?_
              refine e_st [.long W, .ref m] (by rw [hwv, hvW]) ?_
              refine e_put C hin_MD ty_MD tyk_MD nm_MD 0 rfl rfl 16 (by decide) fl_MD_157 rfl rfl rfl (Nat.le_of_ble_eq_true rfl) d_MD_draw_131 ?_
              refine e_ws [oMD m 0 kd (nI w) (nI h) aho aaw fi sc (nI el.length) aen ato (bI li2) (nI mny2) wa ot 1 W (lN r) awk atr ase ade ala ach apa asq, aZ cZ aho 25 (bF hb), aI cI aen 80 fen, aI cI ato 40 fto, aJ cJ wa 40000 fw2, aJ cJ ot 40000 fo2, aI cI awk 26 fwk2, aI cI atr 26 ftr2, aJ cJ ase 26 fse2, aI cI ade 25 fde2, aI cI ala 25 fla2, aI cI ach 41 fch2, aI cI apa 25 fpa2, aJ cJ asq 625 fsq2] rfl ?_
              refine e_iconst (v := 1) C d_MD_draw_134 rfl ?_
              exact e_iret C Z rfl (Nat.le_of_ble_eq_true rfl) (Nat.le_of_ble_eq_true rfl) (⟨wa, ot, li2, mny2, fw2, fo2, fwk2, ftr2, fse2, fde2, fla2, fch2, fpa2, fsq2, hl2, hl3, Or.inr ⟨r, W, hc0, hr, hre, ⟨fun z => absurd z h50, fun _ => ⟨L, hLp, hLs, hWr⟩⟩, rfl, rfl⟩⟩) d_MD_draw_135
            · -- 93
              refine e_lload C d_MD_draw_93 rfl ?_
              refine e_aload_n C d_MD_draw_95 rfl rfl ?_
              refine e_aload_n C d_MD_draw_96 rfl rfl ?_
              refine e_get C hin_MD 0 rfl rfl 13 (by decide) fl_MD_31 rfl d_MD_draw_97 ?_
              refine e_iload C d_MD_draw_100 rfl ?_
              refine e_lald C 4 1 rfl rfl (vp_in_nI (by omega) (by omega)) d_MD_draw_102 ?_
              refine e_st [.long (fw2 k), .ref m, .long (lN left)] (by rw [nI_clamp (by omega)]) ?_
              refine e_st [.long v, .ref m, .long (lN left)] (by rw [hwv]) ?_
              refine e_callV (As := [.long v]) (st := [.long (lN left)]) (wc := [oMD m 0 kd (nI w) (nI h) aho aaw fi sc (nI el.length) aen ato (bI li2) (nI mny2) wa ot 1 wyv (lN r) awk atr ase ade ala ach apa asq, aI cI ato 40 fto]) (wr := [aZ cZ aho 25 (bF hb), aI cI aen 80 fen, aJ cJ wa 40000 fw2, aJ cJ ot 40000 fo2, aI cI awk 26 fwk2, aI cI atr 26 ftr2, aJ cJ ase 26 fse2, aI cI ade 25 fde2, aI cI ala 25 fla2, aI cI ach 41 fch2, aI cI apa 25 fpa2, aJ cJ asq 625 fsq2]) C (M_MD_isAllowed l D cI cJ cZ m aho aaw aen ato wa ot awk atr ase ade ala ach apa asq w h hw hh hw1 hh1 0 kd fi sc el li2 mny2 true wyv (lN r) fto v hel) v_MD_isAllowed ml_MD_167 0 rfl rfl nwW_ok ⟨Nat.le_of_ble_eq_true rfl, Nat.le_of_ble_eq_true rfl⟩ ⟨Nat.le_of_ble_eq_true rfl, Nat.le_of_ble_eq_true rfl⟩ [0, 3] [1, 2, 4, 5, 6, 7, 8, 9, 10, 11, 12, 13] rfl rfl rfl rfl (by decide) (Nat.le_of_ble_eq_true rfl) rfl d_MD_draw_103 (fun v w1 hp => ?_)
              obtain ⟨rfl, rfl⟩ := hp
              refine e_perm (st' := [.int (bI (alAll fto v el.length)), .long (lN left)]) (ws' := [oMD m 0 kd (nI w) (nI h) aho aaw fi sc (nI el.length) aen ato (bI li2) (nI mny2) wa ot 1 wyv (lN r) awk atr ase ade ala ach apa asq, aZ cZ aho 25 (bF hb), aI cI aen 80 fen, aI cI ato 40 fto, aJ cJ wa 40000 fw2, aJ cJ ot 40000 fo2, aI cI awk 26 fwk2, aI cI atr 26 ftr2, aJ cJ ase 26 fse2, aI cI ade 25 fde2, aI cI ala 25 fla2, aI cI ach 41 fch2, aI cI apa 25 fpa2, aJ cJ asq 625 fsq2]) [12, 0, 1, 13, 2, 3, 4, 5, 6, 7, 8, 9, 10, 11] rfl rfl rfl ?_
              refine e_if_eq (tgt := 113) C d_MD_draw_106 (by decide) (fun h106 => ?_) (fun h106 => ?_)
              · -- 113
                refine e_lconst (v := 0) C d_MD_draw_113 rfl ?_
                refine e_lsub C d_MD_draw_114 ?_
                refine e_lstore C d_MD_draw_115 (by decide) ?_
                refine e_iinc (v := (nI k) + 1) C d_MD_draw_117 rfl rfl (by decide) ?_
                refine e_goto (tgt := 72) C d_MD_draw_120 (by decide) ?_
                refine e_lv [(0, .ref m), (5, .long (lN left)), (7, .int (nI (k + 1)))] ⟨rfl, (congrArg (fun z => some (Value.long z)) (Int64.sub_zero _)), congrArg (fun z => some (Value.int z)) (nI_1 k), trivial⟩ ?_
                refine e_ws [oMD m 0 kd (nI w) (nI h) aho aaw fi sc (nI el.length) aen ato (bI li2) (nI mny2) wa ot 1 wyv (lN r) awk atr ase ade ala ach apa asq, aZ cZ aho 25 (bF hb), aI cI aen 80 fen, aI cI ato 40 fto, aJ cJ wa 40000 fw2, aJ cJ ot 40000 fo2, aI cI awk 26 fwk2, aI cI atr 26 ftr2, aJ cJ ase 26 fse2, aI cI ade 25 fde2, aI cI ala 25 fla2, aI cI ach 41 fch2, aI cI apa 25 fpa2, aJ cJ asq 625 fsq2] rfl ?_
                exact ihLW (k + 1) left (by omega) (by omega) (by simp only [bI_eq0] at h106; rw [List.filter_cons_of_neg (by rw [h106]; decide)] at hF; exact hF) (by omega)
              · exact absurd h90 h106
      refine e_lv [(0, .ref m), (5, .long (lN r)), (7, .int (nI 0))] ⟨rfl, rfl, rfl, trivial⟩ ?_
      refine e_ws [oMD m 0 kd (nI w) (nI h) aho aaw fi sc (nI el.length) aen ato (bI li2) (nI mny2) wa ot 1 wyv (lN r) awk atr ase ade ala ach apa asq, aZ cZ aho 25 (bF hb), aI cI aen 80 fen, aI cI ato 40 fto, aJ cJ wa 40000 fw2, aJ cJ ot 40000 fo2, aI cI awk 26 fwk2, aI cI atr 26 ftr2, aJ cJ ase 26 fse2, aI cI ade 25 fde2, aI cI ala 25 fla2, aI cI ach 41 fch2, aI cI apa 25 fpa2, aJ cJ asq 625 fsq2] rfl ?_
      exact LW _ 0 r (Nat.zero_le _) (by omega) (by rw [List.drop_zero]; exact hWr) (Nat.lt_succ_self _)
    · -- 53
      refine e_aload_n C d_MD_draw_53 rfl rfl ?_
      refine e_aload_n C d_MD_draw_54 rfl rfl ?_
      refine e_get C hin_MD 0 rfl rfl 17 (by decide) fl_MD_180 rfl d_MD_draw_55 ?_
      refine e_callV (As := [.long (lN r)]) (st := []) (wc := [oMD m 0 kd (nI w) (nI h) aho aaw fi sc (nI el.length) aen ato (bI li2) (nI mny2) wa ot 1 wyv (lN r) awk atr ase ade ala ach apa asq, aZ cZ aho 25 (bF hb), aI cI aen 80 fen, aI cI ato 40 fto, aI cI apa 25 fpa2, aJ cJ asq 625 fsq2]) (wr := [aJ cJ wa 40000 fw2, aJ cJ ot 40000 fo2, aI cI awk 26 fwk2, aI cI atr 26 ftr2, aJ cJ ase 26 fse2, aI cI ade 25 fde2, aI cI ala 25 fla2, aI cI ach 41 fch2]) C (M_MD_drawTree l D cI cJ cZ m aho aaw aen ato wa ot awk atr ase ade ala ach apa asq w h hw hh hw1 hh1 0 kd fi sc el li2 mny2 true wyv (lN r) hb fen fto fpa2 fsq2 hen hel hev r (by omega) (dtF w h el hb el.length 0 r 0 fto) rfl) v_MD_drawTree ml_MD_183 0 rfl rfl nwW_ok ⟨Nat.le_of_ble_eq_true rfl, Nat.le_of_ble_eq_true rfl⟩ ⟨Nat.le_of_ble_eq_true rfl, Nat.le_of_ble_eq_true rfl⟩ [0, 1, 2, 3, 12, 13] [4, 5, 6, 7, 8, 9, 10, 11] rfl rfl rfl rfl (by decide) (Nat.le_of_ble_eq_true rfl) rfl d_MD_draw_58 (fun v w1 hp => ?_)
      obtain ⟨fpa3, fsq3, rfl, rfl⟩ := hp
      refine e_perm (st' := []) (ws' := [oMD m 0 kd (nI w) (nI h) aho aaw fi sc (nI el.length) aen ato (bI li2) (nI mny2) wa ot 1 (dtF w h el hb el.length 0 r 0 fto) (lN r) awk atr ase ade ala ach apa asq, aZ cZ aho 25 (bF hb), aI cI aen 80 fen, aI cI ato 40 fto, aJ cJ wa 40000 fw2, aJ cJ ot 40000 fo2, aI cI awk 26 fwk2, aI cI atr 26 ftr2, aJ cJ ase 26 fse2, aI cI ade 25 fde2, aI cI ala 25 fla2, aI cI ach 41 fch2, aI cI apa 25 fpa3, aJ cJ asq 625 fsq3]) [8, 9, 10, 11, 0, 1, 2, 3, 4, 5, 6, 7, 12, 13] rfl rfl rfl ?_
      refine e_iconst (v := 1) C d_MD_draw_61 rfl ?_
      exact e_iret C Z rfl (Nat.le_of_ble_eq_true rfl) (Nat.le_of_ble_eq_true rfl) (⟨wa, ot, li2, mny2, fw2, fo2, fwk2, ftr2, fse2, fde2, fla2, fch2, fpa3, fsq3, hl2, hl3, Or.inr ⟨r, dtF w h el hb el.length 0 r 0 fto, hc0, hr, hre, ⟨fun _ => rfl, fun z => absurd h50 z⟩, rfl, rfl⟩⟩) d_MD_draw_62
  · -- 21
    have hc0 : (cntM w h kd fi sc el hb fto) = 0 := by rw [show (0 : Int64) = lN 0 from rfl, lg0] at h18; exact (pk_lEQ (by omega) (by decide)).mp h18
    refine e_iconst (v := 0) C d_MD_draw_21 rfl ?_
    exact e_iret C Z rfl (Nat.le_of_ble_eq_true rfl) (Nat.le_of_ble_eq_true rfl) (⟨wa, ot, li2, mny2, fw2, fo2, fwk2, ftr2, fse2, fde2, fla2, fch2, fpa2, fsq2, hl2, hl3, Or.inl ⟨hc0, rfl, rfl⟩⟩) d_MD_draw_22
