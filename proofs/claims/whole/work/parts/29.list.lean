/-! THE REFERENCE'S list -/
def fmN (g : Nat → List Int64) : Nat → List Int64
  | 0 => []
  | n + 1 => fmN g n ++ g n
theorem fmN_le {g : Nat → List Int64} {p : Nat} : ∀ {n : Nat}, p ≤ n → (fmN g p).length ≤ (fmN g n).length
  | 0, h => by rw [show p = 0 by omega]; exact Nat.le_refl _
  | n + 1, h => by
    by_cases z : p = n + 1
    · rw [z]; exact Nat.le_refl _
    · show _ ≤ (fmN g n ++ g n).length
      rw [List.length_append]
      have := fmN_le (g := g) (p := p) (n := n) (by omega)
      omega
def lpAll (el : List (Nat × Nat)) (sc : Int32) (p : Nat) : List Int64 := dW el p p true sc 26 [p] p 0 0
def lsAll (w h : Nat) (kd fi sc : Int32) (el : List (Nat × Nat)) (hb : Nat → Bool) : List Int64 :=
  if kd = 1 then (if fi < 0 then [] else if hb fi.toNatClampNeg = true then [] else if hb sc.toNatClampNeg = true then [] else dW el fi.toNatClampNeg 0 false sc 26 [fi.toNatClampNeg] fi.toNatClampNeg 0 0)
  else if kd = 2 then fmN (lpAll el sc) (w * h)
  else ldAll el hb (w * h) (if kd = 0 then 1 else 2)
def LsR (T : List Int64) (fw : Nat → Int64) (n : Nat) : Prop := ∃ L : List Int64, L.length = n ∧ L.Perm T ∧ L.Pairwise (fun a b => leS a b = true) ∧ WaR L fw
set_option maxHeartbeats 4000000 in
set_option maxRecDepth 100000 in
theorem M_MD_list (l : Launch) (D : va_G) (cI cJ cZ : ClassId) (m aho aaw aen ato awa aot awk atr ase ade ala ach apa asq : Nat) (w h : Nat) (hw : w ≤ 5) (hh : h ≤ 5) (hw1 : 1 ≤ w) (hh1 : 1 ≤ h) (th kd fi sc : Int32) (el : List (Nat × Nat)) (li : Bool) (mny : Nat) (drn : Bool) (wyv rkv : Int64) (hb : Nat → Bool) (fen fwk ftr fde fla fch : Nat → Int32) (fse fw fo : Nat → Int64) (hen : enR el fen) (hel : el.length ≤ 40) (hev : ∀ (i a b : Nat), el[i]? = some (a, b) → a < 25 ∧ b < 25 ∧ a ≠ b) (hfs : fi < 0 ∨ ∃ a b : Nat, a < w * h ∧ b < w * h ∧ fi = nI a ∧ sc = nI b) (hlim : (lsAll w h kd fi sc el hb).length ≤ 40000) (hli : li = true → LsR (lsAll w h kd fi sc el hb) fw mny) : MK l D cI cJ cZ y_MD_list c_MD_list 2 none 2 53 [.ref m] [oMD m th kd (nI w) (nI h) aho aaw fi sc (nI el.length) aen ato (bI li) (nI mny) awa aot (bI drn) wyv rkv awk atr ase ade ala ach apa asq, aZ cZ aho 25 (bF hb), aI cI aen 80 fen, aJ cJ awa 40000 fw, aJ cJ aot 40000 fo, aI cI awk 26 fwk, aI cI atr 26 ftr, aJ cJ ase 26 fse, aI cI ade 25 fde, aI cI ala 25 fla, aI cI ach 41 fch] 0 0 (fun v w1 => ∃ (wa ot mny2 : Nat) (fw2 fo2 : Nat → Int64) (fwk2 ftr2 : Nat → Int32) (fse2 : Nat → Int64) (fde2 fla2 fch2 : Nat → Int32), v = none ∧ w1 = [oMD m th kd (nI w) (nI h) aho aaw fi sc (nI el.length) aen ato (bI true) (nI mny2) wa ot (bI drn) wyv rkv awk atr ase ade ala ach apa asq, aZ cZ aho 25 (bF hb), aI cI aen 80 fen, aJ cJ wa 40000 fw2, aJ cJ ot 40000 fo2, aI cI awk 26 fwk2, aI cI atr 26 ftr2, aJ cJ ase 26 fse2, aI cI ade 25 fde2, aI cI ala 25 fla2, aI cI ach 41 fch2] ∧ LsR (lsAll w h kd fi sc el hb) fw2 mny2) := by
  refine MC.of (by decide) bigW_good (Nat.le_of_ble_eq_true rfl) (fun κ C Z IN => ?_)
  have hP : w * h ≤ 25 := Nat.mul_le_mul hw hh
  refine e_aload_n C d_MD_list_0 rfl rfl ?_
  refine e_get C hin_MD 0 rfl rfl 11 (by decide) fl_MD_92 rfl d_MD_list_1 ?_
  refine e_if_eq (tgt := 8) C d_MD_list_4 (by decide) (fun h4 => ?_) (fun h4 => ?_)
  · -- 8
    refine e_aload_n C d_MD_list_8 rfl rfl ?_
    refine e_iconst (v := 1) C d_MD_list_9 rfl ?_
    refine e_put C hin_MD ty_MD tyk_MD nm_MD 0 rfl rfl 11 (by decide) fl_MD_92 rfl rfl rfl (Nat.le_of_ble_eq_true rfl) d_MD_list_10 ?_
    refine e_ws [oMD m th kd (nI w) (nI h) aho aaw fi sc (nI el.length) aen ato 1 (nI mny) awa aot (bI drn) wyv rkv awk atr ase ade ala ach apa asq, aZ cZ aho 25 (bF hb), aI cI aen 80 fen, aJ cJ awa 40000 fw, aJ cJ aot 40000 fo, aI cI awk 26 fwk, aI cI atr 26 ftr, aJ cJ ase 26 fse, aI cI ade 25 fde, aI cI ala 25 fla, aI cI ach 41 fch] rfl ?_
    refine e_aload_n C d_MD_list_13 rfl rfl ?_
    refine e_iconst (v := 0) C d_MD_list_14 rfl ?_
    refine e_put C hin_MD ty_MD tyk_MD nm_MD 0 rfl rfl 12 (by decide) fl_MD_106 rfl rfl rfl (Nat.le_of_ble_eq_true rfl) d_MD_list_15 ?_
    refine e_ws [oMD m th kd (nI w) (nI h) aho aaw fi sc (nI el.length) aen ato 1 0 awa aot (bI drn) wyv rkv awk atr ase ade ala ach apa asq, aZ cZ aho 25 (bF hb), aI cI aen 80 fen, aJ cJ awa 40000 fw, aJ cJ aot 40000 fo, aI cI awk 26 fwk, aI cI atr 26 ftr, aJ cJ ase 26 fse, aI cI ade 25 fde, aI cI ala 25 fla, aI cI ach 41 fch] rfl ?_
    refine e_ws [oMD m th kd (nI w) (nI h) aho aaw fi sc (nI el.length) aen ato (bI true) (nI ([] : List Int64).length) awa aot (bI drn) wyv rkv awk atr ase ade ala ach apa asq, aZ cZ aho 25 (bF hb), aI cI aen 80 fen, aJ cJ awa 40000 fw, aJ cJ aot 40000 fo, aI cI awk 26 fwk, aI cI atr 26 ftr, aJ cJ ase 26 fse, aI cI ade 25 fde, aI cI ala 25 fla, aI cI ach 41 fch] rfl ?_
    refine e_aload_n C d_MD_list_18 rfl rfl ?_
    refine e_get C hin_MD 0 rfl rfl 1 (by decide) fl_MD_66 rfl d_MD_list_19 ?_
    refine e_iconst (v := 1) C d_MD_list_22 rfl ?_
    refine e_icmp_ne (tgt := 70) C d_MD_list_23 (by decide) (fun h23 => ?_) (fun h23 => ?_)
    · -- 70
      refine e_aload_n C d_MD_list_70 rfl rfl ?_
      refine e_get C hin_MD 0 rfl rfl 1 (by decide) fl_MD_66 rfl d_MD_list_71 ?_
      refine e_iconst (v := 2) C d_MD_list_74 rfl ?_
      refine e_icmp_ne (tgt := 104) C d_MD_list_75 (by decide) (fun h75 => ?_) (fun h75 => ?_)
      · -- 104
        refine e_aload_n C d_MD_list_104 rfl rfl ?_
        refine e_aload_n C d_MD_list_105 rfl rfl ?_
        refine e_get C hin_MD 0 rfl rfl 1 (by decide) fl_MD_66 rfl d_MD_list_106 ?_
        refine e_if_ne (tgt := 116) C d_MD_list_109 (by decide) (fun h109 => ?_) (fun h109 => ?_)
        · -- 116
          refine e_iconst (v := 2) C d_MD_list_116 rfl ?_
          have hALL : (lsAll w h kd fi sc el hb) = ldAll el hb (w * h) 2 := by unfold lsAll; rw [if_neg h23, if_neg h75, if_neg h109]
          have hWx : WaR ([] : List Int64) fw := fun i x q => by simp at q
          refine e_st [.int (nI 2), .ref m] rfl ?_
          refine e_callV (As := [.int (nI 2)]) (st := []) (wc := [oMD m th kd (nI w) (nI h) aho aaw fi sc (nI el.length) aen ato (bI true) (nI ([] : List Int64).length) awa aot (bI drn) wyv rkv awk atr ase ade ala ach apa asq, aZ cZ aho 25 (bF hb), aI cI aen 80 fen, aJ cJ awa 40000 fw, aI cI ade 25 fde, aI cI ala 25 fla, aI cI ach 41 fch]) (wr := [aJ cJ aot 40000 fo, aI cI awk 26 fwk, aI cI atr 26 ftr, aJ cJ ase 26 fse]) C (M_MD_listDegrees l D cI cJ cZ m aho aaw aen ato awa aot awk atr ase ade ala ach apa asq w h hw hh hw1 hh1 th kd fi sc el true [] drn wyv rkv hb fen fde fla fch fw 2 (by decide) hen hel hev hWx (ldAll el hb (w * h) 2) (List.nil_append _) (by rw [← hALL]; exact hlim)) v_MD_listDegrees ml_MD_131 0 rfl rfl nwW_ok ⟨Nat.le_of_ble_eq_true rfl, Nat.le_of_ble_eq_true rfl⟩ ⟨Nat.le_of_ble_eq_true rfl, Nat.le_of_ble_eq_true rfl⟩ [0, 1, 2, 3, 8, 9, 10] [4, 5, 6, 7] rfl rfl rfl rfl (by decide) (Nat.le_of_ble_eq_true rfl) rfl d_MD_list_117 (fun v w1 hp => ?_)
          obtain ⟨fw3, fde3, fla3, fch3, rfl, rfl, hWx⟩ := hp
          refine e_perm (st' := []) (ws' := [oMD m th kd (nI w) (nI h) aho aaw fi sc (nI el.length) aen ato (bI true) (nI (ldAll el hb (w * h) 2).length) awa aot (bI drn) wyv rkv awk atr ase ade ala ach apa asq, aZ cZ aho 25 (bF hb), aI cI aen 80 fen, aJ cJ awa 40000 fw3, aJ cJ aot 40000 fo, aI cI awk 26 fwk, aI cI atr 26 ftr, aJ cJ ase 26 fse, aI cI ade 25 fde3, aI cI ala 25 fla3, aI cI ach 41 fch3]) [4, 5, 6, 7, 0, 1, 2, 3, 8, 9, 10] rfl rfl rfl ?_
          refine e_aload_n C d_MD_list_120 rfl rfl ?_
          refine e_callV (As := []) (st := []) (wc := [oMD m th kd (nI w) (nI h) aho aaw fi sc (nI el.length) aen ato (bI true) (nI (ldAll el hb (w * h) 2).length) awa aot (bI drn) wyv rkv awk atr ase ade ala ach apa asq, aJ cJ awa 40000 fw3, aJ cJ aot 40000 fo]) (wr := [aZ cZ aho 25 (bF hb), aI cI aen 80 fen, aI cI awk 26 fwk, aI cI atr 26 ftr, aJ cJ ase 26 fse, aI cI ade 25 fde3, aI cI ala 25 fla3, aI cI ach 41 fch3]) C (M_MD_sort l D cI cJ cZ m aho aaw aen ato awa aot awk atr ase ade ala ach apa asq w h hw hh hw1 hh1 th kd fi sc el true (ldAll el hb (w * h) 2) drn wyv rkv fw3 fo (by rw [← hALL]; exact hlim) hWx) v_MD_sort ml_MD_135 0 rfl rfl nwW_ok ⟨Nat.le_of_ble_eq_true rfl, Nat.le_of_ble_eq_true rfl⟩ ⟨Nat.le_of_ble_eq_true rfl, Nat.le_of_ble_eq_true rfl⟩ [0, 3, 4] [1, 2, 5, 6, 7, 8, 9, 10] rfl rfl rfl rfl (by decide) (Nat.le_of_ble_eq_true rfl) rfl d_MD_list_121 (fun v w1 hp => ?_)
          obtain ⟨wa, ot, fw9, fo9, L, rfl, rfl, hLp, hLs, hLW⟩ := hp
          refine e_perm (st' := []) (ws' := [oMD m th kd (nI w) (nI h) aho aaw fi sc (nI el.length) aen ato (bI true) (nI (ldAll el hb (w * h) 2).length) wa ot (bI drn) wyv rkv awk atr ase ade ala ach apa asq, aZ cZ aho 25 (bF hb), aI cI aen 80 fen, aJ cJ wa 40000 fw9, aJ cJ ot 40000 fo9, aI cI awk 26 fwk, aI cI atr 26 ftr, aJ cJ ase 26 fse, aI cI ade 25 fde3, aI cI ala 25 fla3, aI cI ach 41 fch3]) [8, 0, 1, 9, 10, 2, 3, 4, 5, 6, 7] rfl rfl rfl ?_
          exact e_vret C Z (Nat.le_of_ble_eq_true rfl) (Nat.le_of_ble_eq_true rfl) (⟨wa, ot, _, fw9, fo9, fwk, ftr, fse, fde3, fla3, fch3, rfl, rfl, L, hLp.length_eq, by rw [hALL]; exact hLp, hLs, hLW⟩) d_MD_list_124
        · -- 112
          refine e_iconst (v := 1) C d_MD_list_112 rfl ?_
          refine e_goto (tgt := 117) C d_MD_list_113 (by decide) ?_
          have hALL : (lsAll w h kd fi sc el hb) = ldAll el hb (w * h) 1 := by unfold lsAll; rw [if_neg h23, if_neg h75, if_pos h109]
          have hWx : WaR ([] : List Int64) fw := fun i x q => by simp at q
          refine e_st [.int (nI 1), .ref m] rfl ?_
          refine e_callV (As := [.int (nI 1)]) (st := []) (wc := [oMD m th kd (nI w) (nI h) aho aaw fi sc (nI el.length) aen ato (bI true) (nI ([] : List Int64).length) awa aot (bI drn) wyv rkv awk atr ase ade ala ach apa asq, aZ cZ aho 25 (bF hb), aI cI aen 80 fen, aJ cJ awa 40000 fw, aI cI ade 25 fde, aI cI ala 25 fla, aI cI ach 41 fch]) (wr := [aJ cJ aot 40000 fo, aI cI awk 26 fwk, aI cI atr 26 ftr, aJ cJ ase 26 fse]) C (M_MD_listDegrees l D cI cJ cZ m aho aaw aen ato awa aot awk atr ase ade ala ach apa asq w h hw hh hw1 hh1 th kd fi sc el true [] drn wyv rkv hb fen fde fla fch fw 1 (by decide) hen hel hev hWx (ldAll el hb (w * h) 1) (List.nil_append _) (by rw [← hALL]; exact hlim)) v_MD_listDegrees ml_MD_131 0 rfl rfl nwW_ok ⟨Nat.le_of_ble_eq_true rfl, Nat.le_of_ble_eq_true rfl⟩ ⟨Nat.le_of_ble_eq_true rfl, Nat.le_of_ble_eq_true rfl⟩ [0, 1, 2, 3, 8, 9, 10] [4, 5, 6, 7] rfl rfl rfl rfl (by decide) (Nat.le_of_ble_eq_true rfl) rfl d_MD_list_117 (fun v w1 hp => ?_)
          obtain ⟨fw3, fde3, fla3, fch3, rfl, rfl, hWx⟩ := hp
          refine e_perm (st' := []) (ws' := [oMD m th kd (nI w) (nI h) aho aaw fi sc (nI el.length) aen ato (bI true) (nI (ldAll el hb (w * h) 1).length) awa aot (bI drn) wyv rkv awk atr ase ade ala ach apa asq, aZ cZ aho 25 (bF hb), aI cI aen 80 fen, aJ cJ awa 40000 fw3, aJ cJ aot 40000 fo, aI cI awk 26 fwk, aI cI atr 26 ftr, aJ cJ ase 26 fse, aI cI ade 25 fde3, aI cI ala 25 fla3, aI cI ach 41 fch3]) [4, 5, 6, 7, 0, 1, 2, 3, 8, 9, 10] rfl rfl rfl ?_
          refine e_aload_n C d_MD_list_120 rfl rfl ?_
          refine e_callV (As := []) (st := []) (wc := [oMD m th kd (nI w) (nI h) aho aaw fi sc (nI el.length) aen ato (bI true) (nI (ldAll el hb (w * h) 1).length) awa aot (bI drn) wyv rkv awk atr ase ade ala ach apa asq, aJ cJ awa 40000 fw3, aJ cJ aot 40000 fo]) (wr := [aZ cZ aho 25 (bF hb), aI cI aen 80 fen, aI cI awk 26 fwk, aI cI atr 26 ftr, aJ cJ ase 26 fse, aI cI ade 25 fde3, aI cI ala 25 fla3, aI cI ach 41 fch3]) C (M_MD_sort l D cI cJ cZ m aho aaw aen ato awa aot awk atr ase ade ala ach apa asq w h hw hh hw1 hh1 th kd fi sc el true (ldAll el hb (w * h) 1) drn wyv rkv fw3 fo (by rw [← hALL]; exact hlim) hWx) v_MD_sort ml_MD_135 0 rfl rfl nwW_ok ⟨Nat.le_of_ble_eq_true rfl, Nat.le_of_ble_eq_true rfl⟩ ⟨Nat.le_of_ble_eq_true rfl, Nat.le_of_ble_eq_true rfl⟩ [0, 3, 4] [1, 2, 5, 6, 7, 8, 9, 10] rfl rfl rfl rfl (by decide) (Nat.le_of_ble_eq_true rfl) rfl d_MD_list_121 (fun v w1 hp => ?_)
          obtain ⟨wa, ot, fw9, fo9, L, rfl, rfl, hLp, hLs, hLW⟩ := hp
          refine e_perm (st' := []) (ws' := [oMD m th kd (nI w) (nI h) aho aaw fi sc (nI el.length) aen ato (bI true) (nI (ldAll el hb (w * h) 1).length) wa ot (bI drn) wyv rkv awk atr ase ade ala ach apa asq, aZ cZ aho 25 (bF hb), aI cI aen 80 fen, aJ cJ wa 40000 fw9, aJ cJ ot 40000 fo9, aI cI awk 26 fwk, aI cI atr 26 ftr, aJ cJ ase 26 fse, aI cI ade 25 fde3, aI cI ala 25 fla3, aI cI ach 41 fch3]) [8, 0, 1, 9, 10, 2, 3, 4, 5, 6, 7] rfl rfl rfl ?_
          exact e_vret C Z (Nat.le_of_ble_eq_true rfl) (Nat.le_of_ble_eq_true rfl) (⟨wa, ot, _, fw9, fo9, fwk, ftr, fse, fde3, fla3, fch3, rfl, rfl, L, hLp.length_eq, by rw [hALL]; exact hLp, hLs, hLW⟩) d_MD_list_124
      · -- 78
        have hALL : (lsAll w h kd fi sc el hb) = fmN (lpAll el sc) (w * h) := by unfold lsAll; rw [if_neg h23, if_pos h75]
        refine e_iconst (v := 0) C d_MD_list_78 rfl ?_
        refine e_istore_n C d_MD_list_79 rfl (by decide) ?_
        have LP : ∀ (fuel : Nat) (p : Nat) (fwk ftr : Nat → Int32) (fse fw : Nat → Int64), p ≤ w * h → WaR (fmN (lpAll el sc) p) fw →  w * h - p < fuel → E κ (lu_o [(0, .ref m), (1, .int (nI p))]) [] [oMD m th kd (nI w) (nI h) aho aaw fi sc (nI el.length) aen ato (bI true) (nI (fmN (lpAll el sc) p).length) awa aot (bI drn) wyv rkv awk atr ase ade ala ach apa asq, aZ cZ aho 25 (bF hb), aI cI aen 80 fen, aJ cJ awa 40000 fw, aJ cJ aot 40000 fo, aI cI awk 26 fwk, aI cI atr 26 ftr, aJ cJ ase 26 fse, aI cI ade 25 fde, aI cI ala 25 fla, aI cI ach 41 fch] 0 0 80 := by
          intro fuel
          induction fuel with
          | zero => intro p fwk ftr fse fw hp hWx hm; exact absurd hm (Nat.not_lt_zero _)
          | succ fuel ihLP =>
            intro p fwk ftr fse fw hp hWx hm
            refine e_iload_n C d_MD_list_80 rfl rfl ?_
            refine e_aload_n C d_MD_list_81 rfl rfl ?_
            refine e_callV (As := []) (st := [.int (nI p)]) (wc := [oMD m th kd (nI w) (nI h) aho aaw fi sc (nI el.length) aen ato (bI true) (nI (fmN (lpAll el sc) p).length) awa aot (bI drn) wyv rkv awk atr ase ade ala ach apa asq]) (wr := [aZ cZ aho 25 (bF hb), aI cI aen 80 fen, aJ cJ awa 40000 fw, aJ cJ aot 40000 fo, aI cI awk 26 fwk, aI cI atr 26 ftr, aJ cJ ase 26 fse, aI cI ade 25 fde, aI cI ala 25 fla, aI cI ach 41 fch]) C (M_MD_places l D cI cJ cZ m aho aaw aen ato awa aot awk atr ase ade ala ach apa asq w h hw hh hw1 hh1 th kd fi sc el true ((fmN (lpAll el sc) p).length) drn wyv rkv) v_MD_places ml_MD_81 0 rfl rfl nwW_ok ⟨Nat.le_of_ble_eq_true rfl, Nat.le_of_ble_eq_true rfl⟩ ⟨Nat.le_of_ble_eq_true rfl, Nat.le_of_ble_eq_true rfl⟩ [0] [1, 2, 3, 4, 5, 6, 7, 8, 9, 10] rfl rfl rfl rfl (by decide) (Nat.le_of_ble_eq_true rfl) rfl d_MD_list_82 (fun v w1 hp => ?_)
            obtain ⟨rfl, rfl⟩ := hp
            refine e_perm (st' := [.int (nI (w * h)), .int (nI p)]) (ws' := [oMD m th kd (nI w) (nI h) aho aaw fi sc (nI el.length) aen ato (bI true) (nI (fmN (lpAll el sc) p).length) awa aot (bI drn) wyv rkv awk atr ase ade ala ach apa asq, aZ cZ aho 25 (bF hb), aI cI aen 80 fen, aJ cJ awa 40000 fw, aJ cJ aot 40000 fo, aI cI awk 26 fwk, aI cI atr 26 ftr, aJ cJ ase 26 fse, aI cI ade 25 fde, aI cI ala 25 fla, aI cI ach 41 fch]) [10, 0, 1, 2, 3, 4, 5, 6, 7, 8, 9] rfl rfl rfl ?_
            refine e_icmp_ge (tgt := 101) C d_MD_list_85 (by decide) (fun h85 => ?_) (fun h85 => ?_)
            · -- 101
              have hpP : w * h = p := by have q := (nI_leI (by omega) (by omega)).mp h85; omega
              rw [hpP] at hALL
              refine e_goto (tgt := 120) C d_MD_list_101 (by decide) ?_
              refine e_aload_n C d_MD_list_120 rfl rfl ?_
              refine e_callV (As := []) (st := []) (wc := [oMD m th kd (nI w) (nI h) aho aaw fi sc (nI el.length) aen ato (bI true) (nI (fmN (lpAll el sc) p).length) awa aot (bI drn) wyv rkv awk atr ase ade ala ach apa asq, aJ cJ awa 40000 fw, aJ cJ aot 40000 fo]) (wr := [aZ cZ aho 25 (bF hb), aI cI aen 80 fen, aI cI awk 26 fwk, aI cI atr 26 ftr, aJ cJ ase 26 fse, aI cI ade 25 fde, aI cI ala 25 fla, aI cI ach 41 fch]) C (M_MD_sort l D cI cJ cZ m aho aaw aen ato awa aot awk atr ase ade ala ach apa asq w h hw hh hw1 hh1 th kd fi sc el true (fmN (lpAll el sc) p) drn wyv rkv fw fo (by rw [← hALL]; exact hlim) hWx) v_MD_sort ml_MD_135 0 rfl rfl nwW_ok ⟨Nat.le_of_ble_eq_true rfl, Nat.le_of_ble_eq_true rfl⟩ ⟨Nat.le_of_ble_eq_true rfl, Nat.le_of_ble_eq_true rfl⟩ [0, 3, 4] [1, 2, 5, 6, 7, 8, 9, 10] rfl rfl rfl rfl (by decide) (Nat.le_of_ble_eq_true rfl) rfl d_MD_list_121 (fun v w1 hp => ?_)
              obtain ⟨wa, ot, fw9, fo9, L, rfl, rfl, hLp, hLs, hLW⟩ := hp
              refine e_perm (st' := []) (ws' := [oMD m th kd (nI w) (nI h) aho aaw fi sc (nI el.length) aen ato (bI true) (nI (fmN (lpAll el sc) p).length) wa ot (bI drn) wyv rkv awk atr ase ade ala ach apa asq, aZ cZ aho 25 (bF hb), aI cI aen 80 fen, aJ cJ wa 40000 fw9, aJ cJ ot 40000 fo9, aI cI awk 26 fwk, aI cI atr 26 ftr, aJ cJ ase 26 fse, aI cI ade 25 fde, aI cI ala 25 fla, aI cI ach 41 fch]) [8, 0, 1, 9, 10, 2, 3, 4, 5, 6, 7] rfl rfl rfl ?_
              exact e_vret C Z (Nat.le_of_ble_eq_true rfl) (Nat.le_of_ble_eq_true rfl) (⟨wa, ot, _, fw9, fo9, fwk, ftr, fse, fde, fla, fch, rfl, rfl, L, hLp.length_eq, by rw [hALL]; exact hLp, hLs, hLW⟩) d_MD_list_124
            · -- 88
              have hpP : p < (w * h) := by rcases Nat.lt_or_ge (p) (w * h) with q | q; exact q; exact absurd (nI_le q (by omega)) h85
              have hl1 : (fmN (lpAll el sc) (p + 1)).length ≤ 40000 := by have q := fmN_le (g := lpAll el sc) (show p + 1 ≤ w * h from hpP); rw [hALL] at hlim; exact Nat.le_trans q hlim
              refine e_aload_n C d_MD_list_88 rfl rfl ?_
              refine e_iload_n C d_MD_list_89 rfl rfl ?_
              refine e_iload_n C d_MD_list_90 rfl rfl ?_
              refine e_iconst (v := 1) C d_MD_list_91 rfl ?_
              refine e_st [.int (bI true), .int (nI p), .int (nI p), .ref m] rfl ?_
              refine e_callV (As := [.int (nI p), .int (nI p), .int (bI true)]) (st := []) (wc := [oMD m th kd (nI w) (nI h) aho aaw fi sc (nI el.length) aen ato (bI true) (nI (fmN (lpAll el sc) p).length) awa aot (bI drn) wyv rkv awk atr ase ade ala ach apa asq, aI cI aen 80 fen, aJ cJ awa 40000 fw, aI cI awk 26 fwk, aI cI atr 26 ftr, aJ cJ ase 26 fse]) (wr := [aZ cZ aho 25 (bF hb), aJ cJ aot 40000 fo, aI cI ade 25 fde, aI cI ala 25 fla, aI cI ach 41 fch]) C (M_MD_walkFrom l D cI cJ cZ m aho aaw aen ato awa aot awk atr ase ade ala ach apa asq w h hw hh hw1 hh1 th kd fi sc el true (fmN (lpAll el sc) p) drn wyv rkv fen fwk ftr fse fw p p true (by omega) (by omega) hen hel (fun i a b q => ⟨(hev i a b q).1, (hev i a b q).2.1⟩) hWx (fmN (lpAll el sc) (p + 1)) rfl hl1) v_MD_walkFrom ml_MD_127 0 rfl rfl nwW_ok ⟨Nat.le_of_ble_eq_true rfl, Nat.le_of_ble_eq_true rfl⟩ ⟨Nat.le_of_ble_eq_true rfl, Nat.le_of_ble_eq_true rfl⟩ [0, 2, 3, 5, 6, 7] [1, 4, 8, 9, 10] rfl rfl rfl rfl (by decide) (Nat.le_of_ble_eq_true rfl) rfl d_MD_list_92 (fun v w1 hp => ?_)
              obtain ⟨fw3, fwk3, ftr3, fse3, rfl, rfl, hWx⟩ := hp
              refine e_perm (st' := []) (ws' := [oMD m th kd (nI w) (nI h) aho aaw fi sc (nI el.length) aen ato (bI true) (nI (fmN (lpAll el sc) (p + 1)).length) awa aot (bI drn) wyv rkv awk atr ase ade ala ach apa asq, aZ cZ aho 25 (bF hb), aI cI aen 80 fen, aJ cJ awa 40000 fw3, aJ cJ aot 40000 fo, aI cI awk 26 fwk3, aI cI atr 26 ftr3, aJ cJ ase 26 fse3, aI cI ade 25 fde, aI cI ala 25 fla, aI cI ach 41 fch]) [5, 0, 6, 7, 1, 8, 9, 10, 2, 3, 4] rfl rfl rfl ?_
              refine e_iinc (v := (nI p) + 1) C d_MD_list_95 rfl rfl (by decide) ?_
              refine e_goto (tgt := 80) C d_MD_list_98 (by decide) ?_
              refine e_lv [(0, .ref m), (1, .int (nI (p + 1)))] ⟨rfl, congrArg (fun z => some (Value.int z)) (nI_1 p), trivial⟩ ?_
              refine e_ws [oMD m th kd (nI w) (nI h) aho aaw fi sc (nI el.length) aen ato (bI true) (nI (fmN (lpAll el sc) (p + 1)).length) awa aot (bI drn) wyv rkv awk atr ase ade ala ach apa asq, aZ cZ aho 25 (bF hb), aI cI aen 80 fen, aJ cJ awa 40000 fw3, aJ cJ aot 40000 fo, aI cI awk 26 fwk3, aI cI atr 26 ftr3, aJ cJ ase 26 fse3, aI cI ade 25 fde, aI cI ala 25 fla, aI cI ach 41 fch] rfl ?_
              exact ihLP (p + 1) _ _ _ _ (by omega) hWx (by omega)
        refine e_lv [(0, .ref m), (1, .int (nI 0))] ⟨rfl, rfl, trivial⟩ ?_
        refine e_ws [oMD m th kd (nI w) (nI h) aho aaw fi sc (nI el.length) aen ato (bI true) (nI (fmN (lpAll el sc) 0).length) awa aot (bI drn) wyv rkv awk atr ase ade ala ach apa asq, aZ cZ aho 25 (bF hb), aI cI aen 80 fen, aJ cJ awa 40000 fw, aJ cJ aot 40000 fo, aI cI awk 26 fwk, aI cI atr 26 ftr, aJ cJ ase 26 fse, aI cI ade 25 fde, aI cI ala 25 fla, aI cI ach 41 fch] rfl ?_
        exact LP _ 0 fwk ftr fse fw (Nat.zero_le _) (fun i x q => by simp [fmN] at q) (Nat.lt_succ_self _)
    · -- 26
      have hk : kd = 1 := h23
      refine e_aload_n C d_MD_list_26 rfl rfl ?_
      refine e_get C hin_MD 0 rfl rfl 6 (by decide) fl_MD_16 rfl d_MD_list_27 ?_
      refine e_if_lt (tgt := 120) C d_MD_list_30 (by decide) (fun h30 => ?_) (fun h30 => ?_)
      · -- 120
        have hALL : (lsAll w h kd fi sc el hb) = [] := by unfold lsAll; rw [if_pos hk, if_pos h30]
        have hWx : WaR ([] : List Int64) fw := fun i x q => by simp at q
        refine e_aload_n C d_MD_list_120 rfl rfl ?_
        refine e_callV (As := []) (st := []) (wc := [oMD m th kd (nI w) (nI h) aho aaw fi sc (nI el.length) aen ato (bI true) (nI ([] : List Int64).length) awa aot (bI drn) wyv rkv awk atr ase ade ala ach apa asq, aJ cJ awa 40000 fw, aJ cJ aot 40000 fo]) (wr := [aZ cZ aho 25 (bF hb), aI cI aen 80 fen, aI cI awk 26 fwk, aI cI atr 26 ftr, aJ cJ ase 26 fse, aI cI ade 25 fde, aI cI ala 25 fla, aI cI ach 41 fch]) C (M_MD_sort l D cI cJ cZ m aho aaw aen ato awa aot awk atr ase ade ala ach apa asq w h hw hh hw1 hh1 th kd fi sc el true ([] : List Int64) drn wyv rkv fw fo (by rw [← hALL]; exact hlim) hWx) v_MD_sort ml_MD_135 0 rfl rfl nwW_ok ⟨Nat.le_of_ble_eq_true rfl, Nat.le_of_ble_eq_true rfl⟩ ⟨Nat.le_of_ble_eq_true rfl, Nat.le_of_ble_eq_true rfl⟩ [0, 3, 4] [1, 2, 5, 6, 7, 8, 9, 10] rfl rfl rfl rfl (by decide) (Nat.le_of_ble_eq_true rfl) rfl d_MD_list_121 (fun v w1 hp => ?_)
        obtain ⟨wa, ot, fw9, fo9, L, rfl, rfl, hLp, hLs, hLW⟩ := hp
        refine e_perm (st' := []) (ws' := [oMD m th kd (nI w) (nI h) aho aaw fi sc (nI el.length) aen ato (bI true) (nI ([] : List Int64).length) wa ot (bI drn) wyv rkv awk atr ase ade ala ach apa asq, aZ cZ aho 25 (bF hb), aI cI aen 80 fen, aJ cJ wa 40000 fw9, aJ cJ ot 40000 fo9, aI cI awk 26 fwk, aI cI atr 26 ftr, aJ cJ ase 26 fse, aI cI ade 25 fde, aI cI ala 25 fla, aI cI ach 41 fch]) [8, 0, 1, 9, 10, 2, 3, 4, 5, 6, 7] rfl rfl rfl ?_
        exact e_vret C Z (Nat.le_of_ble_eq_true rfl) (Nat.le_of_ble_eq_true rfl) (⟨wa, ot, _, fw9, fo9, fwk, ftr, fse, fde, fla, fch, rfl, rfl, L, hLp.length_eq, by rw [hALL]; exact hLp, hLs, hLW⟩) d_MD_list_124
      · -- 33
        obtain ⟨a, b, ha, hb2, hfa, hsb⟩ : ∃ a b : Nat, a < w * h ∧ b < w * h ∧ fi = nI a ∧ sc = nI b := by rcases hfs with z | z; exact absurd z h30; exact z
        have hac : fi.toNatClampNeg = a := by rw [hfa]; exact nI_clamp (by omega)
        have hbc : sc.toNatClampNeg = b := by rw [hsb]; exact nI_clamp (by omega)
        refine e_aload_n C d_MD_list_33 rfl rfl ?_
        refine e_get C hin_MD 0 rfl rfl 4 (by decide) fl_MD_7 rfl d_MD_list_34 ?_
        refine e_aload_n C d_MD_list_37 rfl rfl ?_
        refine e_get C hin_MD 0 rfl rfl 6 (by decide) fl_MD_16 rfl d_MD_list_38 ?_
        refine e_st [.int (nI a), .ref aho] (by rw [hfa]) ?_
        refine e_zald C 1 2 rfl rfl (vp_in_nI (by omega) (by omega)) d_MD_list_41 ?_
        refine e_st [.int (bI (hb a))] (by rw [nI_clamp (by omega)]; rfl) ?_
        refine e_if_ne (tgt := 120) C d_MD_list_42 (by decide) (fun h42 => ?_) (fun h42 => ?_)
        · -- 120
          have hALL : (lsAll w h kd fi sc el hb) = [] := by simp only [bI_eq0, Bool.not_eq_false] at h42; unfold lsAll; rw [if_pos hk, if_neg h30, hac, if_pos h42]
          have hWx : WaR ([] : List Int64) fw := fun i x q => by simp at q
          refine e_aload_n C d_MD_list_120 rfl rfl ?_
          refine e_callV (As := []) (st := []) (wc := [oMD m th kd (nI w) (nI h) aho aaw fi sc (nI el.length) aen ato (bI true) (nI ([] : List Int64).length) awa aot (bI drn) wyv rkv awk atr ase ade ala ach apa asq, aJ cJ awa 40000 fw, aJ cJ aot 40000 fo]) (wr := [aZ cZ aho 25 (bF hb), aI cI aen 80 fen, aI cI awk 26 fwk, aI cI atr 26 ftr, aJ cJ ase 26 fse, aI cI ade 25 fde, aI cI ala 25 fla, aI cI ach 41 fch]) C (M_MD_sort l D cI cJ cZ m aho aaw aen ato awa aot awk atr ase ade ala ach apa asq w h hw hh hw1 hh1 th kd fi sc el true ([] : List Int64) drn wyv rkv fw fo (by rw [← hALL]; exact hlim) hWx) v_MD_sort ml_MD_135 0 rfl rfl nwW_ok ⟨Nat.le_of_ble_eq_true rfl, Nat.le_of_ble_eq_true rfl⟩ ⟨Nat.le_of_ble_eq_true rfl, Nat.le_of_ble_eq_true rfl⟩ [0, 3, 4] [1, 2, 5, 6, 7, 8, 9, 10] rfl rfl rfl rfl (by decide) (Nat.le_of_ble_eq_true rfl) rfl d_MD_list_121 (fun v w1 hp => ?_)
          obtain ⟨wa, ot, fw9, fo9, L, rfl, rfl, hLp, hLs, hLW⟩ := hp
          refine e_perm (st' := []) (ws' := [oMD m th kd (nI w) (nI h) aho aaw fi sc (nI el.length) aen ato (bI true) (nI ([] : List Int64).length) wa ot (bI drn) wyv rkv awk atr ase ade ala ach apa asq, aZ cZ aho 25 (bF hb), aI cI aen 80 fen, aJ cJ wa 40000 fw9, aJ cJ ot 40000 fo9, aI cI awk 26 fwk, aI cI atr 26 ftr, aJ cJ ase 26 fse, aI cI ade 25 fde, aI cI ala 25 fla, aI cI ach 41 fch]) [8, 0, 1, 9, 10, 2, 3, 4, 5, 6, 7] rfl rfl rfl ?_
          exact e_vret C Z (Nat.le_of_ble_eq_true rfl) (Nat.le_of_ble_eq_true rfl) (⟨wa, ot, _, fw9, fo9, fwk, ftr, fse, fde, fla, fch, rfl, rfl, L, hLp.length_eq, by rw [hALL]; exact hLp, hLs, hLW⟩) d_MD_list_124
        · -- 45
          refine e_aload_n C d_MD_list_45 rfl rfl ?_
          refine e_get C hin_MD 0 rfl rfl 4 (by decide) fl_MD_7 rfl d_MD_list_46 ?_
          refine e_aload_n C d_MD_list_49 rfl rfl ?_
          refine e_get C hin_MD 0 rfl rfl 7 (by decide) fl_MD_20 rfl d_MD_list_50 ?_
          refine e_st [.int (nI b), .ref aho] (by rw [hsb]) ?_
          refine e_zald C 1 2 rfl rfl (vp_in_nI (by omega) (by omega)) d_MD_list_53 ?_
          refine e_st [.int (bI (hb b))] (by rw [nI_clamp (by omega)]; rfl) ?_
          refine e_if_ne (tgt := 120) C d_MD_list_54 (by decide) (fun h54 => ?_) (fun h54 => ?_)
          · -- 120
            have hALL : (lsAll w h kd fi sc el hb) = [] := by simp only [bI_eq0, Bool.not_eq_false] at h42 h54; unfold lsAll; rw [if_pos hk, if_neg h30, hac, hbc, if_neg (by rw [h42]; decide), if_pos h54]
            have hWx : WaR ([] : List Int64) fw := fun i x q => by simp at q
            refine e_aload_n C d_MD_list_120 rfl rfl ?_
            refine e_callV (As := []) (st := []) (wc := [oMD m th kd (nI w) (nI h) aho aaw fi sc (nI el.length) aen ato (bI true) (nI ([] : List Int64).length) awa aot (bI drn) wyv rkv awk atr ase ade ala ach apa asq, aJ cJ awa 40000 fw, aJ cJ aot 40000 fo]) (wr := [aZ cZ aho 25 (bF hb), aI cI aen 80 fen, aI cI awk 26 fwk, aI cI atr 26 ftr, aJ cJ ase 26 fse, aI cI ade 25 fde, aI cI ala 25 fla, aI cI ach 41 fch]) C (M_MD_sort l D cI cJ cZ m aho aaw aen ato awa aot awk atr ase ade ala ach apa asq w h hw hh hw1 hh1 th kd fi sc el true ([] : List Int64) drn wyv rkv fw fo (by rw [← hALL]; exact hlim) hWx) v_MD_sort ml_MD_135 0 rfl rfl nwW_ok ⟨Nat.le_of_ble_eq_true rfl, Nat.le_of_ble_eq_true rfl⟩ ⟨Nat.le_of_ble_eq_true rfl, Nat.le_of_ble_eq_true rfl⟩ [0, 3, 4] [1, 2, 5, 6, 7, 8, 9, 10] rfl rfl rfl rfl (by decide) (Nat.le_of_ble_eq_true rfl) rfl d_MD_list_121 (fun v w1 hp => ?_)
            obtain ⟨wa, ot, fw9, fo9, L, rfl, rfl, hLp, hLs, hLW⟩ := hp
            refine e_perm (st' := []) (ws' := [oMD m th kd (nI w) (nI h) aho aaw fi sc (nI el.length) aen ato (bI true) (nI ([] : List Int64).length) wa ot (bI drn) wyv rkv awk atr ase ade ala ach apa asq, aZ cZ aho 25 (bF hb), aI cI aen 80 fen, aJ cJ wa 40000 fw9, aJ cJ ot 40000 fo9, aI cI awk 26 fwk, aI cI atr 26 ftr, aJ cJ ase 26 fse, aI cI ade 25 fde, aI cI ala 25 fla, aI cI ach 41 fch]) [8, 0, 1, 9, 10, 2, 3, 4, 5, 6, 7] rfl rfl rfl ?_
            exact e_vret C Z (Nat.le_of_ble_eq_true rfl) (Nat.le_of_ble_eq_true rfl) (⟨wa, ot, _, fw9, fo9, fwk, ftr, fse, fde, fla, fch, rfl, rfl, L, hLp.length_eq, by rw [hALL]; exact hLp, hLs, hLW⟩) d_MD_list_124
          · -- 57
            have hALL : (lsAll w h kd fi sc el hb) = dW el a 0 false sc 26 [a] a 0 0 := by simp only [bI_eq0] at h42 h54; unfold lsAll; rw [if_pos hk, if_neg h30, hac, hbc, if_neg (Bool.eq_false_iff.mp h42), if_neg (Bool.eq_false_iff.mp h54)]
            have hWx : WaR ([] : List Int64) fw := fun i x q => by simp at q
            refine e_aload_n C d_MD_list_57 rfl rfl ?_
            refine e_aload_n C d_MD_list_58 rfl rfl ?_
            refine e_get C hin_MD 0 rfl rfl 6 (by decide) fl_MD_16 rfl d_MD_list_59 ?_
            refine e_iconst (v := 0) C d_MD_list_62 rfl ?_
            refine e_iconst (v := 0) C d_MD_list_63 rfl ?_
            refine e_st [.int (bI false), .int (nI 0), .int (nI a), .ref m] (by rw [hfa]; rfl) ?_
            refine e_callV (As := [.int (nI a), .int (nI 0), .int (bI false)]) (st := []) (wc := [oMD m th kd (nI w) (nI h) aho aaw fi sc (nI el.length) aen ato (bI true) (nI ([] : List Int64).length) awa aot (bI drn) wyv rkv awk atr ase ade ala ach apa asq, aI cI aen 80 fen, aJ cJ awa 40000 fw, aI cI awk 26 fwk, aI cI atr 26 ftr, aJ cJ ase 26 fse]) (wr := [aZ cZ aho 25 (bF hb), aJ cJ aot 40000 fo, aI cI ade 25 fde, aI cI ala 25 fla, aI cI ach 41 fch]) C (M_MD_walkFrom l D cI cJ cZ m aho aaw aen ato awa aot awk atr ase ade ala ach apa asq w h hw hh hw1 hh1 th kd fi sc el true [] drn wyv rkv fen fwk ftr fse fw a 0 false (by omega) (by decide) hen hel (fun i a b q => ⟨(hev i a b q).1, (hev i a b q).2.1⟩) hWx (dW el a 0 false sc 26 [a] a 0 0) (List.nil_append _) (by rw [← hALL]; exact hlim)) v_MD_walkFrom ml_MD_127 0 rfl rfl nwW_ok ⟨Nat.le_of_ble_eq_true rfl, Nat.le_of_ble_eq_true rfl⟩ ⟨Nat.le_of_ble_eq_true rfl, Nat.le_of_ble_eq_true rfl⟩ [0, 2, 3, 5, 6, 7] [1, 4, 8, 9, 10] rfl rfl rfl rfl (by decide) (Nat.le_of_ble_eq_true rfl) rfl d_MD_list_64 (fun v w1 hp => ?_)
            obtain ⟨fw3, fwk3, ftr3, fse3, rfl, rfl, hWx⟩ := hp
            refine e_perm (st' := []) (ws' := [oMD m th kd (nI w) (nI h) aho aaw fi sc (nI el.length) aen ato (bI true) (nI (dW el a 0 false sc 26 [a] a 0 0).length) awa aot (bI drn) wyv rkv awk atr ase ade ala ach apa asq, aZ cZ aho 25 (bF hb), aI cI aen 80 fen, aJ cJ awa 40000 fw3, aJ cJ aot 40000 fo, aI cI awk 26 fwk3, aI cI atr 26 ftr3, aJ cJ ase 26 fse3, aI cI ade 25 fde, aI cI ala 25 fla, aI cI ach 41 fch]) [5, 0, 6, 7, 1, 8, 9, 10, 2, 3, 4] rfl rfl rfl ?_
            refine e_goto (tgt := 120) C d_MD_list_67 (by decide) ?_
            refine e_aload_n C d_MD_list_120 rfl rfl ?_
            refine e_callV (As := []) (st := []) (wc := [oMD m th kd (nI w) (nI h) aho aaw fi sc (nI el.length) aen ato (bI true) (nI (dW el a 0 false sc 26 [a] a 0 0).length) awa aot (bI drn) wyv rkv awk atr ase ade ala ach apa asq, aJ cJ awa 40000 fw3, aJ cJ aot 40000 fo]) (wr := [aZ cZ aho 25 (bF hb), aI cI aen 80 fen, aI cI awk 26 fwk3, aI cI atr 26 ftr3, aJ cJ ase 26 fse3, aI cI ade 25 fde, aI cI ala 25 fla, aI cI ach 41 fch]) C (M_MD_sort l D cI cJ cZ m aho aaw aen ato awa aot awk atr ase ade ala ach apa asq w h hw hh hw1 hh1 th kd fi sc el true (dW el a 0 false sc 26 [a] a 0 0) drn wyv rkv fw3 fo (by rw [← hALL]; exact hlim) hWx) v_MD_sort ml_MD_135 0 rfl rfl nwW_ok ⟨Nat.le_of_ble_eq_true rfl, Nat.le_of_ble_eq_true rfl⟩ ⟨Nat.le_of_ble_eq_true rfl, Nat.le_of_ble_eq_true rfl⟩ [0, 3, 4] [1, 2, 5, 6, 7, 8, 9, 10] rfl rfl rfl rfl (by decide) (Nat.le_of_ble_eq_true rfl) rfl d_MD_list_121 (fun v w1 hp => ?_)
            obtain ⟨wa, ot, fw9, fo9, L, rfl, rfl, hLp, hLs, hLW⟩ := hp
            refine e_perm (st' := []) (ws' := [oMD m th kd (nI w) (nI h) aho aaw fi sc (nI el.length) aen ato (bI true) (nI (dW el a 0 false sc 26 [a] a 0 0).length) wa ot (bI drn) wyv rkv awk atr ase ade ala ach apa asq, aZ cZ aho 25 (bF hb), aI cI aen 80 fen, aJ cJ wa 40000 fw9, aJ cJ ot 40000 fo9, aI cI awk 26 fwk3, aI cI atr 26 ftr3, aJ cJ ase 26 fse3, aI cI ade 25 fde, aI cI ala 25 fla, aI cI ach 41 fch]) [8, 0, 1, 9, 10, 2, 3, 4, 5, 6, 7] rfl rfl rfl ?_
            exact e_vret C Z (Nat.le_of_ble_eq_true rfl) (Nat.le_of_ble_eq_true rfl) (⟨wa, ot, _, fw9, fo9, fwk3, ftr3, fse3, fde, fla, fch, rfl, rfl, L, hLp.length_eq, by rw [hALL]; exact hLp, hLs, hLW⟩) d_MD_list_124
  · -- 7
    exact e_vret C Z (Nat.le_of_ble_eq_true rfl) (Nat.le_of_ble_eq_true rfl) (⟨awa, aot, mny, fw, fo, fwk, ftr, fse, fde, fla, fch, rfl, by rw [show li = true from by simp only [bI_eq0, Bool.not_eq_false] at h4; exact h4], hli (by simp only [bI_eq0, Bool.not_eq_false] at h4; exact h4)⟩) d_MD_list_7
