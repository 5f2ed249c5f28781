/-! THE REFERENCE'S sort -/
theorem mrg_l {x : Int64} {A : List Int64} : List.merge (x :: A) [] leS = x :: List.merge A [] leS := by
  rw [List.merge_right, List.merge_right]
theorem mrg_ll {x y : Int64} {A B : List Int64} (h : mLess y x = false) : List.merge (x :: A) (y :: B) leS = x :: List.merge A (y :: B) leS := by
  rw [List.cons_merge_cons, if_pos (show leS x y = true by unfold leS; rw [h]; rfl)]
theorem mrg_r {y : Int64} {B : List Int64} : List.merge [] (y :: B) leS = y :: List.merge [] B leS := by
  rw [List.nil_merge, List.nil_merge]
theorem mrg_rr {x y : Int64} {A B : List Int64} (h : mLess y x = true) : List.merge (x :: A) (y :: B) leS = y :: List.merge (x :: A) B leS := by
  rw [List.cons_merge_cons, if_neg (show ¬ leS x y = true by unfold leS; rw [h]; decide)]
theorem mrg_perm {A B : List Int64} : (List.merge A B leS).Perm (A ++ B) := List.merge_perm_append leS
theorem mrg_srt {A B : List Int64} (h1 : A.Pairwise (fun a b => leS a b = true)) (h2 : B.Pairwise (fun a b => leS a b = true)) : (List.merge A B leS).Pairwise (fun a b => leS a b = true) := List.pairwise_merge leS_tr leS_tot A B h1 h2
theorem WaR_get {L : List Int64} {fw : Nat → Int64} {i : Nat} (h : WaR L fw) (hi : i < L.length) : ∃ v, L[i]? = some v ∧ fw i = v := ⟨L[i], List.getElem?_eq_getElem hi, h i _ (List.getElem?_eq_getElem hi)⟩
set_option maxHeartbeats 4000000 in
set_option maxRecDepth 100000 in
theorem M_MD_sort (l : Launch) (D : va_G) (cI cJ cZ : ClassId) (m aho aaw aen ato awa aot awk atr ase ade ala ach apa asq : Nat) (w h : Nat) (hw : w ≤ 5) (hh : h ≤ 5) (hw1 : 1 ≤ w) (hh1 : 1 ≤ h) (th kd fi sc : Int32) (el : List (Nat × Nat)) (li : Bool) (TOT : List Int64) (drn : Bool) (wyv rkv : Int64) (fw fo : Nat → Int64) (hlim : TOT.length ≤ 40000) (hW : WaR TOT fw) : MK l D cI cJ cZ y_MD_sort c_MD_sort 9 none 1 25 [.ref m] [oMD m th kd (nI w) (nI h) aho aaw fi sc (nI el.length) aen ato (bI li) (nI TOT.length) awa aot (bI drn) wyv rkv awk atr ase ade ala ach apa asq, aJ cJ awa 40000 fw, aJ cJ aot 40000 fo] 0 0 (fun v w1 => ∃ (wa ot : Nat) (fw2 fo2 : Nat → Int64) (L : List Int64), v = none ∧ w1 = [oMD m th kd (nI w) (nI h) aho aaw fi sc (nI el.length) aen ato (bI li) (nI TOT.length) wa ot (bI drn) wyv rkv awk atr ase ade ala ach apa asq, aJ cJ wa 40000 fw2, aJ cJ ot 40000 fo2] ∧ L.Perm TOT ∧ L.Pairwise (fun a b => leS a b = true) ∧ WaR L fw2) := by
  refine MC.of (by decide) bigW_good (Nat.le_of_ble_eq_true rfl) (fun κ C Z IN => ?_)
  have hP : w * h ≤ 25 := Nat.mul_le_mul hw hh
  refine e_iconst (v := 1) C d_MD_sort_0 rfl ?_
  refine e_istore_n C d_MD_sort_1 rfl (by decide) ?_
  have LS : ∀ (fuel : Nat) (s : Nat) (L : List Int64) (fw fo : Nat → Int64) (wa ot : Nat), 1 ≤ s → s ≤ 80000 → L.length = TOT.length → L.Perm TOT → BS s L → WaR L fw →  TOT.length - s < fuel → E κ (lu_o [(0, .ref m), (1, .int (nI s))]) [] [oMD m th kd (nI w) (nI h) aho aaw fi sc (nI el.length) aen ato (bI li) (nI TOT.length) wa ot (bI drn) wyv rkv awk atr ase ade ala ach apa asq, aJ cJ wa 40000 fw, aJ cJ ot 40000 fo] 0 0 2 := by
    intro fuel
    induction fuel with
    | zero => intro s L fw fo wa ot hs1 hs2 hL hP2 hB hW hm; exact absurd hm (Nat.not_lt_zero _)
    | succ fuel ihLS =>
      intro s L fw fo wa ot hs1 hs2 hL hP2 hB hW hm
      refine e_iload_n C d_MD_sort_2 rfl rfl ?_
      refine e_aload_n C d_MD_sort_3 rfl rfl ?_
      refine e_get C hin_MD 0 rfl rfl 12 (by decide) fl_MD_106 rfl d_MD_sort_4 ?_
      refine e_icmp_ge (tgt := 222) C d_MD_sort_7 (by decide) (fun h7 => ?_) (fun h7 => ?_)
      · -- 222
        have hsn : TOT.length ≤ s := (nI_leI (by omega) (by omega)).mp h7
        exact e_vret C Z (Nat.le_of_ble_eq_true rfl) (Nat.le_of_ble_eq_true rfl) (⟨wa, ot, fw, fo, L, rfl, rfl, hP2, BS_all hB (by omega), hW⟩) d_MD_sort_222
      · -- 10
        have hsn : s < TOT.length := by rcases Nat.lt_or_ge s TOT.length with q | q; exact q; exact absurd (nI_le q (by omega)) h7
        refine e_iconst (v := 0) C d_MD_sort_10 rfl ?_
        refine e_istore_n C d_MD_sort_11 rfl (by decide) ?_
        have LF : ∀ (fuel : Nat) (t f : Nat) (fo : Nat → Int64) (O : List Int64), f = t * (2 * s) → f ≤ TOT.length + 2 * s → O.length = min f TOT.length → O.Perm (L.take f) → BS (2 * s) O → WaR O fo →  TOT.length + 2 * s - f < fuel → E κ (lu_o [(0, .ref m), (1, .int (nI s)), (2, .int (nI f))]) [] [oMD m th kd (nI w) (nI h) aho aaw fi sc (nI el.length) aen ato (bI li) (nI TOT.length) wa ot (bI drn) wyv rkv awk atr ase ade ala ach apa asq, aJ cJ wa 40000 fw, aJ cJ ot 40000 fo] 0 0 12 := by
          intro fuel
          induction fuel with
          | zero => intro t f fo O hf hf2 hOl hOp hOB hWO hm; exact absurd hm (Nat.not_lt_zero _)
          | succ fuel ihLF =>
            intro t f fo O hf hf2 hOl hOp hOB hWO hm
            refine e_iload_n C d_MD_sort_12 rfl rfl ?_
            refine e_aload_n C d_MD_sort_13 rfl rfl ?_
            refine e_get C hin_MD 0 rfl rfl 12 (by decide) fl_MD_106 rfl d_MD_sort_14 ?_
            refine e_icmp_ge (tgt := 197) C d_MD_sort_17 (by decide) (fun h17 => ?_) (fun h17 => ?_)
            · -- 197
              have hfn : TOT.length ≤ f := (nI_leI (by omega) (by omega)).mp h17
              have hOn : O.length = TOT.length := by rw [hOl]; omega
              have hOp2 : O.Perm L := by rw [List.take_of_length_le (by omega)] at hOp; exact hOp
              refine e_aload_n C d_MD_sort_197 rfl rfl ?_
              refine e_get C hin_MD 0 rfl rfl 13 (by decide) fl_MD_31 rfl d_MD_sort_198 ?_
              refine e_astore_n C d_MD_sort_201 rfl (by decide) ?_
              refine e_aload_n C d_MD_sort_202 rfl rfl ?_
              refine e_aload_n C d_MD_sort_203 rfl rfl ?_
              refine e_get C hin_MD 0 rfl rfl 14 (by decide) fl_MD_35 rfl d_MD_sort_204 ?_
              refine e_put C hin_MD ty_MD tyk_MD nm_MD 0 rfl rfl 13 (by decide) fl_MD_31 rfl rfl rfl (Nat.le_of_ble_eq_true rfl) d_MD_sort_207 ?_
              refine e_ws [oMD m th kd (nI w) (nI h) aho aaw fi sc (nI el.length) aen ato (bI li) (nI TOT.length) ot ot (bI drn) wyv rkv awk atr ase ade ala ach apa asq, aJ cJ wa 40000 fw, aJ cJ ot 40000 fo] rfl ?_
              refine e_aload_n C d_MD_sort_210 rfl rfl ?_
              refine e_aload_n C d_MD_sort_211 rfl rfl ?_
              refine e_put C hin_MD ty_MD tyk_MD nm_MD 0 rfl rfl 14 (by decide) fl_MD_35 rfl rfl rfl (Nat.le_of_ble_eq_true rfl) d_MD_sort_212 ?_
              refine e_ws [oMD m th kd (nI w) (nI h) aho aaw fi sc (nI el.length) aen ato (bI li) (nI TOT.length) ot wa (bI drn) wyv rkv awk atr ase ade ala ach apa asq, aJ cJ wa 40000 fw, aJ cJ ot 40000 fo] rfl ?_
              refine e_iload_n C d_MD_sort_215 rfl rfl ?_
              refine e_iconst (v := 2) C d_MD_sort_216 rfl ?_
              refine e_imul C d_MD_sort_217 ?_
              refine e_istore_n C d_MD_sort_218 rfl (by decide) ?_
              refine e_goto (tgt := 2) C d_MD_sort_219 (by decide) ?_
              refine e_perm (st' := []) (ws' := [oMD m th kd (nI w) (nI h) aho aaw fi sc (nI el.length) aen ato (bI li) (nI TOT.length) ot wa (bI drn) wyv rkv awk atr ase ade ala ach apa asq, aJ cJ ot 40000 fo, aJ cJ wa 40000 fw]) [0, 2, 1] rfl rfl rfl ?_
              refine e_lv [(0, .ref m), (1, .int (nI (2 * s)))] ⟨rfl, congrArg (fun z => some (Value.int z)) ((pk_mul s 2).trans (by rw [Nat.mul_comm])), trivial⟩ ?_
              exact ihLS (2 * s) O fo fw ot wa (by omega) (by omega) hOn (hOp2.trans hP2) hOB hWO (by omega)
            · -- 20
              have hfn : f < TOT.length := by rcases Nat.lt_or_ge f TOT.length with q | q; exact q; exact absurd (nI_le q (by omega)) h17
              have hOl2 : O.length = f := by rw [hOl]; omega
              have J40 : ∀ (y40 : Int32), y40 = nI (min (f + s) TOT.length) → E κ (lu_o [(0, .ref m), (1, .int (nI s)), (2, .int (nI f))]) [.int y40] [oMD m th kd (nI w) (nI h) aho aaw fi sc (nI el.length) aen ato (bI li) (nI TOT.length) wa ot (bI drn) wyv rkv awk atr ase ade ala ach apa asq, aJ cJ wa 40000 fw, aJ cJ ot 40000 fo] 0 0 40 := by
                intro y40 ey40
                refine e_istore_n C d_MD_sort_40 rfl (by decide) ?_
                subst ey40
                refine e_lv [(0, .ref m), (1, .int (nI s)), (2, .int (nI f)), (3, .int (nI (min (f + s) TOT.length)))] ⟨rfl, rfl, rfl, rfl, trivial⟩ ?_
                have J65 : ∀ (y65 : Int32), y65 = nI (min (f + 2 * s) TOT.length) → E κ (lu_o [(0, .ref m), (1, .int (nI s)), (2, .int (nI f)), (3, .int (nI (min (f + s) TOT.length)))]) [.int y65] [oMD m th kd (nI w) (nI h) aho aaw fi sc (nI el.length) aen ato (bI li) (nI TOT.length) wa ot (bI drn) wyv rkv awk atr ase ade ala ach apa asq, aJ cJ wa 40000 fw, aJ cJ ot 40000 fo] 0 0 65 := by
                  intro y65 ey65
                  refine e_istore C d_MD_sort_65 (by decide) ?_
                  subst ey65
                  refine e_lv [(0, .ref m), (1, .int (nI s)), (2, .int (nI f)), (3, .int (nI (min (f + s) TOT.length))), (4, .int (nI (min (f + 2 * s) TOT.length)))] ⟨rfl, rfl, rfl, rfl, rfl, trivial⟩ ?_
                  obtain ⟨mid, hmid⟩ : ∃ mid, mid = (min (f + s) TOT.length) := ⟨_, rfl⟩
                  obtain ⟨to, hto⟩ : ∃ to, to = (min (f + 2 * s) TOT.length) := ⟨_, rfl⟩
                  rw [← hmid, ← hto]
                  refine e_iload_n C d_MD_sort_67 rfl rfl ?_
                  refine e_istore C d_MD_sort_68 (by decide) ?_
                  refine e_iload_n C d_MD_sort_70 rfl rfl ?_
                  refine e_istore C d_MD_sort_71 (by decide) ?_
                  refine e_iload_n C d_MD_sort_73 rfl rfl ?_
                  refine e_istore C d_MD_sort_74 (by decide) ?_
                  obtain ⟨M0, hM0⟩ : ∃ M0, M0 = List.merge (slc L f mid) (slc L mid to) leS := ⟨_, rfl⟩
                  have hM0p : M0.Perm (slc L f to) := by rw [hM0, ← slc_app (L := L) (i := f) (j := mid) (k := to) (by omega) (by omega)]; exact mrg_perm
                  have hM0l : M0.length = to - f := by rw [hM0p.length_eq, slc_len (by omega)]
                  have hf3 : f = (2 * t) * s := by rw [hf, ← Nat.mul_assoc, Nat.mul_comm t 2]
                  have hM0s : M0.Pairwise (fun a b => leS a b = true) := by
                    rw [hM0]
                    refine mrg_srt (slc_sorted hB hf3 (by omega)) ?_
                    rcases Nat.lt_or_ge (f + s) TOT.length with z | z
                    · exact slc_sorted (q := 2 * t + 1) hB (by rw [Nat.succ_mul, ← hf3]; omega) (by omega)
                    · rw [slc_nil (by omega)]; exact List.Pairwise.nil
                  have LK : ∀ (fuel : Nat) (i j k : Nat) (fo2 : Nat → Int64) (O2 : List Int64), i ≤ mid → j ≤ to → k + (mid - i) + (to - j) = to → O2.length = k → WaR O2 fo2 → O2 ++ List.merge (slc L i mid) (slc L j to) leS = O ++ M0 →  to - k < fuel → E κ (lu_o [(0, .ref m), (1, .int (nI s)), (2, .int (nI f)), (3, .int (nI mid)), (4, .int (nI to)), (5, .int (nI i)), (6, .int (nI j)), (7, .int (nI k))]) [] [oMD m th kd (nI w) (nI h) aho aaw fi sc (nI el.length) aen ato (bI li) (nI TOT.length) wa ot (bI drn) wyv rkv awk atr ase ade ala ach apa asq, aJ cJ wa 40000 fw, aJ cJ ot 40000 fo2] 0 0 76 := by
                    intro fuel
                    induction fuel with
                    | zero => intro i j k fo2 O2 hi hj hk hO2l hWO2 hO2 hm; exact absurd hm (Nat.not_lt_zero _)
                    | succ fuel ihLK =>
                      intro i j k fo2 O2 hi hj hk hO2l hWO2 hO2 hm
                      refine e_iload C d_MD_sort_76 rfl ?_
                      refine e_iload C d_MD_sort_78 rfl ?_
                      refine e_icmp_ge (tgt := 188) C d_MD_sort_80 (by decide) (fun h80 => ?_) (fun h80 => ?_)
                      · -- 188
                        have hkt : to ≤ k := (nI_leI (by omega) (by omega)).mp h80
                        rw [slc_nil (L := L) (show mid ≤ i by omega), slc_nil (L := L) (show to ≤ j by omega), List.nil_merge, List.append_nil] at hO2
                        have hO2p : O2.Perm (L.take (f + 2 * s)) := by
                          have e1 : L.take (f + 2 * s) = L.take to := by
                            rcases Nat.lt_or_ge (f + 2 * s) TOT.length with z | z
                            · rw [show to = f + 2 * s by omega]
                            · rw [List.take_of_length_le (by omega), List.take_of_length_le (by omega)]
                          rw [e1, ← slc_take (L := L) (i := f) (j := to) (by omega), hO2]
                          exact hOp.append hM0p
                        have hO2B : BS (2 * s) O2 := by rw [hO2]; exact BS_app (t := t) (by omega) hOB (by rw [hOl2, hf]) hM0s (by omega)
                        refine e_iload_n C d_MD_sort_188 rfl rfl ?_
                        refine e_iconst (v := 2) C d_MD_sort_189 rfl ?_
                        refine e_iload_n C d_MD_sort_190 rfl rfl ?_
                        refine e_imul C d_MD_sort_191 ?_
                        refine e_iadd C d_MD_sort_192 ?_
                        refine e_st [.int (nI (f + 2 * s))] (by rw [show (2 : Int32) * nI s = nI (2 * s) from pk_mul 2 s, nI_add]) ?_
                        refine e_istore_n C d_MD_sort_193 rfl (by decide) ?_
                        refine e_goto (tgt := 12) C d_MD_sort_194 (by decide) ?_
                        refine e_lv [(0, .ref m), (1, .int (nI s)), (2, .int (nI (f + 2 * s)))] ⟨rfl, rfl, rfl, trivial⟩ ?_
                        exact ihLF (t + 1) (f + 2 * s) fo2 O2 (by rw [Nat.succ_mul t (2 * s), ← hf]) (by omega) (by rw [hO2, List.length_append, hOl, hM0l]; omega) hO2p hO2B hWO2 (by omega)
                      · -- 83
                        have hkt : k < to := by rcases Nat.lt_or_ge k to with q | q; exact q; exact absurd (nI_le q (by omega)) h80
                        refine e_iload C d_MD_sort_83 rfl ?_
                        refine e_iload C d_MD_sort_85 rfl ?_
                        refine e_icmp_eq (tgt := 116) C d_MD_sort_87 (by decide) (fun h87 => ?_) (fun h87 => ?_)
                        · -- 116
                          have hjt : j = to := (nI_eq (by omega) (by omega)).mp h87
                          have him : i < mid := by omega
                          obtain ⟨vi, hvi, hwi⟩ := WaR_get hW (i := i) (by rw [hL]; omega)
                          refine e_iconst (v := 1) C d_MD_sort_116 rfl ?_
                          refine e_goto (tgt := 121) C d_MD_sort_117 (by decide) ?_
                          refine e_istore C d_MD_sort_121 (by decide) ?_
                          refine e_aload_n C d_MD_sort_123 rfl rfl ?_
                          refine e_get C hin_MD 0 rfl rfl 14 (by decide) fl_MD_35 rfl d_MD_sort_124 ?_
                          refine e_iload C d_MD_sort_127 rfl ?_
                          refine e_iload C d_MD_sort_129 rfl ?_
                          refine e_if_eq (tgt := 144) C d_MD_sort_131 (by decide) (fun h131 => ?_) (fun h131 => ?_)
                          · exact absurd h131 (by decide)
                          · -- 134
                            refine e_aload_n C d_MD_sort_134 rfl rfl ?_
                            refine e_get C hin_MD 0 rfl rfl 13 (by decide) fl_MD_31 rfl d_MD_sort_135 ?_
                            refine e_iload C d_MD_sort_138 rfl ?_
                            refine e_lald C 1 1 rfl rfl (vp_in_nI (by omega) (by omega)) d_MD_sort_140 ?_
                            refine e_st [.long (fw i), .int (nI k), .ref ot] (by rw [nI_clamp (by omega)]) ?_
                            refine e_st [.long vi, .int (nI k), .ref ot] (by rw [hwi]) ?_
                            refine e_goto (tgt := 151) C d_MD_sort_141 (by decide) ?_
                            refine e_last C 2 1 rfl rfl (vp_in_nI (by omega) (by omega)) d_MD_sort_151 ?_
                            refine e_ws [oMD m th kd (nI w) (nI h) aho aaw fi sc (nI el.length) aen ato (bI li) (nI TOT.length) wa ot (bI drn) wyv rkv awk atr ase ade ala ach apa asq, aJ cJ wa 40000 fw, aJ cJ ot 40000 (vp_updL fo2 k vi)] (by rw [nI_clamp (by omega)]; rfl) ?_
                            refine e_iload C d_MD_sort_152 rfl ?_
                            refine e_iload C d_MD_sort_154 rfl ?_
                            refine e_if_eq (tgt := 163) C d_MD_sort_156 (by decide) (fun h156 => ?_) (fun h156 => ?_)
                            · exact absurd h156 (by decide)
                            · -- 159
                              refine e_iconst (v := 1) C d_MD_sort_159 rfl ?_
                              refine e_goto (tgt := 164) C d_MD_sort_160 (by decide) ?_
                              refine e_iadd C d_MD_sort_164 ?_
                              refine e_istore C d_MD_sort_165 (by decide) ?_
                              refine e_iload C d_MD_sort_167 rfl ?_
                              refine e_iload C d_MD_sort_169 rfl ?_
                              refine e_if_eq (tgt := 178) C d_MD_sort_171 (by decide) (fun h171 => ?_) (fun h171 => ?_)
                              · exact absurd h171 (by decide)
                              · -- 174
                                refine e_iconst (v := 0) C d_MD_sort_174 rfl ?_
                                refine e_goto (tgt := 179) C d_MD_sort_175 (by decide) ?_
                                refine e_iadd C d_MD_sort_179 ?_
                                refine e_istore C d_MD_sort_180 (by decide) ?_
                                refine e_iinc (v := (nI k) + 1) C d_MD_sort_182 rfl rfl (by decide) ?_
                                refine e_goto (tgt := 76) C d_MD_sort_185 (by decide) ?_
                                have hst : List.merge (slc L i mid) (slc L j to) leS = vi :: List.merge (slc L (i + 1) mid) (slc L j to) leS := by rw [slc_cons him hvi, slc_nil (L := L) (show to ≤ j by omega)]; exact mrg_l
                                refine e_lv [(0, .ref m), (1, .int (nI s)), (2, .int (nI f)), (3, .int (nI mid)), (4, .int (nI to)), (5, .int (nI (i + 1))), (6, .int (nI (j))), (7, .int (nI (k + 1)))] ⟨rfl, rfl, rfl, rfl, rfl, congrArg (fun z => some (Value.int z)) (nI_1 i), congrArg (fun z => some (Value.int z)) (Int32.add_zero (nI j)), congrArg (fun z => some (Value.int z)) (nI_1 k), trivial⟩ ?_
                                rw [← hO2l]
                                exact ihLK (i + 1) (j) (O2.length + 1) _ (O2 ++ [vi]) (by omega) (by omega) (by omega) (by rw [List.length_append]; rfl) (WaR_app hWO2) (by rw [← hO2, hst, List.append_assoc]; rfl) (by omega)
                        · -- 90
                          have hjt : j < to := by have q : j ≠ to := fun z => h87 (by rw [z]); omega
                          obtain ⟨vj, hvj, hwj⟩ := WaR_get hW (i := j) (by rw [hL]; omega)
                          refine e_iload C d_MD_sort_90 rfl ?_
                          refine e_iload_n C d_MD_sort_92 rfl rfl ?_
                          refine e_icmp_ge (tgt := 120) C d_MD_sort_93 (by decide) (fun h93 => ?_) (fun h93 => ?_)
                          · -- 120
                            have him : mid ≤ i := (nI_leI (by omega) (by omega)).mp h93
                            refine e_iconst (v := 0) C d_MD_sort_120 rfl ?_
                            refine e_istore C d_MD_sort_121 (by decide) ?_
                            refine e_aload_n C d_MD_sort_123 rfl rfl ?_
                            refine e_get C hin_MD 0 rfl rfl 14 (by decide) fl_MD_35 rfl d_MD_sort_124 ?_
                            refine e_iload C d_MD_sort_127 rfl ?_
                            refine e_iload C d_MD_sort_129 rfl ?_
                            refine e_if_eq (tgt := 144) C d_MD_sort_131 (by decide) (fun h131 => ?_) (fun h131 => ?_)
                            · -- 144
                              refine e_aload_n C d_MD_sort_144 rfl rfl ?_
                              refine e_get C hin_MD 0 rfl rfl 13 (by decide) fl_MD_31 rfl d_MD_sort_145 ?_
                              refine e_iload C d_MD_sort_148 rfl ?_
                              refine e_lald C 1 1 rfl rfl (vp_in_nI (by omega) (by omega)) d_MD_sort_150 ?_
                              refine e_st [.long (fw j), .int (nI k), .ref ot] (by rw [nI_clamp (by omega)]) ?_
                              refine e_st [.long vj, .int (nI k), .ref ot] (by rw [hwj]) ?_
                              refine e_last C 2 1 rfl rfl (vp_in_nI (by omega) (by omega)) d_MD_sort_151 ?_
                              refine e_ws [oMD m th kd (nI w) (nI h) aho aaw fi sc (nI el.length) aen ato (bI li) (nI TOT.length) wa ot (bI drn) wyv rkv awk atr ase ade ala ach apa asq, aJ cJ wa 40000 fw, aJ cJ ot 40000 (vp_updL fo2 k vj)] (by rw [nI_clamp (by omega)]; rfl) ?_
                              refine e_iload C d_MD_sort_152 rfl ?_
                              refine e_iload C d_MD_sort_154 rfl ?_
                              refine e_if_eq (tgt := 163) C d_MD_sort_156 (by decide) (fun h156 => ?_) (fun h156 => ?_)
                              · -- 163
                                refine e_iconst (v := 0) C d_MD_sort_163 rfl ?_
                                refine e_iadd C d_MD_sort_164 ?_
                                refine e_istore C d_MD_sort_165 (by decide) ?_
                                refine e_iload C d_MD_sort_167 rfl ?_
                                refine e_iload C d_MD_sort_169 rfl ?_
                                refine e_if_eq (tgt := 178) C d_MD_sort_171 (by decide) (fun h171 => ?_) (fun h171 => ?_)
                                · -- 178
                                  refine e_iconst (v := 1) C d_MD_sort_178 rfl ?_
                                  refine e_iadd C d_MD_sort_179 ?_
                                  refine e_istore C d_MD_sort_180 (by decide) ?_
                                  refine e_iinc (v := (nI k) + 1) C d_MD_sort_182 rfl rfl (by decide) ?_
                                  refine e_goto (tgt := 76) C d_MD_sort_185 (by decide) ?_
                                  have hst : List.merge (slc L i mid) (slc L j to) leS = vj :: List.merge (slc L i mid) (slc L (j + 1) to) leS := by rw [slc_cons hjt hvj, slc_nil (L := L) him]; exact mrg_r
                                  refine e_lv [(0, .ref m), (1, .int (nI s)), (2, .int (nI f)), (3, .int (nI mid)), (4, .int (nI to)), (5, .int (nI (i))), (6, .int (nI (j + 1))), (7, .int (nI (k + 1)))] ⟨rfl, rfl, rfl, rfl, rfl, congrArg (fun z => some (Value.int z)) (Int32.add_zero (nI i)), congrArg (fun z => some (Value.int z)) (nI_1 j), congrArg (fun z => some (Value.int z)) (nI_1 k), trivial⟩ ?_
                                  rw [← hO2l]
                                  exact ihLK (i) (j + 1) (O2.length + 1) _ (O2 ++ [vj]) (by omega) (by omega) (by omega) (by rw [List.length_append]; rfl) (WaR_app hWO2) (by rw [← hO2, hst, List.append_assoc]; rfl) (by omega)
                                · exact absurd rfl h171
                              · exact absurd rfl h156
                            · exact absurd rfl h131
                          · -- 96
                            have him : i < mid := by rcases Nat.lt_or_ge i mid with q | q; exact q; exact absurd (nI_le q (by omega)) h93
                            obtain ⟨vi, hvi, hwi⟩ := WaR_get hW (i := i) (by rw [hL]; omega)
                            refine e_aload_n C d_MD_sort_96 rfl rfl ?_
                            refine e_get C hin_MD 0 rfl rfl 13 (by decide) fl_MD_31 rfl d_MD_sort_97 ?_
                            refine e_iload C d_MD_sort_100 rfl ?_
                            refine e_lald C 1 1 rfl rfl (vp_in_nI (by omega) (by omega)) d_MD_sort_102 ?_
                            refine e_st [.long (fw j)] (by rw [nI_clamp (by omega)]) ?_
                            refine e_st [.long vj] (by rw [hwj]) ?_
                            refine e_aload_n C d_MD_sort_103 rfl rfl ?_
                            refine e_get C hin_MD 0 rfl rfl 13 (by decide) fl_MD_31 rfl d_MD_sort_104 ?_
                            refine e_iload C d_MD_sort_107 rfl ?_
                            refine e_lald C 1 1 rfl rfl (vp_in_nI (by omega) (by omega)) d_MD_sort_109 ?_
                            refine e_st [.long (fw i), .long vj] (by rw [nI_clamp (by omega)]) ?_
                            refine e_st [.long vi, .long vj] (by rw [hwi]) ?_
                            refine e_callS (As := [.long vj, .long vi]) (st := []) (wc := []) (wr := [oMD m th kd (nI w) (nI h) aho aaw fi sc (nI el.length) aen ato (bI li) (nI TOT.length) wa ot (bI drn) wyv rkv awk atr ase ade ala ach apa asq, aJ cJ wa 40000 fw, aJ cJ ot 40000 fo2]) C (M_MD_isLess l D cI cJ cZ vj vi) s_MD_isLess ml_MD_123 nwW_ok ⟨Nat.le_of_ble_eq_true rfl, Nat.le_of_ble_eq_true rfl⟩ ⟨Nat.le_of_ble_eq_true rfl, Nat.le_of_ble_eq_true rfl⟩ [] [0, 1, 2] rfl rfl rfl rfl (by decide) (Nat.le_of_ble_eq_true rfl) rfl d_MD_sort_110 (fun v w1 hp => ?_)
                            obtain ⟨rfl, rfl⟩ := hp
                            refine e_perm (st' := [.int (bI (mLess vj vi))]) (ws' := [oMD m th kd (nI w) (nI h) aho aaw fi sc (nI el.length) aen ato (bI li) (nI TOT.length) wa ot (bI drn) wyv rkv awk atr ase ade ala ach apa asq, aJ cJ wa 40000 fw, aJ cJ ot 40000 fo2]) [0, 1, 2] rfl rfl rfl ?_
                            refine e_if_ne (tgt := 120) C d_MD_sort_113 (by decide) (fun h113 => ?_) (fun h113 => ?_)
                            · -- 120
                              refine e_iconst (v := 0) C d_MD_sort_120 rfl ?_
                              refine e_istore C d_MD_sort_121 (by decide) ?_
                              refine e_aload_n C d_MD_sort_123 rfl rfl ?_
                              refine e_get C hin_MD 0 rfl rfl 14 (by decide) fl_MD_35 rfl d_MD_sort_124 ?_
                              refine e_iload C d_MD_sort_127 rfl ?_
                              refine e_iload C d_MD_sort_129 rfl ?_
                              refine e_if_eq (tgt := 144) C d_MD_sort_131 (by decide) (fun h131 => ?_) (fun h131 => ?_)
                              · -- 144
                                refine e_aload_n C d_MD_sort_144 rfl rfl ?_
                                refine e_get C hin_MD 0 rfl rfl 13 (by decide) fl_MD_31 rfl d_MD_sort_145 ?_
                                refine e_iload C d_MD_sort_148 rfl ?_
                                refine e_lald C 1 1 rfl rfl (vp_in_nI (by omega) (by omega)) d_MD_sort_150 ?_
                                refine e_st [.long (fw j), .int (nI k), .ref ot] (by rw [nI_clamp (by omega)]) ?_
                                refine e_st [.long vj, .int (nI k), .ref ot] (by rw [hwj]) ?_
                                refine e_last C 2 1 rfl rfl (vp_in_nI (by omega) (by omega)) d_MD_sort_151 ?_
                                refine e_ws [oMD m th kd (nI w) (nI h) aho aaw fi sc (nI el.length) aen ato (bI li) (nI TOT.length) wa ot (bI drn) wyv rkv awk atr ase ade ala ach apa asq, aJ cJ wa 40000 fw, aJ cJ ot 40000 (vp_updL fo2 k vj)] (by rw [nI_clamp (by omega)]; rfl) ?_
                                refine e_iload C d_MD_sort_152 rfl ?_
                                refine e_iload C d_MD_sort_154 rfl ?_
                                refine e_if_eq (tgt := 163) C d_MD_sort_156 (by decide) (fun h156 => ?_) (fun h156 => ?_)
                                · -- 163
                                  refine e_iconst (v := 0) C d_MD_sort_163 rfl ?_
                                  refine e_iadd C d_MD_sort_164 ?_
                                  refine e_istore C d_MD_sort_165 (by decide) ?_
                                  refine e_iload C d_MD_sort_167 rfl ?_
                                  refine e_iload C d_MD_sort_169 rfl ?_
                                  refine e_if_eq (tgt := 178) C d_MD_sort_171 (by decide) (fun h171 => ?_) (fun h171 => ?_)
                                  · -- 178
                                    refine e_iconst (v := 1) C d_MD_sort_178 rfl ?_
                                    refine e_iadd C d_MD_sort_179 ?_
                                    refine e_istore C d_MD_sort_180 (by decide) ?_
                                    refine e_iinc (v := (nI k) + 1) C d_MD_sort_182 rfl rfl (by decide) ?_
                                    refine e_goto (tgt := 76) C d_MD_sort_185 (by decide) ?_
                                    have hst : List.merge (slc L i mid) (slc L j to) leS = vj :: List.merge (slc L i mid) (slc L (j + 1) to) leS := by simp only [bI_eq0, Bool.not_eq_false] at h113; rw [slc_cons him hvi, slc_cons hjt hvj]; exact mrg_rr h113
                                    refine e_lv [(0, .ref m), (1, .int (nI s)), (2, .int (nI f)), (3, .int (nI mid)), (4, .int (nI to)), (5, .int (nI (i))), (6, .int (nI (j + 1))), (7, .int (nI (k + 1)))] ⟨rfl, rfl, rfl, rfl, rfl, congrArg (fun z => some (Value.int z)) (Int32.add_zero (nI i)), congrArg (fun z => some (Value.int z)) (nI_1 j), congrArg (fun z => some (Value.int z)) (nI_1 k), trivial⟩ ?_
                                    rw [← hO2l]
                                    exact ihLK (i) (j + 1) (O2.length + 1) _ (O2 ++ [vj]) (by omega) (by omega) (by omega) (by rw [List.length_append]; rfl) (WaR_app hWO2) (by rw [← hO2, hst, List.append_assoc]; rfl) (by omega)
                                  · exact absurd rfl h171
                                · exact absurd rfl h156
                              · exact absurd rfl h131
                            · -- 116
                              refine e_iconst (v := 1) C d_MD_sort_116 rfl ?_
                              refine e_goto (tgt := 121) C d_MD_sort_117 (by decide) ?_
                              refine e_istore C d_MD_sort_121 (by decide) ?_
                              refine e_aload_n C d_MD_sort_123 rfl rfl ?_
                              refine e_get C hin_MD 0 rfl rfl 14 (by decide) fl_MD_35 rfl d_MD_sort_124 ?_
                              refine e_iload C d_MD_sort_127 rfl ?_
                              refine e_iload C d_MD_sort_129 rfl ?_
                              refine e_if_eq (tgt := 144) C d_MD_sort_131 (by decide) (fun h131 => ?_) (fun h131 => ?_)
                              · exact absurd h131 (by decide)
                              · -- 134
                                refine e_aload_n C d_MD_sort_134 rfl rfl ?_
                                refine e_get C hin_MD 0 rfl rfl 13 (by decide) fl_MD_31 rfl d_MD_sort_135 ?_
                                refine e_iload C d_MD_sort_138 rfl ?_
                                refine e_lald C 1 1 rfl rfl (vp_in_nI (by omega) (by omega)) d_MD_sort_140 ?_
                                refine e_st [.long (fw i), .int (nI k), .ref ot] (by rw [nI_clamp (by omega)]) ?_
                                refine e_st [.long vi, .int (nI k), .ref ot] (by rw [hwi]) ?_
                                refine e_goto (tgt := 151) C d_MD_sort_141 (by decide) ?_
                                refine e_last C 2 1 rfl rfl (vp_in_nI (by omega) (by omega)) d_MD_sort_151 ?_
                                refine e_ws [oMD m th kd (nI w) (nI h) aho aaw fi sc (nI el.length) aen ato (bI li) (nI TOT.length) wa ot (bI drn) wyv rkv awk atr ase ade ala ach apa asq, aJ cJ wa 40000 fw, aJ cJ ot 40000 (vp_updL fo2 k vi)] (by rw [nI_clamp (by omega)]; rfl) ?_
                                refine e_iload C d_MD_sort_152 rfl ?_
                                refine e_iload C d_MD_sort_154 rfl ?_
                                refine e_if_eq (tgt := 163) C d_MD_sort_156 (by decide) (fun h156 => ?_) (fun h156 => ?_)
                                · exact absurd h156 (by decide)
                                · -- 159
                                  refine e_iconst (v := 1) C d_MD_sort_159 rfl ?_
                                  refine e_goto (tgt := 164) C d_MD_sort_160 (by decide) ?_
                                  refine e_iadd C d_MD_sort_164 ?_
                                  refine e_istore C d_MD_sort_165 (by decide) ?_
                                  refine e_iload C d_MD_sort_167 rfl ?_
                                  refine e_iload C d_MD_sort_169 rfl ?_
                                  refine e_if_eq (tgt := 178) C d_MD_sort_171 (by decide) (fun h171 => ?_) (fun h171 => ?_)
                                  · exact absurd h171 (by decide)
                                  · -- 174
                                    refine e_iconst (v := 0) C d_MD_sort_174 rfl ?_
                                    refine e_goto (tgt := 179) C d_MD_sort_175 (by decide) ?_
                                    refine e_iadd C d_MD_sort_179 ?_
                                    refine e_istore C d_MD_sort_180 (by decide) ?_
                                    refine e_iinc (v := (nI k) + 1) C d_MD_sort_182 rfl rfl (by decide) ?_
                                    refine e_goto (tgt := 76) C d_MD_sort_185 (by decide) ?_
                                    have hst : List.merge (slc L i mid) (slc L j to) leS = vi :: List.merge (slc L (i + 1) mid) (slc L j to) leS := by simp only [bI_eq0] at h113; rw [slc_cons him hvi, slc_cons hjt hvj]; exact mrg_ll h113
                                    refine e_lv [(0, .ref m), (1, .int (nI s)), (2, .int (nI f)), (3, .int (nI mid)), (4, .int (nI to)), (5, .int (nI (i + 1))), (6, .int (nI (j))), (7, .int (nI (k + 1)))] ⟨rfl, rfl, rfl, rfl, rfl, congrArg (fun z => some (Value.int z)) (nI_1 i), congrArg (fun z => some (Value.int z)) (Int32.add_zero (nI j)), congrArg (fun z => some (Value.int z)) (nI_1 k), trivial⟩ ?_
                                    rw [← hO2l]
                                    exact ihLK (i + 1) (j) (O2.length + 1) _ (O2 ++ [vi]) (by omega) (by omega) (by omega) (by rw [List.length_append]; rfl) (WaR_app hWO2) (by rw [← hO2, hst, List.append_assoc]; rfl) (by omega)
                  refine e_lv [(0, .ref m), (1, .int (nI s)), (2, .int (nI f)), (3, .int (nI mid)), (4, .int (nI to)), (5, .int (nI f)), (6, .int (nI mid)), (7, .int (nI f))] ⟨rfl, rfl, rfl, rfl, rfl, rfl, rfl, rfl, trivial⟩ ?_
                  refine e_ws [oMD m th kd (nI w) (nI h) aho aaw fi sc (nI el.length) aen ato (bI li) (nI TOT.length) wa ot (bI drn) wyv rkv awk atr ase ade ala ach apa asq, aJ cJ wa 40000 fw, aJ cJ ot 40000 fo] rfl ?_
                  exact LK _ f mid f fo O (by omega) (by omega) (by omega) hOl2 hWO (by rw [hM0]) (Nat.lt_succ_self _)
                refine e_iload_n C d_MD_sort_41 rfl rfl ?_
                refine e_iconst (v := 2) C d_MD_sort_42 rfl ?_
                refine e_iload_n C d_MD_sort_43 rfl rfl ?_
                refine e_imul C d_MD_sort_44 ?_
                refine e_iadd C d_MD_sort_45 ?_
                refine e_aload_n C d_MD_sort_46 rfl rfl ?_
                refine e_get C hin_MD 0 rfl rfl 12 (by decide) fl_MD_106 rfl d_MD_sort_47 ?_
                refine e_icmp_ge (tgt := 61) C d_MD_sort_50 (by decide) (fun h50 => ?_) (fun h50 => ?_)
                · -- 61
                  refine e_aload_n C d_MD_sort_61 rfl rfl ?_
                  refine e_get C hin_MD 0 rfl rfl 12 (by decide) fl_MD_106 rfl d_MD_sort_62 ?_
                  refine e_lv [(0, .ref m), (1, .int (nI s)), (2, .int (nI f)), (3, .int (nI (min (f + s) TOT.length)))] ⟨rfl, rfl, rfl, rfl, trivial⟩ ?_
                  exact J65 (nI TOT.length) (by rw [(show nI f + 2 * nI s = nI (f + 2 * s) from by rw [show (2 : Int32) * nI s = nI (2 * s) from pk_mul 2 s, nI_add])] at h50; have q := (nI_leI (by omega) (by omega)).mp h50; rw [show (min (f + 2 * s) TOT.length) = TOT.length by omega])
                · -- 53
                  refine e_iload_n C d_MD_sort_53 rfl rfl ?_
                  refine e_iconst (v := 2) C d_MD_sort_54 rfl ?_
                  refine e_iload_n C d_MD_sort_55 rfl rfl ?_
                  refine e_imul C d_MD_sort_56 ?_
                  refine e_iadd C d_MD_sort_57 ?_
                  refine e_goto (tgt := 65) C d_MD_sort_58 (by decide) ?_
                  refine e_lv [(0, .ref m), (1, .int (nI s)), (2, .int (nI f)), (3, .int (nI (min (f + s) TOT.length)))] ⟨rfl, rfl, rfl, rfl, trivial⟩ ?_
                  exact J65 ((nI f) + (2 * (nI s))) (by rw [(show nI f + 2 * nI s = nI (f + 2 * s) from by rw [show (2 : Int32) * nI s = nI (2 * s) from pk_mul 2 s, nI_add])] at *; have q : ¬ TOT.length ≤ f + 2 * s := fun z => h50 (nI_le z (by omega)); rw [show (min (f + 2 * s) TOT.length) = f + 2 * s by omega])
              refine e_iload_n C d_MD_sort_20 rfl rfl ?_
              refine e_iload_n C d_MD_sort_21 rfl rfl ?_
              refine e_iadd C d_MD_sort_22 ?_
              refine e_aload_n C d_MD_sort_23 rfl rfl ?_
              refine e_get C hin_MD 0 rfl rfl 12 (by decide) fl_MD_106 rfl d_MD_sort_24 ?_
              refine e_icmp_ge (tgt := 36) C d_MD_sort_27 (by decide) (fun h27 => ?_) (fun h27 => ?_)
              · -- 36
                refine e_aload_n C d_MD_sort_36 rfl rfl ?_
                refine e_get C hin_MD 0 rfl rfl 12 (by decide) fl_MD_106 rfl d_MD_sort_37 ?_
                refine e_lv [(0, .ref m), (1, .int (nI s)), (2, .int (nI f))] ⟨rfl, rfl, rfl, trivial⟩ ?_
                exact J40 (nI TOT.length) (by rw [nI_add] at h27; have q := (nI_leI (by omega) (by omega)).mp h27; rw [show (min (f + s) TOT.length) = TOT.length by omega])
              · -- 30
                refine e_iload_n C d_MD_sort_30 rfl rfl ?_
                refine e_iload_n C d_MD_sort_31 rfl rfl ?_
                refine e_iadd C d_MD_sort_32 ?_
                refine e_goto (tgt := 40) C d_MD_sort_33 (by decide) ?_
                refine e_lv [(0, .ref m), (1, .int (nI s)), (2, .int (nI f))] ⟨rfl, rfl, rfl, trivial⟩ ?_
                exact J40 ((nI f) + (nI s)) (by rw [nI_add] at *; have q : ¬ TOT.length ≤ f + s := fun z => h27 (nI_le z (by omega)); rw [show (min (f + s) TOT.length) = f + s by omega])
        refine e_lv [(0, .ref m), (1, .int (nI s)), (2, .int (nI 0))] ⟨rfl, rfl, rfl, trivial⟩ ?_
        refine e_ws [oMD m th kd (nI w) (nI h) aho aaw fi sc (nI el.length) aen ato (bI li) (nI TOT.length) wa ot (bI drn) wyv rkv awk atr ase ade ala ach apa asq, aJ cJ wa 40000 fw, aJ cJ ot 40000 fo] rfl ?_
        exact LF _ 0 0 fo ([] : List Int64) (by omega) (by omega) (by simp) (by rw [List.take_zero]) (fun q => by simp) (fun i x h => by simp at h) (Nat.lt_succ_self _)
  refine e_lv [(0, .ref m), (1, .int (nI 1))] ⟨rfl, rfl, trivial⟩ ?_
  refine e_ws [oMD m th kd (nI w) (nI h) aho aaw fi sc (nI el.length) aen ato (bI li) (nI TOT.length) awa aot (bI drn) wyv rkv awk atr ase ade ala ach apa asq, aJ cJ awa 40000 fw, aJ cJ aot 40000 fo] rfl ?_
  exact LS _ 1 TOT fw fo awa aot (by decide) (by decide) rfl (List.Perm.refl _) BS_one hW (Nat.lt_succ_self _)
