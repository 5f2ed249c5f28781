/-! THE REFERENCE'S drawTree -/
theorem gB_shr {x : Int64} {e i : Nat} (he : e < 64) (hi : e + i < 64) : gB (x >>> ((nI e).toInt64 &&& 63)) i = gB x (e + i) := by
  have h0 : ∀ e, e < 64 → ((nI e).toInt64 &&& 63) = lN e := by decide +kernel
  rw [h0 e he]
  show (x.toBitVec.sshiftRight' ((lN e).toBitVec.smod 64)).getLsbD i = _
  have h1 : (lN e).toBitVec.smod 64 = BitVec.ofNat 64 e := by
    have h2 : ∀ e, e < 64 → (lN e).toBitVec.smod 64 = BitVec.ofNat 64 e := by decide +kernel
    exact h2 e he
  rw [h1]
  show (x.toBitVec.sshiftRight (BitVec.ofNat 64 e).toNat).getLsbD i = _
  rw [BitVec.toNat_ofNat, Nat.mod_eq_of_lt (show e < 2 ^ 64 by omega), BitVec.getLsbD_sshiftRight]
  have h3 : ¬ 64 ≤ i := by omega
  simp [h3, hi]
  rfl
theorem gB_1 (i : Nat) : gB 1 i = decide (i = 0) := by
  show (1 : Int64).toBitVec.getLsbD i = _
  rw [show (1 : Int64).toBitVec = 1#64 from rfl]
  simp
theorem mBit_gB {x : Int64} {e : Nat} (he : e < 64) : mBit x (nI e) = gB x e := by
  unfold mBit
  have h1 : ((x >>> ((nI e).toInt64 &&& 63)) &&& 1 = 1) ↔ gB x e = true := by
    constructor
    · intro h
      have h2 : gB ((x >>> ((nI e).toInt64 &&& 63)) &&& 1) 0 = gB 1 0 := by rw [h]
      rw [gB_and, gB_1, decide_eq_true rfl, Bool.and_true, gB_shr he (by omega)] at h2
      exact h2
    · intro h
      apply gB_ext
      intro i hi
      rw [gB_and, gB_1]
      by_cases z : i = 0
      · rw [z, gB_shr he (by omega), Nat.add_zero, h]; rfl
      · rw [decide_eq_false z, Bool.and_false]
  cases hg : gB x e with
  | true => rw [decide_eq_true_iff, lg0]; exact h1.mpr hg
  | false => rw [decide_eq_false_iff_not, lg0]; exact fun z => by rw [h1.mp z] at hg; exact absurd hg (by decide)
theorem gB_bitL {e i : Nat} (he : e < 64) : gB (bitL e) i = decide (i = e) := by
  show (bitL e).toBitVec.getLsbD i = _
  rw [bitL_bv e he, BitVec.getLsbD_twoPow]
  by_cases z : i = e
  · rw [decide_eq_true z, z]; simp [he]
  · rw [decide_eq_false z]; simp; omega
theorem gaussF_lt : ∀ (k c pr : Nat) (M : Nat → Nat → Nat), gaussF k c pr M < 2147483647
  | 0, c, pr, M => Nat.mod_lt _ (by decide)
  | k + 1, c, pr, M => by
    unfold gaussF
    by_cases z : pvF M c (k + 1) c = 25
    · rw [if_pos z]; decide
    · rw [if_neg z]; exact gaussF_lt k _ _ _
theorem treesF_lt {w h : Nat} {el : List (Nat × Nat)} {hb : Nat → Bool} {fto : Nat → Int32} : treesF w h el hb fto < 2147483647 := by
  unfold treesF
  by_cases z : cpF hb (w * h) = 0
  · rw [if_pos z]; decide
  · rw [if_neg z]
    match prAll el fto el.length with
    | none => show (0 : Nat) < 2147483647; decide
    | some pa => exact gaussF_lt _ _ _ _
def dtF (w h : Nat) (el : List (Nat × Nat)) (hb : Nat → Bool) : Nat → Nat → Nat → Int64 → (Nat → Int32) → Int64
  | 0, _, _, way, _ => way
  | k + 1, e, left, way, f => if f e = 1 then dtF w h el hb k (e + 1) left (way ||| bitL e) f
    else if f e = 0 then (if left < treesF w h el hb (upd f e 2) then dtF w h el hb k (e + 1) left way (upd f e 2) else dtF w h el hb k (e + 1) (left - treesF w h el hb (upd f e 2)) (way ||| bitL e) (upd f e 1))
    else dtF w h el hb k (e + 1) left way f
theorem upd_upd {f : Nat → Int32} {k : Nat} {a b : Int32} : upd (upd f k a) k b = upd f k b := by
  funext i
  unfold upd
  by_cases z : i = k
  · rw [if_pos z, if_pos z]
  · rw [if_neg z, if_neg z, if_neg z]
set_option maxHeartbeats 4000000 in
set_option maxRecDepth 100000 in
theorem M_MD_drawTree (l : Launch) (D : va_G) (cI cJ cZ : ClassId) (m aho aaw aen ato awa aot awk atr ase ade ala ach apa asq : Nat) (w h : Nat) (hw : w ≤ 5) (hh : h ≤ 5) (hw1 : 1 ≤ w) (hh1 : 1 ≤ h) (th kd fi sc : Int32) (el : List (Nat × Nat)) (li : Bool) (mny : Nat) (drn : Bool) (wyv rkv : Int64) (hb : Nat → Bool) (fen fto fpa : Nat → Int32) (fsq : Nat → Int64) (hen : enR el fen) (hel : el.length ≤ 40) (hev : ∀ (i a b : Nat), el[i]? = some (a, b) → a < 25 ∧ b < 25 ∧ a ≠ b) (n0 : Nat) (hn0 : n0 < 2 ^ 62) (RESW : Int64) (hRESW : dtF w h el hb el.length 0 n0 0 fto = RESW) : MK l D cI cJ cZ y_MD_drawTree c_MD_drawTree 10 none 3 84 [.ref m, .long (lN n0)] [oMD m th kd (nI w) (nI h) aho aaw fi sc (nI el.length) aen ato (bI li) (nI mny) awa aot (bI drn) wyv rkv awk atr ase ade ala ach apa asq, aZ cZ aho 25 (bF hb), aI cI aen 80 fen, aI cI ato 40 fto, aI cI apa 25 fpa, aJ cJ asq 625 fsq] 0 0 (fun v w1 => ∃ (fpa2 : Nat → Int32) (fsq2 : Nat → Int64), v = none ∧ w1 = [oMD m th kd (nI w) (nI h) aho aaw fi sc (nI el.length) aen ato (bI li) (nI mny) awa aot (bI drn) RESW rkv awk atr ase ade ala ach apa asq, aZ cZ aho 25 (bF hb), aI cI aen 80 fen, aI cI ato 40 fto, aI cI apa 25 fpa2, aJ cJ asq 625 fsq2]) := by
  refine MC.of (by decide) bigW_good (Nat.le_of_ble_eq_true rfl) (fun κ C Z IN => ?_)
  have hP : w * h ≤ 25 := Nat.mul_le_mul hw hh
  refine e_lload_n C d_MD_drawTree_0 rfl rfl ?_
  refine e_lstore_n C d_MD_drawTree_1 rfl (by decide) ?_
  refine e_aload_n C d_MD_drawTree_2 rfl rfl ?_
  refine e_lconst (v := 0) C d_MD_drawTree_3 rfl ?_
  refine e_put C hin_MD ty_MD tyk_MD nm_MD 0 rfl rfl 16 (by decide) fl_MD_157 rfl rfl rfl (Nat.le_of_ble_eq_true rfl) d_MD_drawTree_4 ?_
  refine e_ws [oMD m th kd (nI w) (nI h) aho aaw fi sc (nI el.length) aen ato (bI li) (nI mny) awa aot (bI drn) 0 rkv awk atr ase ade ala ach apa asq, aZ cZ aho 25 (bF hb), aI cI aen 80 fen, aI cI ato 40 fto, aI cI apa 25 fpa, aJ cJ asq 625 fsq] rfl ?_
  refine e_lconst (v := 0) C d_MD_drawTree_7 rfl ?_
  refine e_lstore C d_MD_drawTree_8 (by decide) ?_
  refine e_iconst (v := 0) C d_MD_drawTree_10 rfl ?_
  refine e_istore C d_MD_drawTree_11 (by decide) ?_
  have LD : ∀ (fuel : Nat) (e left : Nat) (way kept : Int64) (f fpa : Nat → Int32) (fsq : Nat → Int64), e ≤ el.length → left < 2 ^ 62 → dtF w h el hb (el.length - e) e left way f = RESW → (∀ i, i < e → fto i = 0 → gB kept i = true) → (∀ i, gB kept i = true → i < e ∧ fto i = 0) → (∀ i, (i < e ∧ fto i = 0) ∨ f i = fto i) →  el.length - e < fuel → E κ (lu_o [(0, .ref m), (3, .long (lN left)), (5, .long kept), (7, .int (nI e))]) [] [oMD m th kd (nI w) (nI h) aho aaw fi sc (nI el.length) aen ato (bI li) (nI mny) awa aot (bI drn) way rkv awk atr ase ade ala ach apa asq, aZ cZ aho 25 (bF hb), aI cI aen 80 fen, aI cI ato 40 f, aI cI apa 25 fpa, aJ cJ asq 625 fsq] 0 0 13 := by
    intro fuel
    induction fuel with
    | zero => intro e left way kept f fpa fsq he hle hD hk1 hk2 hf hm; exact absurd hm (Nat.not_lt_zero _)
    | succ fuel ihLD =>
      intro e left way kept f fpa fsq he hle hD hk1 hk2 hf hm
      refine e_iload C d_MD_drawTree_13 rfl ?_
      refine e_aload_n C d_MD_drawTree_15 rfl rfl ?_
      refine e_get C hin_MD 0 rfl rfl 8 (by decide) fl_MD_85 rfl d_MD_drawTree_16 ?_
      refine e_icmp_ge (tgt := 124) C d_MD_drawTree_19 (by decide) (fun h19 => ?_) (fun h19 => ?_)
      · -- 124
        refine e_iconst (v := 0) C d_MD_drawTree_124 rfl ?_
        refine e_istore C d_MD_drawTree_125 (by decide) ?_
        have heE : e = el.length := by have q := (nI_leI (by omega) (by omega)).mp h19; omega
        have hway : way = RESW := by rw [← hD, heE, Nat.sub_self]; rfl
        subst heE
        have LK : ∀ (fuel : Nat) (i : Nat) (f : Nat → Int32), i ≤ el.length → (∀ j, j < i → f j = fto j) → (∀ j, (j < el.length ∧ fto j = 0) ∨ f j = fto j) →  el.length - i < fuel → E κ (lu_o [(0, .ref m), (5, .long kept), (7, .int (nI i))]) [] [oMD m th kd (nI w) (nI h) aho aaw fi sc (nI el.length) aen ato (bI li) (nI mny) awa aot (bI drn) way rkv awk atr ase ade ala ach apa asq, aZ cZ aho 25 (bF hb), aI cI aen 80 fen, aI cI ato 40 f, aI cI apa 25 fpa, aJ cJ asq 625 fsq] 0 0 127 := by
          intro fuel
          induction fuel with
          | zero => intro i f hi hj1 hj2 hm; exact absurd hm (Nat.not_lt_zero _)
          | succ fuel ihLK =>
            intro i f hi hj1 hj2 hm
            refine e_iload C d_MD_drawTree_127 rfl ?_
            refine e_aload_n C d_MD_drawTree_129 rfl rfl ?_
            refine e_get C hin_MD 0 rfl rfl 8 (by decide) fl_MD_85 rfl d_MD_drawTree_130 ?_
            refine e_icmp_ge (tgt := 162) C d_MD_drawTree_133 (by decide) (fun h133 => ?_) (fun h133 => ?_)
            · -- 162
              have hiE : el.length ≤ i := (nI_leI (by omega) (by omega)).mp h133
              have hff : f = fto := funext (fun j => by rcases hj2 j with y | y; exact hj1 j (by omega); exact y)
              exact e_vret C Z (Nat.le_of_ble_eq_true rfl) (Nat.le_of_ble_eq_true rfl) (⟨fpa, fsq, rfl, by rw [hway, hff]⟩) d_MD_drawTree_162
            · -- 136
              have hiE : i < el.length := by rcases Nat.lt_or_ge (i) el.length with q | q; exact q; exact absurd (nI_le q (by omega)) h133
              refine e_lload C d_MD_drawTree_136 rfl ?_
              refine e_iload C d_MD_drawTree_138 rfl ?_
              refine e_lshr C d_MD_drawTree_140 ?_
              refine e_lconst (v := 1) C d_MD_drawTree_141 rfl ?_
              refine e_land C d_MD_drawTree_142 ?_
              refine e_lconst (v := 1) C d_MD_drawTree_143 rfl ?_
              refine e_lcmp C d_MD_drawTree_144 ?_
              refine e_if_ne (tgt := 156) C d_MD_drawTree_145 (by decide) (fun h145 => ?_) (fun h145 => ?_)
              · -- 156
                refine e_iinc (v := (nI i) + 1) C d_MD_drawTree_156 rfl rfl (by decide) ?_
                refine e_goto (tgt := 127) C d_MD_drawTree_159 (by decide) ?_
                refine e_lv [(0, .ref m), (5, .long kept), (7, .int (nI (i + 1)))] ⟨rfl, rfl, congrArg (fun z => some (Value.int z)) (nI_1 i), trivial⟩ ?_
                refine e_ws [oMD m th kd (nI w) (nI h) aho aaw fi sc (nI el.length) aen ato (bI li) (nI mny) awa aot (bI drn) way rkv awk atr ase ade ala ach apa asq, aZ cZ aho 25 (bF hb), aI cI aen 80 fen, aI cI ato 40 f, aI cI apa 25 fpa, aJ cJ asq 625 fsq] rfl ?_
                have hkb : gB kept i = false := by rw [← mBit_gB (by omega)]; unfold mBit; rw [decide_eq_false h145]
                exact ihLK (i + 1) _ (by omega) (fun j hj => by by_cases z : j = i; (rw [z]; rcases hj2 i with y | y; (have q := hk1 i y.1 y.2; rw [hkb] at q; exact absurd q (by decide)); exact y); exact hj1 j (by omega)) hj2 (by omega)
              · -- 148
                refine e_aload_n C d_MD_drawTree_148 rfl rfl ?_
                refine e_get C hin_MD 0 rfl rfl 10 (by decide) fl_MD_27 rfl d_MD_drawTree_149 ?_
                refine e_iload C d_MD_drawTree_152 rfl ?_
                refine e_iconst (v := 0) C d_MD_drawTree_154 rfl ?_
                refine e_iast C 3 0 rfl rfl (vp_in_nI (by omega) (by omega)) d_MD_drawTree_155 ?_
                refine e_ws [oMD m th kd (nI w) (nI h) aho aaw fi sc (nI el.length) aen ato (bI li) (nI mny) awa aot (bI drn) way rkv awk atr ase ade ala ach apa asq, aZ cZ aho 25 (bF hb), aI cI aen 80 fen, aI cI ato 40 (upd f i 0), aI cI apa 25 fpa, aJ cJ asq 625 fsq] (by rw [nI_clamp (by omega)]; rfl) ?_
                refine e_iinc (v := (nI i) + 1) C d_MD_drawTree_156 rfl rfl (by decide) ?_
                refine e_goto (tgt := 127) C d_MD_drawTree_159 (by decide) ?_
                refine e_lv [(0, .ref m), (5, .long kept), (7, .int (nI (i + 1)))] ⟨rfl, rfl, congrArg (fun z => some (Value.int z)) (nI_1 i), trivial⟩ ?_
                refine e_ws [oMD m th kd (nI w) (nI h) aho aaw fi sc (nI el.length) aen ato (bI li) (nI mny) awa aot (bI drn) way rkv awk atr ase ade ala ach apa asq, aZ cZ aho 25 (bF hb), aI cI aen 80 fen, aI cI ato 40 (upd f i 0), aI cI apa 25 fpa, aJ cJ asq 625 fsq] rfl ?_
                exact ihLK (i + 1) _ (by omega) (fun j hj => by by_cases z : j = i; (rw [z, pk_us, (hk2 i (by rw [← mBit_gB (by omega)]; unfold mBit; rw [decide_eq_true h145])).2]); (rw [pk_un z]; exact hj1 j (by omega))) (fun j => by by_cases z : j = i; (rw [z, pk_us]; exact Or.inr (hk2 i (by rw [← mBit_gB (by omega)]; unfold mBit; rw [decide_eq_true h145])).2.symm); (rw [pk_un z]; exact hj2 j)) (by omega)
        refine e_lv [(0, .ref m), (5, .long kept), (7, .int (nI 0))] ⟨rfl, rfl, rfl, trivial⟩ ?_
        refine e_ws [oMD m th kd (nI w) (nI h) aho aaw fi sc (nI el.length) aen ato (bI li) (nI mny) awa aot (bI drn) way rkv awk atr ase ade ala ach apa asq, aZ cZ aho 25 (bF hb), aI cI aen 80 fen, aI cI ato 40 f, aI cI apa 25 fpa, aJ cJ asq 625 fsq] rfl ?_
        exact LK _ 0 f (Nat.zero_le _) (fun j hj => absurd hj (Nat.not_lt_zero _)) hf (Nat.lt_succ_self _)
      · -- 22
        have heE : e < el.length := by rcases Nat.lt_or_ge (e) el.length with q | q; exact q; exact absurd (nI_le q (by omega)) h19
        have hfe : f e = fto e := by rcases hf e with z | z; exact absurd z.1 (Nat.lt_irrefl e); exact z
        obtain ⟨k0, hk0⟩ : ∃ k, el.length - e = k + 1 := ⟨el.length - e - 1, by omega⟩
        have hk0e : el.length - (e + 1) = k0 := by omega
        rw [hk0] at hD
        have hD1 : (if f e = 1 then dtF w h el hb k0 (e + 1) left (way ||| bitL e) f else if f e = 0 then (if left < treesF w h el hb (upd f e 2) then dtF w h el hb k0 (e + 1) left way (upd f e 2) else dtF w h el hb k0 (e + 1) (left - treesF w h el hb (upd f e 2)) (way ||| bitL e) (upd f e 1)) else dtF w h el hb k0 (e + 1) left way f) = RESW := hD
        refine e_aload_n C d_MD_drawTree_22 rfl rfl ?_
        refine e_get C hin_MD 0 rfl rfl 10 (by decide) fl_MD_27 rfl d_MD_drawTree_23 ?_
        refine e_iload C d_MD_drawTree_26 rfl ?_
        refine e_iald C 3 0 rfl rfl (vp_in_nI (by omega) (by omega)) d_MD_drawTree_28 ?_
        refine e_st [.int (f e)] (by rw [nI_clamp (by omega)]) ?_
        refine e_iconst (v := 1) C d_MD_drawTree_29 rfl ?_
        refine e_icmp_ne (tgt := 46) C d_MD_drawTree_30 (by decide) (fun h30 => ?_) (fun h30 => ?_)
        · -- 46
          refine e_aload_n C d_MD_drawTree_46 rfl rfl ?_
          refine e_get C hin_MD 0 rfl rfl 10 (by decide) fl_MD_27 rfl d_MD_drawTree_47 ?_
          refine e_iload C d_MD_drawTree_50 rfl ?_
          refine e_iald C 3 0 rfl rfl (vp_in_nI (by omega) (by omega)) d_MD_drawTree_52 ?_
          refine e_st [.int (f e)] (by rw [nI_clamp (by omega)]) ?_
          refine e_if_eq (tgt := 59) C d_MD_drawTree_53 (by decide) (fun h53 => ?_) (fun h53 => ?_)
          · -- 59
            refine e_lload C d_MD_drawTree_59 rfl ?_
            refine e_lconst (v := 1) C d_MD_drawTree_61 rfl ?_
            refine e_iload C d_MD_drawTree_62 rfl ?_
            refine e_lshl C d_MD_drawTree_64 ?_
            refine e_st [.long (bitL e), .long kept] rfl ?_
            refine e_lor C d_MD_drawTree_65 ?_
            refine e_lstore C d_MD_drawTree_66 (by decide) ?_
            refine e_aload_n C d_MD_drawTree_68 rfl rfl ?_
            refine e_get C hin_MD 0 rfl rfl 10 (by decide) fl_MD_27 rfl d_MD_drawTree_69 ?_
            refine e_iload C d_MD_drawTree_72 rfl ?_
            refine e_iconst (v := 2) C d_MD_drawTree_74 rfl ?_
            refine e_iast C 3 0 rfl rfl (vp_in_nI (by omega) (by omega)) d_MD_drawTree_75 ?_
            refine e_ws [oMD m th kd (nI w) (nI h) aho aaw fi sc (nI el.length) aen ato (bI li) (nI mny) awa aot (bI drn) way rkv awk atr ase ade ala ach apa asq, aZ cZ aho 25 (bF hb), aI cI aen 80 fen, aI cI ato 40 (upd f e 2), aI cI apa 25 fpa, aJ cJ asq 625 fsq] (by rw [nI_clamp (by omega)]; rfl) ?_
            refine e_aload_n C d_MD_drawTree_76 rfl rfl ?_
            refine e_callV (As := []) (st := []) (wc := [oMD m th kd (nI w) (nI h) aho aaw fi sc (nI el.length) aen ato (bI li) (nI mny) awa aot (bI drn) way rkv awk atr ase ade ala ach apa asq, aZ cZ aho 25 (bF hb), aI cI aen 80 fen, aI cI ato 40 (upd f e 2), aI cI apa 25 fpa, aJ cJ asq 625 fsq]) (wr := []) C (M_MD_trees l D cI cJ cZ m aho aaw aen ato awa aot awk atr ase ade ala ach apa asq w h hw hh hw1 hh1 th kd fi sc el li mny drn way rkv hb fen (upd f e 2) fpa fsq hen hel hev (treesF w h el hb (upd f e 2)) rfl) v_MD_trees ml_MD_161 0 rfl rfl nwW_ok ⟨Nat.le_of_ble_eq_true rfl, Nat.le_of_ble_eq_true rfl⟩ ⟨Nat.le_of_ble_eq_true rfl, Nat.le_of_ble_eq_true rfl⟩ [0, 1, 2, 3, 4, 5] [] rfl rfl rfl rfl (by decide) (Nat.le_of_ble_eq_true rfl) rfl d_MD_drawTree_77 (fun v w1 hp => ?_)
            obtain ⟨fpa3, fsq3, rfl, rfl⟩ := hp
            refine e_perm (st' := [.long (lN (treesF w h el hb (upd f e 2)))]) (ws' := [oMD m th kd (nI w) (nI h) aho aaw fi sc (nI el.length) aen ato (bI li) (nI mny) awa aot (bI drn) way rkv awk atr ase ade ala ach apa asq, aZ cZ aho 25 (bF hb), aI cI aen 80 fen, aI cI ato 40 (upd f e 2), aI cI apa 25 fpa3, aJ cJ asq 625 fsq3]) [0, 1, 2, 3, 4, 5] rfl rfl rfl ?_
            refine e_lstore C d_MD_drawTree_80 (by decide) ?_
            refine e_lload_n C d_MD_drawTree_82 rfl rfl ?_
            refine e_lload C d_MD_drawTree_83 rfl ?_
            refine e_lcmp C d_MD_drawTree_85 ?_
            have htl := treesF_lt (w := w) (h := h) (el := el) (hb := hb) (fto := upd f e 2)
            refine e_st [.int (if (treesF w h el hb (upd f e 2)) < left then 1 else if left = (treesF w h el hb (upd f e 2)) then 0 else -1)] (by rw [lg_lN (by omega) (by omega)]) ?_
            refine e_if_ge (tgt := 92) C d_MD_drawTree_86 (by decide) (fun h86 => ?_) (fun h86 => ?_)
            · -- 92
              have hltw : (treesF w h el hb (upd f e 2)) ≤ left := by rcases Nat.lt_or_ge left (treesF w h el hb (upd f e 2)) with z | z; (rw [if_neg (by omega), if_neg (by omega)] at h86; exact absurd h86 (by decide)); exact z
              refine e_lload_n C d_MD_drawTree_92 rfl rfl ?_
              refine e_lload C d_MD_drawTree_93 rfl ?_
              refine e_lsub C d_MD_drawTree_95 ?_
              refine e_st [.long (lN (left - (treesF w h el hb (upd f e 2))))] (by rw [lN_sub hltw]) ?_
              refine e_lstore_n C d_MD_drawTree_96 rfl (by decide) ?_
              refine e_aload_n C d_MD_drawTree_97 rfl rfl ?_
              refine e_get C hin_MD 0 rfl rfl 10 (by decide) fl_MD_27 rfl d_MD_drawTree_98 ?_
              refine e_iload C d_MD_drawTree_101 rfl ?_
              refine e_iconst (v := 1) C d_MD_drawTree_103 rfl ?_
              refine e_iast C 3 0 rfl rfl (vp_in_nI (by omega) (by omega)) d_MD_drawTree_104 ?_
              refine e_ws [oMD m th kd (nI w) (nI h) aho aaw fi sc (nI el.length) aen ato (bI li) (nI mny) awa aot (bI drn) way rkv awk atr ase ade ala ach apa asq, aZ cZ aho 25 (bF hb), aI cI aen 80 fen, aI cI ato 40 (upd (upd f e 2) e 1), aI cI apa 25 fpa3, aJ cJ asq 625 fsq3] (by rw [nI_clamp (by omega)]; rfl) ?_
              refine e_aload_n C d_MD_drawTree_105 rfl rfl ?_
              refine e_aload_n C d_MD_drawTree_106 rfl rfl ?_
              refine e_get C hin_MD 0 rfl rfl 16 (by decide) fl_MD_157 rfl d_MD_drawTree_107 ?_
              refine e_lconst (v := 1) C d_MD_drawTree_110 rfl ?_
              refine e_iload C d_MD_drawTree_111 rfl ?_
              refine e_lshl C d_MD_drawTree_113 ?_
              refine e_st [.long (bitL e), .long way, .ref m] rfl ?_
              refine e_lor C d_MD_drawTree_114 ?_
              refine e_put C hin_MD ty_MD tyk_MD nm_MD 0 rfl rfl 16 (by decide) fl_MD_157 rfl rfl rfl (Nat.le_of_ble_eq_true rfl) d_MD_drawTree_115 ?_
              refine e_ws [oMD m th kd (nI w) (nI h) aho aaw fi sc (nI el.length) aen ato (bI li) (nI mny) awa aot (bI drn) (way ||| (bitL e)) rkv awk atr ase ade ala ach apa asq, aZ cZ aho 25 (bF hb), aI cI aen 80 fen, aI cI ato 40 (upd (upd f e 2) e 1), aI cI apa 25 fpa3, aJ cJ asq 625 fsq3] rfl ?_
              refine e_iinc (v := (nI e) + 1) C d_MD_drawTree_118 rfl rfl (by decide) ?_
              refine e_goto (tgt := 13) C d_MD_drawTree_121 (by decide) ?_
              have hz0 : fto e = 0 := by rw [← hfe]; exact h53
              refine e_lv [(0, .ref m), (3, .long (lN (left - (treesF w h el hb (upd f e 2))))), (5, .long (kept ||| bitL e)), (7, .int (nI (e + 1)))] ⟨rfl, rfl, rfl, congrArg (fun z => some (Value.int z)) (nI_1 e), trivial⟩ ?_
              refine e_ws [oMD m th kd (nI w) (nI h) aho aaw fi sc (nI el.length) aen ato (bI li) (nI mny) awa aot (bI drn) (way ||| (bitL e)) rkv awk atr ase ade ala ach apa asq, aZ cZ aho 25 (bF hb), aI cI aen 80 fen, aI cI ato 40 (upd f e 1), aI cI apa 25 fpa3, aJ cJ asq 625 fsq3] (by rw [upd_upd]) ?_
              exact ihLD (e + 1) _ (way ||| bitL e) (kept ||| bitL e) _ _ _ (by omega) (by omega) (by rw [if_neg h30, if_pos h53, if_neg (by omega)] at hD1; rw [hk0e]; exact hD1) (fun i hi hz => by rw [gB_or, gB_bitL (by omega)]; by_cases z : i = e; (rw [decide_eq_true z, Bool.or_true]); (rw [hk1 i (by omega) hz]; rfl)) (fun i hi => by rw [gB_or, gB_bitL (by omega)] at hi; by_cases z : i = e; (rw [z]; exact ⟨Nat.lt_succ_self e, hz0⟩); (rw [decide_eq_false z, Bool.or_false] at hi; exact ⟨Nat.lt_succ_of_lt (hk2 i hi).1, (hk2 i hi).2⟩)) (fun i => by by_cases z : i = e; (rw [z]; exact Or.inl ⟨Nat.lt_succ_self e, hz0⟩); (rcases hf i with y | y; exact Or.inl ⟨by omega, y.2⟩; exact Or.inr (by rw [pk_un z]; exact y))) (by omega)
            · -- 89
              have hltw : left < (treesF w h el hb (upd f e 2)) := by rcases Nat.lt_or_ge left (treesF w h el hb (upd f e 2)) with z | z; exact z; exact absurd (by by_cases y : (treesF w h el hb (upd f e 2)) < left; (rw [if_pos y]; decide); (rw [if_neg y, if_pos (by omega)]; decide)) h86
              refine e_goto (tgt := 118) C d_MD_drawTree_89 (by decide) ?_
              refine e_iinc (v := (nI e) + 1) C d_MD_drawTree_118 rfl rfl (by decide) ?_
              refine e_goto (tgt := 13) C d_MD_drawTree_121 (by decide) ?_
              have hz0 : fto e = 0 := by rw [← hfe]; exact h53
              refine e_lv [(0, .ref m), (3, .long (lN left)), (5, .long (kept ||| bitL e)), (7, .int (nI (e + 1)))] ⟨rfl, rfl, rfl, congrArg (fun z => some (Value.int z)) (nI_1 e), trivial⟩ ?_
              refine e_ws [oMD m th kd (nI w) (nI h) aho aaw fi sc (nI el.length) aen ato (bI li) (nI mny) awa aot (bI drn) way rkv awk atr ase ade ala ach apa asq, aZ cZ aho 25 (bF hb), aI cI aen 80 fen, aI cI ato 40 (upd f e 2), aI cI apa 25 fpa3, aJ cJ asq 625 fsq3] rfl ?_
              exact ihLD (e + 1) left way (kept ||| bitL e) _ _ _ (by omega) hle (by rw [if_neg h30, if_pos h53, if_pos hltw] at hD1; rw [hk0e]; exact hD1) (fun i hi hz => by rw [gB_or, gB_bitL (by omega)]; by_cases z : i = e; (rw [decide_eq_true z, Bool.or_true]); (rw [hk1 i (by omega) hz]; rfl)) (fun i hi => by rw [gB_or, gB_bitL (by omega)] at hi; by_cases z : i = e; (rw [z]; exact ⟨Nat.lt_succ_self e, hz0⟩); (rw [decide_eq_false z, Bool.or_false] at hi; exact ⟨Nat.lt_succ_of_lt (hk2 i hi).1, (hk2 i hi).2⟩)) (fun i => by by_cases z : i = e; (rw [z]; exact Or.inl ⟨Nat.lt_succ_self e, hz0⟩); (rcases hf i with y | y; exact Or.inl ⟨by omega, y.2⟩; exact Or.inr (by rw [pk_un z]; exact y))) (by omega)
          · -- 56
            refine e_goto (tgt := 118) C d_MD_drawTree_56 (by decide) ?_
            refine e_iinc (v := (nI e) + 1) C d_MD_drawTree_118 rfl rfl (by decide) ?_
            refine e_goto (tgt := 13) C d_MD_drawTree_121 (by decide) ?_
            refine e_lv [(0, .ref m), (3, .long (lN left)), (5, .long kept), (7, .int (nI (e + 1)))] ⟨rfl, rfl, rfl, congrArg (fun z => some (Value.int z)) (nI_1 e), trivial⟩ ?_
            refine e_ws [oMD m th kd (nI w) (nI h) aho aaw fi sc (nI el.length) aen ato (bI li) (nI mny) awa aot (bI drn) way rkv awk atr ase ade ala ach apa asq, aZ cZ aho 25 (bF hb), aI cI aen 80 fen, aI cI ato 40 f, aI cI apa 25 fpa, aJ cJ asq 625 fsq] rfl ?_
            exact ihLD (e + 1) left _ kept f _ _ (by omega) hle (by rw [if_neg h30, if_neg h53] at hD1; rw [hk0e]; exact hD1) (fun i hi hz => by by_cases z : i = e; (rw [z, ← hfe] at hz; exact absurd hz h53); exact hk1 i (by omega) hz) (fun i hi => ⟨Nat.lt_succ_of_lt (hk2 i hi).1, (hk2 i hi).2⟩) (fun i => (hf i).imp (fun z => ⟨by omega, z.2⟩) id) (by omega)
        · -- 33
          refine e_aload_n C d_MD_drawTree_33 rfl rfl ?_
          refine e_aload_n C d_MD_drawTree_34 rfl rfl ?_
          refine e_get C hin_MD 0 rfl rfl 16 (by decide) fl_MD_157 rfl d_MD_drawTree_35 ?_
          refine e_lconst (v := 1) C d_MD_drawTree_38 rfl ?_
          refine e_iload C d_MD_drawTree_39 rfl ?_
          refine e_lshl C d_MD_drawTree_41 ?_
          refine e_st [.long (bitL e), .long way, .ref m] rfl ?_
          refine e_lor C d_MD_drawTree_42 ?_
          refine e_put C hin_MD ty_MD tyk_MD nm_MD 0 rfl rfl 16 (by decide) fl_MD_157 rfl rfl rfl (Nat.le_of_ble_eq_true rfl) d_MD_drawTree_43 ?_
          refine e_ws [oMD m th kd (nI w) (nI h) aho aaw fi sc (nI el.length) aen ato (bI li) (nI mny) awa aot (bI drn) (way ||| (bitL e)) rkv awk atr ase ade ala ach apa asq, aZ cZ aho 25 (bF hb), aI cI aen 80 fen, aI cI ato 40 f, aI cI apa 25 fpa, aJ cJ asq 625 fsq] rfl ?_
          refine e_aload_n C d_MD_drawTree_46 rfl rfl ?_
          refine e_get C hin_MD 0 rfl rfl 10 (by decide) fl_MD_27 rfl d_MD_drawTree_47 ?_
          refine e_iload C d_MD_drawTree_50 rfl ?_
          refine e_iald C 3 0 rfl rfl (vp_in_nI (by omega) (by omega)) d_MD_drawTree_52 ?_
          refine e_st [.int (f e)] (by rw [nI_clamp (by omega)]) ?_
          refine e_if_eq (tgt := 59) C d_MD_drawTree_53 (by decide) (fun h53 => ?_) (fun h53 => ?_)
          · exact absurd (h30.symm.trans h53) (by decide)
          · -- 56
            refine e_goto (tgt := 118) C d_MD_drawTree_56 (by decide) ?_
            refine e_iinc (v := (nI e) + 1) C d_MD_drawTree_118 rfl rfl (by decide) ?_
            refine e_goto (tgt := 13) C d_MD_drawTree_121 (by decide) ?_
            refine e_lv [(0, .ref m), (3, .long (lN left)), (5, .long kept), (7, .int (nI (e + 1)))] ⟨rfl, rfl, rfl, congrArg (fun z => some (Value.int z)) (nI_1 e), trivial⟩ ?_
            refine e_ws [oMD m th kd (nI w) (nI h) aho aaw fi sc (nI el.length) aen ato (bI li) (nI mny) awa aot (bI drn) (way ||| (bitL e)) rkv awk atr ase ade ala ach apa asq, aZ cZ aho 25 (bF hb), aI cI aen 80 fen, aI cI ato 40 f, aI cI apa 25 fpa, aJ cJ asq 625 fsq] rfl ?_
            exact ihLD (e + 1) left _ kept f _ _ (by omega) hle (by rw [if_pos h30] at hD1; rw [hk0e]; exact hD1) (fun i hi hz => by by_cases z : i = e; (rw [z, ← hfe] at hz; exact absurd hz (by rw [h30]; decide)); exact hk1 i (by omega) hz) (fun i hi => ⟨Nat.lt_succ_of_lt (hk2 i hi).1, (hk2 i hi).2⟩) (fun i => (hf i).imp (fun z => ⟨by omega, z.2⟩) id) (by omega)
  refine e_lv [(0, .ref m), (3, .long (lN n0)), (5, .long 0), (7, .int (nI 0))] ⟨rfl, rfl, rfl, rfl, trivial⟩ ?_
  refine e_ws [oMD m th kd (nI w) (nI h) aho aaw fi sc (nI el.length) aen ato (bI li) (nI mny) awa aot (bI drn) 0 rkv awk atr ase ade ala ach apa asq, aZ cZ aho 25 (bF hb), aI cI aen 80 fen, aI cI ato 40 fto, aI cI apa 25 fpa, aJ cJ asq 625 fsq] rfl ?_
  exact LD _ 0 n0 0 0 fto fpa fsq (Nat.zero_le _) hn0 hRESW (fun i hi => absurd hi (Nat.not_lt_zero _)) (fun i hi => by rw [gB_0] at hi; exact absurd hi (by decide)) (fun i => Or.inr rfl) (Nat.lt_succ_self _)
