/-! THE REFERENCE'S listDegrees -/
theorem pv_s (k : Nat) : pv (k + 1) = nI k := by unfold pv; rw [if_neg (Nat.succ_ne_zero k), Nat.add_sub_cancel]
theorem lT0 {E e : Nat} (h : e ≤ E) : lT E e 0 = lF (E - e) := by
  unfold lT
  by_cases z : e = E
  · rw [if_pos z, z, Nat.sub_self]; rfl
  · rw [if_neg z, if_pos rfl]
theorem lT1 {E e : Nat} (h : e < E) : lT E e 1 = 2 + lF (E - (e + 1)) := by
  unfold lT; rw [if_neg (by omega), if_neg (by decide), if_pos rfl]
theorem lT2 {E e : Nat} (h : e < E) : lT E e 2 = 1 := by
  unfold lT; rw [if_neg (by omega), if_neg (by decide), if_neg (by decide)]
theorem lT_pos (E e ph : Nat) : 1 ≤ lT E e ph := by
  have hF : ∀ k, 1 ≤ lF k := fun k => by cases k with | zero => exact Nat.le_refl _ | succ k => show 1 ≤ 3 + 2 * lF k; omega
  unfold lT
  by_cases z : e = E
  · rw [if_pos z]; exact Nat.le_refl _
  · rw [if_neg z]
    by_cases y : ph = 0
    · rw [if_pos y]; exact hF _
    · rw [if_neg y]
      by_cases x : ph = 1
      · rw [if_pos x]; omega
      · rw [if_neg x]; exact Nat.le_refl _
theorem lF_s {E e : Nat} (h : e < E) : lF (E - e) = 3 + 2 * lF (E - (e + 1)) := by
  rw [show E - e = (E - (e + 1)) + 1 by omega]; rfl
theorem lTop0 {el : List (Nat × Nat)} {due : Nat} {la : Nat → Int32} {c : Nat → Nat} {e : Nat} (h : e ≤ el.length) : lTop el due la c e 0 = ldR el due la (el.length - e) e (dgC el c e) (stC c e) := by
  unfold lTop
  by_cases z : e = el.length
  · rw [if_pos z, z, Nat.sub_self]; rfl
  · rw [if_neg z, if_pos rfl]
theorem lTop1 {el : List (Nat × Nat)} {due : Nat} {la : Nat → Int32} {c : Nat → Nat} {e : Nat} (h : e < el.length) : lTop el due la c e 1 = ld1 el due la (el.length - (e + 1)) e (dgC el c e) (stC c e) := by
  unfold lTop; rw [if_neg (by omega), if_neg (by decide), if_pos rfl]
theorem lTop2 {el : List (Nat × Nat)} {due : Nat} {la : Nat → Int32} {c : Nat → Nat} {e : Nat} (h : e < el.length) : lTop el due la c e 2 = [] := by
  unfold lTop; rw [if_neg (by omega), if_neg (by decide), if_neg (by decide)]
theorem lTopE {el : List (Nat × Nat)} {due : Nat} {la : Nat → Int32} {c : Nat → Nat} {e ph : Nat} (h : e = el.length) : lTop el due la c e ph = [stC c e] := by
  unfold lTop; rw [if_pos h]
theorem ldR_s {el : List (Nat × Nat)} {due : Nat} {la : Nat → Int32} {e a b : Nat} {dg : Nat → Nat} {set : Int64} (h : e < el.length) (hq : el[e]? = some (a, b)) : ldR el due la (el.length - e) e dg set = (if gdF due la dg a b e = true then ldR el due la (el.length - (e + 1)) (e + 1) dg set else []) ++ ld1 el due la (el.length - (e + 1)) e dg set := by
  rw [show el.length - e = (el.length - (e + 1)) + 1 by omega]
  show (match el[e]? with | none => [] | some q => _) = _ ++ (match el[e]? with | none => [] | some q => _)
  rw [hq]
theorem ld1_at {el : List (Nat × Nat)} {due : Nat} {la : Nat → Int32} {k e a b : Nat} {dg : Nat → Nat} {set : Int64} (hq : el[e]? = some (a, b)) : ld1 el due la k e dg set = if gdF due la (dgU dg a b) a b e = true then ldR el due la k (e + 1) (dgU dg a b) (set ||| bitL e) else [] := by
  unfold ld1; rw [hq]
theorem yF01 {E ph e : Nat} (h : ph ≠ 2) : yF E ph (e + 1) = e := by
  show (if e < E ∧ ph = 2 then e + 1 else e) = e
  rw [if_neg (fun z => h z.2)]
theorem yF2 {E e : Nat} (h : e < E) : yF E 2 (e + 1) = e + 1 := by
  show (if e < E ∧ 2 = 2 then e + 1 else e) = e + 1
  rw [if_pos ⟨h, rfl⟩]
theorem yFE {E ph : Nat} : yF E ph (E + 1) = E := by
  show (if E < E ∧ ph = 2 then E + 1 else E) = E
  rw [if_neg (fun z => absurd z.1 (Nat.lt_irrefl _))]
theorem dgC_1 {el : List (Nat × Nat)} {c : Nat → Nat} {e a b : Nat} (h : c e = 1) (hq : el[e]? = some (a, b)) : dgC el c (e + 1) = dgU (dgC el c e) a b := by
  show (if c e = 1 then (match el[e]? with | some q => dgU (dgC el c e) q.1 q.2 | none => dgC el c e) else dgC el c e) = _
  rw [if_pos h, hq]
theorem dgC_0 {el : List (Nat × Nat)} {c : Nat → Nat} {e : Nat} (h : c e ≠ 1) : dgC el c (e + 1) = dgC el c e := by
  show (if c e = 1 then _ else dgC el c e) = _
  rw [if_neg h]
theorem stC_1 {c : Nat → Nat} {e : Nat} (h : c e = 1) : stC c (e + 1) = stC c e ||| bitL e := if_pos h
theorem stC_0 {c : Nat → Nat} {e : Nat} (h : c e ≠ 1) : stC c (e + 1) = stC c e := if_neg h
theorem pop_y {el : List (Nat × Nat)} {c : Nat → Nat} {e : Nat} (he : e < el.length) (hc : c e ≤ 1) : dgC el c (yF el.length (c e + 1) (e + 1)) = dgC el c (e + 1) ∧ stC c (yF el.length (c e + 1) (e + 1)) = stC c (e + 1) := by
  by_cases z : c e = 1
  · rw [z, yF2 he]; exact ⟨rfl, rfl⟩
  · rw [yF01 (by omega), dgC_0 z, stC_0 z]; exact ⟨rfl, rfl⟩
theorem pop_R {el : List (Nat × Nat)} {due : Nat} {la : Nat → Int32} {c : Nat → Nat} {e : Nat} (he : e < el.length) (hc : c e ≤ 1) : lRem el due la c (c e + 1) (e + 1) = ldT el due la c (e + 1) := by
  show lTop el due la c e (c e + 1) ++ ldT el due la c e = (if c e = 1 then ldT el due la c e else ld1 el due la (el.length - (e + 1)) e (dgC el c e) (stC c e) ++ ldT el due la c e)
  by_cases z : c e = 1
  · rw [if_pos z, z, lTop2 he, List.nil_append]
  · rw [if_neg z, show c e + 1 = 1 by omega, lTop1 he]
theorem pop_M {E : Nat} {c : Nat → Nat} {e : Nat} (he : e < E) (hc : c e ≤ 1) : lMs E c (c e + 1) (e + 1) = lM E c (e + 1) := by
  show lT E e (c e + 1) + lM E c e = (if c e = 1 then 1 else 2 + lF (E - (e + 1))) + lM E c e
  by_cases z : c e = 1
  · rw [if_pos z, z, lT2 he]
  · rw [if_neg z, show c e + 1 = 1 by omega, lT1 he]
theorem up_lo {c : Nat → Nat} {e v : Nat} : ∀ i, i < e → upN c e v i = c i := fun i hi => upN_n (by omega)
theorem ept_en {el : List (Nat × Nat)} {fen : Nat → Int32} {t : Nat} (h : enR el fen) (ht : t < 2 * el.length) : fen t = nI (ept el t) := by
  have h2 : t / 2 < el.length := by omega
  obtain ⟨⟨a, b⟩, hq⟩ : ∃ q, el[t / 2]? = some q := ⟨_, List.getElem?_eq_getElem h2⟩
  have h3 := h _ _ _ hq
  unfold ept
  rw [hq]
  by_cases z : t % 2 = 0
  · show fen t = nI (if t % 2 = 0 then a else b)
    rw [if_pos z, ← h3.1, show 2 * (t / 2) = t by omega]
  · show fen t = nI (if t % 2 = 0 then a else b)
    rw [if_neg z, ← h3.2, show 2 * (t / 2) + 1 = t by omega]
theorem ept_lt {el : List (Nat × Nat)} {t : Nat} (hev : ∀ (i a b : Nat), el[i]? = some (a, b) → a < 25 ∧ b < 25 ∧ a ≠ b) : ept el t < 25 := by
  unfold ept
  match hq : el[t / 2]? with
  | none => show (0 : Nat) < 25; decide
  | some (a, b) =>
    have := hev _ _ _ hq
    show (if t % 2 = 0 then a else b) < 25
    by_cases z : t % 2 = 0
    · rw [if_pos z]; exact this.1
    · rw [if_neg z]; exact this.2.1
theorem due_le {x d : Nat} (hx : x < 2 ^ 31) (hd : d < 2 ^ 31) (h : ¬ nI d < nI x) : x ≤ d := by
  rcases Nat.lt_or_ge d x with z | z
  · exact absurd (nI_lt z hx) h
  · exact z
theorem due_gt {x d : Nat} (hx : x < 2 ^ 31) (hd : d < 2 ^ 31) (h : nI d < nI x) : ¬ x ≤ d := by
  have := (nI_ltI hd hx).mp h
  omega
theorem due_ne {x d : Nat} (h : ¬ nI x = nI d) : ¬ x = d := fun z => h (by rw [z])
theorem due_eq {x d : Nat} (hx : x < 2 ^ 31) (hd : d < 2 ^ 31) (h : nI x = nI d) : x = d := (nI_eq hx hd).mp h
set_option maxHeartbeats 4000000 in
set_option maxRecDepth 100000 in
theorem M_MD_listDegrees (l : Launch) (D : va_G) (cI cJ cZ : ClassId) (m aho aaw aen ato awa aot awk atr ase ade ala ach apa asq : Nat) (w h : Nat) (hw : w ≤ 5) (hh : h ≤ 5) (hw1 : 1 ≤ w) (hh1 : 1 ≤ h) (th kd fi sc : Int32) (el : List (Nat × Nat)) (li : Bool) (out : List Int64) (drn : Bool) (wyv rkv : Int64) (hb : Nat → Bool) (fen fde fla fch : Nat → Int32) (fw : Nat → Int64) (due : Nat) (hdue : due ≤ 2) (hen : enR el fen) (hel : el.length ≤ 40) (hev : ∀ (i a b : Nat), el[i]? = some (a, b) → a < 25 ∧ b < 25 ∧ a ≠ b) (hW : WaR out fw) (TOT : List Int64) (hTOT : out ++ ldAll el hb (w * h) due = TOT) (hlim : TOT.length ≤ 40000) : MK l D cI cJ cZ y_MD_listDegrees c_MD_listDegrees 8 none 1 22 [.ref m, .int (nI due)] [oMD m th kd (nI w) (nI h) aho aaw fi sc (nI el.length) aen ato (bI li) (nI out.length) awa aot (bI drn) wyv rkv awk atr ase ade ala ach apa asq, aZ cZ aho 25 (bF hb), aI cI aen 80 fen, aJ cJ awa 40000 fw, aI cI ade 25 fde, aI cI ala 25 fla, aI cI ach 41 fch] 0 0 (fun v w1 => ∃ (fw2 : Nat → Int64) (fde2 fla2 fch2 : Nat → Int32), v = none ∧ w1 = [oMD m th kd (nI w) (nI h) aho aaw fi sc (nI el.length) aen ato (bI li) (nI TOT.length) awa aot (bI drn) wyv rkv awk atr ase ade ala ach apa asq, aZ cZ aho 25 (bF hb), aI cI aen 80 fen, aJ cJ awa 40000 fw2, aI cI ade 25 fde2, aI cI ala 25 fla2, aI cI ach 41 fch2] ∧ WaR TOT fw2) := by
  refine MC.of (by decide) bigW_good (Nat.le_of_ble_eq_true rfl) (fun κ C Z IN => ?_)
  have hP : w * h ≤ 25 := Nat.mul_le_mul hw hh
  refine e_iconst (v := 0) C d_MD_listDegrees_0 rfl ?_
  refine e_istore_n C d_MD_listDegrees_1 rfl (by decide) ?_
  have LA : ∀ (fuel : Nat) (i : Nat) (fde fla : Nat → Int32), i ≤ 25 → (∀ q, q < i → fde q = 0 ∧ fla q = -1) →  25 - i < fuel → E κ (lu_o [(0, .ref m), (1, .int (nI due)), (2, .int (nI i))]) [] [oMD m th kd (nI w) (nI h) aho aaw fi sc (nI el.length) aen ato (bI li) (nI out.length) awa aot (bI drn) wyv rkv awk atr ase ade ala ach apa asq, aZ cZ aho 25 (bF hb), aI cI aen 80 fen, aJ cJ awa 40000 fw, aI cI ade 25 fde, aI cI ala 25 fla, aI cI ach 41 fch] 0 0 2 := by
    intro fuel
    induction fuel with
    | zero => intro i fde fla hi hz hm; exact absurd hm (Nat.not_lt_zero _)
    | succ fuel ihLA =>
      intro i fde fla hi hz hm
      refine e_iload_n C d_MD_listDegrees_2 rfl rfl ?_
      refine e_bipush (v := 25) C d_MD_listDegrees_3 (by decide) ?_
      refine e_icmp_ge (tgt := 28) C d_MD_listDegrees_5 (by decide) (fun h5 => ?_) (fun h5 => ?_)
      · -- 28
        have hi25 : 25 ≤ i := (nI_leI (a := 25) (by decide) (by omega)).mp h5
        refine e_iconst (v := 0) C d_MD_listDegrees_28 rfl ?_
        refine e_istore_n C d_MD_listDegrees_29 rfl (by decide) ?_
        have LB : ∀ (fuel : Nat) (t : Nat) (fla : Nat → Int32), t ≤ 2 * el.length → (∀ q, q < 25 → fla q = laL el t q) →  2 * el.length - t < fuel → E κ (lu_o [(0, .ref m), (1, .int (nI due)), (2, .int (nI t))]) [] [oMD m th kd (nI w) (nI h) aho aaw fi sc (nI el.length) aen ato (bI li) (nI out.length) awa aot (bI drn) wyv rkv awk atr ase ade ala ach apa asq, aZ cZ aho 25 (bF hb), aI cI aen 80 fen, aJ cJ awa 40000 fw, aI cI ade 25 fde, aI cI ala 25 fla, aI cI ach 41 fch] 0 0 30 := by
          intro fuel
          induction fuel with
          | zero => intro t fla ht hl hm; exact absurd hm (Nat.not_lt_zero _)
          | succ fuel ihLB =>
            intro t fla ht hl hm
            refine e_iload_n C d_MD_listDegrees_30 rfl rfl ?_
            refine e_iconst (v := 2) C d_MD_listDegrees_31 rfl ?_
            refine e_aload_n C d_MD_listDegrees_32 rfl rfl ?_
            refine e_get C hin_MD 0 rfl rfl 8 (by decide) fl_MD_85 rfl d_MD_listDegrees_33 ?_
            refine e_imul C d_MD_listDegrees_36 ?_
            refine e_st [.int (nI (2 * el.length)), .int (nI t)] (by rw [show (2 : Int32) * nI el.length = nI (2 * el.length) from pk_mul 2 _]) ?_
            refine e_icmp_ge (tgt := 60) C d_MD_listDegrees_37 (by decide) (fun h37 => ?_) (fun h37 => ?_)
            · -- 60
              have ht2 : t = 2 * el.length := by have q := (nI_leI (by omega) (by omega)).mp h37; omega
              subst ht2
              have hl2 := hl
              refine e_iconst (v := 0) C d_MD_listDegrees_60 rfl ?_
              refine e_istore_n C d_MD_listDegrees_61 rfl (by decide) ?_
              have LC : ∀ (fuel : Nat) (i : Nat), i ≤ w * h → loneF hb (laL el (2 * el.length)) i = false →  w * h - i < fuel → E κ (lu_o [(0, .ref m), (1, .int (nI due)), (2, .int (nI i))]) [] [oMD m th kd (nI w) (nI h) aho aaw fi sc (nI el.length) aen ato (bI li) (nI out.length) awa aot (bI drn) wyv rkv awk atr ase ade ala ach apa asq, aZ cZ aho 25 (bF hb), aI cI aen 80 fen, aJ cJ awa 40000 fw, aI cI ade 25 fde, aI cI ala 25 fla, aI cI ach 41 fch] 0 0 62 := by
                intro fuel
                induction fuel with
                | zero => intro i hi3 hlo hm; exact absurd hm (Nat.not_lt_zero _)
                | succ fuel ihLC =>
                  intro i hi3 hlo hm
                  refine e_iload_n C d_MD_listDegrees_62 rfl rfl ?_
                  refine e_aload_n C d_MD_listDegrees_63 rfl rfl ?_
                  refine e_callV (As := []) (st := [.int (nI i)]) (wc := [oMD m th kd (nI w) (nI h) aho aaw fi sc (nI el.length) aen ato (bI li) (nI out.length) awa aot (bI drn) wyv rkv awk atr ase ade ala ach apa asq]) (wr := [aZ cZ aho 25 (bF hb), aI cI aen 80 fen, aJ cJ awa 40000 fw, aI cI ade 25 fde, aI cI ala 25 fla, aI cI ach 41 fch]) C (M_MD_places l D cI cJ cZ m aho aaw aen ato awa aot awk atr ase ade ala ach apa asq w h hw hh hw1 hh1 th kd fi sc el li out.length drn wyv rkv) v_MD_places ml_MD_81 0 rfl rfl nwW_ok ⟨Nat.le_of_ble_eq_true rfl, Nat.le_of_ble_eq_true rfl⟩ ⟨Nat.le_of_ble_eq_true rfl, Nat.le_of_ble_eq_true rfl⟩ [0] [1, 2, 3, 4, 5, 6] rfl rfl rfl rfl (by decide) (Nat.le_of_ble_eq_true rfl) rfl d_MD_listDegrees_64 (fun v w1 hp => ?_)
                  obtain ⟨rfl, rfl⟩ := hp
                  refine e_perm (st' := [.int (nI (w * h)), .int (nI i)]) (ws' := [oMD m th kd (nI w) (nI h) aho aaw fi sc (nI el.length) aen ato (bI li) (nI out.length) awa aot (bI drn) wyv rkv awk atr ase ade ala ach apa asq, aZ cZ aho 25 (bF hb), aI cI aen 80 fen, aJ cJ awa 40000 fw, aI cI ade 25 fde, aI cI ala 25 fla, aI cI ach 41 fch]) [6, 0, 1, 2, 3, 4, 5] rfl rfl rfl ?_
                  refine e_icmp_ge (tgt := 95) C d_MD_listDegrees_67 (by decide) (fun h67 => ?_) (fun h67 => ?_)
                  · -- 95
                    have hiP3 : w * h = i := by have q := (nI_leI (by omega) (by omega)).mp h67; omega
                    refine e_iconst (v := 0) C d_MD_listDegrees_95 rfl ?_
                    refine e_istore_n C d_MD_listDegrees_96 rfl (by decide) ?_
                    refine e_aload_n C d_MD_listDegrees_97 rfl rfl ?_
                    refine e_get C hin_MD 0 rfl rfl 23 (by decide) fl_MD_53 rfl d_MD_listDegrees_98 ?_
                    refine e_iconst (v := 0) C d_MD_listDegrees_101 rfl ?_
                    refine e_iconst (v := (-1)) C d_MD_listDegrees_102 rfl ?_
                    refine e_st [.int (-1), .int (nI 0), .ref ach] rfl ?_
                    refine e_iast C 6 0 rfl rfl (vp_in_nI (by omega) (by omega)) d_MD_listDegrees_103 ?_
                    refine e_ws [oMD m th kd (nI w) (nI h) aho aaw fi sc (nI el.length) aen ato (bI li) (nI out.length) awa aot (bI drn) wyv rkv awk atr ase ade ala ach apa asq, aZ cZ aho 25 (bF hb), aI cI aen 80 fen, aJ cJ awa 40000 fw, aI cI ade 25 fde, aI cI ala 25 fla, aI cI ach 41 (upd fch 0 (-1))] (by rw [nI_clamp (by omega)]; rfl) ?_
                    refine e_lconst (v := 0) C d_MD_listDegrees_104 rfl ?_
                    refine e_lstore_n C d_MD_listDegrees_105 rfl (by decide) ?_
                    have hnl : loneF hb (laL el (2 * el.length)) (w * h) = false := by rw [show w * h = i from hiP3]; exact hlo
                    have LP : ∀ (fuel : Nat) (x ph : Nat) (c : Nat → Nat) (fch fde : Nat → Int32) (fw : Nat → Int64) (out : List Int64), x ≤ el.length + 1 → ph ≤ 2 → (∀ i, i + 1 < x → fch i = nI (c i) ∧ c i ≤ 1) → (∀ e, x = e + 1 → e < el.length → fch e = pv ph ∧ (ph = 2 → c e = 1)) → (∀ p, p < 25 → fde p = nI (dgC el c (yF el.length ph x) p)) → WaR out fw → out ++ lRem el due (laL el (2 * el.length)) c ph x = TOT →  lMs el.length c ph x < fuel → E κ (lu_o [(0, .ref m), (1, .int (nI due)), (2, .int (pv x)), (3, .long (stC c (yF el.length ph x)))]) [] [oMD m th kd (nI w) (nI h) aho aaw fi sc (nI el.length) aen ato (bI li) (nI out.length) awa aot (bI drn) wyv rkv awk atr ase ade ala ach apa asq, aZ cZ aho 25 (bF hb), aI cI aen 80 fen, aJ cJ awa 40000 fw, aI cI ade 25 fde, aI cI ala 25 fla, aI cI ach 41 fch] 0 0 106 := by
                      intro fuel
                      induction fuel with
                      | zero => intro x ph c fch fde fw out hx hph hc hce hd hW hT hm; exact absurd hm (Nat.not_lt_zero _)
                      | succ fuel ihLP =>
                        intro x ph c fch fde fw out hx hph hc hce hd hW hT hm
                        refine e_iload_n C d_MD_listDegrees_106 rfl rfl ?_
                        refine e_if_lt (tgt := 341) C d_MD_listDegrees_107 (by decide) (fun h107 => ?_) (fun h107 => ?_)
                        · -- 341
                          have hx0 : x = 0 := (pv_neg (by omega)).mp h107
                          subst hx0
                          have hT0 : out = TOT := by rw [← hT]; show out = out ++ []; rw [List.append_nil]
                          exact e_vret C Z (Nat.le_of_ble_eq_true rfl) (Nat.le_of_ble_eq_true rfl) (⟨fw, fde, fla, fch, rfl, by rw [← hT0], by rw [← hT0]; exact hW⟩) d_MD_listDegrees_341
                        · -- 110
                          obtain ⟨e, rfl⟩ : ∃ e, x = e + 1 := ⟨x - 1, by have := mt (pv_neg (by omega)).mpr h107; omega⟩
                          have hT1 : out ++ (lTop el due (laL el (2 * el.length)) c e ph ++ ldT el due (laL el (2 * el.length)) c e) = TOT := hT
                          have hm1 : lT el.length e ph + lM el.length c e < fuel + 1 := hm
                          have hlp := lT_pos el.length e ph
                          have POP : ∀ (fch fde : Nat → Int32) (fw : Nat → Int64) (out : List Int64), (∀ i, i < e → fch i = nI (c i) ∧ c i ≤ 1) → (∀ p, p < 25 → fde p = nI (dgC el c e p)) → WaR out fw → out ++ ldT el due (laL el (2 * el.length)) c e = TOT → E κ (lu_o [(0, .ref m), (1, .int (nI due)), (2, .int (pv e)), (3, .long (stC c e))]) [] [oMD m th kd (nI w) (nI h) aho aaw fi sc (nI el.length) aen ato (bI li) (nI out.length) awa aot (bI drn) wyv rkv awk atr ase ade ala ach apa asq, aZ cZ aho 25 (bF hb), aI cI aen 80 fen, aJ cJ awa 40000 fw, aI cI ade 25 fde, aI cI ala 25 fla, aI cI ach 41 fch] 0 0 106 := by
                            intro fch fde fw out hc2 hd2 hW2 hT2
                            rcases Nat.eq_zero_or_pos e with z | z
                            · subst z
                              exact ihLP 0 0 c fch fde fw out (Nat.zero_le _) (by decide) (fun i hi => by omega) (fun e he => by omega) (fun p hp => hd2 p hp) hW2 hT2 (by show 0 < fuel; omega)
                            · obtain ⟨e, rfl⟩ : ∃ y, e = y + 1 := ⟨e - 1, by omega⟩
                              have he2 : e < el.length := by omega
                              have hce2 := (hc2 e (Nat.lt_succ_self e))
                              have hy := pop_y (el := el) (c := c) he2 hce2.2
                              refine e_lv [(0, .ref m), (1, .int (nI due)), (2, .int (pv (e + 1))), (3, .long (stC c (yF el.length (c e + 1) (e + 1))))] ⟨rfl, rfl, rfl, by rw [hy.2]; rfl, trivial⟩ ?_
                              exact ihLP (e + 1) (c e + 1) c fch fde fw out (by omega) (by omega) (fun i hi => hc2 i (by omega)) (fun e2 h2 h3 => by rw [show e2 = e by omega, hce2.1, pv_s]; exact ⟨rfl, fun z => by omega⟩) (fun p hp => by rw [hy.1]; exact hd2 p hp) hW2 (by rw [pop_R he2 hce2.2]; exact hT2) (by rw [pop_M he2 hce2.2]; omega)
                          refine e_lv [(0, .ref m), (1, .int (nI due)), (2, .int (nI e)), (3, .long (stC c (yF el.length ph (e + 1))))] ⟨rfl, rfl, by rw [← pv_s]; rfl, rfl, trivial⟩ ?_
                          refine e_iload_n C d_MD_listDegrees_110 rfl rfl ?_
                          refine e_aload_n C d_MD_listDegrees_111 rfl rfl ?_
                          refine e_get C hin_MD 0 rfl rfl 8 (by decide) fl_MD_85 rfl d_MD_listDegrees_112 ?_
                          refine e_icmp_ne (tgt := 129) C d_MD_listDegrees_115 (by decide) (fun h115 => ?_) (fun h115 => ?_)
                          · -- 129
                            have heE : e < el.length := by rcases Nat.lt_or_ge e el.length with z | z; exact z; exact absurd (by rw [show e = el.length by omega]) h115
                            obtain ⟨⟨a, b⟩, hsv⟩ : ∃ q, el[e]? = some q := ⟨_, List.getElem?_eq_getElem heE⟩
                            have hab := hev _ _ _ hsv
                            have hch := hce e rfl heE
                            have hdl : ∀ p, dgC el c e p ≤ 80 := fun p => Nat.le_trans (dgC_le e p) (by omega)
                            rcases (show ph = 0 ∨ ph = 1 ∨ ph = 2 by omega) with z | z | z
                            · subst z
                              have hy0 : yF el.length 0 (e + 1) = e := yF01 (by decide)
                              rw [hy0] at hd
                              refine e_lv [(0, .ref m), (1, .int (nI due)), (2, .int (nI e)), (3, .long (stC c e))] ⟨rfl, rfl, rfl, congrArg (fun z => some (Value.long (stC c z))) hy0, trivial⟩ ?_
                              refine e_aload_n C d_MD_listDegrees_129 rfl rfl ?_
                              refine e_get C hin_MD 0 rfl rfl 9 (by decide) fl_MD_23 rfl d_MD_listDegrees_130 ?_
                              refine e_iconst (v := 2) C d_MD_listDegrees_133 rfl ?_
                              refine e_iload_n C d_MD_listDegrees_134 rfl rfl ?_
                              refine e_imul C d_MD_listDegrees_135 ?_
                              refine e_st [.int (nI (2 * e)), .ref aen] (by rw [show (2 : Int32) * nI e = nI (2 * e) from pk_mul 2 e]) ?_
                              refine e_iald C 2 0 rfl rfl (vp_in_nI (by omega) (by omega)) d_MD_listDegrees_136 ?_
                              refine e_st [.int (fen (2 * e))] (by rw [nI_clamp (by omega)]) ?_
                              refine e_st [.int (nI a)] (by rw [(hen e a b hsv).1]) ?_
                              refine e_istore C d_MD_listDegrees_137 (by decide) ?_
                              refine e_aload_n C d_MD_listDegrees_139 rfl rfl ?_
                              refine e_get C hin_MD 0 rfl rfl 9 (by decide) fl_MD_23 rfl d_MD_listDegrees_140 ?_
                              refine e_iconst (v := 2) C d_MD_listDegrees_143 rfl ?_
                              refine e_iload_n C d_MD_listDegrees_144 rfl rfl ?_
                              refine e_imul C d_MD_listDegrees_145 ?_
                              refine e_iconst (v := 1) C d_MD_listDegrees_146 rfl ?_
                              refine e_iadd C d_MD_listDegrees_147 ?_
                              refine e_st [.int (nI (2 * e + 1)), .ref aen] (by rw [show (2 : Int32) * nI e = nI (2 * e) from pk_mul 2 e, nI_1]) ?_
                              refine e_iald C 2 0 rfl rfl (vp_in_nI (by omega) (by omega)) d_MD_listDegrees_148 ?_
                              refine e_st [.int (fen (2 * e + 1))] (by rw [nI_clamp (by omega)]) ?_
                              refine e_st [.int (nI b)] (by rw [(hen e a b hsv).2]) ?_
                              refine e_istore C d_MD_listDegrees_149 (by decide) ?_
                              refine e_aload_n C d_MD_listDegrees_151 rfl rfl ?_
                              refine e_get C hin_MD 0 rfl rfl 23 (by decide) fl_MD_53 rfl d_MD_listDegrees_152 ?_
                              refine e_iload_n C d_MD_listDegrees_155 rfl rfl ?_
                              refine e_iald C 6 0 rfl rfl (vp_in_nI (by omega) (by omega)) d_MD_listDegrees_156 ?_
                              refine e_st [.int (fch e)] (by rw [nI_clamp (by omega)]) ?_
                              refine e_st [.int (-1)] (by rw [hch.1]; rfl) ?_
                              refine e_iconst (v := 1) C d_MD_listDegrees_157 rfl ?_
                              refine e_icmp_ne (tgt := 199) C d_MD_listDegrees_158 (by decide) (fun h158 => ?_) (fun h158 => ?_)
                              · -- 199
                                refine e_aload_n C d_MD_listDegrees_199 rfl rfl ?_
                                refine e_get C hin_MD 0 rfl rfl 23 (by decide) fl_MD_53 rfl d_MD_listDegrees_200 ?_
                                refine e_iload_n C d_MD_listDegrees_203 rfl rfl ?_
                                refine e_dup2_11 C d_MD_listDegrees_204 rfl rfl ?_
                                refine e_iald C 6 0 rfl rfl (vp_in_nI (by omega) (by omega)) d_MD_listDegrees_205 ?_
                                refine e_st [.int (fch e), .int (nI e), .ref ach] (by rw [nI_clamp (by omega)]) ?_
                                refine e_st [.int (-1), .int (nI e), .ref ach] (by rw [hch.1]; rfl) ?_
                                refine e_iconst (v := 1) C d_MD_listDegrees_206 rfl ?_
                                refine e_iadd C d_MD_listDegrees_207 ?_
                                refine e_st [.int 0, .int (nI e), .ref ach] (by rfl) ?_
                                refine e_iast C 6 0 rfl rfl (vp_in_nI (by omega) (by omega)) d_MD_listDegrees_208 ?_
                                refine e_ws [oMD m th kd (nI w) (nI h) aho aaw fi sc (nI el.length) aen ato (bI li) (nI out.length) awa aot (bI drn) wyv rkv awk atr ase ade ala ach apa asq, aZ cZ aho 25 (bF hb), aI cI aen 80 fen, aJ cJ awa 40000 fw, aI cI ade 25 fde, aI cI ala 25 fla, aI cI ach 41 (upd fch e 0)] (by rw [nI_clamp (by omega)]; rfl) ?_
                                refine e_aload_n C d_MD_listDegrees_209 rfl rfl ?_
                                refine e_get C hin_MD 0 rfl rfl 23 (by decide) fl_MD_53 rfl d_MD_listDegrees_210 ?_
                                refine e_iload_n C d_MD_listDegrees_213 rfl rfl ?_
                                refine e_iald C 6 0 rfl rfl (vp_in_nI (by omega) (by omega)) d_MD_listDegrees_214 ?_
                                refine e_st [.int ((upd fch e 0) e)] (by rw [nI_clamp (by omega)]) ?_
                                refine e_st [.int 0] (by rw [pk_us]) ?_
                                refine e_iconst (v := 1) C d_MD_listDegrees_215 rfl ?_
                                refine e_icmp_ne (tgt := 247) C d_MD_listDegrees_216 (by decide) (fun h216 => ?_) (fun h216 => ?_)
                                · -- 247
                                  have hD : ∀ p, p < 25 → fde p = nI ((dgC el c e) p) := hd
                                  have hDb : ∀ p, (dgC el c e) p < 2 ^ 31 := fun p => by have := hdl p; omega
                                  refine e_lv [(0, .ref m), (1, .int (nI due)), (2, .int (nI e)), (3, .long (stC c e)), (5, .int (nI a)), (6, .int (nI b))] ⟨rfl, rfl, rfl, rfl, rfl, rfl, trivial⟩ ?_
                                  have J318 : ∀ (y318 : Int32), y318 = bI (gdF due (laL el (2 * el.length)) (dgC el c e) a b e) → E κ (lu_o [(0, .ref m), (1, .int (nI due)), (2, .int (nI e)), (3, .long (stC c e)), (5, .int (nI a)), (6, .int (nI b))]) [.int y318] [oMD m th kd (nI w) (nI h) aho aaw fi sc (nI el.length) aen ato (bI li) (nI out.length) awa aot (bI drn) wyv rkv awk atr ase ade ala ach apa asq, aZ cZ aho 25 (bF hb), aI cI aen 80 fen, aJ cJ awa 40000 fw, aI cI ade 25 fde, aI cI ala 25 fla, aI cI ach 41 (upd fch e 0)] 0 0 318 := by
                                    intro y318 ey318
                                    refine e_istore C d_MD_listDegrees_318 (by decide) ?_
                                    refine e_iload C d_MD_listDegrees_320 rfl ?_
                                    refine e_st [.int (bI (gdF due (laL el (2 * el.length)) (dgC el c e) a b e))] (by rw [ey318]) ?_
                                    refine e_if_ne (tgt := 328) C d_MD_listDegrees_322 (by decide) (fun h322 => ?_) (fun h322 => ?_)
                                    · -- 328
                                      refine e_iinc (v := (nI e) + 1) C d_MD_listDegrees_328 rfl rfl (by decide) ?_
                                      refine e_lv [(0, .ref m), (1, .int (nI due)), (2, .int (nI (e + 1))), (3, .long (stC c e)), (5, .int (nI a)), (6, .int (nI b)), (7, .int y318)] ⟨rfl, rfl, congrArg (fun z => some (Value.int z)) (nI_1 e), rfl, rfl, rfl, rfl, trivial⟩ ?_
                                      refine e_aload_n C d_MD_listDegrees_331 rfl rfl ?_
                                      refine e_get C hin_MD 0 rfl rfl 23 (by decide) fl_MD_53 rfl d_MD_listDegrees_332 ?_
                                      refine e_iload_n C d_MD_listDegrees_335 rfl rfl ?_
                                      refine e_iconst (v := (-1)) C d_MD_listDegrees_336 rfl ?_
                                      refine e_iast C 6 0 rfl rfl (vp_in_nI (by omega) (by omega)) d_MD_listDegrees_337 ?_
                                      refine e_ws [oMD m th kd (nI w) (nI h) aho aaw fi sc (nI el.length) aen ato (bI li) (nI out.length) awa aot (bI drn) wyv rkv awk atr ase ade ala ach apa asq, aZ cZ aho 25 (bF hb), aI cI aen 80 fen, aJ cJ awa 40000 fw, aI cI ade 25 fde, aI cI ala 25 fla, aI cI ach 41 (upd (upd fch e 0) (e + 1) (-1))] (by rw [nI_clamp (by omega)]; rfl) ?_
                                      have hG : gdF due (laL el (2 * el.length)) (dgC el c e) a b e = true := by simp only [bI_eq0, Bool.not_eq_false] at h322; exact h322
                                      refine e_goto (tgt := 106) C d_MD_listDegrees_338 (by decide) ?_
                                      have hcv : upN c e 0 e = 0 := upN_s
                                      have hdg : dgC el (upN c e 0) (e + 1) = dgC el c e := by rw [dgC_0 (by rw [hcv]; decide), dgC_congr (c' := c) up_lo]
                                      have hst : stC (upN c e 0) (e + 1) = stC c e := by rw [stC_0 (by rw [hcv]; decide), stC_congr (c' := c) up_lo]
                                      have hlt : ldT el due (laL el (2 * el.length)) (upN c e 0) (e + 1) = ld1 el due (laL el (2 * el.length)) (el.length - (e + 1)) e (dgC el c e) (stC c e) ++ ldT el due (laL el (2 * el.length)) c e := by show (if upN c e 0 e = 1 then _ else _) = _; rw [if_neg (by rw [hcv]; decide), ldT_congr (c' := c) up_lo, dgC_congr (c' := c) up_lo, stC_congr (c' := c) up_lo]
                                      have hlm : lM el.length (upN c e 0) (e + 1) = 2 + lF (el.length - (e + 1)) + lM el.length c e := by show (if upN c e 0 e = 1 then _ else _) + _ = _; rw [if_neg (by rw [hcv]; decide), lM_congr (c' := c) up_lo]
                                      refine e_lv [(0, .ref m), (1, .int (nI due)), (2, .int (pv (e + 1 + 1))), (3, .long (stC (upN c e 0) (yF el.length 0 (e + 1 + 1))))] ⟨rfl, rfl, by rw [pv_s (e + 1)]; rfl, by rw [yF01 (show (0 : Nat) ≠ 2 by decide), hst]; rfl, trivial⟩ ?_
                                      exact ihLP (e + 1 + 1) 0 (upN c e 0) _ _ fw out (by omega) (by decide) (fun i hi => by rw [pk_un (show i ≠ e + 1 by omega)]; by_cases z : i = e; (rw [z, pk_us, upN_s]; exact ⟨rfl, by decide⟩); (rw [pk_un z, upN_n z]; exact hc i (by omega))) (fun e2 h2 h3 => by rw [show e2 = e + 1 by omega, pk_us]; exact ⟨rfl, fun z => absurd z (by decide)⟩) (fun p hp => by rw [yF01 (show (0 : Nat) ≠ 2 by decide), hdg]; exact hD p hp) hW (by rw [← hT1]; rw [lTop0 (Nat.le_of_lt heE), ldR_s heE hsv, if_pos hG]; show out ++ (lTop _ _ _ _ (e + 1) 0 ++ _) = _; rw [hlt, lTop0 (by omega), hdg, hst, List.append_assoc]) (by rw [lT0 (Nat.le_of_lt heE), lF_s heE] at hm1; show lT _ (e + 1) 0 + _ < _; rw [lT0 (by omega), hlm]; omega)
                                    · -- 325
                                      have hG : gdF due (laL el (2 * el.length)) (dgC el c e) a b e = false := by simp only [bI_eq0] at h322; exact h322
                                      refine e_goto (tgt := 106) C d_MD_listDegrees_325 (by decide) ?_
                                      refine e_lv [(0, .ref m), (1, .int (nI due)), (2, .int (pv (e + 1))), (3, .long (stC c (yF el.length 1 (e + 1))))] ⟨rfl, rfl, by rw [pv_s]; rfl, by rw [yF01 (show (1 : Nat) ≠ 2 by decide)]; rfl, trivial⟩ ?_
                                      exact ihLP (e + 1) 1 c _ _ fw out hx (by decide) (fun i hi => by rw [pk_un (show i ≠ e by omega)]; exact hc i hi) (fun e2 h2 h3 => by rw [show e2 = e by omega, pk_us]; exact ⟨rfl, fun z => absurd z (by decide)⟩) (fun p hp => by rw [yF01 (show (1 : Nat) ≠ 2 by decide)]; exact hd p hp) hW (by rw [← hT1]; show out ++ (lTop _ _ _ _ _ 1 ++ _) = _; rw [lTop1 heE, lTop0 (Nat.le_of_lt heE), ldR_s heE hsv, if_neg (Bool.eq_false_iff.mp hG), List.nil_append]) (by show lT _ _ 1 + _ < _; rw [lT0 (Nat.le_of_lt heE), lF_s heE] at hm1; rw [lT1 heE]; omega)
                                  refine e_aload_n C d_MD_listDegrees_247 rfl rfl ?_
                                  refine e_get C hin_MD 0 rfl rfl 21 (by decide) fl_MD_47 rfl d_MD_listDegrees_248 ?_
                                  refine e_iload C d_MD_listDegrees_251 rfl ?_
                                  refine e_iald C 4 0 rfl rfl (vp_in_nI (by omega) (by omega)) d_MD_listDegrees_253 ?_
                                  refine e_st [.int (fde a)] (by rw [nI_clamp (by omega)]) ?_
                                  refine e_st [.int (nI ((dgC el c e) a))] (by rw [hD a hab.1]) ?_
                                  refine e_iload_n C d_MD_listDegrees_254 rfl rfl ?_
                                  refine e_icmp_gt (tgt := 317) C d_MD_listDegrees_255 (by decide) (fun h255 => ?_) (fun h255 => ?_)
                                  · -- 317
                                    refine e_iconst (v := 0) C d_MD_listDegrees_317 rfl ?_
                                    refine e_lv [(0, .ref m), (1, .int (nI due)), (2, .int (nI e)), (3, .long (stC c e)), (5, .int (nI a)), (6, .int (nI b))] ⟨rfl, rfl, rfl, rfl, rfl, rfl, trivial⟩ ?_
                                    exact J318 0 (by unfold gdF; (first | rw [decide_eq_true (due_le (hDb a) (by omega) h255)] | rw [decide_eq_false (due_gt (hDb a) (by omega) h255)]); simp [bI])
                                  · -- 258
                                    refine e_aload_n C d_MD_listDegrees_258 rfl rfl ?_
                                    refine e_get C hin_MD 0 rfl rfl 21 (by decide) fl_MD_47 rfl d_MD_listDegrees_259 ?_
                                    refine e_iload C d_MD_listDegrees_262 rfl ?_
                                    refine e_iald C 4 0 rfl rfl (vp_in_nI (by omega) (by omega)) d_MD_listDegrees_264 ?_
                                    refine e_st [.int (fde b)] (by rw [nI_clamp (by omega)]) ?_
                                    refine e_st [.int (nI ((dgC el c e) b))] (by rw [hD b hab.2.1]) ?_
                                    refine e_iload_n C d_MD_listDegrees_265 rfl rfl ?_
                                    refine e_icmp_gt (tgt := 317) C d_MD_listDegrees_266 (by decide) (fun h266 => ?_) (fun h266 => ?_)
                                    · -- 317
                                      refine e_iconst (v := 0) C d_MD_listDegrees_317 rfl ?_
                                      refine e_lv [(0, .ref m), (1, .int (nI due)), (2, .int (nI e)), (3, .long (stC c e)), (5, .int (nI a)), (6, .int (nI b))] ⟨rfl, rfl, rfl, rfl, rfl, rfl, trivial⟩ ?_
                                      exact J318 0 (by unfold gdF; (first | rw [decide_eq_true (due_le (hDb a) (by omega) h255)] | rw [decide_eq_false (due_gt (hDb a) (by omega) h255)]); (first | rw [decide_eq_true (due_le (hDb b) (by omega) h266)] | rw [decide_eq_false (due_gt (hDb b) (by omega) h266)]); simp [bI])
                                    · -- 269
                                      refine e_aload_n C d_MD_listDegrees_269 rfl rfl ?_
                                      refine e_get C hin_MD 0 rfl rfl 22 (by decide) fl_MD_50 rfl d_MD_listDegrees_270 ?_
                                      refine e_iload C d_MD_listDegrees_273 rfl ?_
                                      refine e_iald C 5 0 rfl rfl (vp_in_nI (by omega) (by omega)) d_MD_listDegrees_275 ?_
                                      refine e_st [.int (fla a)] (by rw [nI_clamp (by omega)]) ?_
                                      refine e_st [.int ((laL el (2 * el.length)) a)] (by rw [hl2 a hab.1]) ?_
                                      refine e_iload_n C d_MD_listDegrees_276 rfl rfl ?_
                                      refine e_icmp_ne (tgt := 291) C d_MD_listDegrees_277 (by decide) (fun h277 => ?_) (fun h277 => ?_)
                                      · -- 291
                                        refine e_aload_n C d_MD_listDegrees_291 rfl rfl ?_
                                        refine e_get C hin_MD 0 rfl rfl 22 (by decide) fl_MD_50 rfl d_MD_listDegrees_292 ?_
                                        refine e_iload C d_MD_listDegrees_295 rfl ?_
                                        refine e_iald C 5 0 rfl rfl (vp_in_nI (by omega) (by omega)) d_MD_listDegrees_297 ?_
                                        refine e_st [.int (fla b)] (by rw [nI_clamp (by omega)]) ?_
                                        refine e_st [.int ((laL el (2 * el.length)) b)] (by rw [hl2 b hab.2.1]) ?_
                                        refine e_iload_n C d_MD_listDegrees_298 rfl rfl ?_
                                        refine e_icmp_ne (tgt := 313) C d_MD_listDegrees_299 (by decide) (fun h299 => ?_) (fun h299 => ?_)
                                        · -- 313
                                          refine e_iconst (v := 1) C d_MD_listDegrees_313 rfl ?_
                                          refine e_goto (tgt := 318) C d_MD_listDegrees_314 (by decide) ?_
                                          refine e_lv [(0, .ref m), (1, .int (nI due)), (2, .int (nI e)), (3, .long (stC c e)), (5, .int (nI a)), (6, .int (nI b))] ⟨rfl, rfl, rfl, rfl, rfl, rfl, trivial⟩ ?_
                                          exact J318 1 (by unfold gdF; (first | rw [decide_eq_true (due_le (hDb a) (by omega) h255)] | rw [decide_eq_false (due_gt (hDb a) (by omega) h255)]); (first | rw [decide_eq_true (due_le (hDb b) (by omega) h266)] | rw [decide_eq_false (due_gt (hDb b) (by omega) h266)]); (first | rw [decide_eq_true h277] | rw [decide_eq_false h277]); (first | rw [decide_eq_true h299] | rw [decide_eq_false h299]); simp [bI])
                                        · -- 302
                                          refine e_aload_n C d_MD_listDegrees_302 rfl rfl ?_
                                          refine e_get C hin_MD 0 rfl rfl 21 (by decide) fl_MD_47 rfl d_MD_listDegrees_303 ?_
                                          refine e_iload C d_MD_listDegrees_306 rfl ?_
                                          refine e_iald C 4 0 rfl rfl (vp_in_nI (by omega) (by omega)) d_MD_listDegrees_308 ?_
                                          refine e_st [.int (fde b)] (by rw [nI_clamp (by omega)]) ?_
                                          refine e_st [.int (nI ((dgC el c e) b))] (by rw [hD b hab.2.1]) ?_
                                          refine e_iload_n C d_MD_listDegrees_309 rfl rfl ?_
                                          refine e_icmp_ne (tgt := 317) C d_MD_listDegrees_310 (by decide) (fun h310 => ?_) (fun h310 => ?_)
                                          · -- 317
                                            refine e_iconst (v := 0) C d_MD_listDegrees_317 rfl ?_
                                            refine e_lv [(0, .ref m), (1, .int (nI due)), (2, .int (nI e)), (3, .long (stC c e)), (5, .int (nI a)), (6, .int (nI b))] ⟨rfl, rfl, rfl, rfl, rfl, rfl, trivial⟩ ?_
                                            exact J318 0 (by unfold gdF; (first | rw [decide_eq_true (due_le (hDb a) (by omega) h255)] | rw [decide_eq_false (due_gt (hDb a) (by omega) h255)]); (first | rw [decide_eq_true (due_le (hDb b) (by omega) h266)] | rw [decide_eq_false (due_gt (hDb b) (by omega) h266)]); (first | rw [decide_eq_true h277] | rw [decide_eq_false h277]); (first | rw [decide_eq_true h299] | rw [decide_eq_false h299]); (first | rw [decide_eq_true (due_eq (hDb b) (by omega) h310)] | rw [decide_eq_false (due_ne h310)]); simp [bI])
                                          · -- 313
                                            refine e_iconst (v := 1) C d_MD_listDegrees_313 rfl ?_
                                            refine e_goto (tgt := 318) C d_MD_listDegrees_314 (by decide) ?_
                                            refine e_lv [(0, .ref m), (1, .int (nI due)), (2, .int (nI e)), (3, .long (stC c e)), (5, .int (nI a)), (6, .int (nI b))] ⟨rfl, rfl, rfl, rfl, rfl, rfl, trivial⟩ ?_
                                            exact J318 1 (by unfold gdF; (first | rw [decide_eq_true (due_le (hDb a) (by omega) h255)] | rw [decide_eq_false (due_gt (hDb a) (by omega) h255)]); (first | rw [decide_eq_true (due_le (hDb b) (by omega) h266)] | rw [decide_eq_false (due_gt (hDb b) (by omega) h266)]); (first | rw [decide_eq_true h277] | rw [decide_eq_false h277]); (first | rw [decide_eq_true h299] | rw [decide_eq_false h299]); (first | rw [decide_eq_true (due_eq (hDb b) (by omega) h310)] | rw [decide_eq_false (due_ne h310)]); simp [bI])
                                      · -- 280
                                        refine e_aload_n C d_MD_listDegrees_280 rfl rfl ?_
                                        refine e_get C hin_MD 0 rfl rfl 21 (by decide) fl_MD_47 rfl d_MD_listDegrees_281 ?_
                                        refine e_iload C d_MD_listDegrees_284 rfl ?_
                                        refine e_iald C 4 0 rfl rfl (vp_in_nI (by omega) (by omega)) d_MD_listDegrees_286 ?_
                                        refine e_st [.int (fde a)] (by rw [nI_clamp (by omega)]) ?_
                                        refine e_st [.int (nI ((dgC el c e) a))] (by rw [hD a hab.1]) ?_
                                        refine e_iload_n C d_MD_listDegrees_287 rfl rfl ?_
                                        refine e_icmp_ne (tgt := 317) C d_MD_listDegrees_288 (by decide) (fun h288 => ?_) (fun h288 => ?_)
                                        · -- 317
                                          refine e_iconst (v := 0) C d_MD_listDegrees_317 rfl ?_
                                          refine e_lv [(0, .ref m), (1, .int (nI due)), (2, .int (nI e)), (3, .long (stC c e)), (5, .int (nI a)), (6, .int (nI b))] ⟨rfl, rfl, rfl, rfl, rfl, rfl, trivial⟩ ?_
                                          exact J318 0 (by unfold gdF; (first | rw [decide_eq_true (due_le (hDb a) (by omega) h255)] | rw [decide_eq_false (due_gt (hDb a) (by omega) h255)]); (first | rw [decide_eq_true (due_le (hDb b) (by omega) h266)] | rw [decide_eq_false (due_gt (hDb b) (by omega) h266)]); (first | rw [decide_eq_true h277] | rw [decide_eq_false h277]); (first | rw [decide_eq_true (due_eq (hDb a) (by omega) h288)] | rw [decide_eq_false (due_ne h288)]); simp [bI])
                                        · -- 291
                                          refine e_aload_n C d_MD_listDegrees_291 rfl rfl ?_
                                          refine e_get C hin_MD 0 rfl rfl 22 (by decide) fl_MD_50 rfl d_MD_listDegrees_292 ?_
                                          refine e_iload C d_MD_listDegrees_295 rfl ?_
                                          refine e_iald C 5 0 rfl rfl (vp_in_nI (by omega) (by omega)) d_MD_listDegrees_297 ?_
                                          refine e_st [.int (fla b)] (by rw [nI_clamp (by omega)]) ?_
                                          refine e_st [.int ((laL el (2 * el.length)) b)] (by rw [hl2 b hab.2.1]) ?_
                                          refine e_iload_n C d_MD_listDegrees_298 rfl rfl ?_
                                          refine e_icmp_ne (tgt := 313) C d_MD_listDegrees_299 (by decide) (fun h299 => ?_) (fun h299 => ?_)
                                          · -- 313
                                            refine e_iconst (v := 1) C d_MD_listDegrees_313 rfl ?_
                                            refine e_goto (tgt := 318) C d_MD_listDegrees_314 (by decide) ?_
                                            refine e_lv [(0, .ref m), (1, .int (nI due)), (2, .int (nI e)), (3, .long (stC c e)), (5, .int (nI a)), (6, .int (nI b))] ⟨rfl, rfl, rfl, rfl, rfl, rfl, trivial⟩ ?_
                                            exact J318 1 (by unfold gdF; (first | rw [decide_eq_true (due_le (hDb a) (by omega) h255)] | rw [decide_eq_false (due_gt (hDb a) (by omega) h255)]); (first | rw [decide_eq_true (due_le (hDb b) (by omega) h266)] | rw [decide_eq_false (due_gt (hDb b) (by omega) h266)]); (first | rw [decide_eq_true h277] | rw [decide_eq_false h277]); (first | rw [decide_eq_true h299] | rw [decide_eq_false h299]); (first | rw [decide_eq_true (due_eq (hDb a) (by omega) h288)] | rw [decide_eq_false (due_ne h288)]); simp [bI])
                                          · -- 302
                                            refine e_aload_n C d_MD_listDegrees_302 rfl rfl ?_
                                            refine e_get C hin_MD 0 rfl rfl 21 (by decide) fl_MD_47 rfl d_MD_listDegrees_303 ?_
                                            refine e_iload C d_MD_listDegrees_306 rfl ?_
                                            refine e_iald C 4 0 rfl rfl (vp_in_nI (by omega) (by omega)) d_MD_listDegrees_308 ?_
                                            refine e_st [.int (fde b)] (by rw [nI_clamp (by omega)]) ?_
                                            refine e_st [.int (nI ((dgC el c e) b))] (by rw [hD b hab.2.1]) ?_
                                            refine e_iload_n C d_MD_listDegrees_309 rfl rfl ?_
                                            refine e_icmp_ne (tgt := 317) C d_MD_listDegrees_310 (by decide) (fun h310 => ?_) (fun h310 => ?_)
                                            · -- 317
                                              refine e_iconst (v := 0) C d_MD_listDegrees_317 rfl ?_
                                              refine e_lv [(0, .ref m), (1, .int (nI due)), (2, .int (nI e)), (3, .long (stC c e)), (5, .int (nI a)), (6, .int (nI b))] ⟨rfl, rfl, rfl, rfl, rfl, rfl, trivial⟩ ?_
                                              exact J318 0 (by unfold gdF; (first | rw [decide_eq_true (due_le (hDb a) (by omega) h255)] | rw [decide_eq_false (due_gt (hDb a) (by omega) h255)]); (first | rw [decide_eq_true (due_le (hDb b) (by omega) h266)] | rw [decide_eq_false (due_gt (hDb b) (by omega) h266)]); (first | rw [decide_eq_true h277] | rw [decide_eq_false h277]); (first | rw [decide_eq_true h299] | rw [decide_eq_false h299]); (first | rw [decide_eq_true (due_eq (hDb a) (by omega) h288)] | rw [decide_eq_false (due_ne h288)]); (first | rw [decide_eq_true (due_eq (hDb b) (by omega) h310)] | rw [decide_eq_false (due_ne h310)]); simp [bI])
                                            · -- 313
                                              refine e_iconst (v := 1) C d_MD_listDegrees_313 rfl ?_
                                              refine e_goto (tgt := 318) C d_MD_listDegrees_314 (by decide) ?_
                                              refine e_lv [(0, .ref m), (1, .int (nI due)), (2, .int (nI e)), (3, .long (stC c e)), (5, .int (nI a)), (6, .int (nI b))] ⟨rfl, rfl, rfl, rfl, rfl, rfl, trivial⟩ ?_
                                              exact J318 1 (by unfold gdF; (first | rw [decide_eq_true (due_le (hDb a) (by omega) h255)] | rw [decide_eq_false (due_gt (hDb a) (by omega) h255)]); (first | rw [decide_eq_true (due_le (hDb b) (by omega) h266)] | rw [decide_eq_false (due_gt (hDb b) (by omega) h266)]); (first | rw [decide_eq_true h277] | rw [decide_eq_false h277]); (first | rw [decide_eq_true h299] | rw [decide_eq_false h299]); (first | rw [decide_eq_true (due_eq (hDb a) (by omega) h288)] | rw [decide_eq_false (due_ne h288)]); (first | rw [decide_eq_true (due_eq (hDb b) (by omega) h310)] | rw [decide_eq_false (due_ne h310)]); simp [bI])
                                · exact absurd h216 (by decide)
                              · exact absurd h158 (by decide)
                            · subst z
                              have hy0 : yF el.length 1 (e + 1) = e := yF01 (by decide)
                              rw [hy0] at hd
                              refine e_lv [(0, .ref m), (1, .int (nI due)), (2, .int (nI e)), (3, .long (stC c e))] ⟨rfl, rfl, rfl, congrArg (fun z => some (Value.long (stC c z))) hy0, trivial⟩ ?_
                              refine e_aload_n C d_MD_listDegrees_129 rfl rfl ?_
                              refine e_get C hin_MD 0 rfl rfl 9 (by decide) fl_MD_23 rfl d_MD_listDegrees_130 ?_
                              refine e_iconst (v := 2) C d_MD_listDegrees_133 rfl ?_
                              refine e_iload_n C d_MD_listDegrees_134 rfl rfl ?_
                              refine e_imul C d_MD_listDegrees_135 ?_
                              refine e_st [.int (nI (2 * e)), .ref aen] (by rw [show (2 : Int32) * nI e = nI (2 * e) from pk_mul 2 e]) ?_
                              refine e_iald C 2 0 rfl rfl (vp_in_nI (by omega) (by omega)) d_MD_listDegrees_136 ?_
                              refine e_st [.int (fen (2 * e))] (by rw [nI_clamp (by omega)]) ?_
                              refine e_st [.int (nI a)] (by rw [(hen e a b hsv).1]) ?_
                              refine e_istore C d_MD_listDegrees_137 (by decide) ?_
                              refine e_aload_n C d_MD_listDegrees_139 rfl rfl ?_
                              refine e_get C hin_MD 0 rfl rfl 9 (by decide) fl_MD_23 rfl d_MD_listDegrees_140 ?_
                              refine e_iconst (v := 2) C d_MD_listDegrees_143 rfl ?_
                              refine e_iload_n C d_MD_listDegrees_144 rfl rfl ?_
                              refine e_imul C d_MD_listDegrees_145 ?_
                              refine e_iconst (v := 1) C d_MD_listDegrees_146 rfl ?_
                              refine e_iadd C d_MD_listDegrees_147 ?_
                              refine e_st [.int (nI (2 * e + 1)), .ref aen] (by rw [show (2 : Int32) * nI e = nI (2 * e) from pk_mul 2 e, nI_1]) ?_
                              refine e_iald C 2 0 rfl rfl (vp_in_nI (by omega) (by omega)) d_MD_listDegrees_148 ?_
                              refine e_st [.int (fen (2 * e + 1))] (by rw [nI_clamp (by omega)]) ?_
                              refine e_st [.int (nI b)] (by rw [(hen e a b hsv).2]) ?_
                              refine e_istore C d_MD_listDegrees_149 (by decide) ?_
                              refine e_aload_n C d_MD_listDegrees_151 rfl rfl ?_
                              refine e_get C hin_MD 0 rfl rfl 23 (by decide) fl_MD_53 rfl d_MD_listDegrees_152 ?_
                              refine e_iload_n C d_MD_listDegrees_155 rfl rfl ?_
                              refine e_iald C 6 0 rfl rfl (vp_in_nI (by omega) (by omega)) d_MD_listDegrees_156 ?_
                              refine e_st [.int (fch e)] (by rw [nI_clamp (by omega)]) ?_
                              refine e_st [.int 0] (by rw [hch.1]; rfl) ?_
                              refine e_iconst (v := 1) C d_MD_listDegrees_157 rfl ?_
                              refine e_icmp_ne (tgt := 199) C d_MD_listDegrees_158 (by decide) (fun h158 => ?_) (fun h158 => ?_)
                              · -- 199
                                refine e_aload_n C d_MD_listDegrees_199 rfl rfl ?_
                                refine e_get C hin_MD 0 rfl rfl 23 (by decide) fl_MD_53 rfl d_MD_listDegrees_200 ?_
                                refine e_iload_n C d_MD_listDegrees_203 rfl rfl ?_
                                refine e_dup2_11 C d_MD_listDegrees_204 rfl rfl ?_
                                refine e_iald C 6 0 rfl rfl (vp_in_nI (by omega) (by omega)) d_MD_listDegrees_205 ?_
                                refine e_st [.int (fch e), .int (nI e), .ref ach] (by rw [nI_clamp (by omega)]) ?_
                                refine e_st [.int 0, .int (nI e), .ref ach] (by rw [hch.1]; rfl) ?_
                                refine e_iconst (v := 1) C d_MD_listDegrees_206 rfl ?_
                                refine e_iadd C d_MD_listDegrees_207 ?_
                                refine e_st [.int 1, .int (nI e), .ref ach] (by rfl) ?_
                                refine e_iast C 6 0 rfl rfl (vp_in_nI (by omega) (by omega)) d_MD_listDegrees_208 ?_
                                refine e_ws [oMD m th kd (nI w) (nI h) aho aaw fi sc (nI el.length) aen ato (bI li) (nI out.length) awa aot (bI drn) wyv rkv awk atr ase ade ala ach apa asq, aZ cZ aho 25 (bF hb), aI cI aen 80 fen, aJ cJ awa 40000 fw, aI cI ade 25 fde, aI cI ala 25 fla, aI cI ach 41 (upd fch e 1)] (by rw [nI_clamp (by omega)]; rfl) ?_
                                refine e_aload_n C d_MD_listDegrees_209 rfl rfl ?_
                                refine e_get C hin_MD 0 rfl rfl 23 (by decide) fl_MD_53 rfl d_MD_listDegrees_210 ?_
                                refine e_iload_n C d_MD_listDegrees_213 rfl rfl ?_
                                refine e_iald C 6 0 rfl rfl (vp_in_nI (by omega) (by omega)) d_MD_listDegrees_214 ?_
                                refine e_st [.int ((upd fch e 1) e)] (by rw [nI_clamp (by omega)]) ?_
                                refine e_st [.int 1] (by rw [pk_us]) ?_
                                refine e_iconst (v := 1) C d_MD_listDegrees_215 rfl ?_
                                refine e_icmp_ne (tgt := 247) C d_MD_listDegrees_216 (by decide) (fun h216 => ?_) (fun h216 => ?_)
                                · exact absurd rfl h216
                                · -- 219
                                  refine e_aload_n C d_MD_listDegrees_219 rfl rfl ?_
                                  refine e_get C hin_MD 0 rfl rfl 21 (by decide) fl_MD_47 rfl d_MD_listDegrees_220 ?_
                                  refine e_iload C d_MD_listDegrees_223 rfl ?_
                                  refine e_dup2_11 C d_MD_listDegrees_225 rfl rfl ?_
                                  refine e_iald C 4 0 rfl rfl (vp_in_nI (by omega) (by omega)) d_MD_listDegrees_226 ?_
                                  refine e_st [.int (fde a), .int (nI a), .ref ade] (by rw [nI_clamp (by omega)]) ?_
                                  refine e_iconst (v := 1) C d_MD_listDegrees_227 rfl ?_
                                  refine e_iadd C d_MD_listDegrees_228 ?_
                                  refine e_iast C 4 0 rfl rfl (vp_in_nI (by omega) (by omega)) d_MD_listDegrees_229 ?_
                                  refine e_ws [oMD m th kd (nI w) (nI h) aho aaw fi sc (nI el.length) aen ato (bI li) (nI out.length) awa aot (bI drn) wyv rkv awk atr ase ade ala ach apa asq, aZ cZ aho 25 (bF hb), aI cI aen 80 fen, aJ cJ awa 40000 fw, aI cI ade 25 (upd fde a ((fde a) + 1)), aI cI ala 25 fla, aI cI ach 41 (upd fch e 1)] (by rw [nI_clamp (by omega)]; rfl) ?_
                                  refine e_aload_n C d_MD_listDegrees_230 rfl rfl ?_
                                  refine e_get C hin_MD 0 rfl rfl 21 (by decide) fl_MD_47 rfl d_MD_listDegrees_231 ?_
                                  refine e_iload C d_MD_listDegrees_234 rfl ?_
                                  refine e_dup2_11 C d_MD_listDegrees_236 rfl rfl ?_
                                  refine e_iald C 4 0 rfl rfl (vp_in_nI (by omega) (by omega)) d_MD_listDegrees_237 ?_
                                  refine e_st [.int ((upd fde a ((fde a) + 1)) b), .int (nI b), .ref ade] (by rw [nI_clamp (by omega)]) ?_
                                  refine e_iconst (v := 1) C d_MD_listDegrees_238 rfl ?_
                                  refine e_iadd C d_MD_listDegrees_239 ?_
                                  refine e_iast C 4 0 rfl rfl (vp_in_nI (by omega) (by omega)) d_MD_listDegrees_240 ?_
                                  refine e_ws [oMD m th kd (nI w) (nI h) aho aaw fi sc (nI el.length) aen ato (bI li) (nI out.length) awa aot (bI drn) wyv rkv awk atr ase ade ala ach apa asq, aZ cZ aho 25 (bF hb), aI cI aen 80 fen, aJ cJ awa 40000 fw, aI cI ade 25 (upd (upd fde a ((fde a) + 1)) b (((upd fde a ((fde a) + 1)) b) + 1)), aI cI ala 25 fla, aI cI ach 41 (upd fch e 1)] (by rw [nI_clamp (by omega)]; rfl) ?_
                                  refine e_lload_n C d_MD_listDegrees_241 rfl rfl ?_
                                  refine e_lconst (v := 1) C d_MD_listDegrees_242 rfl ?_
                                  refine e_iload_n C d_MD_listDegrees_243 rfl rfl ?_
                                  refine e_lshl C d_MD_listDegrees_244 ?_
                                  refine e_st [.long (bitL e), .long (stC c e)] rfl ?_
                                  refine e_lor C d_MD_listDegrees_245 ?_
                                  refine e_lstore_n C d_MD_listDegrees_246 rfl (by decide) ?_
                                  have hD : ∀ p, p < 25 → (upd (upd fde a ((fde a) + 1)) b (((upd fde a ((fde a) + 1)) b) + 1)) p = nI ((dgU (dgC el c e) a b) p) := do_deg hd hab.1 hab.2.1
                                  have hDb : ∀ p, (dgU (dgC el c e) a b) p < 2 ^ 31 := fun p => by have := dgU_le (a := a) (b := b) (p := p) hdl; omega
                                  refine e_lv [(0, .ref m), (1, .int (nI due)), (2, .int (nI e)), (3, .long ((stC c e) ||| (bitL e))), (5, .int (nI a)), (6, .int (nI b))] ⟨rfl, rfl, rfl, rfl, rfl, rfl, trivial⟩ ?_
                                  have J318 : ∀ (y318 : Int32), y318 = bI (gdF due (laL el (2 * el.length)) (dgU (dgC el c e) a b) a b e) → E κ (lu_o [(0, .ref m), (1, .int (nI due)), (2, .int (nI e)), (3, .long ((stC c e) ||| (bitL e))), (5, .int (nI a)), (6, .int (nI b))]) [.int y318] [oMD m th kd (nI w) (nI h) aho aaw fi sc (nI el.length) aen ato (bI li) (nI out.length) awa aot (bI drn) wyv rkv awk atr ase ade ala ach apa asq, aZ cZ aho 25 (bF hb), aI cI aen 80 fen, aJ cJ awa 40000 fw, aI cI ade 25 (upd (upd fde a ((fde a) + 1)) b (((upd fde a ((fde a) + 1)) b) + 1)), aI cI ala 25 fla, aI cI ach 41 (upd fch e 1)] 0 0 318 := by
                                    intro y318 ey318
                                    refine e_istore C d_MD_listDegrees_318 (by decide) ?_
                                    refine e_iload C d_MD_listDegrees_320 rfl ?_
                                    refine e_st [.int (bI (gdF due (laL el (2 * el.length)) (dgU (dgC el c e) a b) a b e))] (by rw [ey318]) ?_
                                    refine e_if_ne (tgt := 328) C d_MD_listDegrees_322 (by decide) (fun h322 => ?_) (fun h322 => ?_)
                                    · -- 328
                                      refine e_iinc (v := (nI e) + 1) C d_MD_listDegrees_328 rfl rfl (by decide) ?_
                                      refine e_lv [(0, .ref m), (1, .int (nI due)), (2, .int (nI (e + 1))), (3, .long ((stC c e) ||| (bitL e))), (5, .int (nI a)), (6, .int (nI b)), (7, .int y318)] ⟨rfl, rfl, congrArg (fun z => some (Value.int z)) (nI_1 e), rfl, rfl, rfl, rfl, trivial⟩ ?_
                                      refine e_aload_n C d_MD_listDegrees_331 rfl rfl ?_
                                      refine e_get C hin_MD 0 rfl rfl 23 (by decide) fl_MD_53 rfl d_MD_listDegrees_332 ?_
                                      refine e_iload_n C d_MD_listDegrees_335 rfl rfl ?_
                                      refine e_iconst (v := (-1)) C d_MD_listDegrees_336 rfl ?_
                                      refine e_iast C 6 0 rfl rfl (vp_in_nI (by omega) (by omega)) d_MD_listDegrees_337 ?_
                                      refine e_ws [oMD m th kd (nI w) (nI h) aho aaw fi sc (nI el.length) aen ato (bI li) (nI out.length) awa aot (bI drn) wyv rkv awk atr ase ade ala ach apa asq, aZ cZ aho 25 (bF hb), aI cI aen 80 fen, aJ cJ awa 40000 fw, aI cI ade 25 (upd (upd fde a ((fde a) + 1)) b (((upd fde a ((fde a) + 1)) b) + 1)), aI cI ala 25 fla, aI cI ach 41 (upd (upd fch e 1) (e + 1) (-1))] (by rw [nI_clamp (by omega)]; rfl) ?_
                                      have hG : gdF due (laL el (2 * el.length)) (dgU (dgC el c e) a b) a b e = true := by simp only [bI_eq0, Bool.not_eq_false] at h322; exact h322
                                      refine e_goto (tgt := 106) C d_MD_listDegrees_338 (by decide) ?_
                                      have hcv : upN c e 1 e = 1 := upN_s
                                      have hdg : dgC el (upN c e 1) (e + 1) = dgU (dgC el c e) a b := by rw [dgC_1 hcv hsv, dgC_congr (c' := c) up_lo]
                                      have hst : stC (upN c e 1) (e + 1) = stC c e ||| bitL e := by rw [stC_1 hcv, stC_congr (c' := c) up_lo]
                                      have hlt : ldT el due (laL el (2 * el.length)) (upN c e 1) (e + 1) = ldT el due (laL el (2 * el.length)) c e := by show (if upN c e 1 e = 1 then _ else _) = _; rw [if_pos hcv, ldT_congr (c' := c) up_lo]
                                      have hlm : lM el.length (upN c e 1) (e + 1) = 1 + lM el.length c e := by show (if upN c e 1 e = 1 then _ else _) + _ = _; rw [if_pos hcv, lM_congr (c' := c) up_lo]
                                      refine e_lv [(0, .ref m), (1, .int (nI due)), (2, .int (pv (e + 1 + 1))), (3, .long (stC (upN c e 1) (yF el.length 0 (e + 1 + 1))))] ⟨rfl, rfl, by rw [pv_s (e + 1)]; rfl, by rw [yF01 (show (0 : Nat) ≠ 2 by decide), hst]; rfl, trivial⟩ ?_
                                      exact ihLP (e + 1 + 1) 0 (upN c e 1) _ _ fw out (by omega) (by decide) (fun i hi => by rw [pk_un (show i ≠ e + 1 by omega)]; by_cases z : i = e; (rw [z, pk_us, upN_s]; exact ⟨rfl, by decide⟩); (rw [pk_un z, upN_n z]; exact hc i (by omega))) (fun e2 h2 h3 => by rw [show e2 = e + 1 by omega, pk_us]; exact ⟨rfl, fun z => absurd z (by decide)⟩) (fun p hp => by rw [yF01 (show (0 : Nat) ≠ 2 by decide), hdg]; exact hD p hp) hW (by rw [← hT1]; rw [lTop1 heE, ld1_at hsv, if_pos hG]; show out ++ (lTop _ _ _ _ (e + 1) 0 ++ _) = _; rw [hlt, lTop0 (by omega), hdg, hst]) (by rw [lT1 heE] at hm1; show lT _ (e + 1) 0 + _ < _; rw [lT0 (by omega), hlm]; omega)
                                    · -- 325
                                      have hG : gdF due (laL el (2 * el.length)) (dgU (dgC el c e) a b) a b e = false := by simp only [bI_eq0] at h322; exact h322
                                      refine e_goto (tgt := 106) C d_MD_listDegrees_325 (by decide) ?_
                                      have hc1 : upN c e 1 e = 1 := upN_s
                                      refine e_lv [(0, .ref m), (1, .int (nI due)), (2, .int (pv (e + 1))), (3, .long (stC (upN c e 1) (yF el.length 2 (e + 1))))] ⟨rfl, rfl, by rw [pv_s]; rfl, by rw [yF2 heE, stC_1 hc1, stC_congr (c' := c) up_lo]; rfl, trivial⟩ ?_
                                      exact ihLP (e + 1) 2 (upN c e 1) _ _ fw out hx (by decide) (fun i hi => by rw [pk_un (show i ≠ e by omega), up_lo i (by omega)]; exact hc i hi) (fun e2 h2 h3 => by rw [show e2 = e by omega, pk_us]; exact ⟨rfl, fun _ => upN_s⟩) (fun p hp => by rw [yF2 heE, dgC_1 hc1 hsv, dgC_congr (c' := c) up_lo]; exact hD p hp) hW (by rw [← hT1]; show out ++ (lTop _ _ _ _ _ 2 ++ _) = _; rw [lTop2 heE, lTop1 heE, ld1_at hsv, if_neg (Bool.eq_false_iff.mp hG), ldT_congr (c' := c) up_lo]) (by show lT _ _ 2 + _ < _; rw [lT1 heE] at hm1; rw [lT2 heE, lM_congr (c' := c) up_lo]; omega)
                                  refine e_aload_n C d_MD_listDegrees_247 rfl rfl ?_
                                  refine e_get C hin_MD 0 rfl rfl 21 (by decide) fl_MD_47 rfl d_MD_listDegrees_248 ?_
                                  refine e_iload C d_MD_listDegrees_251 rfl ?_
                                  refine e_iald C 4 0 rfl rfl (vp_in_nI (by omega) (by omega)) d_MD_listDegrees_253 ?_
                                  refine e_st [.int ((upd (upd fde a ((fde a) + 1)) b (((upd fde a ((fde a) + 1)) b) + 1)) a)] (by rw [nI_clamp (by omega)]) ?_
                                  refine e_st [.int (nI ((dgU (dgC el c e) a b) a))] (by rw [hD a hab.1]) ?_
                                  refine e_iload_n C d_MD_listDegrees_254 rfl rfl ?_
                                  refine e_icmp_gt (tgt := 317) C d_MD_listDegrees_255 (by decide) (fun h255 => ?_) (fun h255 => ?_)
                                  · -- 317
                                    refine e_iconst (v := 0) C d_MD_listDegrees_317 rfl ?_
                                    refine e_lv [(0, .ref m), (1, .int (nI due)), (2, .int (nI e)), (3, .long ((stC c e) ||| (bitL e))), (5, .int (nI a)), (6, .int (nI b))] ⟨rfl, rfl, rfl, rfl, rfl, rfl, trivial⟩ ?_
                                    exact J318 0 (by unfold gdF; (first | rw [decide_eq_true (due_le (hDb a) (by omega) h255)] | rw [decide_eq_false (due_gt (hDb a) (by omega) h255)]); simp [bI])
                                  · -- 258
                                    refine e_aload_n C d_MD_listDegrees_258 rfl rfl ?_
                                    refine e_get C hin_MD 0 rfl rfl 21 (by decide) fl_MD_47 rfl d_MD_listDegrees_259 ?_
                                    refine e_iload C d_MD_listDegrees_262 rfl ?_
                                    refine e_iald C 4 0 rfl rfl (vp_in_nI (by omega) (by omega)) d_MD_listDegrees_264 ?_
                                    refine e_st [.int ((upd (upd fde a ((fde a) + 1)) b (((upd fde a ((fde a) + 1)) b) + 1)) b)] (by rw [nI_clamp (by omega)]) ?_
                                    refine e_st [.int (nI ((dgU (dgC el c e) a b) b))] (by rw [hD b hab.2.1]) ?_
                                    refine e_iload_n C d_MD_listDegrees_265 rfl rfl ?_
                                    refine e_icmp_gt (tgt := 317) C d_MD_listDegrees_266 (by decide) (fun h266 => ?_) (fun h266 => ?_)
                                    · -- 317
                                      refine e_iconst (v := 0) C d_MD_listDegrees_317 rfl ?_
                                      refine e_lv [(0, .ref m), (1, .int (nI due)), (2, .int (nI e)), (3, .long ((stC c e) ||| (bitL e))), (5, .int (nI a)), (6, .int (nI b))] ⟨rfl, rfl, rfl, rfl, rfl, rfl, trivial⟩ ?_
                                      exact J318 0 (by unfold gdF; (first | rw [decide_eq_true (due_le (hDb a) (by omega) h255)] | rw [decide_eq_false (due_gt (hDb a) (by omega) h255)]); (first | rw [decide_eq_true (due_le (hDb b) (by omega) h266)] | rw [decide_eq_false (due_gt (hDb b) (by omega) h266)]); simp [bI])
                                    · -- 269
                                      refine e_aload_n C d_MD_listDegrees_269 rfl rfl ?_
                                      refine e_get C hin_MD 0 rfl rfl 22 (by decide) fl_MD_50 rfl d_MD_listDegrees_270 ?_
                                      refine e_iload C d_MD_listDegrees_273 rfl ?_
                                      refine e_iald C 5 0 rfl rfl (vp_in_nI (by omega) (by omega)) d_MD_listDegrees_275 ?_
                                      refine e_st [.int (fla a)] (by rw [nI_clamp (by omega)]) ?_
                                      refine e_st [.int ((laL el (2 * el.length)) a)] (by rw [hl2 a hab.1]) ?_
                                      refine e_iload_n C d_MD_listDegrees_276 rfl rfl ?_
                                      refine e_icmp_ne (tgt := 291) C d_MD_listDegrees_277 (by decide) (fun h277 => ?_) (fun h277 => ?_)
                                      · -- 291
                                        refine e_aload_n C d_MD_listDegrees_291 rfl rfl ?_
                                        refine e_get C hin_MD 0 rfl rfl 22 (by decide) fl_MD_50 rfl d_MD_listDegrees_292 ?_
                                        refine e_iload C d_MD_listDegrees_295 rfl ?_
                                        refine e_iald C 5 0 rfl rfl (vp_in_nI (by omega) (by omega)) d_MD_listDegrees_297 ?_
                                        refine e_st [.int (fla b)] (by rw [nI_clamp (by omega)]) ?_
                                        refine e_st [.int ((laL el (2 * el.length)) b)] (by rw [hl2 b hab.2.1]) ?_
                                        refine e_iload_n C d_MD_listDegrees_298 rfl rfl ?_
                                        refine e_icmp_ne (tgt := 313) C d_MD_listDegrees_299 (by decide) (fun h299 => ?_) (fun h299 => ?_)
                                        · -- 313
                                          refine e_iconst (v := 1) C d_MD_listDegrees_313 rfl ?_
                                          refine e_goto (tgt := 318) C d_MD_listDegrees_314 (by decide) ?_
                                          refine e_lv [(0, .ref m), (1, .int (nI due)), (2, .int (nI e)), (3, .long ((stC c e) ||| (bitL e))), (5, .int (nI a)), (6, .int (nI b))] ⟨rfl, rfl, rfl, rfl, rfl, rfl, trivial⟩ ?_
                                          exact J318 1 (by unfold gdF; (first | rw [decide_eq_true (due_le (hDb a) (by omega) h255)] | rw [decide_eq_false (due_gt (hDb a) (by omega) h255)]); (first | rw [decide_eq_true (due_le (hDb b) (by omega) h266)] | rw [decide_eq_false (due_gt (hDb b) (by omega) h266)]); (first | rw [decide_eq_true h277] | rw [decide_eq_false h277]); (first | rw [decide_eq_true h299] | rw [decide_eq_false h299]); simp [bI])
                                        · -- 302
                                          refine e_aload_n C d_MD_listDegrees_302 rfl rfl ?_
                                          refine e_get C hin_MD 0 rfl rfl 21 (by decide) fl_MD_47 rfl d_MD_listDegrees_303 ?_
                                          refine e_iload C d_MD_listDegrees_306 rfl ?_
                                          refine e_iald C 4 0 rfl rfl (vp_in_nI (by omega) (by omega)) d_MD_listDegrees_308 ?_
                                          refine e_st [.int ((upd (upd fde a ((fde a) + 1)) b (((upd fde a ((fde a) + 1)) b) + 1)) b)] (by rw [nI_clamp (by omega)]) ?_
                                          refine e_st [.int (nI ((dgU (dgC el c e) a b) b))] (by rw [hD b hab.2.1]) ?_
                                          refine e_iload_n C d_MD_listDegrees_309 rfl rfl ?_
                                          refine e_icmp_ne (tgt := 317) C d_MD_listDegrees_310 (by decide) (fun h310 => ?_) (fun h310 => ?_)
                                          · -- 317
                                            refine e_iconst (v := 0) C d_MD_listDegrees_317 rfl ?_
                                            refine e_lv [(0, .ref m), (1, .int (nI due)), (2, .int (nI e)), (3, .long ((stC c e) ||| (bitL e))), (5, .int (nI a)), (6, .int (nI b))] ⟨rfl, rfl, rfl, rfl, rfl, rfl, trivial⟩ ?_
                                            exact J318 0 (by unfold gdF; (first | rw [decide_eq_true (due_le (hDb a) (by omega) h255)] | rw [decide_eq_false (due_gt (hDb a) (by omega) h255)]); (first | rw [decide_eq_true (due_le (hDb b) (by omega) h266)] | rw [decide_eq_false (due_gt (hDb b) (by omega) h266)]); (first | rw [decide_eq_true h277] | rw [decide_eq_false h277]); (first | rw [decide_eq_true h299] | rw [decide_eq_false h299]); (first | rw [decide_eq_true (due_eq (hDb b) (by omega) h310)] | rw [decide_eq_false (due_ne h310)]); simp [bI])
                                          · -- 313
                                            refine e_iconst (v := 1) C d_MD_listDegrees_313 rfl ?_
                                            refine e_goto (tgt := 318) C d_MD_listDegrees_314 (by decide) ?_
                                            refine e_lv [(0, .ref m), (1, .int (nI due)), (2, .int (nI e)), (3, .long ((stC c e) ||| (bitL e))), (5, .int (nI a)), (6, .int (nI b))] ⟨rfl, rfl, rfl, rfl, rfl, rfl, trivial⟩ ?_
                                            exact J318 1 (by unfold gdF; (first | rw [decide_eq_true (due_le (hDb a) (by omega) h255)] | rw [decide_eq_false (due_gt (hDb a) (by omega) h255)]); (first | rw [decide_eq_true (due_le (hDb b) (by omega) h266)] | rw [decide_eq_false (due_gt (hDb b) (by omega) h266)]); (first | rw [decide_eq_true h277] | rw [decide_eq_false h277]); (first | rw [decide_eq_true h299] | rw [decide_eq_false h299]); (first | rw [decide_eq_true (due_eq (hDb b) (by omega) h310)] | rw [decide_eq_false (due_ne h310)]); simp [bI])
                                      · -- 280
                                        refine e_aload_n C d_MD_listDegrees_280 rfl rfl ?_
                                        refine e_get C hin_MD 0 rfl rfl 21 (by decide) fl_MD_47 rfl d_MD_listDegrees_281 ?_
                                        refine e_iload C d_MD_listDegrees_284 rfl ?_
                                        refine e_iald C 4 0 rfl rfl (vp_in_nI (by omega) (by omega)) d_MD_listDegrees_286 ?_
                                        refine e_st [.int ((upd (upd fde a ((fde a) + 1)) b (((upd fde a ((fde a) + 1)) b) + 1)) a)] (by rw [nI_clamp (by omega)]) ?_
                                        refine e_st [.int (nI ((dgU (dgC el c e) a b) a))] (by rw [hD a hab.1]) ?_
                                        refine e_iload_n C d_MD_listDegrees_287 rfl rfl ?_
                                        refine e_icmp_ne (tgt := 317) C d_MD_listDegrees_288 (by decide) (fun h288 => ?_) (fun h288 => ?_)
                                        · -- 317
                                          refine e_iconst (v := 0) C d_MD_listDegrees_317 rfl ?_
                                          refine e_lv [(0, .ref m), (1, .int (nI due)), (2, .int (nI e)), (3, .long ((stC c e) ||| (bitL e))), (5, .int (nI a)), (6, .int (nI b))] ⟨rfl, rfl, rfl, rfl, rfl, rfl, trivial⟩ ?_
                                          exact J318 0 (by unfold gdF; (first | rw [decide_eq_true (due_le (hDb a) (by omega) h255)] | rw [decide_eq_false (due_gt (hDb a) (by omega) h255)]); (first | rw [decide_eq_true (due_le (hDb b) (by omega) h266)] | rw [decide_eq_false (due_gt (hDb b) (by omega) h266)]); (first | rw [decide_eq_true h277] | rw [decide_eq_false h277]); (first | rw [decide_eq_true (due_eq (hDb a) (by omega) h288)] | rw [decide_eq_false (due_ne h288)]); simp [bI])
                                        · -- 291
                                          refine e_aload_n C d_MD_listDegrees_291 rfl rfl ?_
                                          refine e_get C hin_MD 0 rfl rfl 22 (by decide) fl_MD_50 rfl d_MD_listDegrees_292 ?_
                                          refine e_iload C d_MD_listDegrees_295 rfl ?_
                                          refine e_iald C 5 0 rfl rfl (vp_in_nI (by omega) (by omega)) d_MD_listDegrees_297 ?_
                                          refine e_st [.int (fla b)] (by rw [nI_clamp (by omega)]) ?_
                                          refine e_st [.int ((laL el (2 * el.length)) b)] (by rw [hl2 b hab.2.1]) ?_
                                          refine e_iload_n C d_MD_listDegrees_298 rfl rfl ?_
                                          refine e_icmp_ne (tgt := 313) C d_MD_listDegrees_299 (by decide) (fun h299 => ?_) (fun h299 => ?_)
                                          · -- 313
                                            refine e_iconst (v := 1) C d_MD_listDegrees_313 rfl ?_
                                            refine e_goto (tgt := 318) C d_MD_listDegrees_314 (by decide) ?_
                                            refine e_lv [(0, .ref m), (1, .int (nI due)), (2, .int (nI e)), (3, .long ((stC c e) ||| (bitL e))), (5, .int (nI a)), (6, .int (nI b))] ⟨rfl, rfl, rfl, rfl, rfl, rfl, trivial⟩ ?_
                                            exact J318 1 (by unfold gdF; (first | rw [decide_eq_true (due_le (hDb a) (by omega) h255)] | rw [decide_eq_false (due_gt (hDb a) (by omega) h255)]); (first | rw [decide_eq_true (due_le (hDb b) (by omega) h266)] | rw [decide_eq_false (due_gt (hDb b) (by omega) h266)]); (first | rw [decide_eq_true h277] | rw [decide_eq_false h277]); (first | rw [decide_eq_true h299] | rw [decide_eq_false h299]); (first | rw [decide_eq_true (due_eq (hDb a) (by omega) h288)] | rw [decide_eq_false (due_ne h288)]); simp [bI])
                                          · -- 302
                                            refine e_aload_n C d_MD_listDegrees_302 rfl rfl ?_
                                            refine e_get C hin_MD 0 rfl rfl 21 (by decide) fl_MD_47 rfl d_MD_listDegrees_303 ?_
                                            refine e_iload C d_MD_listDegrees_306 rfl ?_
                                            refine e_iald C 4 0 rfl rfl (vp_in_nI (by omega) (by omega)) d_MD_listDegrees_308 ?_
                                            refine e_st [.int ((upd (upd fde a ((fde a) + 1)) b (((upd fde a ((fde a) + 1)) b) + 1)) b)] (by rw [nI_clamp (by omega)]) ?_
                                            refine e_st [.int (nI ((dgU (dgC el c e) a b) b))] (by rw [hD b hab.2.1]) ?_
                                            refine e_iload_n C d_MD_listDegrees_309 rfl rfl ?_
                                            refine e_icmp_ne (tgt := 317) C d_MD_listDegrees_310 (by decide) (fun h310 => ?_) (fun h310 => ?_)
                                            · -- 317
                                              refine e_iconst (v := 0) C d_MD_listDegrees_317 rfl ?_
                                              refine e_lv [(0, .ref m), (1, .int (nI due)), (2, .int (nI e)), (3, .long ((stC c e) ||| (bitL e))), (5, .int (nI a)), (6, .int (nI b))] ⟨rfl, rfl, rfl, rfl, rfl, rfl, trivial⟩ ?_
                                              exact J318 0 (by unfold gdF; (first | rw [decide_eq_true (due_le (hDb a) (by omega) h255)] | rw [decide_eq_false (due_gt (hDb a) (by omega) h255)]); (first | rw [decide_eq_true (due_le (hDb b) (by omega) h266)] | rw [decide_eq_false (due_gt (hDb b) (by omega) h266)]); (first | rw [decide_eq_true h277] | rw [decide_eq_false h277]); (first | rw [decide_eq_true h299] | rw [decide_eq_false h299]); (first | rw [decide_eq_true (due_eq (hDb a) (by omega) h288)] | rw [decide_eq_false (due_ne h288)]); (first | rw [decide_eq_true (due_eq (hDb b) (by omega) h310)] | rw [decide_eq_false (due_ne h310)]); simp [bI])
                                            · -- 313
                                              refine e_iconst (v := 1) C d_MD_listDegrees_313 rfl ?_
                                              refine e_goto (tgt := 318) C d_MD_listDegrees_314 (by decide) ?_
                                              refine e_lv [(0, .ref m), (1, .int (nI due)), (2, .int (nI e)), (3, .long ((stC c e) ||| (bitL e))), (5, .int (nI a)), (6, .int (nI b))] ⟨rfl, rfl, rfl, rfl, rfl, rfl, trivial⟩ ?_
                                              exact J318 1 (by unfold gdF; (first | rw [decide_eq_true (due_le (hDb a) (by omega) h255)] | rw [decide_eq_false (due_gt (hDb a) (by omega) h255)]); (first | rw [decide_eq_true (due_le (hDb b) (by omega) h266)] | rw [decide_eq_false (due_gt (hDb b) (by omega) h266)]); (first | rw [decide_eq_true h277] | rw [decide_eq_false h277]); (first | rw [decide_eq_true h299] | rw [decide_eq_false h299]); (first | rw [decide_eq_true (due_eq (hDb a) (by omega) h288)] | rw [decide_eq_false (due_ne h288)]); (first | rw [decide_eq_true (due_eq (hDb b) (by omega) h310)] | rw [decide_eq_false (due_ne h310)]); simp [bI])
                              · exact absurd h158 (by decide)
                            · subst z
                              have hc1 : c e = 1 := hch.2 rfl
                              have hy2 : yF el.length 2 (e + 1) = e + 1 := yF2 heE
                              rw [hy2, dgC_1 hc1 hsv] at hd
                              refine e_lv [(0, .ref m), (1, .int (nI due)), (2, .int (nI e)), (3, .long (stC c e ||| bitL e))] ⟨rfl, rfl, rfl, (congrArg (fun z => some (Value.long (stC c z))) hy2).trans (congrArg (fun z => some (Value.long z)) (stC_1 hc1)), trivial⟩ ?_
                              refine e_aload_n C d_MD_listDegrees_129 rfl rfl ?_
                              refine e_get C hin_MD 0 rfl rfl 9 (by decide) fl_MD_23 rfl d_MD_listDegrees_130 ?_
                              refine e_iconst (v := 2) C d_MD_listDegrees_133 rfl ?_
                              refine e_iload_n C d_MD_listDegrees_134 rfl rfl ?_
                              refine e_imul C d_MD_listDegrees_135 ?_
                              refine e_st [.int (nI (2 * e)), .ref aen] (by rw [show (2 : Int32) * nI e = nI (2 * e) from pk_mul 2 e]) ?_
                              refine e_iald C 2 0 rfl rfl (vp_in_nI (by omega) (by omega)) d_MD_listDegrees_136 ?_
                              refine e_st [.int (fen (2 * e))] (by rw [nI_clamp (by omega)]) ?_
                              refine e_st [.int (nI a)] (by rw [(hen e a b hsv).1]) ?_
                              refine e_istore C d_MD_listDegrees_137 (by decide) ?_
                              refine e_aload_n C d_MD_listDegrees_139 rfl rfl ?_
                              refine e_get C hin_MD 0 rfl rfl 9 (by decide) fl_MD_23 rfl d_MD_listDegrees_140 ?_
                              refine e_iconst (v := 2) C d_MD_listDegrees_143 rfl ?_
                              refine e_iload_n C d_MD_listDegrees_144 rfl rfl ?_
                              refine e_imul C d_MD_listDegrees_145 ?_
                              refine e_iconst (v := 1) C d_MD_listDegrees_146 rfl ?_
                              refine e_iadd C d_MD_listDegrees_147 ?_
                              refine e_st [.int (nI (2 * e + 1)), .ref aen] (by rw [show (2 : Int32) * nI e = nI (2 * e) from pk_mul 2 e, nI_1]) ?_
                              refine e_iald C 2 0 rfl rfl (vp_in_nI (by omega) (by omega)) d_MD_listDegrees_148 ?_
                              refine e_st [.int (fen (2 * e + 1))] (by rw [nI_clamp (by omega)]) ?_
                              refine e_st [.int (nI b)] (by rw [(hen e a b hsv).2]) ?_
                              refine e_istore C d_MD_listDegrees_149 (by decide) ?_
                              refine e_aload_n C d_MD_listDegrees_151 rfl rfl ?_
                              refine e_get C hin_MD 0 rfl rfl 23 (by decide) fl_MD_53 rfl d_MD_listDegrees_152 ?_
                              refine e_iload_n C d_MD_listDegrees_155 rfl rfl ?_
                              refine e_iald C 6 0 rfl rfl (vp_in_nI (by omega) (by omega)) d_MD_listDegrees_156 ?_
                              refine e_st [.int (fch e)] (by rw [nI_clamp (by omega)]) ?_
                              refine e_st [.int 1] (by rw [hch.1]; rfl) ?_
                              refine e_iconst (v := 1) C d_MD_listDegrees_157 rfl ?_
                              refine e_icmp_ne (tgt := 199) C d_MD_listDegrees_158 (by decide) (fun h158 => ?_) (fun h158 => ?_)
                              · exact absurd rfl h158
                              · -- 161
                                refine e_aload_n C d_MD_listDegrees_161 rfl rfl ?_
                                refine e_get C hin_MD 0 rfl rfl 21 (by decide) fl_MD_47 rfl d_MD_listDegrees_162 ?_
                                refine e_iload C d_MD_listDegrees_165 rfl ?_
                                refine e_dup2_11 C d_MD_listDegrees_167 rfl rfl ?_
                                refine e_iald C 4 0 rfl rfl (vp_in_nI (by omega) (by omega)) d_MD_listDegrees_168 ?_
                                refine e_st [.int (fde a), .int (nI a), .ref ade] (by rw [nI_clamp (by omega)]) ?_
                                refine e_iconst (v := 1) C d_MD_listDegrees_169 rfl ?_
                                refine e_isub C d_MD_listDegrees_170 ?_
                                refine e_iast C 4 0 rfl rfl (vp_in_nI (by omega) (by omega)) d_MD_listDegrees_171 ?_
                                refine e_ws [oMD m th kd (nI w) (nI h) aho aaw fi sc (nI el.length) aen ato (bI li) (nI out.length) awa aot (bI drn) wyv rkv awk atr ase ade ala ach apa asq, aZ cZ aho 25 (bF hb), aI cI aen 80 fen, aJ cJ awa 40000 fw, aI cI ade 25 (upd fde a ((fde a) - 1)), aI cI ala 25 fla, aI cI ach 41 fch] (by rw [nI_clamp (by omega)]; rfl) ?_
                                refine e_aload_n C d_MD_listDegrees_172 rfl rfl ?_
                                refine e_get C hin_MD 0 rfl rfl 21 (by decide) fl_MD_47 rfl d_MD_listDegrees_173 ?_
                                refine e_iload C d_MD_listDegrees_176 rfl ?_
                                refine e_dup2_11 C d_MD_listDegrees_178 rfl rfl ?_
                                refine e_iald C 4 0 rfl rfl (vp_in_nI (by omega) (by omega)) d_MD_listDegrees_179 ?_
                                refine e_st [.int ((upd fde a ((fde a) - 1)) b), .int (nI b), .ref ade] (by rw [nI_clamp (by omega)]) ?_
                                refine e_iconst (v := 1) C d_MD_listDegrees_180 rfl ?_
                                refine e_isub C d_MD_listDegrees_181 ?_
                                refine e_iast C 4 0 rfl rfl (vp_in_nI (by omega) (by omega)) d_MD_listDegrees_182 ?_
                                refine e_ws [oMD m th kd (nI w) (nI h) aho aaw fi sc (nI el.length) aen ato (bI li) (nI out.length) awa aot (bI drn) wyv rkv awk atr ase ade ala ach apa asq, aZ cZ aho 25 (bF hb), aI cI aen 80 fen, aJ cJ awa 40000 fw, aI cI ade 25 (upd (upd fde a ((fde a) - 1)) b (((upd fde a ((fde a) - 1)) b) - 1)), aI cI ala 25 fla, aI cI ach 41 fch] (by rw [nI_clamp (by omega)]; rfl) ?_
                                refine e_lload_n C d_MD_listDegrees_183 rfl rfl ?_
                                refine e_lconst (v := 1) C d_MD_listDegrees_184 rfl ?_
                                refine e_iload_n C d_MD_listDegrees_185 rfl rfl ?_
                                refine e_lshl C d_MD_listDegrees_186 ?_
                                refine e_st [.long (bitL e), .long (stC c e ||| bitL e)] rfl ?_
                                refine e_ldc2 C kl_MD_121 d_MD_listDegrees_187 ?_
                                refine e_lxor C d_MD_listDegrees_190 ?_
                                refine e_land C d_MD_listDegrees_191 ?_
                                refine e_st [.long (stC c e)] (by rw [show (-1 : Int64) = -1 from rfl, st_undo (by omega)]) ?_
                                refine e_lstore_n C d_MD_listDegrees_192 rfl (by decide) ?_
                                refine e_iinc (v := pv e) C d_MD_listDegrees_193 rfl (pv_dec e) (by decide) ?_
                                refine e_goto (tgt := 106) C d_MD_listDegrees_196 (by decide) ?_
                                refine e_lv [(0, .ref m), (1, .int (nI due)), (2, .int (pv e)), (3, .long (stC c e))] ⟨rfl, rfl, rfl, rfl, trivial⟩ ?_
                                exact POP fch _ fw out (fun i hi => hc i (by omega)) (undo_deg hd hab.1 hab.2.1 hab.2.2) hW (by rw [← hT1, lTop2 heE, List.nil_append])
                          · -- 118
                            have heE : e = el.length := (nI_eq (by omega) (by omega)).mp h115
                            have hyE : yF el.length ph (e + 1) = e := by rw [heE]; exact yFE
                            rw [hyE] at hd
                            rw [lTopE heE] at hT1
                            have hlen : out.length < 40000 := by have q := congrArg List.length hT1; simp only [List.length_append, List.length_singleton] at q; omega
                            refine e_lv [(0, .ref m), (1, .int (nI due)), (2, .int (nI e)), (3, .long (stC c e))] ⟨rfl, rfl, rfl, congrArg (fun z => some (Value.long (stC c z))) hyE, trivial⟩ ?_
                            refine e_aload_n C d_MD_listDegrees_118 rfl rfl ?_
                            refine e_lload_n C d_MD_listDegrees_119 rfl rfl ?_
                            refine e_callV (As := [.long (stC c e)]) (st := []) (wc := [oMD m th kd (nI w) (nI h) aho aaw fi sc (nI el.length) aen ato (bI li) (nI out.length) awa aot (bI drn) wyv rkv awk atr ase ade ala ach apa asq, aJ cJ awa 40000 fw]) (wr := [aZ cZ aho 25 (bF hb), aI cI aen 80 fen, aI cI ade 25 fde, aI cI ala 25 fla, aI cI ach 41 fch]) C (M_MD_add l D cI cJ cZ m aho aaw aen ato awa aot awk atr ase ade ala ach apa asq w h hw hh hw1 hh1 th kd fi sc el li out.length drn wyv rkv fw (stC c e) hlen) v_MD_add ml_MD_109 0 rfl rfl nwW_ok ⟨Nat.le_of_ble_eq_true rfl, Nat.le_of_ble_eq_true rfl⟩ ⟨Nat.le_of_ble_eq_true rfl, Nat.le_of_ble_eq_true rfl⟩ [0, 3] [1, 2, 4, 5, 6] rfl rfl rfl rfl (by decide) (Nat.le_of_ble_eq_true rfl) rfl d_MD_listDegrees_120 (fun v w1 hp => ?_)
                            obtain ⟨rfl, rfl⟩ := hp
                            refine e_perm (st' := []) (ws' := [oMD m th kd (nI w) (nI h) aho aaw fi sc (nI el.length) aen ato (bI li) (nI (out.length + 1)) awa aot (bI drn) wyv rkv awk atr ase ade ala ach apa asq, aZ cZ aho 25 (bF hb), aI cI aen 80 fen, aJ cJ awa 40000 (vp_updL fw out.length (stC c e)), aI cI ade 25 fde, aI cI ala 25 fla, aI cI ach 41 fch]) [5, 0, 1, 6, 2, 3, 4] rfl rfl rfl ?_
                            refine e_iinc (v := pv e) C d_MD_listDegrees_123 rfl (pv_dec e) (by decide) ?_
                            refine e_goto (tgt := 106) C d_MD_listDegrees_126 (by decide) ?_
                            refine e_lv [(0, .ref m), (1, .int (nI due)), (2, .int (pv e)), (3, .long (stC c e))] ⟨rfl, rfl, rfl, rfl, trivial⟩ ?_
                            refine e_ws [oMD m th kd (nI w) (nI h) aho aaw fi sc (nI el.length) aen ato (bI li) (nI (out ++ [stC c e]).length) awa aot (bI drn) wyv rkv awk atr ase ade ala ach apa asq, aZ cZ aho 25 (bF hb), aI cI aen 80 fen, aJ cJ awa 40000 (vp_updL fw out.length (stC c e)), aI cI ade 25 fde, aI cI ala 25 fla, aI cI ach 41 fch] (by rw [List.length_append]; rfl) ?_
                            exact POP fch fde _ (out ++ [stC c e]) (fun i hi => hc i (by omega)) hd (WaR_app hW) (by rw [← hT1, List.append_assoc])
                    refine e_lv [(0, .ref m), (1, .int (nI due)), (2, .int (pv 1)), (3, .long (stC (fun _ => 0) (yF el.length 0 1)))] ⟨rfl, rfl, rfl, by rw [yF01 (by decide)]; rfl, trivial⟩ ?_
                    refine e_ws [oMD m th kd (nI w) (nI h) aho aaw fi sc (nI el.length) aen ato (bI li) (nI out.length) awa aot (bI drn) wyv rkv awk atr ase ade ala ach apa asq, aZ cZ aho 25 (bF hb), aI cI aen 80 fen, aJ cJ awa 40000 fw, aI cI ade 25 fde, aI cI ala 25 fla, aI cI ach 41 (upd fch 0 (-1))] rfl ?_
                    exact LP _ 1 0 (fun _ => 0) (upd fch 0 (-1)) fde fw out (by omega) (by decide) (fun i hi => by omega) (fun e he _ => by rw [show e = 0 by omega, pk_us]; exact ⟨rfl, fun z => absurd z (by decide)⟩) (fun p hp => by rw [yF01 (by decide), (hz p (by omega)).1]; rfl) hW (by rw [← hTOT]; unfold ldAll; rw [if_neg (Bool.eq_false_iff.mp hnl)]; show out ++ (lTop _ _ _ _ 0 0 ++ []) = _; rw [List.append_nil, lTop0 (Nat.zero_le _)]; rfl) (Nat.lt_succ_self _)
                  · -- 70
                    have hiP : i < (w * h) := by rcases Nat.lt_or_ge (i) (w * h) with q | q; exact q; exact absurd (nI_le q (by omega)) h67
                    refine e_aload_n C d_MD_listDegrees_70 rfl rfl ?_
                    refine e_get C hin_MD 0 rfl rfl 4 (by decide) fl_MD_7 rfl d_MD_listDegrees_71 ?_
                    refine e_iload_n C d_MD_listDegrees_74 rfl rfl ?_
                    refine e_zald C 1 2 rfl rfl (vp_in_nI (by omega) (by omega)) d_MD_listDegrees_75 ?_
                    refine e_st [.int (bI (hb i))] (by rw [nI_clamp (by omega)]; rfl) ?_
                    refine e_if_ne (tgt := 89) C d_MD_listDegrees_76 (by decide) (fun h76 => ?_) (fun h76 => ?_)
                    · -- 89
                      refine e_iinc (v := (nI i) + 1) C d_MD_listDegrees_89 rfl rfl (by decide) ?_
                      refine e_goto (tgt := 62) C d_MD_listDegrees_92 (by decide) ?_
                      refine e_lv [(0, .ref m), (1, .int (nI due)), (2, .int (nI (i + 1)))] ⟨rfl, rfl, congrArg (fun z => some (Value.int z)) (nI_1 i), trivial⟩ ?_
                      refine e_ws [oMD m th kd (nI w) (nI h) aho aaw fi sc (nI el.length) aen ato (bI li) (nI out.length) awa aot (bI drn) wyv rkv awk atr ase ade ala ach apa asq, aZ cZ aho 25 (bF hb), aI cI aen 80 fen, aJ cJ awa 40000 fw, aI cI ade 25 fde, aI cI ala 25 fla, aI cI ach 41 fch] rfl ?_
                      exact ihLC (i + 1) (by omega) (by show (loneF hb (laL el (2 * el.length)) i || (!hb i && decide ((laL el (2 * el.length)) i < 0))) = false; rw [hlo, Bool.false_or]; simp only [bI_eq0, Bool.not_eq_false] at h76; rw [h76, Bool.not_true, Bool.false_and]) (by omega)
                    · -- 79
                      refine e_aload_n C d_MD_listDegrees_79 rfl rfl ?_
                      refine e_get C hin_MD 0 rfl rfl 22 (by decide) fl_MD_50 rfl d_MD_listDegrees_80 ?_
                      refine e_iload_n C d_MD_listDegrees_83 rfl rfl ?_
                      refine e_iald C 5 0 rfl rfl (vp_in_nI (by omega) (by omega)) d_MD_listDegrees_84 ?_
                      refine e_st [.int (fla i)] (by rw [nI_clamp (by omega)]) ?_
                      refine e_st [.int ((laL el (2 * el.length)) i)] (by rw [hl i (by omega)]) ?_
                      refine e_if_ge (tgt := 89) C d_MD_listDegrees_85 (by decide) (fun h85 => ?_) (fun h85 => ?_)
                      · -- 89
                        refine e_iinc (v := (nI i) + 1) C d_MD_listDegrees_89 rfl rfl (by decide) ?_
                        refine e_goto (tgt := 62) C d_MD_listDegrees_92 (by decide) ?_
                        refine e_lv [(0, .ref m), (1, .int (nI due)), (2, .int (nI (i + 1)))] ⟨rfl, rfl, congrArg (fun z => some (Value.int z)) (nI_1 i), trivial⟩ ?_
                        refine e_ws [oMD m th kd (nI w) (nI h) aho aaw fi sc (nI el.length) aen ato (bI li) (nI out.length) awa aot (bI drn) wyv rkv awk atr ase ade ala ach apa asq, aZ cZ aho 25 (bF hb), aI cI aen 80 fen, aJ cJ awa 40000 fw, aI cI ade 25 fde, aI cI ala 25 fla, aI cI ach 41 fch] rfl ?_
                        exact ihLC (i + 1) (by omega) (by show (loneF hb (laL el (2 * el.length)) i || (!hb i && decide ((laL el (2 * el.length)) i < 0))) = false; rw [hlo, Bool.false_or]; rw [decide_eq_false (fun z => absurd h85 (fun y => absurd z (Int32.not_lt.mpr y))), Bool.and_false]) (by omega)
                      · -- 88
                        have hln : loneF hb (laL el (2 * el.length)) (w * h) = true := loneF_of (i := i) (by simp only [bI_eq0] at h76; exact h76) (Int32.not_le.mp h85) hiP
                        have hT0 : out = TOT := by rw [← hTOT]; unfold ldAll; rw [if_pos hln, List.append_nil]
                        exact e_vret C Z (Nat.le_of_ble_eq_true rfl) (Nat.le_of_ble_eq_true rfl) (⟨fw, fde, fla, fch, rfl, by rw [← hT0], by rw [← hT0]; exact hW⟩) d_MD_listDegrees_88
              refine e_lv [(0, .ref m), (1, .int (nI due)), (2, .int (nI 0))] ⟨rfl, rfl, rfl, trivial⟩ ?_
              refine e_ws [oMD m th kd (nI w) (nI h) aho aaw fi sc (nI el.length) aen ato (bI li) (nI out.length) awa aot (bI drn) wyv rkv awk atr ase ade ala ach apa asq, aZ cZ aho 25 (bF hb), aI cI aen 80 fen, aJ cJ awa 40000 fw, aI cI ade 25 fde, aI cI ala 25 fla, aI cI ach 41 fch] rfl ?_
              exact LC _ 0 (Nat.zero_le _) rfl (Nat.lt_succ_self _)
            · -- 40
              have htE : t < (2 * el.length) := by rcases Nat.lt_or_ge (t) (2 * el.length) with q | q; exact q; exact absurd (nI_le q (by omega)) h37
              have hep := ept_lt (el := el) (t := t) hev
              refine e_aload_n C d_MD_listDegrees_40 rfl rfl ?_
              refine e_get C hin_MD 0 rfl rfl 22 (by decide) fl_MD_50 rfl d_MD_listDegrees_41 ?_
              refine e_aload_n C d_MD_listDegrees_44 rfl rfl ?_
              refine e_get C hin_MD 0 rfl rfl 9 (by decide) fl_MD_23 rfl d_MD_listDegrees_45 ?_
              refine e_iload_n C d_MD_listDegrees_48 rfl rfl ?_
              refine e_iald C 2 0 rfl rfl (vp_in_nI (by omega) (by omega)) d_MD_listDegrees_49 ?_
              refine e_st [.int (fen t), .ref ala] (by rw [nI_clamp (by omega)]) ?_
              refine e_st [.int (nI (ept el t)), .ref ala] (by rw [ept_en hen htE]) ?_
              refine e_iload_n C d_MD_listDegrees_50 rfl rfl ?_
              refine e_iconst (v := 2) C d_MD_listDegrees_51 rfl ?_
              refine e_idiv C d_MD_listDegrees_52 (by decide) ?_
              refine e_st [.int (nI (t / 2)), .int (nI (ept el t)), .ref ala] (by rw [show nI t / 2 = nI (t / 2) from pk_div (by omega) (by decide) (by decide)]) ?_
              refine e_iast C 5 0 rfl rfl (vp_in_nI (by omega) (by omega)) d_MD_listDegrees_53 ?_
              refine e_ws [oMD m th kd (nI w) (nI h) aho aaw fi sc (nI el.length) aen ato (bI li) (nI out.length) awa aot (bI drn) wyv rkv awk atr ase ade ala ach apa asq, aZ cZ aho 25 (bF hb), aI cI aen 80 fen, aJ cJ awa 40000 fw, aI cI ade 25 fde, aI cI ala 25 (upd fla (ept el t) (nI (t / 2))), aI cI ach 41 fch] (by rw [nI_clamp (by omega)]; rfl) ?_
              refine e_iinc (v := (nI t) + 1) C d_MD_listDegrees_54 rfl rfl (by decide) ?_
              refine e_goto (tgt := 30) C d_MD_listDegrees_57 (by decide) ?_
              refine e_lv [(0, .ref m), (1, .int (nI due)), (2, .int (nI (t + 1)))] ⟨rfl, rfl, congrArg (fun z => some (Value.int z)) (nI_1 t), trivial⟩ ?_
              refine e_ws [oMD m th kd (nI w) (nI h) aho aaw fi sc (nI el.length) aen ato (bI li) (nI out.length) awa aot (bI drn) wyv rkv awk atr ase ade ala ach apa asq, aZ cZ aho 25 (bF hb), aI cI aen 80 fen, aJ cJ awa 40000 fw, aI cI ade 25 fde, aI cI ala 25 (upd fla (ept el t) (nI (t / 2))), aI cI ach 41 fch] rfl ?_
              exact ihLB (t + 1) _ (by omega) (fun q hq => by show _ = upd (laL el t) (ept el t) (nI (t / 2)) q; by_cases z : q = ept el t; (rw [z, pk_us, pk_us]); (rw [pk_un z, pk_un z]; exact hl q hq)) (by omega)
        refine e_lv [(0, .ref m), (1, .int (nI due)), (2, .int (nI 0))] ⟨rfl, rfl, rfl, trivial⟩ ?_
        refine e_ws [oMD m th kd (nI w) (nI h) aho aaw fi sc (nI el.length) aen ato (bI li) (nI out.length) awa aot (bI drn) wyv rkv awk atr ase ade ala ach apa asq, aZ cZ aho 25 (bF hb), aI cI aen 80 fen, aJ cJ awa 40000 fw, aI cI ade 25 fde, aI cI ala 25 fla, aI cI ach 41 fch] rfl ?_
        exact LB _ 0 fla (Nat.zero_le _) (fun q hq => (hz q (by omega)).2) (Nat.lt_succ_self _)
      · -- 8
        have hi25 : i < 25 := by rcases Nat.lt_or_ge (i) 25 with q | q; exact q; exact absurd (nI_le (b := _) q (by omega)) h5
        refine e_aload_n C d_MD_listDegrees_8 rfl rfl ?_
        refine e_get C hin_MD 0 rfl rfl 21 (by decide) fl_MD_47 rfl d_MD_listDegrees_9 ?_
        refine e_iload_n C d_MD_listDegrees_12 rfl rfl ?_
        refine e_iconst (v := 0) C d_MD_listDegrees_13 rfl ?_
        refine e_iast C 4 0 rfl rfl (vp_in_nI (by omega) (by omega)) d_MD_listDegrees_14 ?_
        refine e_ws [oMD m th kd (nI w) (nI h) aho aaw fi sc (nI el.length) aen ato (bI li) (nI out.length) awa aot (bI drn) wyv rkv awk atr ase ade ala ach apa asq, aZ cZ aho 25 (bF hb), aI cI aen 80 fen, aJ cJ awa 40000 fw, aI cI ade 25 (upd fde i 0), aI cI ala 25 fla, aI cI ach 41 fch] (by rw [nI_clamp (by omega)]; rfl) ?_
        refine e_aload_n C d_MD_listDegrees_15 rfl rfl ?_
        refine e_get C hin_MD 0 rfl rfl 22 (by decide) fl_MD_50 rfl d_MD_listDegrees_16 ?_
        refine e_iload_n C d_MD_listDegrees_19 rfl rfl ?_
        refine e_iconst (v := (-1)) C d_MD_listDegrees_20 rfl ?_
        refine e_iast C 5 0 rfl rfl (vp_in_nI (by omega) (by omega)) d_MD_listDegrees_21 ?_
        refine e_ws [oMD m th kd (nI w) (nI h) aho aaw fi sc (nI el.length) aen ato (bI li) (nI out.length) awa aot (bI drn) wyv rkv awk atr ase ade ala ach apa asq, aZ cZ aho 25 (bF hb), aI cI aen 80 fen, aJ cJ awa 40000 fw, aI cI ade 25 (upd fde i 0), aI cI ala 25 (upd fla i (-1)), aI cI ach 41 fch] (by rw [nI_clamp (by omega)]; rfl) ?_
        refine e_iinc (v := (nI i) + 1) C d_MD_listDegrees_22 rfl rfl (by decide) ?_
        refine e_goto (tgt := 2) C d_MD_listDegrees_25 (by decide) ?_
        refine e_lv [(0, .ref m), (1, .int (nI due)), (2, .int (nI (i + 1)))] ⟨rfl, rfl, congrArg (fun z => some (Value.int z)) (nI_1 i), trivial⟩ ?_
        refine e_ws [oMD m th kd (nI w) (nI h) aho aaw fi sc (nI el.length) aen ato (bI li) (nI out.length) awa aot (bI drn) wyv rkv awk atr ase ade ala ach apa asq, aZ cZ aho 25 (bF hb), aI cI aen 80 fen, aJ cJ awa 40000 fw, aI cI ade 25 (upd fde i 0), aI cI ala 25 (upd fla i (-1)), aI cI ach 41 fch] rfl ?_
        exact ihLA (i + 1) _ _ (by omega) (fun q hq => by by_cases z : q = i; (rw [z, pk_us, pk_us]; exact ⟨rfl, rfl⟩); (rw [pk_un z, pk_un z]; exact hz q (by omega))) (by omega)
  refine e_lv [(0, .ref m), (1, .int (nI due)), (2, .int (nI 0))] ⟨rfl, rfl, rfl, trivial⟩ ?_
  refine e_ws [oMD m th kd (nI w) (nI h) aho aaw fi sc (nI el.length) aen ato (bI li) (nI out.length) awa aot (bI drn) wyv rkv awk atr ase ade ala ach apa asq, aZ cZ aho 25 (bF hb), aI cI aen 80 fen, aJ cJ awa 40000 fw, aI cI ade 25 fde, aI cI ala 25 fla, aI cI ach 41 fch] rfl ?_
  exact LA _ 0 fde fla (Nat.zero_le _) (fun q hq => absurd hq (Nat.not_lt_zero _)) (Nat.lt_succ_self _)
