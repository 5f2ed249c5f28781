/-! THE REFERENCE'S WALK: what walkFrom adds, said by recursion -/
def acN (q : Nat × Nat) (p : Nat) : Option Nat := if q.1 = p then some q.2 else if q.2 = p then some q.1 else none
def dTgt (bk : Bool) (sc : Int32) (p : Nat) : Bool := !bk && decide (nI p = sc)
def dAdd (fr : Nat) (bk : Bool) (vs : List Nat) (p : Nat) (set : Int64) (e q : Nat) : List Int64 := if (bk && decide (q = fr) && decide (2 < vs.length) && decide ((vs[1]?).getD 0 < p)) = true then [set ||| bitL e] else []
def dOne (el : List (Nat × Nat)) (fr ls : Nat) (bk : Bool) (rc : List Nat → Nat → Int64 → List Int64) (vs : List Nat) (p : Nat) (set : Int64) (e : Nat) : List Int64 :=
  match (el[e]?).bind (fun q => acN q p) with
  | none => []
  | some q => if q < ls then [] else dAdd fr bk vs p set e q ++ (if q ∈ vs then [] else rc (vs ++ [q]) q (set ||| bitL e))
def dW (el : List (Nat × Nat)) (fr ls : Nat) (bk : Bool) (sc : Int32) : Nat → List Nat → Nat → Int64 → Nat → List Int64
  | 0, _, _, _, _ => []
  | f + 1, vs, p, set, e => if dTgt bk sc p = true then [set] else (List.range' e (el.length - e)).flatMap (dOne el fr ls bk (fun vs q s => dW el fr ls bk sc f vs q s 0) vs p set)
theorem dW_step {el : List (Nat × Nat)} {fr ls : Nat} {bk : Bool} {sc : Int32} {f : Nat} {vs : List Nat} {p : Nat} {set : Int64} {e : Nat} (h : dTgt bk sc p = false) (he : e < el.length) : dW el fr ls bk sc (f + 1) vs p set e = dOne el fr ls bk (fun vs q s => dW el fr ls bk sc f vs q s 0) vs p set e ++ dW el fr ls bk sc (f + 1) vs p set (e + 1) := by
  show (if dTgt bk sc p = true then _ else _) = _ ++ (if dTgt bk sc p = true then _ else _)
  rw [if_neg (by rw [h]; decide), if_neg (by rw [h]; decide), show el.length - e = (el.length - (e + 1)) + 1 by omega, List.range'_succ, List.flatMap_cons]
theorem dW_end {el : List (Nat × Nat)} {fr ls : Nat} {bk : Bool} {sc : Int32} {f : Nat} {vs : List Nat} {p : Nat} {set : Int64} (h : dTgt bk sc p = false) : dW el fr ls bk sc (f + 1) vs p set el.length = [] := by
  show (if dTgt bk sc p = true then _ else _) = _
  rw [if_neg (by rw [h]; decide), Nat.sub_self]
  rfl
theorem dW_tgt {el : List (Nat × Nat)} {fr ls : Nat} {bk : Bool} {sc : Int32} {f : Nat} {vs : List Nat} {p : Nat} {set : Int64} {e : Nat} (h : dTgt bk sc p = true) : dW el fr ls bk sc (f + 1) vs p set e = [set] := if_pos h
def dVs (vw : Nat → Nat) (k : Nat) : List Nat := (List.range k).map vw
def dRM (el : List (Nat × Nat)) (fr ls : Nat) (bk : Bool) (sc : Int32) (vw tw : Nat → Nat) (fse : Nat → Int64) : Nat → List Int64
  | 0 => []
  | k + 1 => dW el fr ls bk sc (25 - k + 1) (dVs vw (k + 1)) (vw k) (fse k) (tw k) ++ dRM el fr ls bk sc vw tw fse k
theorem dVs_congr {vw vw' : Nat → Nat} {n : Nat} (h : ∀ i, i < n → vw i = vw' i) : dVs vw n = dVs vw' n := by
  unfold dVs
  apply List.map_congr_left
  intro i hi
  exact h i (List.mem_range.mp hi)
theorem dRM_congr {el : List (Nat × Nat)} {fr ls : Nat} {bk : Bool} {sc : Int32} {vw tw vw' tw' : Nat → Nat} {fse fse' : Nat → Int64} : ∀ {n : Nat}, (∀ i, i < n → vw i = vw' i ∧ tw i = tw' i ∧ fse i = fse' i) → dRM el fr ls bk sc vw tw fse n = dRM el fr ls bk sc vw' tw' fse' n
  | 0, _ => rfl
  | n + 1, h => by
    obtain ⟨h1, h2, h3⟩ := h n (Nat.lt_succ_self n)
    show dW _ _ _ _ _ _ _ _ _ _ ++ _ = dW _ _ _ _ _ _ _ _ _ _ ++ _
    rw [h1, h2, h3, dVs_congr (fun i hi => (h i hi).1), dRM_congr (fun i hi => h i (Nat.lt_succ_of_lt hi))]
def upN (f : Nat → Nat) (k v : Nat) : Nat → Nat := fun i => if i = k then v else f i
theorem upN_s {f : Nat → Nat} {k v : Nat} : upN f k v k = v := if_pos rfl
theorem upN_n {f : Nat → Nat} {k v i : Nat} (h : i ≠ k) : upN f k v i = f i := if_neg h
/-- how many turns the walk's loop may still take -/
def dK (E : Nat) : Nat → Nat
  | 0 => 0
  | f + 1 => E * (1 + dK E f) + 1
def dM (E : Nat) (tw : Nat → Nat) : Nat → Nat
  | 0 => 0
  | k + 1 => (E - tw k) * (1 + dK E (25 - k)) + 1 + dM E tw k
theorem dM_congr {E : Nat} {tw tw' : Nat → Nat} : ∀ {n : Nat}, (∀ i, i < n → tw i = tw' i) → dM E tw n = dM E tw' n
  | 0, _ => rfl
  | n + 1, h => by
    show (E - tw n) * _ + 1 + _ = (E - tw' n) * _ + 1 + _
    rw [h n (Nat.lt_succ_self n), dM_congr (fun i hi => h i (Nat.lt_succ_of_lt hi))]
theorem dM_next {E : Nat} {tw : Nat → Nat} {k : Nat} (h : tw k < E) : dM E (upN tw k (tw k + 1)) (k + 1) < dM E tw (k + 1) := by
  show (E - upN tw k (tw k + 1) k) * _ + 1 + _ < (E - tw k) * _ + 1 + _
  rw [upN_s, dM_congr (tw' := tw) (fun i hi => upN_n (by omega)), show E - tw k = (E - (tw k + 1)) + 1 by omega, Nat.add_mul]
  omega
theorem dM_push {E : Nat} {tw : Nat → Nat} {k : Nat} (h : tw k < E) (hk : k + 1 ≤ 25) : dM E (upN (upN tw k (tw k + 1)) (k + 1) 0) (k + 2) < dM E tw (k + 1) := by
  show (E - upN _ (k + 1) 0 (k + 1)) * (1 + dK E (25 - (k + 1))) + 1 + dM E _ (k + 1) < _
  rw [upN_s, dM_congr (tw' := upN tw k (tw k + 1)) (fun i hi => upN_n (by omega)), Nat.sub_zero]
  have h1 : E * (1 + dK E (25 - (k + 1))) + 1 = dK E (25 - k) := by rw [show 25 - k = (25 - (k + 1)) + 1 by omega]; rfl
  rw [h1]
  show dK E (25 - k) + ((E - upN tw k (tw k + 1) k) * (1 + dK E (25 - k)) + 1 + _) < (E - tw k) * (1 + dK E (25 - k)) + 1 + _
  rw [upN_s, dM_congr (tw' := tw) (fun i hi => upN_n (by omega)), show E - tw k = (E - (tw k + 1)) + 1 by omega, Nat.add_mul]
  omega
def WaR (out : List Int64) (fw : Nat → Int64) : Prop := ∀ (i : Nat) (x : Int64), out[i]? = some x → fw i = x
theorem WaR_app {out : List Int64} {fw : Nat → Int64} {v : Int64} (h : WaR out fw) : WaR (out ++ [v]) (vp_updL fw out.length v) := by
  intro i y hy
  rcases Nat.lt_trichotomy i out.length with q | q | q
  · rw [List.getElem?_append_left q] at hy
    rw [pk_uLn (by omega)]
    exact h i y hy
  · subst q
    rw [List.getElem?_append_right (Nat.le_refl _), Nat.sub_self] at hy
    rw [pk_uLs, Option.some.inj hy]
  · rw [List.getElem?_append_right (by omega)] at hy
    have := (List.getElem?_eq_some_iff.mp hy).1
    simp at this
    omega
theorem acF_cases {ea eb p : Nat} (ha : ea < 25) (hb : eb < 25) (hp : p < 25) : (acF (ea, eb) (nI p) = -1 ∧ acN (ea, eb) p = none) ∨ ∃ q, q < 25 ∧ acF (ea, eb) (nI p) = nI q ∧ acN (ea, eb) p = some q := by
  unfold acF acN
  by_cases h1 : ea = p
  · refine Or.inr ⟨eb, hb, ?_, ?_⟩
    · rw [if_pos (show nI ea = nI p by rw [h1])]
    · rw [if_pos h1]
  · have e1 : ¬ nI ea = nI p := fun z => h1 ((nI_eq (by omega) (by omega)).mp z)
    by_cases h2 : eb = p
    · refine Or.inr ⟨ea, ha, ?_, ?_⟩
      · rw [if_neg e1, if_pos (show nI eb = nI p by rw [h2])]
      · rw [if_neg h1, if_pos h2]
    · have e2 : ¬ nI eb = nI p := fun z => h2 ((nI_eq (by omega) (by omega)).mp z)
      refine Or.inl ⟨?_, ?_⟩
      · rw [if_neg e1, if_neg e2]
      · rw [if_neg h1, if_neg h2]
theorem thereF_mem {vw : Nat → Nat} {fwk : Nat → Int32} {q : Nat} (hq : q < 2 ^ 31) : ∀ {n : Nat}, (∀ i, i < n → fwk i = nI (vw i) ∧ vw i < 2 ^ 31) → (thereF fwk (nI q) n = true ↔ q ∈ dVs vw n)
  | 0, _ => by simp [thereF, dVs]
  | n + 1, h => by
    have ih := thereF_mem hq (vw := vw) (fwk := fwk) (n := n) (fun i hi => h i (Nat.lt_succ_of_lt hi))
    have h1 := h n (Nat.lt_succ_self n)
    show (thereF fwk (nI q) n || decide (fwk n = nI q)) = true ↔ _
    have e : dVs vw (n + 1) = dVs vw n ++ [vw n] := by unfold dVs; rw [List.range_succ, List.map_append]; rfl
    rw [e, Bool.or_eq_true, ih, List.mem_append, List.mem_singleton, decide_eq_true_iff, h1.1, nI_eq h1.2 hq]
    exact ⟨fun z => z.imp id Eq.symm, fun z => z.imp id Eq.symm⟩
theorem dVs_app {vw : Nat → Nat} {n q : Nat} : dVs (upN vw n q) (n + 1) = dVs vw n ++ [q] := by
  have e : dVs (upN vw n q) (n + 1) = dVs (upN vw n q) n ++ [upN vw n q n] := by unfold dVs; rw [List.range_succ, List.map_append]; rfl
  rw [e, upN_s, dVs_congr (vw' := vw) (fun i hi => upN_n (by omega))]
theorem dVs_len {vw : Nat → Nat} {n : Nat} : (dVs vw n).length = n := by unfold dVs; rw [List.length_map, List.length_range]
theorem dVs_get {vw : Nat → Nat} {n i : Nat} (h : i < n) : (dVs vw n)[i]? = some (vw i) := by unfold dVs; rw [List.getElem?_map, List.getElem?_range h]; rfl
set_option maxHeartbeats 4000000 in
set_option maxRecDepth 100000 in
theorem M_MD_walkFrom (l : Launch) (D : va_G) (cI cJ cZ : ClassId) (m aho aaw aen ato awa aot awk atr ase ade ala ach apa asq : Nat) (w h : Nat) (hw : w ≤ 5) (hh : h ≤ 5) (hw1 : 1 ≤ w) (hh1 : 1 ≤ h) (th kd fi sc : Int32) (el : List (Nat × Nat)) (li : Bool) (out : List Int64) (drn : Bool) (wyv rkv : Int64) (fen fwk ftr : Nat → Int32) (fse fw : Nat → Int64) (fr ls : Nat) (bk : Bool) (hfr : fr < 25) (hls : ls ≤ 25) (hen : enR el fen) (hel : el.length ≤ 40) (hev : ∀ (i a b : Nat), el[i]? = some (a, b) → a < 25 ∧ b < 25) (hW : WaR out fw) (TOT : List Int64) (hTOT : out ++ (dW el fr ls bk sc 26 [fr] fr 0 0) = TOT) (hlim : TOT.length ≤ 40000) : MK l D cI cJ cZ y_MD_walkFrom c_MD_walkFrom 10 none 1 23 [.ref m, .int (nI fr), .int (nI ls), .int (bI bk)] [oMD m th kd (nI w) (nI h) aho aaw fi sc (nI el.length) aen ato (bI li) (nI out.length) awa aot (bI drn) wyv rkv awk atr ase ade ala ach apa asq, aI cI aen 80 fen, aJ cJ awa 40000 fw, aI cI awk 26 fwk, aI cI atr 26 ftr, aJ cJ ase 26 fse] 0 0 (fun v w1 => ∃ (fw2 : Nat → Int64) (fwk2 ftr2 : Nat → Int32) (fse2 : Nat → Int64), v = none ∧ w1 = [oMD m th kd (nI w) (nI h) aho aaw fi sc (nI el.length) aen ato (bI li) (nI TOT.length) awa aot (bI drn) wyv rkv awk atr ase ade ala ach apa asq, aI cI aen 80 fen, aJ cJ awa 40000 fw2, aI cI awk 26 fwk2, aI cI atr 26 ftr2, aJ cJ ase 26 fse2] ∧ WaR TOT fw2) := by
  refine MC.of (by decide) bigW_good (Nat.le_of_ble_eq_true rfl) (fun κ C Z IN => ?_)
  have hP : w * h ≤ 25 := Nat.mul_le_mul hw hh
  refine e_iconst (v := 1) C d_MD_walkFrom_0 rfl ?_
  refine e_istore C d_MD_walkFrom_1 (by decide) ?_
  refine e_aload_n C d_MD_walkFrom_3 rfl rfl ?_
  refine e_get C hin_MD 0 rfl rfl 18 (by decide) fl_MD_38 rfl d_MD_walkFrom_4 ?_
  refine e_iconst (v := 0) C d_MD_walkFrom_7 rfl ?_
  refine e_iload_n C d_MD_walkFrom_8 rfl rfl ?_
  refine e_st [.int (nI fr), .int (nI 0), .ref awk] rfl ?_
  refine e_iast C 3 0 rfl rfl (vp_in_nI (by omega) (by omega)) d_MD_walkFrom_9 ?_
  refine e_ws [oMD m th kd (nI w) (nI h) aho aaw fi sc (nI el.length) aen ato (bI li) (nI out.length) awa aot (bI drn) wyv rkv awk atr ase ade ala ach apa asq, aI cI aen 80 fen, aJ cJ awa 40000 fw, aI cI awk 26 (upd fwk 0 (nI fr)), aI cI atr 26 ftr, aJ cJ ase 26 fse] (by rw [nI_clamp (by omega)]; rfl) ?_
  refine e_aload_n C d_MD_walkFrom_10 rfl rfl ?_
  refine e_get C hin_MD 0 rfl rfl 19 (by decide) fl_MD_41 rfl d_MD_walkFrom_11 ?_
  refine e_iconst (v := 0) C d_MD_walkFrom_14 rfl ?_
  refine e_iconst (v := 0) C d_MD_walkFrom_15 rfl ?_
  refine e_st [.int 0, .int (nI 0), .ref atr] rfl ?_
  refine e_iast C 4 0 rfl rfl (vp_in_nI (by omega) (by omega)) d_MD_walkFrom_16 ?_
  refine e_ws [oMD m th kd (nI w) (nI h) aho aaw fi sc (nI el.length) aen ato (bI li) (nI out.length) awa aot (bI drn) wyv rkv awk atr ase ade ala ach apa asq, aI cI aen 80 fen, aJ cJ awa 40000 fw, aI cI awk 26 (upd fwk 0 (nI fr)), aI cI atr 26 (upd ftr 0 0), aJ cJ ase 26 fse] (by rw [nI_clamp (by omega)]; rfl) ?_
  refine e_aload_n C d_MD_walkFrom_17 rfl rfl ?_
  refine e_get C hin_MD 0 rfl rfl 20 (by decide) fl_MD_44 rfl d_MD_walkFrom_18 ?_
  refine e_iconst (v := 0) C d_MD_walkFrom_21 rfl ?_
  refine e_lconst (v := 0) C d_MD_walkFrom_22 rfl ?_
  refine e_st [.long 0, .int (nI 0), .ref ase] rfl ?_
  refine e_last C 5 1 rfl rfl (vp_in_nI (by omega) (by omega)) d_MD_walkFrom_23 ?_
  refine e_ws [oMD m th kd (nI w) (nI h) aho aaw fi sc (nI el.length) aen ato (bI li) (nI out.length) awa aot (bI drn) wyv rkv awk atr ase ade ala ach apa asq, aI cI aen 80 fen, aJ cJ awa 40000 fw, aI cI awk 26 (upd fwk 0 (nI fr)), aI cI atr 26 (upd ftr 0 0), aJ cJ ase 26 (vp_updL fse 0 0)] (by rw [nI_clamp (by omega)]; rfl) ?_
  have LP : ∀ (fuel : Nat) (n : Nat) (vw tw : Nat → Nat) (fwk ftr : Nat → Int32) (fse fw : Nat → Int64) (out : List Int64), n ≤ 25 → (∀ i, i < n → fwk i = nI (vw i) ∧ vw i < 25) → (∀ i, i < n → ftr i = nI (tw i) ∧ tw i ≤ el.length) → (∀ i j, i < n → j < n → vw i = vw j → i = j) → WaR out fw → out ++ dRM el fr ls bk sc vw tw fse n = TOT →  dM el.length tw n < fuel → E κ (lu_o [(0, .ref m), (1, .int (nI fr)), (2, .int (nI ls)), (3, .int (bI bk)), (4, .int (nI n))]) [] [oMD m th kd (nI w) (nI h) aho aaw fi sc (nI el.length) aen ato (bI li) (nI out.length) awa aot (bI drn) wyv rkv awk atr ase ade ala ach apa asq, aI cI aen 80 fen, aJ cJ awa 40000 fw, aI cI awk 26 fwk, aI cI atr 26 ftr, aJ cJ ase 26 fse] 0 0 24 := by
    intro fuel
    induction fuel with
    | zero => intro n vw tw fwk ftr fse fw out hn hk ht hinj hW hT hm; exact absurd hm (Nat.not_lt_zero _)
    | succ fuel ihLP =>
      intro n vw tw fwk ftr fse fw out hn hk ht hinj hW hT hm
      refine e_iload C d_MD_walkFrom_24 rfl ?_
      refine e_if_le (tgt := 232) C d_MD_walkFrom_26 (by decide) (fun h26 => ?_) (fun h26 => ?_)
      · -- 232
        have hn0 : n = 0 := by rcases Nat.eq_zero_or_pos n with z | z; exact z; exact absurd h26 (nI_nle z (by omega))
        subst hn0
        have hT0 : out = TOT := by rw [← hT]; show out = out ++ []; rw [List.append_nil]
        exact e_vret C Z (Nat.le_of_ble_eq_true rfl) (Nat.le_of_ble_eq_true rfl) (⟨fw, fwk, ftr, fse, rfl, by rw [← hT0], by rw [← hT0]; exact hW⟩) d_MD_walkFrom_232
      · -- 29
        obtain ⟨k, rfl⟩ : ∃ k, n = k + 1 := ⟨n - 1, by rcases Nat.eq_zero_or_pos n with z | z; (rw [z] at h26; exact absurd (show nI 0 ≤ 0 by decide) h26); omega⟩
        have hk1 := hk k (Nat.lt_succ_self k)
        have ht1 := ht k (Nat.lt_succ_self k)
        have hT1 : out ++ (dW el fr ls bk sc (25 - k + 1) (dVs vw (k + 1)) (vw k) (fse k) (tw k) ++ dRM el fr ls bk sc vw tw fse k) = TOT := hT
        refine e_aload_n C d_MD_walkFrom_29 rfl rfl ?_
        refine e_get C hin_MD 0 rfl rfl 18 (by decide) fl_MD_38 rfl d_MD_walkFrom_30 ?_
        refine e_iload C d_MD_walkFrom_33 rfl ?_
        refine e_iconst (v := 1) C d_MD_walkFrom_35 rfl ?_
        refine e_isub C d_MD_walkFrom_36 ?_
        refine e_st [.int (nI k), .ref awk] (by rw [nI_pred]) ?_
        refine e_iald C 3 0 rfl rfl (vp_in_nI (by omega) (by omega)) d_MD_walkFrom_37 ?_
        refine e_st [.int (fwk k)] (by rw [nI_clamp (by omega)]) ?_
        refine e_st [.int (nI (vw k))] (by rw [hk1.1]) ?_
        refine e_istore C d_MD_walkFrom_38 (by decide) ?_
        refine e_aload_n C d_MD_walkFrom_40 rfl rfl ?_
        refine e_get C hin_MD 0 rfl rfl 19 (by decide) fl_MD_41 rfl d_MD_walkFrom_41 ?_
        refine e_iload C d_MD_walkFrom_44 rfl ?_
        refine e_iconst (v := 1) C d_MD_walkFrom_46 rfl ?_
        refine e_isub C d_MD_walkFrom_47 ?_
        refine e_st [.int (nI k), .ref atr] (by rw [nI_pred]) ?_
        refine e_iald C 4 0 rfl rfl (vp_in_nI (by omega) (by omega)) d_MD_walkFrom_48 ?_
        refine e_st [.int (ftr k)] (by rw [nI_clamp (by omega)]) ?_
        refine e_st [.int (nI (tw k))] (by rw [ht1.1]) ?_
        refine e_istore C d_MD_walkFrom_49 (by decide) ?_
        refine e_iload C d_MD_walkFrom_51 rfl ?_
        refine e_aload_n C d_MD_walkFrom_53 rfl rfl ?_
        refine e_get C hin_MD 0 rfl rfl 8 (by decide) fl_MD_85 rfl d_MD_walkFrom_54 ?_
        refine e_icmp_eq (tgt := 73) C d_MD_walkFrom_57 (by decide) (fun h57 => ?_) (fun h57 => ?_)
        · -- 73
          refine e_iload_n C d_MD_walkFrom_73 rfl rfl ?_
          refine e_if_ne (tgt := 99) C d_MD_walkFrom_74 (by decide) (fun h74 => ?_) (fun h74 => ?_)
          · -- 99
            have htg : dTgt bk sc (vw k) = false := by simp only [bI_eq0, Bool.not_eq_false] at h74; unfold dTgt; rw [h74]; rfl
            have hte : tw k = el.length := (nI_eq (by omega) (by omega)).mp h57
            rw [hte, dW_end htg, List.nil_append] at hT1
            refine e_iinc (v := nI k) C d_MD_walkFrom_99 rfl (pk_m1 k) (by decide) ?_
            refine e_goto (tgt := 24) C d_MD_walkFrom_102 (by decide) ?_
            refine e_lv [(0, .ref m), (1, .int (nI fr)), (2, .int (nI ls)), (3, .int (bI bk)), (4, .int (nI (k)))] ⟨rfl, rfl, rfl, rfl, rfl, trivial⟩ ?_
            exact ihLP k vw tw fwk ftr fse fw out (by omega) (fun i hi => hk i (by omega)) (fun i hi => ht i (by omega)) (fun i j hi hj => hinj i j (by omega) (by omega)) hW hT1 (by have q : dM el.length tw (k + 1) = (el.length - tw k) * (1 + dK el.length (25 - k)) + 1 + dM el.length tw k := rfl; omega)
          · -- 77
            refine e_iload C d_MD_walkFrom_77 rfl ?_
            refine e_aload_n C d_MD_walkFrom_79 rfl rfl ?_
            refine e_get C hin_MD 0 rfl rfl 7 (by decide) fl_MD_20 rfl d_MD_walkFrom_80 ?_
            refine e_icmp_ne (tgt := 99) C d_MD_walkFrom_83 (by decide) (fun h83 => ?_) (fun h83 => ?_)
            · -- 99
              have htg : dTgt bk sc (vw k) = false := by unfold dTgt; rw [decide_eq_false h83, Bool.and_false]
              have hte : tw k = el.length := (nI_eq (by omega) (by omega)).mp h57
              rw [hte, dW_end htg, List.nil_append] at hT1
              refine e_iinc (v := nI k) C d_MD_walkFrom_99 rfl (pk_m1 k) (by decide) ?_
              refine e_goto (tgt := 24) C d_MD_walkFrom_102 (by decide) ?_
              refine e_lv [(0, .ref m), (1, .int (nI fr)), (2, .int (nI ls)), (3, .int (bI bk)), (4, .int (nI (k)))] ⟨rfl, rfl, rfl, rfl, rfl, trivial⟩ ?_
              exact ihLP k vw tw fwk ftr fse fw out (by omega) (fun i hi => hk i (by omega)) (fun i hi => ht i (by omega)) (fun i j hi hj => hinj i j (by omega) (by omega)) hW hT1 (by have q : dM el.length tw (k + 1) = (el.length - tw k) * (1 + dK el.length (25 - k)) + 1 + dM el.length tw k := rfl; omega)
            · -- 86
              have hlen : out.length < 40000 := by have q := congrArg List.length hT1; simp only [List.length_append] at q; rw [dW_tgt (by simp only [bI_eq0] at h74; unfold dTgt; rw [h74, decide_eq_true h83]; rfl)] at q; simp only [List.length_singleton] at q; omega
              refine e_aload_n C d_MD_walkFrom_86 rfl rfl ?_
              refine e_aload_n C d_MD_walkFrom_87 rfl rfl ?_
              refine e_get C hin_MD 0 rfl rfl 20 (by decide) fl_MD_44 rfl d_MD_walkFrom_88 ?_
              refine e_iload C d_MD_walkFrom_91 rfl ?_
              refine e_iconst (v := 1) C d_MD_walkFrom_93 rfl ?_
              refine e_isub C d_MD_walkFrom_94 ?_
              refine e_st [.int (nI k), .ref ase, .ref m] (by rw [nI_pred]) ?_
              refine e_lald C 5 1 rfl rfl (vp_in_nI (by omega) (by omega)) d_MD_walkFrom_95 ?_
              refine e_st [.long (fse k), .ref m] (by rw [nI_clamp (by omega)]) ?_
              refine e_callV (As := [.long (fse k)]) (st := []) (wc := [oMD m th kd (nI w) (nI h) aho aaw fi sc (nI el.length) aen ato (bI li) (nI out.length) awa aot (bI drn) wyv rkv awk atr ase ade ala ach apa asq, aJ cJ awa 40000 fw]) (wr := [aI cI aen 80 fen, aI cI awk 26 fwk, aI cI atr 26 ftr, aJ cJ ase 26 fse]) C (M_MD_add l D cI cJ cZ m aho aaw aen ato awa aot awk atr ase ade ala ach apa asq w h hw hh hw1 hh1 th kd fi sc el li out.length drn wyv rkv fw (fse k) hlen) v_MD_add ml_MD_109 0 rfl rfl nwW_ok ⟨Nat.le_of_ble_eq_true rfl, Nat.le_of_ble_eq_true rfl⟩ ⟨Nat.le_of_ble_eq_true rfl, Nat.le_of_ble_eq_true rfl⟩ [0, 2] [1, 3, 4, 5] rfl rfl rfl rfl (by decide) (Nat.le_of_ble_eq_true rfl) rfl d_MD_walkFrom_96 (fun v w1 hp => ?_)
              obtain ⟨rfl, rfl⟩ := hp
              refine e_perm (st' := []) (ws' := [oMD m th kd (nI w) (nI h) aho aaw fi sc (nI el.length) aen ato (bI li) (nI (out.length + 1)) awa aot (bI drn) wyv rkv awk atr ase ade ala ach apa asq, aI cI aen 80 fen, aJ cJ awa 40000 (vp_updL fw out.length (fse k)), aI cI awk 26 fwk, aI cI atr 26 ftr, aJ cJ ase 26 fse]) [4, 0, 5, 1, 2, 3] rfl rfl rfl ?_
              have htg : dTgt bk sc (vw k) = true := by simp only [bI_eq0] at h74; unfold dTgt; rw [h74, decide_eq_true h83]; rfl
              rw [dW_tgt htg] at hT1
              refine e_iinc (v := nI k) C d_MD_walkFrom_99 rfl (pk_m1 k) (by decide) ?_
              refine e_goto (tgt := 24) C d_MD_walkFrom_102 (by decide) ?_
              refine e_lv [(0, .ref m), (1, .int (nI fr)), (2, .int (nI ls)), (3, .int (bI bk)), (4, .int (nI (k)))] ⟨rfl, rfl, rfl, rfl, rfl, trivial⟩ ?_
              refine e_ws [oMD m th kd (nI w) (nI h) aho aaw fi sc (nI el.length) aen ato (bI li) (nI (out ++ [fse k]).length) awa aot (bI drn) wyv rkv awk atr ase ade ala ach apa asq, aI cI aen 80 fen, aJ cJ awa 40000 (vp_updL fw out.length (fse k)), aI cI awk 26 fwk, aI cI atr 26 ftr, aJ cJ ase 26 fse] (by rw [List.length_append]; rfl) ?_
              exact ihLP k vw tw fwk ftr fse _ (out ++ [fse k]) (by omega) (fun i hi => hk i (by omega)) (fun i hi => ht i (by omega)) (fun i j hi hj => hinj i j (by omega) (by omega)) (WaR_app hW) (by rw [← hT1, List.append_assoc]) (by have q : dM el.length tw (k + 1) = (el.length - tw k) * (1 + dK el.length (25 - k)) + 1 + dM el.length tw k := rfl; omega)
        · -- 60
          refine e_iload_n C d_MD_walkFrom_60 rfl rfl ?_
          refine e_if_ne (tgt := 105) C d_MD_walkFrom_61 (by decide) (fun h61 => ?_) (fun h61 => ?_)
          · -- 105
            have htg : dTgt bk sc (vw k) = false := by simp only [bI_eq0, Bool.not_eq_false] at h61; unfold dTgt; rw [h61]; rfl
            have hte : tw k < el.length := by rcases Nat.lt_or_ge (tw k) el.length with z | z; exact z; exact absurd (by rw [show tw k = el.length by omega]) h57
            obtain ⟨⟨ea, eb⟩, hsv⟩ : ∃ q, el[tw k]? = some q := ⟨_, List.getElem?_eq_getElem hte⟩
            have hab := hev _ _ _ hsv
            rw [dW_step htg hte] at hT1
            have hone : dOne el fr ls bk (fun vs q s => dW el fr ls bk sc (25 - k) vs q s 0) (dVs vw (k + 1)) (vw k) (fse k) (tw k) = (match acN (ea, eb) (vw k) with | none => [] | some q => if q < ls then [] else dAdd fr bk (dVs vw (k + 1)) (vw k) (fse k) (tw k) q ++ (if q ∈ dVs vw (k + 1) then [] else dW el fr ls bk sc (25 - k) (dVs vw (k + 1) ++ [q]) q (fse k ||| bitL (tw k)) 0)) := by unfold dOne; rw [hsv]; rfl
            rw [hone] at hT1
            refine e_aload_n C d_MD_walkFrom_105 rfl rfl ?_
            refine e_get C hin_MD 0 rfl rfl 19 (by decide) fl_MD_41 rfl d_MD_walkFrom_106 ?_
            refine e_iload C d_MD_walkFrom_109 rfl ?_
            refine e_iconst (v := 1) C d_MD_walkFrom_111 rfl ?_
            refine e_isub C d_MD_walkFrom_112 ?_
            refine e_st [.int (nI k), .ref atr] (by rw [nI_pred]) ?_
            refine e_dup2_11 C d_MD_walkFrom_113 rfl rfl ?_
            refine e_iald C 4 0 rfl rfl (vp_in_nI (by omega) (by omega)) d_MD_walkFrom_114 ?_
            refine e_st [.int (ftr k), .int (nI k), .ref atr] (by rw [nI_clamp (by omega)]) ?_
            refine e_iconst (v := 1) C d_MD_walkFrom_115 rfl ?_
            refine e_iadd C d_MD_walkFrom_116 ?_
            refine e_st [.int (nI (tw k + 1)), .int (nI k), .ref atr] (by rw [ht1.1, nI_1]) ?_
            refine e_iast C 4 0 rfl rfl (vp_in_nI (by omega) (by omega)) d_MD_walkFrom_117 ?_
            refine e_ws [oMD m th kd (nI w) (nI h) aho aaw fi sc (nI el.length) aen ato (bI li) (nI out.length) awa aot (bI drn) wyv rkv awk atr ase ade ala ach apa asq, aI cI aen 80 fen, aJ cJ awa 40000 fw, aI cI awk 26 fwk, aI cI atr 26 (upd ftr k (nI (tw k + 1))), aJ cJ ase 26 fse] (by rw [nI_clamp (by omega)]; rfl) ?_
            refine e_aload_n C d_MD_walkFrom_118 rfl rfl ?_
            refine e_iload C d_MD_walkFrom_119 rfl ?_
            refine e_iload C d_MD_walkFrom_121 rfl ?_
            refine e_callV (As := [.int (nI (tw k)), .int (nI (vw k))]) (st := []) (wc := [oMD m th kd (nI w) (nI h) aho aaw fi sc (nI el.length) aen ato (bI li) (nI out.length) awa aot (bI drn) wyv rkv awk atr ase ade ala ach apa asq, aI cI aen 80 fen]) (wr := [aJ cJ awa 40000 fw, aI cI awk 26 fwk, aI cI atr 26 (upd ftr k (nI (tw k + 1))), aJ cJ ase 26 fse]) C (M_MD_across l D cI cJ cZ m aho aaw aen ato awa aot awk atr ase ade ala ach apa asq w h hw hh hw1 hh1 th kd fi sc el li out.length drn wyv rkv fen (tw k) ea eb (nI (vw k)) (by omega) hen hsv) v_MD_across ml_MD_113 0 rfl rfl nwW_ok ⟨Nat.le_of_ble_eq_true rfl, Nat.le_of_ble_eq_true rfl⟩ ⟨Nat.le_of_ble_eq_true rfl, Nat.le_of_ble_eq_true rfl⟩ [0, 1] [2, 3, 4, 5] rfl rfl rfl rfl (by decide) (Nat.le_of_ble_eq_true rfl) rfl d_MD_walkFrom_123 (fun v w1 hp => ?_)
            obtain ⟨rfl, rfl⟩ := hp
            refine e_perm (st' := [.int (acF (ea, eb) (nI (vw k)))]) (ws' := [oMD m th kd (nI w) (nI h) aho aaw fi sc (nI el.length) aen ato (bI li) (nI out.length) awa aot (bI drn) wyv rkv awk atr ase ade ala ach apa asq, aI cI aen 80 fen, aJ cJ awa 40000 fw, aI cI awk 26 fwk, aI cI atr 26 (upd ftr k (nI (tw k + 1))), aJ cJ ase 26 fse]) [4, 5, 0, 1, 2, 3] rfl rfl rfl ?_
            rcases acF_cases hab.1 hab.2 hk1.2 with ⟨hq, hqn⟩ | ⟨q, hq25, hq, hqn⟩
            · rw [hqn] at hT1
              refine e_st [.int (-1)] (by rw [hq]) ?_
              refine e_istore C d_MD_walkFrom_126 (by decide) ?_
              refine e_iload C d_MD_walkFrom_128 rfl ?_
              refine e_iload_n C d_MD_walkFrom_130 rfl rfl ?_
              refine e_icmp_ge (tgt := 137) C d_MD_walkFrom_131 (by decide) (fun h131 => ?_) (fun h131 => ?_)
              · -- 137
                exact absurd h131 (by have q1 : ¬ nI ls ≤ -1 := fun z => absurd (Int32.le_iff_toInt_le.mp z) (by rw [nI_toInt (by omega)]; show ¬ (ls : Int) ≤ -1; omega); exact q1)
              · -- 134
                refine e_goto (tgt := 24) C d_MD_walkFrom_134 (by decide) ?_
                rw [List.nil_append] at hT1
                refine e_lv [(0, .ref m), (1, .int (nI fr)), (2, .int (nI ls)), (3, .int (bI bk)), (4, .int (nI (k + 1)))] ⟨rfl, rfl, rfl, rfl, rfl, trivial⟩ ?_
                exact ihLP (k + 1) vw (upN tw k (tw k + 1)) fwk _ fse _ (out) hn hk (fun i hi => by by_cases z : i = k; (rw [z, pk_us, upN_s]; exact ⟨rfl, hte⟩); (rw [pk_un z, upN_n z]; exact ht i hi)) hinj hW (by show _ ++ (dW _ _ _ _ _ _ _ _ _ (upN tw k (tw k + 1) k) ++ dRM _ _ _ _ _ _ _ _ _) = _; rw [upN_s, dRM_congr (vw' := vw) (tw' := tw) (fse' := fse) (fun i hi => ⟨rfl, upN_n (by omega), rfl⟩), ← hT1]) (by have q0 := dM_next hte; omega)
            · rw [hqn] at hT1
              refine e_st [.int (nI q)] (by rw [hq]) ?_
              refine e_istore C d_MD_walkFrom_126 (by decide) ?_
              refine e_iload C d_MD_walkFrom_128 rfl ?_
              refine e_iload_n C d_MD_walkFrom_130 rfl rfl ?_
              refine e_icmp_ge (tgt := 137) C d_MD_walkFrom_131 (by decide) (fun h131 => ?_) (fun h131 => ?_)
              · -- 137
                have hlq : ls ≤ q := (nI_leI (by omega) (by omega)).mp h131
                have hT1 : out ++ ((if q < ls then [] else dAdd fr bk (dVs vw (k + 1)) (vw k) (fse k) (tw k) q ++ (if q ∈ dVs vw (k + 1) then [] else dW el fr ls bk sc (25 - k) (dVs vw (k + 1) ++ [q]) q (fse k ||| bitL (tw k)) 0)) ++ dW el fr ls bk sc (25 - k + 1) (dVs vw (k + 1)) (vw k) (fse k) (tw k + 1) ++ dRM el fr ls bk sc vw tw fse k) = TOT := hT1
                rw [if_neg (by omega)] at hT1
                refine e_aload_n C d_MD_walkFrom_137 rfl rfl ?_
                refine e_get C hin_MD 0 rfl rfl 20 (by decide) fl_MD_44 rfl d_MD_walkFrom_138 ?_
                refine e_iload C d_MD_walkFrom_141 rfl ?_
                refine e_iconst (v := 1) C d_MD_walkFrom_143 rfl ?_
                refine e_isub C d_MD_walkFrom_144 ?_
                refine e_st [.int (nI k), .ref ase] (by rw [nI_pred]) ?_
                refine e_lald C 5 1 rfl rfl (vp_in_nI (by omega) (by omega)) d_MD_walkFrom_145 ?_
                refine e_st [.long (fse k)] (by rw [nI_clamp (by omega)]) ?_
                refine e_lconst (v := 1) C d_MD_walkFrom_146 rfl ?_
                refine e_iload C d_MD_walkFrom_147 rfl ?_
                refine e_lshl C d_MD_walkFrom_149 ?_
                refine e_lor C d_MD_walkFrom_150 ?_
                refine e_st [.long (fse k ||| bitL (tw k))] rfl ?_
                refine e_lstore C d_MD_walkFrom_151 (by decide) ?_
                refine e_iload_n C d_MD_walkFrom_153 rfl rfl ?_
                refine e_if_eq (tgt := 186) C d_MD_walkFrom_154 (by decide) (fun h154 => ?_) (fun h154 => ?_)
                · exact absurd h154 h61
                · -- 157
                  refine e_iload C d_MD_walkFrom_157 rfl ?_
                  refine e_iload_n C d_MD_walkFrom_159 rfl rfl ?_
                  refine e_icmp_ne (tgt := 186) C d_MD_walkFrom_160 (by decide) (fun h160 => ?_) (fun h160 => ?_)
                  · -- 186
                    have hadd : dAdd fr bk (dVs vw (k + 1)) (vw k) (fse k) (tw k) q = [] := by unfold dAdd; rw [if_neg (by rw [decide_eq_false (fun z => h160 (by rw [z])), Bool.and_false, Bool.false_and, Bool.false_and]; decide)]
                    rw [hadd, List.nil_append] at hT1
                    have hmem := thereF_mem (vw := vw) (fwk := fwk) (q := q) (by omega) (n := k + 1) (fun i hi => ⟨(hk i hi).1, by have := (hk i hi).2; omega⟩)
                    refine e_aload_n C d_MD_walkFrom_186 rfl rfl ?_
                    refine e_iload C d_MD_walkFrom_187 rfl ?_
                    refine e_iload C d_MD_walkFrom_189 rfl ?_
                    refine e_callV (As := [.int (nI (k + 1)), .int (nI q)]) (st := []) (wc := [oMD m th kd (nI w) (nI h) aho aaw fi sc (nI el.length) aen ato (bI li) (nI out.length) awa aot (bI drn) wyv rkv awk atr ase ade ala ach apa asq, aI cI awk 26 fwk]) (wr := [aI cI aen 80 fen, aJ cJ awa 40000 fw, aI cI atr 26 (upd ftr k (nI (tw k + 1))), aJ cJ ase 26 fse]) C (M_MD_isOn l D cI cJ cZ m aho aaw aen ato awa aot awk atr ase ade ala ach apa asq w h hw hh hw1 hh1 th kd fi sc el li out.length drn wyv rkv fwk (k + 1) (nI q) (by omega)) v_MD_isOn ml_MD_117 0 rfl rfl nwW_ok ⟨Nat.le_of_ble_eq_true rfl, Nat.le_of_ble_eq_true rfl⟩ ⟨Nat.le_of_ble_eq_true rfl, Nat.le_of_ble_eq_true rfl⟩ [0, 3] [1, 2, 4, 5] rfl rfl rfl rfl (by decide) (Nat.le_of_ble_eq_true rfl) rfl d_MD_walkFrom_191 (fun v w1 hp => ?_)
                    obtain ⟨rfl, rfl⟩ := hp
                    refine e_perm (st' := [.int (bI (thereF fwk (nI q) (k + 1)))]) (ws' := [oMD m th kd (nI w) (nI h) aho aaw fi sc (nI el.length) aen ato (bI li) (nI out.length) awa aot (bI drn) wyv rkv awk atr ase ade ala ach apa asq, aI cI aen 80 fen, aJ cJ awa 40000 fw, aI cI awk 26 fwk, aI cI atr 26 (upd ftr k (nI (tw k + 1))), aJ cJ ase 26 fse]) [4, 0, 1, 5, 2, 3] rfl rfl rfl ?_
                    refine e_if_eq (tgt := 200) C d_MD_walkFrom_194 (by decide) (fun h194 => ?_) (fun h194 => ?_)
                    · -- 200
                      have hnm : q ∉ dVs vw (k + 1) := fun z => by have q1 := hmem.mpr z; simp only [bI_eq0] at h194; rw [h194] at q1; exact absurd q1 (by decide)
                      rw [if_neg hnm] at hT1
                      have hqv : ∀ i, i < k + 1 → vw i ≠ q := fun i hi z => hnm (by rw [← z]; exact List.mem_of_getElem? (dVs_get hi))
                      have hinj2 : ∀ i j, i < k + 1 + 1 → j < k + 1 + 1 → upN vw (k + 1) q i = upN vw (k + 1) q j → i = j := fun i j hi hj z => by
                        by_cases a : i = k + 1
                        · by_cases b : j = k + 1
                          · omega
                          · rw [a, upN_s, upN_n b] at z; exact absurd z.symm (hqv j (by omega))
                        · by_cases b : j = k + 1
                          · rw [b, upN_s, upN_n a] at z; exact absurd z (hqv i (by omega))
                          · rw [upN_n a, upN_n b] at z; exact hinj i j (by omega) (by omega) z
                      have hk25 : k + 1 + 1 ≤ 25 := pigeon (k + 1 + 1) 25 (upN vw (k + 1) q) (fun i hi => by by_cases a : i = k + 1; (rw [a, upN_s]; exact hq25); (rw [upN_n a]; exact (hk i (by omega)).2)) hinj2
                      refine e_aload_n C d_MD_walkFrom_200 rfl rfl ?_
                      refine e_get C hin_MD 0 rfl rfl 18 (by decide) fl_MD_38 rfl d_MD_walkFrom_201 ?_
                      refine e_iload C d_MD_walkFrom_204 rfl ?_
                      refine e_iload C d_MD_walkFrom_206 rfl ?_
                      refine e_iast C 3 0 rfl rfl (vp_in_nI (by omega) (by omega)) d_MD_walkFrom_208 ?_
                      refine e_ws [oMD m th kd (nI w) (nI h) aho aaw fi sc (nI el.length) aen ato (bI li) (nI out.length) awa aot (bI drn) wyv rkv awk atr ase ade ala ach apa asq, aI cI aen 80 fen, aJ cJ awa 40000 fw, aI cI awk 26 (upd fwk (k + 1) (nI q)), aI cI atr 26 (upd ftr k (nI (tw k + 1))), aJ cJ ase 26 fse] (by rw [nI_clamp (by omega)]; rfl) ?_
                      refine e_aload_n C d_MD_walkFrom_209 rfl rfl ?_
                      refine e_get C hin_MD 0 rfl rfl 19 (by decide) fl_MD_41 rfl d_MD_walkFrom_210 ?_
                      refine e_iload C d_MD_walkFrom_213 rfl ?_
                      refine e_iconst (v := 0) C d_MD_walkFrom_215 rfl ?_
                      refine e_iast C 4 0 rfl rfl (vp_in_nI (by omega) (by omega)) d_MD_walkFrom_216 ?_
                      refine e_ws [oMD m th kd (nI w) (nI h) aho aaw fi sc (nI el.length) aen ato (bI li) (nI out.length) awa aot (bI drn) wyv rkv awk atr ase ade ala ach apa asq, aI cI aen 80 fen, aJ cJ awa 40000 fw, aI cI awk 26 (upd fwk (k + 1) (nI q)), aI cI atr 26 (upd (upd ftr k (nI (tw k + 1))) (k + 1) 0), aJ cJ ase 26 fse] (by rw [nI_clamp (by omega)]; rfl) ?_
                      refine e_aload_n C d_MD_walkFrom_217 rfl rfl ?_
                      refine e_get C hin_MD 0 rfl rfl 20 (by decide) fl_MD_44 rfl d_MD_walkFrom_218 ?_
                      refine e_iload C d_MD_walkFrom_221 rfl ?_
                      refine e_lload C d_MD_walkFrom_223 rfl ?_
                      refine e_last C 5 1 rfl rfl (vp_in_nI (by omega) (by omega)) d_MD_walkFrom_225 ?_
                      refine e_ws [oMD m th kd (nI w) (nI h) aho aaw fi sc (nI el.length) aen ato (bI li) (nI out.length) awa aot (bI drn) wyv rkv awk atr ase ade ala ach apa asq, aI cI aen 80 fen, aJ cJ awa 40000 fw, aI cI awk 26 (upd fwk (k + 1) (nI q)), aI cI atr 26 (upd (upd ftr k (nI (tw k + 1))) (k + 1) 0), aJ cJ ase 26 (vp_updL fse (k + 1) (fse k ||| bitL (tw k)))] (by rw [nI_clamp (by omega)]; rfl) ?_
                      refine e_iinc (v := (nI (k + 1)) + 1) C d_MD_walkFrom_226 rfl rfl (by decide) ?_
                      refine e_goto (tgt := 24) C d_MD_walkFrom_229 (by decide) ?_
                      refine e_lv [(0, .ref m), (1, .int (nI fr)), (2, .int (nI ls)), (3, .int (bI bk)), (4, .int (nI (k + 1 + 1)))] ⟨rfl, rfl, rfl, rfl, congrArg (fun z => some (Value.int z)) (nI_1 (k + 1)), trivial⟩ ?_
                      exact ihLP (k + 1 + 1) (upN vw (k + 1) q) (upN (upN tw k (tw k + 1)) (k + 1) 0) _ _ _ _ (out) hk25
                        (fun i hi => by by_cases a : i = k + 1; (rw [a, pk_us, upN_s]; exact ⟨rfl, hq25⟩); (rw [pk_un a, upN_n a]; exact hk i (by omega)))
                        (fun i hi => by by_cases a : i = k + 1; (rw [a, pk_us, upN_s]; exact ⟨rfl, Nat.zero_le _⟩); (rw [pk_un a, upN_n a]; by_cases z : i = k; (rw [z, pk_us, upN_s]; exact ⟨rfl, hte⟩); (rw [pk_un z, upN_n z]; exact ht i (by omega))))
                        hinj2 hW
                        (by
                          show _ ++ (dW _ _ _ _ _ (25 - (k + 1) + 1) (dVs _ (k + 1 + 1)) (upN vw (k + 1) q (k + 1)) (vp_updL fse (k + 1) (fse k ||| bitL (tw k)) (k + 1)) (upN _ (k + 1) 0 (k + 1)) ++ (dW _ _ _ _ _ _ (dVs _ (k + 1)) (upN vw (k + 1) q k) (vp_updL fse (k + 1) (fse k ||| bitL (tw k)) k) (upN _ (k + 1) 0 k) ++ dRM _ _ _ _ _ _ _ _ k)) = _
                          rw [upN_s, pk_uLs, upN_s, dVs_app, upN_n (show k ≠ k + 1 by omega), pk_uLn (show k ≠ k + 1 by omega), upN_n (show k ≠ k + 1 by omega), upN_s, dVs_congr (vw' := vw) (n := k + 1) (fun i hi => upN_n (by omega)), dRM_congr (vw' := vw) (tw' := tw) (fse' := fse) (n := k) (fun i hi => ⟨upN_n (by omega), by rw [upN_n (by omega), upN_n (by omega)], pk_uLn (by omega)⟩), show 25 - (k + 1) + 1 = 25 - k by omega, ← hT1]
                          simp only [List.append_assoc])
                        (by have q0 := dM_push hte (show k + 1 ≤ 25 by omega); exact Nat.lt_of_lt_of_le q0 (Nat.le_of_lt_succ hm))
                    · -- 197
                      refine e_goto (tgt := 24) C d_MD_walkFrom_197 (by decide) ?_
                      rw [if_pos (hmem.mp (by simp only [bI_eq0, Bool.not_eq_false] at h194; exact h194)), List.nil_append] at hT1
                      refine e_lv [(0, .ref m), (1, .int (nI fr)), (2, .int (nI ls)), (3, .int (bI bk)), (4, .int (nI (k + 1)))] ⟨rfl, rfl, rfl, rfl, rfl, trivial⟩ ?_
                      exact ihLP (k + 1) vw (upN tw k (tw k + 1)) fwk _ fse _ (out) hn hk (fun i hi => by by_cases z : i = k; (rw [z, pk_us, upN_s]; exact ⟨rfl, hte⟩); (rw [pk_un z, upN_n z]; exact ht i hi)) hinj hW (by show _ ++ (dW _ _ _ _ _ _ _ _ _ (upN tw k (tw k + 1) k) ++ dRM _ _ _ _ _ _ _ _ _) = _; rw [upN_s, dRM_congr (vw' := vw) (tw' := tw) (fse' := fse) (fun i hi => ⟨rfl, upN_n (by omega), rfl⟩), ← hT1]) (by have q0 := dM_next hte; omega)
                  · -- 163
                    refine e_iload C d_MD_walkFrom_163 rfl ?_
                    refine e_iconst (v := 2) C d_MD_walkFrom_165 rfl ?_
                    refine e_icmp_le (tgt := 186) C d_MD_walkFrom_166 (by decide) (fun h166 => ?_) (fun h166 => ?_)
                    · -- 186
                      have hadd : dAdd fr bk (dVs vw (k + 1)) (vw k) (fse k) (tw k) q = [] := by unfold dAdd; rw [if_neg (by have z := (nI_leI (b := 2) (by omega) (by decide)).mp h166; rw [decide_eq_false (show ¬ 2 < (dVs vw (k + 1)).length by rw [dVs_len]; omega), Bool.and_false, Bool.false_and]; decide)]
                      rw [hadd, List.nil_append] at hT1
                      have hmem := thereF_mem (vw := vw) (fwk := fwk) (q := q) (by omega) (n := k + 1) (fun i hi => ⟨(hk i hi).1, by have := (hk i hi).2; omega⟩)
                      refine e_aload_n C d_MD_walkFrom_186 rfl rfl ?_
                      refine e_iload C d_MD_walkFrom_187 rfl ?_
                      refine e_iload C d_MD_walkFrom_189 rfl ?_
                      refine e_callV (As := [.int (nI (k + 1)), .int (nI q)]) (st := []) (wc := [oMD m th kd (nI w) (nI h) aho aaw fi sc (nI el.length) aen ato (bI li) (nI out.length) awa aot (bI drn) wyv rkv awk atr ase ade ala ach apa asq, aI cI awk 26 fwk]) (wr := [aI cI aen 80 fen, aJ cJ awa 40000 fw, aI cI atr 26 (upd ftr k (nI (tw k + 1))), aJ cJ ase 26 fse]) C (M_MD_isOn l D cI cJ cZ m aho aaw aen ato awa aot awk atr ase ade ala ach apa asq w h hw hh hw1 hh1 th kd fi sc el li out.length drn wyv rkv fwk (k + 1) (nI q) (by omega)) v_MD_isOn ml_MD_117 0 rfl rfl nwW_ok ⟨Nat.le_of_ble_eq_true rfl, Nat.le_of_ble_eq_true rfl⟩ ⟨Nat.le_of_ble_eq_true rfl, Nat.le_of_ble_eq_true rfl⟩ [0, 3] [1, 2, 4, 5] rfl rfl rfl rfl (by decide) (Nat.le_of_ble_eq_true rfl) rfl d_MD_walkFrom_191 (fun v w1 hp => ?_)
                      obtain ⟨rfl, rfl⟩ := hp
                      refine e_perm (st' := [.int (bI (thereF fwk (nI q) (k + 1)))]) (ws' := [oMD m th kd (nI w) (nI h) aho aaw fi sc (nI el.length) aen ato (bI li) (nI out.length) awa aot (bI drn) wyv rkv awk atr ase ade ala ach apa asq, aI cI aen 80 fen, aJ cJ awa 40000 fw, aI cI awk 26 fwk, aI cI atr 26 (upd ftr k (nI (tw k + 1))), aJ cJ ase 26 fse]) [4, 0, 1, 5, 2, 3] rfl rfl rfl ?_
                      refine e_if_eq (tgt := 200) C d_MD_walkFrom_194 (by decide) (fun h194 => ?_) (fun h194 => ?_)
                      · -- 200
                        have hnm : q ∉ dVs vw (k + 1) := fun z => by have q1 := hmem.mpr z; simp only [bI_eq0] at h194; rw [h194] at q1; exact absurd q1 (by decide)
                        rw [if_neg hnm] at hT1
                        have hqv : ∀ i, i < k + 1 → vw i ≠ q := fun i hi z => hnm (by rw [← z]; exact List.mem_of_getElem? (dVs_get hi))
                        have hinj2 : ∀ i j, i < k + 1 + 1 → j < k + 1 + 1 → upN vw (k + 1) q i = upN vw (k + 1) q j → i = j := fun i j hi hj z => by
                          by_cases a : i = k + 1
                          · by_cases b : j = k + 1
                            · omega
                            · rw [a, upN_s, upN_n b] at z; exact absurd z.symm (hqv j (by omega))
                          · by_cases b : j = k + 1
                            · rw [b, upN_s, upN_n a] at z; exact absurd z (hqv i (by omega))
                            · rw [upN_n a, upN_n b] at z; exact hinj i j (by omega) (by omega) z
                        have hk25 : k + 1 + 1 ≤ 25 := pigeon (k + 1 + 1) 25 (upN vw (k + 1) q) (fun i hi => by by_cases a : i = k + 1; (rw [a, upN_s]; exact hq25); (rw [upN_n a]; exact (hk i (by omega)).2)) hinj2
                        refine e_aload_n C d_MD_walkFrom_200 rfl rfl ?_
                        refine e_get C hin_MD 0 rfl rfl 18 (by decide) fl_MD_38 rfl d_MD_walkFrom_201 ?_
                        refine e_iload C d_MD_walkFrom_204 rfl ?_
                        refine e_iload C d_MD_walkFrom_206 rfl ?_
                        refine e_iast C 3 0 rfl rfl (vp_in_nI (by omega) (by omega)) d_MD_walkFrom_208 ?_
                        refine e_ws [oMD m th kd (nI w) (nI h) aho aaw fi sc (nI el.length) aen ato (bI li) (nI out.length) awa aot (bI drn) wyv rkv awk atr ase ade ala ach apa asq, aI cI aen 80 fen, aJ cJ awa 40000 fw, aI cI awk 26 (upd fwk (k + 1) (nI q)), aI cI atr 26 (upd ftr k (nI (tw k + 1))), aJ cJ ase 26 fse] (by rw [nI_clamp (by omega)]; rfl) ?_
                        refine e_aload_n C d_MD_walkFrom_209 rfl rfl ?_
                        refine e_get C hin_MD 0 rfl rfl 19 (by decide) fl_MD_41 rfl d_MD_walkFrom_210 ?_
                        refine e_iload C d_MD_walkFrom_213 rfl ?_
                        refine e_iconst (v := 0) C d_MD_walkFrom_215 rfl ?_
                        refine e_iast C 4 0 rfl rfl (vp_in_nI (by omega) (by omega)) d_MD_walkFrom_216 ?_
                        refine e_ws [oMD m th kd (nI w) (nI h) aho aaw fi sc (nI el.length) aen ato (bI li) (nI out.length) awa aot (bI drn) wyv rkv awk atr ase ade ala ach apa asq, aI cI aen 80 fen, aJ cJ awa 40000 fw, aI cI awk 26 (upd fwk (k + 1) (nI q)), aI cI atr 26 (upd (upd ftr k (nI (tw k + 1))) (k + 1) 0), aJ cJ ase 26 fse] (by rw [nI_clamp (by omega)]; rfl) ?_
                        refine e_aload_n C d_MD_walkFrom_217 rfl rfl ?_
                        refine e_get C hin_MD 0 rfl rfl 20 (by decide) fl_MD_44 rfl d_MD_walkFrom_218 ?_
                        refine e_iload C d_MD_walkFrom_221 rfl ?_
                        refine e_lload C d_MD_walkFrom_223 rfl ?_
                        refine e_last C 5 1 rfl rfl (vp_in_nI (by omega) (by omega)) d_MD_walkFrom_225 ?_
                        refine e_ws [oMD m th kd (nI w) (nI h) aho aaw fi sc (nI el.length) aen ato (bI li) (nI out.length) awa aot (bI drn) wyv rkv awk atr ase ade ala ach apa asq, aI cI aen 80 fen, aJ cJ awa 40000 fw, aI cI awk 26 (upd fwk (k + 1) (nI q)), aI cI atr 26 (upd (upd ftr k (nI (tw k + 1))) (k + 1) 0), aJ cJ ase 26 (vp_updL fse (k + 1) (fse k ||| bitL (tw k)))] (by rw [nI_clamp (by omega)]; rfl) ?_
                        refine e_iinc (v := (nI (k + 1)) + 1) C d_MD_walkFrom_226 rfl rfl (by decide) ?_
                        refine e_goto (tgt := 24) C d_MD_walkFrom_229 (by decide) ?_
                        refine e_lv [(0, .ref m), (1, .int (nI fr)), (2, .int (nI ls)), (3, .int (bI bk)), (4, .int (nI (k + 1 + 1)))] ⟨rfl, rfl, rfl, rfl, congrArg (fun z => some (Value.int z)) (nI_1 (k + 1)), trivial⟩ ?_
                        exact ihLP (k + 1 + 1) (upN vw (k + 1) q) (upN (upN tw k (tw k + 1)) (k + 1) 0) _ _ _ _ (out) hk25
                          (fun i hi => by by_cases a : i = k + 1; (rw [a, pk_us, upN_s]; exact ⟨rfl, hq25⟩); (rw [pk_un a, upN_n a]; exact hk i (by omega)))
                          (fun i hi => by by_cases a : i = k + 1; (rw [a, pk_us, upN_s]; exact ⟨rfl, Nat.zero_le _⟩); (rw [pk_un a, upN_n a]; by_cases z : i = k; (rw [z, pk_us, upN_s]; exact ⟨rfl, hte⟩); (rw [pk_un z, upN_n z]; exact ht i (by omega))))
                          hinj2 hW
                          (by
                            show _ ++ (dW _ _ _ _ _ (25 - (k + 1) + 1) (dVs _ (k + 1 + 1)) (upN vw (k + 1) q (k + 1)) (vp_updL fse (k + 1) (fse k ||| bitL (tw k)) (k + 1)) (upN _ (k + 1) 0 (k + 1)) ++ (dW _ _ _ _ _ _ (dVs _ (k + 1)) (upN vw (k + 1) q k) (vp_updL fse (k + 1) (fse k ||| bitL (tw k)) k) (upN _ (k + 1) 0 k) ++ dRM _ _ _ _ _ _ _ _ k)) = _
                            rw [upN_s, pk_uLs, upN_s, dVs_app, upN_n (show k ≠ k + 1 by omega), pk_uLn (show k ≠ k + 1 by omega), upN_n (show k ≠ k + 1 by omega), upN_s, dVs_congr (vw' := vw) (n := k + 1) (fun i hi => upN_n (by omega)), dRM_congr (vw' := vw) (tw' := tw) (fse' := fse) (n := k) (fun i hi => ⟨upN_n (by omega), by rw [upN_n (by omega), upN_n (by omega)], pk_uLn (by omega)⟩), show 25 - (k + 1) + 1 = 25 - k by omega, ← hT1]
                            simp only [List.append_assoc])
                          (by have q0 := dM_push hte (show k + 1 ≤ 25 by omega); exact Nat.lt_of_lt_of_le q0 (Nat.le_of_lt_succ hm))
                      · -- 197
                        refine e_goto (tgt := 24) C d_MD_walkFrom_197 (by decide) ?_
                        rw [if_pos (hmem.mp (by simp only [bI_eq0, Bool.not_eq_false] at h194; exact h194)), List.nil_append] at hT1
                        refine e_lv [(0, .ref m), (1, .int (nI fr)), (2, .int (nI ls)), (3, .int (bI bk)), (4, .int (nI (k + 1)))] ⟨rfl, rfl, rfl, rfl, rfl, trivial⟩ ?_
                        exact ihLP (k + 1) vw (upN tw k (tw k + 1)) fwk _ fse _ (out) hn hk (fun i hi => by by_cases z : i = k; (rw [z, pk_us, upN_s]; exact ⟨rfl, hte⟩); (rw [pk_un z, upN_n z]; exact ht i hi)) hinj hW (by show _ ++ (dW _ _ _ _ _ _ _ _ _ (upN tw k (tw k + 1) k) ++ dRM _ _ _ _ _ _ _ _ _) = _; rw [upN_s, dRM_congr (vw' := vw) (tw' := tw) (fse' := fse) (fun i hi => ⟨rfl, upN_n (by omega), rfl⟩), ← hT1]) (by have q0 := dM_next hte; omega)
                    · -- 169
                      have hn2 : 2 < k + 1 := by rcases Nat.lt_or_ge 2 (k + 1) with z | z; exact z; exact absurd (nI_le (b := 2) z (by decide)) h166
                      refine e_aload_n C d_MD_walkFrom_169 rfl rfl ?_
                      refine e_get C hin_MD 0 rfl rfl 18 (by decide) fl_MD_38 rfl d_MD_walkFrom_170 ?_
                      refine e_iconst (v := 1) C d_MD_walkFrom_173 rfl ?_
                      refine e_st [.int (nI 1), .ref awk] rfl ?_
                      refine e_iald C 3 0 rfl rfl (vp_in_nI (by omega) (by omega)) d_MD_walkFrom_174 ?_
                      refine e_st [.int (fwk 1)] (by rw [nI_clamp (by omega)]) ?_
                      refine e_st [.int (nI (vw 1))] (by rw [(hk 1 (by omega)).1]) ?_
                      refine e_iload C d_MD_walkFrom_175 rfl ?_
                      refine e_icmp_ge (tgt := 186) C d_MD_walkFrom_177 (by decide) (fun h177 => ?_) (fun h177 => ?_)
                      · -- 186
                        have hadd : dAdd fr bk (dVs vw (k + 1)) (vw k) (fse k) (tw k) q = [] := by unfold dAdd; rw [if_neg (by have z := (nI_leI (by have := (hk 1 (by omega)).2; omega) (by have := (hk 1 (by omega)).2; omega)).mp h177; rw [dVs_get (show 1 < k + 1 by omega), decide_eq_false (show ¬ (some (vw 1)).getD 0 < vw k from by show ¬ vw 1 < vw k; omega), Bool.and_false]; decide)]
                        rw [hadd, List.nil_append] at hT1
                        have hmem := thereF_mem (vw := vw) (fwk := fwk) (q := q) (by omega) (n := k + 1) (fun i hi => ⟨(hk i hi).1, by have := (hk i hi).2; omega⟩)
                        refine e_aload_n C d_MD_walkFrom_186 rfl rfl ?_
                        refine e_iload C d_MD_walkFrom_187 rfl ?_
                        refine e_iload C d_MD_walkFrom_189 rfl ?_
                        refine e_callV (As := [.int (nI (k + 1)), .int (nI q)]) (st := []) (wc := [oMD m th kd (nI w) (nI h) aho aaw fi sc (nI el.length) aen ato (bI li) (nI out.length) awa aot (bI drn) wyv rkv awk atr ase ade ala ach apa asq, aI cI awk 26 fwk]) (wr := [aI cI aen 80 fen, aJ cJ awa 40000 fw, aI cI atr 26 (upd ftr k (nI (tw k + 1))), aJ cJ ase 26 fse]) C (M_MD_isOn l D cI cJ cZ m aho aaw aen ato awa aot awk atr ase ade ala ach apa asq w h hw hh hw1 hh1 th kd fi sc el li out.length drn wyv rkv fwk (k + 1) (nI q) (by omega)) v_MD_isOn ml_MD_117 0 rfl rfl nwW_ok ⟨Nat.le_of_ble_eq_true rfl, Nat.le_of_ble_eq_true rfl⟩ ⟨Nat.le_of_ble_eq_true rfl, Nat.le_of_ble_eq_true rfl⟩ [0, 3] [1, 2, 4, 5] rfl rfl rfl rfl (by decide) (Nat.le_of_ble_eq_true rfl) rfl d_MD_walkFrom_191 (fun v w1 hp => ?_)
                        obtain ⟨rfl, rfl⟩ := hp
                        refine e_perm (st' := [.int (bI (thereF fwk (nI q) (k + 1)))]) (ws' := [oMD m th kd (nI w) (nI h) aho aaw fi sc (nI el.length) aen ato (bI li) (nI out.length) awa aot (bI drn) wyv rkv awk atr ase ade ala ach apa asq, aI cI aen 80 fen, aJ cJ awa 40000 fw, aI cI awk 26 fwk, aI cI atr 26 (upd ftr k (nI (tw k + 1))), aJ cJ ase 26 fse]) [4, 0, 1, 5, 2, 3] rfl rfl rfl ?_
                        refine e_if_eq (tgt := 200) C d_MD_walkFrom_194 (by decide) (fun h194 => ?_) (fun h194 => ?_)
                        · -- 200
                          have hnm : q ∉ dVs vw (k + 1) := fun z => by have q1 := hmem.mpr z; simp only [bI_eq0] at h194; rw [h194] at q1; exact absurd q1 (by decide)
                          rw [if_neg hnm] at hT1
                          have hqv : ∀ i, i < k + 1 → vw i ≠ q := fun i hi z => hnm (by rw [← z]; exact List.mem_of_getElem? (dVs_get hi))
                          have hinj2 : ∀ i j, i < k + 1 + 1 → j < k + 1 + 1 → upN vw (k + 1) q i = upN vw (k + 1) q j → i = j := fun i j hi hj z => by
                            by_cases a : i = k + 1
                            · by_cases b : j = k + 1
                              · omega
                              · rw [a, upN_s, upN_n b] at z; exact absurd z.symm (hqv j (by omega))
                            · by_cases b : j = k + 1
                              · rw [b, upN_s, upN_n a] at z; exact absurd z (hqv i (by omega))
                              · rw [upN_n a, upN_n b] at z; exact hinj i j (by omega) (by omega) z
                          have hk25 : k + 1 + 1 ≤ 25 := pigeon (k + 1 + 1) 25 (upN vw (k + 1) q) (fun i hi => by by_cases a : i = k + 1; (rw [a, upN_s]; exact hq25); (rw [upN_n a]; exact (hk i (by omega)).2)) hinj2
                          refine e_aload_n C d_MD_walkFrom_200 rfl rfl ?_
                          refine e_get C hin_MD 0 rfl rfl 18 (by decide) fl_MD_38 rfl d_MD_walkFrom_201 ?_
                          refine e_iload C d_MD_walkFrom_204 rfl ?_
                          refine e_iload C d_MD_walkFrom_206 rfl ?_
                          refine e_iast C 3 0 rfl rfl (vp_in_nI (by omega) (by omega)) d_MD_walkFrom_208 ?_
                          refine e_ws [oMD m th kd (nI w) (nI h) aho aaw fi sc (nI el.length) aen ato (bI li) (nI out.length) awa aot (bI drn) wyv rkv awk atr ase ade ala ach apa asq, aI cI aen 80 fen, aJ cJ awa 40000 fw, aI cI awk 26 (upd fwk (k + 1) (nI q)), aI cI atr 26 (upd ftr k (nI (tw k + 1))), aJ cJ ase 26 fse] (by rw [nI_clamp (by omega)]; rfl) ?_
                          refine e_aload_n C d_MD_walkFrom_209 rfl rfl ?_
                          refine e_get C hin_MD 0 rfl rfl 19 (by decide) fl_MD_41 rfl d_MD_walkFrom_210 ?_
                          refine e_iload C d_MD_walkFrom_213 rfl ?_
                          refine e_iconst (v := 0) C d_MD_walkFrom_215 rfl ?_
                          refine e_iast C 4 0 rfl rfl (vp_in_nI (by omega) (by omega)) d_MD_walkFrom_216 ?_
                          refine e_ws [oMD m th kd (nI w) (nI h) aho aaw fi sc (nI el.length) aen ato (bI li) (nI out.length) awa aot (bI drn) wyv rkv awk atr ase ade ala ach apa asq, aI cI aen 80 fen, aJ cJ awa 40000 fw, aI cI awk 26 (upd fwk (k + 1) (nI q)), aI cI atr 26 (upd (upd ftr k (nI (tw k + 1))) (k + 1) 0), aJ cJ ase 26 fse] (by rw [nI_clamp (by omega)]; rfl) ?_
                          refine e_aload_n C d_MD_walkFrom_217 rfl rfl ?_
                          refine e_get C hin_MD 0 rfl rfl 20 (by decide) fl_MD_44 rfl d_MD_walkFrom_218 ?_
                          refine e_iload C d_MD_walkFrom_221 rfl ?_
                          refine e_lload C d_MD_walkFrom_223 rfl ?_
                          refine e_last C 5 1 rfl rfl (vp_in_nI (by omega) (by omega)) d_MD_walkFrom_225 ?_
                          refine e_ws [oMD m th kd (nI w) (nI h) aho aaw fi sc (nI el.length) aen ato (bI li) (nI out.length) awa aot (bI drn) wyv rkv awk atr ase ade ala ach apa asq, aI cI aen 80 fen, aJ cJ awa 40000 fw, aI cI awk 26 (upd fwk (k + 1) (nI q)), aI cI atr 26 (upd (upd ftr k (nI (tw k + 1))) (k + 1) 0), aJ cJ ase 26 (vp_updL fse (k + 1) (fse k ||| bitL (tw k)))] (by rw [nI_clamp (by omega)]; rfl) ?_
                          refine e_iinc (v := (nI (k + 1)) + 1) C d_MD_walkFrom_226 rfl rfl (by decide) ?_
                          refine e_goto (tgt := 24) C d_MD_walkFrom_229 (by decide) ?_
                          refine e_lv [(0, .ref m), (1, .int (nI fr)), (2, .int (nI ls)), (3, .int (bI bk)), (4, .int (nI (k + 1 + 1)))] ⟨rfl, rfl, rfl, rfl, congrArg (fun z => some (Value.int z)) (nI_1 (k + 1)), trivial⟩ ?_
                          exact ihLP (k + 1 + 1) (upN vw (k + 1) q) (upN (upN tw k (tw k + 1)) (k + 1) 0) _ _ _ _ (out) hk25
                            (fun i hi => by by_cases a : i = k + 1; (rw [a, pk_us, upN_s]; exact ⟨rfl, hq25⟩); (rw [pk_un a, upN_n a]; exact hk i (by omega)))
                            (fun i hi => by by_cases a : i = k + 1; (rw [a, pk_us, upN_s]; exact ⟨rfl, Nat.zero_le _⟩); (rw [pk_un a, upN_n a]; by_cases z : i = k; (rw [z, pk_us, upN_s]; exact ⟨rfl, hte⟩); (rw [pk_un z, upN_n z]; exact ht i (by omega))))
                            hinj2 hW
                            (by
                              show _ ++ (dW _ _ _ _ _ (25 - (k + 1) + 1) (dVs _ (k + 1 + 1)) (upN vw (k + 1) q (k + 1)) (vp_updL fse (k + 1) (fse k ||| bitL (tw k)) (k + 1)) (upN _ (k + 1) 0 (k + 1)) ++ (dW _ _ _ _ _ _ (dVs _ (k + 1)) (upN vw (k + 1) q k) (vp_updL fse (k + 1) (fse k ||| bitL (tw k)) k) (upN _ (k + 1) 0 k) ++ dRM _ _ _ _ _ _ _ _ k)) = _
                              rw [upN_s, pk_uLs, upN_s, dVs_app, upN_n (show k ≠ k + 1 by omega), pk_uLn (show k ≠ k + 1 by omega), upN_n (show k ≠ k + 1 by omega), upN_s, dVs_congr (vw' := vw) (n := k + 1) (fun i hi => upN_n (by omega)), dRM_congr (vw' := vw) (tw' := tw) (fse' := fse) (n := k) (fun i hi => ⟨upN_n (by omega), by rw [upN_n (by omega), upN_n (by omega)], pk_uLn (by omega)⟩), show 25 - (k + 1) + 1 = 25 - k by omega, ← hT1]
                              simp only [List.append_assoc])
                            (by have q0 := dM_push hte (show k + 1 ≤ 25 by omega); exact Nat.lt_of_lt_of_le q0 (Nat.le_of_lt_succ hm))
                        · -- 197
                          refine e_goto (tgt := 24) C d_MD_walkFrom_197 (by decide) ?_
                          rw [if_pos (hmem.mp (by simp only [bI_eq0, Bool.not_eq_false] at h194; exact h194)), List.nil_append] at hT1
                          refine e_lv [(0, .ref m), (1, .int (nI fr)), (2, .int (nI ls)), (3, .int (bI bk)), (4, .int (nI (k + 1)))] ⟨rfl, rfl, rfl, rfl, rfl, trivial⟩ ?_
                          exact ihLP (k + 1) vw (upN tw k (tw k + 1)) fwk _ fse _ (out) hn hk (fun i hi => by by_cases z : i = k; (rw [z, pk_us, upN_s]; exact ⟨rfl, hte⟩); (rw [pk_un z, upN_n z]; exact ht i hi)) hinj hW (by show _ ++ (dW _ _ _ _ _ _ _ _ _ (upN tw k (tw k + 1) k) ++ dRM _ _ _ _ _ _ _ _ _) = _; rw [upN_s, dRM_congr (vw' := vw) (tw' := tw) (fse' := fse) (fun i hi => ⟨rfl, upN_n (by omega), rfl⟩), ← hT1]) (by have q0 := dM_next hte; omega)
                      · -- 180
                        have hadd : dAdd fr bk (dVs vw (k + 1)) (vw k) (fse k) (tw k) q = [(fse k ||| bitL (tw k))] := by simp only [bI_eq0, Bool.not_eq_false] at h154; unfold dAdd; rw [if_pos (by rw [h154, decide_eq_true (show q = fr from (nI_eq (by omega) (by omega)).mp h160), decide_eq_true (show 2 < (dVs vw (k + 1)).length by rw [dVs_len]; exact hn2), dVs_get (show 1 < k + 1 by omega), decide_eq_true (show (some (vw 1)).getD 0 < vw k from by show vw 1 < vw k; rcases Nat.lt_or_ge (vw 1) (vw k) with z | z; exact z; exact absurd (nI_le z (by have := (hk 1 (by omega)).2; omega)) h177)]; rfl)]
                        rw [hadd] at hT1
                        have hlen : out.length < 40000 := by have q1 := congrArg List.length hT1; simp only [List.length_append, List.length_singleton] at q1; omega
                        refine e_aload_n C d_MD_walkFrom_180 rfl rfl ?_
                        refine e_lload C d_MD_walkFrom_181 rfl ?_
                        refine e_callV (As := [.long (fse k ||| bitL (tw k))]) (st := []) (wc := [oMD m th kd (nI w) (nI h) aho aaw fi sc (nI el.length) aen ato (bI li) (nI out.length) awa aot (bI drn) wyv rkv awk atr ase ade ala ach apa asq, aJ cJ awa 40000 fw]) (wr := [aI cI aen 80 fen, aI cI awk 26 fwk, aI cI atr 26 (upd ftr k (nI (tw k + 1))), aJ cJ ase 26 fse]) C (M_MD_add l D cI cJ cZ m aho aaw aen ato awa aot awk atr ase ade ala ach apa asq w h hw hh hw1 hh1 th kd fi sc el li out.length drn wyv rkv fw (fse k ||| bitL (tw k)) hlen) v_MD_add ml_MD_109 0 rfl rfl nwW_ok ⟨Nat.le_of_ble_eq_true rfl, Nat.le_of_ble_eq_true rfl⟩ ⟨Nat.le_of_ble_eq_true rfl, Nat.le_of_ble_eq_true rfl⟩ [0, 2] [1, 3, 4, 5] rfl rfl rfl rfl (by decide) (Nat.le_of_ble_eq_true rfl) rfl d_MD_walkFrom_183 (fun v w1 hp => ?_)
                        obtain ⟨rfl, rfl⟩ := hp
                        refine e_perm (st' := []) (ws' := [oMD m th kd (nI w) (nI h) aho aaw fi sc (nI el.length) aen ato (bI li) (nI (out.length + 1)) awa aot (bI drn) wyv rkv awk atr ase ade ala ach apa asq, aI cI aen 80 fen, aJ cJ awa 40000 (vp_updL fw out.length (fse k ||| bitL (tw k))), aI cI awk 26 fwk, aI cI atr 26 (upd ftr k (nI (tw k + 1))), aJ cJ ase 26 fse]) [4, 0, 5, 1, 2, 3] rfl rfl rfl ?_
                        have hmem := thereF_mem (vw := vw) (fwk := fwk) (q := q) (by omega) (n := k + 1) (fun i hi => ⟨(hk i hi).1, by have := (hk i hi).2; omega⟩)
                        refine e_aload_n C d_MD_walkFrom_186 rfl rfl ?_
                        refine e_iload C d_MD_walkFrom_187 rfl ?_
                        refine e_iload C d_MD_walkFrom_189 rfl ?_
                        refine e_callV (As := [.int (nI (k + 1)), .int (nI q)]) (st := []) (wc := [oMD m th kd (nI w) (nI h) aho aaw fi sc (nI el.length) aen ato (bI li) (nI (out.length + 1)) awa aot (bI drn) wyv rkv awk atr ase ade ala ach apa asq, aI cI awk 26 fwk]) (wr := [aI cI aen 80 fen, aJ cJ awa 40000 (vp_updL fw out.length (fse k ||| bitL (tw k))), aI cI atr 26 (upd ftr k (nI (tw k + 1))), aJ cJ ase 26 fse]) C (M_MD_isOn l D cI cJ cZ m aho aaw aen ato awa aot awk atr ase ade ala ach apa asq w h hw hh hw1 hh1 th kd fi sc el li (out.length + 1) drn wyv rkv fwk (k + 1) (nI q) (by omega)) v_MD_isOn ml_MD_117 0 rfl rfl nwW_ok ⟨Nat.le_of_ble_eq_true rfl, Nat.le_of_ble_eq_true rfl⟩ ⟨Nat.le_of_ble_eq_true rfl, Nat.le_of_ble_eq_true rfl⟩ [0, 3] [1, 2, 4, 5] rfl rfl rfl rfl (by decide) (Nat.le_of_ble_eq_true rfl) rfl d_MD_walkFrom_191 (fun v w1 hp => ?_)
                        obtain ⟨rfl, rfl⟩ := hp
                        refine e_perm (st' := [.int (bI (thereF fwk (nI q) (k + 1)))]) (ws' := [oMD m th kd (nI w) (nI h) aho aaw fi sc (nI el.length) aen ato (bI li) (nI (out.length + 1)) awa aot (bI drn) wyv rkv awk atr ase ade ala ach apa asq, aI cI aen 80 fen, aJ cJ awa 40000 (vp_updL fw out.length (fse k ||| bitL (tw k))), aI cI awk 26 fwk, aI cI atr 26 (upd ftr k (nI (tw k + 1))), aJ cJ ase 26 fse]) [4, 0, 1, 5, 2, 3] rfl rfl rfl ?_
                        refine e_if_eq (tgt := 200) C d_MD_walkFrom_194 (by decide) (fun h194 => ?_) (fun h194 => ?_)
                        · -- 200
                          have hnm : q ∉ dVs vw (k + 1) := fun z => by have q1 := hmem.mpr z; simp only [bI_eq0] at h194; rw [h194] at q1; exact absurd q1 (by decide)
                          rw [if_neg hnm] at hT1
                          have hqv : ∀ i, i < k + 1 → vw i ≠ q := fun i hi z => hnm (by rw [← z]; exact List.mem_of_getElem? (dVs_get hi))
                          have hinj2 : ∀ i j, i < k + 1 + 1 → j < k + 1 + 1 → upN vw (k + 1) q i = upN vw (k + 1) q j → i = j := fun i j hi hj z => by
                            by_cases a : i = k + 1
                            · by_cases b : j = k + 1
                              · omega
                              · rw [a, upN_s, upN_n b] at z; exact absurd z.symm (hqv j (by omega))
                            · by_cases b : j = k + 1
                              · rw [b, upN_s, upN_n a] at z; exact absurd z (hqv i (by omega))
                              · rw [upN_n a, upN_n b] at z; exact hinj i j (by omega) (by omega) z
                          have hk25 : k + 1 + 1 ≤ 25 := pigeon (k + 1 + 1) 25 (upN vw (k + 1) q) (fun i hi => by by_cases a : i = k + 1; (rw [a, upN_s]; exact hq25); (rw [upN_n a]; exact (hk i (by omega)).2)) hinj2
                          refine e_aload_n C d_MD_walkFrom_200 rfl rfl ?_
                          refine e_get C hin_MD 0 rfl rfl 18 (by decide) fl_MD_38 rfl d_MD_walkFrom_201 ?_
                          refine e_iload C d_MD_walkFrom_204 rfl ?_
                          refine e_iload C d_MD_walkFrom_206 rfl ?_
                          refine e_iast C 3 0 rfl rfl (vp_in_nI (by omega) (by omega)) d_MD_walkFrom_208 ?_
                          refine e_ws [oMD m th kd (nI w) (nI h) aho aaw fi sc (nI el.length) aen ato (bI li) (nI (out.length + 1)) awa aot (bI drn) wyv rkv awk atr ase ade ala ach apa asq, aI cI aen 80 fen, aJ cJ awa 40000 (vp_updL fw out.length (fse k ||| bitL (tw k))), aI cI awk 26 (upd fwk (k + 1) (nI q)), aI cI atr 26 (upd ftr k (nI (tw k + 1))), aJ cJ ase 26 fse] (by rw [nI_clamp (by omega)]; rfl) ?_
                          refine e_aload_n C d_MD_walkFrom_209 rfl rfl ?_
                          refine e_get C hin_MD 0 rfl rfl 19 (by decide) fl_MD_41 rfl d_MD_walkFrom_210 ?_
                          refine e_iload C d_MD_walkFrom_213 rfl ?_
                          refine e_iconst (v := 0) C d_MD_walkFrom_215 rfl ?_
                          refine e_iast C 4 0 rfl rfl (vp_in_nI (by omega) (by omega)) d_MD_walkFrom_216 ?_
                          refine e_ws [oMD m th kd (nI w) (nI h) aho aaw fi sc (nI el.length) aen ato (bI li) (nI (out.length + 1)) awa aot (bI drn) wyv rkv awk atr ase ade ala ach apa asq, aI cI aen 80 fen, aJ cJ awa 40000 (vp_updL fw out.length (fse k ||| bitL (tw k))), aI cI awk 26 (upd fwk (k + 1) (nI q)), aI cI atr 26 (upd (upd ftr k (nI (tw k + 1))) (k + 1) 0), aJ cJ ase 26 fse] (by rw [nI_clamp (by omega)]; rfl) ?_
                          refine e_aload_n C d_MD_walkFrom_217 rfl rfl ?_
                          refine e_get C hin_MD 0 rfl rfl 20 (by decide) fl_MD_44 rfl d_MD_walkFrom_218 ?_
                          refine e_iload C d_MD_walkFrom_221 rfl ?_
                          refine e_lload C d_MD_walkFrom_223 rfl ?_
                          refine e_last C 5 1 rfl rfl (vp_in_nI (by omega) (by omega)) d_MD_walkFrom_225 ?_
                          refine e_ws [oMD m th kd (nI w) (nI h) aho aaw fi sc (nI el.length) aen ato (bI li) (nI (out.length + 1)) awa aot (bI drn) wyv rkv awk atr ase ade ala ach apa asq, aI cI aen 80 fen, aJ cJ awa 40000 (vp_updL fw out.length (fse k ||| bitL (tw k))), aI cI awk 26 (upd fwk (k + 1) (nI q)), aI cI atr 26 (upd (upd ftr k (nI (tw k + 1))) (k + 1) 0), aJ cJ ase 26 (vp_updL fse (k + 1) (fse k ||| bitL (tw k)))] (by rw [nI_clamp (by omega)]; rfl) ?_
                          refine e_iinc (v := (nI (k + 1)) + 1) C d_MD_walkFrom_226 rfl rfl (by decide) ?_
                          refine e_goto (tgt := 24) C d_MD_walkFrom_229 (by decide) ?_
                          refine e_lv [(0, .ref m), (1, .int (nI fr)), (2, .int (nI ls)), (3, .int (bI bk)), (4, .int (nI (k + 1 + 1)))] ⟨rfl, rfl, rfl, rfl, congrArg (fun z => some (Value.int z)) (nI_1 (k + 1)), trivial⟩ ?_
                          refine e_ws [oMD m th kd (nI w) (nI h) aho aaw fi sc (nI el.length) aen ato (bI li) (nI (out ++ [(fse k ||| bitL (tw k))]).length) awa aot (bI drn) wyv rkv awk atr ase ade ala ach apa asq, aI cI aen 80 fen, aJ cJ awa 40000 (vp_updL fw out.length (fse k ||| bitL (tw k))), aI cI awk 26 (upd fwk (k + 1) (nI q)), aI cI atr 26 (upd (upd ftr k (nI (tw k + 1))) (k + 1) 0), aJ cJ ase 26 (vp_updL fse (k + 1) (fse k ||| bitL (tw k)))] (by rw [List.length_append]; rfl) ?_
                          exact ihLP (k + 1 + 1) (upN vw (k + 1) q) (upN (upN tw k (tw k + 1)) (k + 1) 0) _ _ _ _ (out ++ [(fse k ||| bitL (tw k))]) hk25
                            (fun i hi => by by_cases a : i = k + 1; (rw [a, pk_us, upN_s]; exact ⟨rfl, hq25⟩); (rw [pk_un a, upN_n a]; exact hk i (by omega)))
                            (fun i hi => by by_cases a : i = k + 1; (rw [a, pk_us, upN_s]; exact ⟨rfl, Nat.zero_le _⟩); (rw [pk_un a, upN_n a]; by_cases z : i = k; (rw [z, pk_us, upN_s]; exact ⟨rfl, hte⟩); (rw [pk_un z, upN_n z]; exact ht i (by omega))))
                            hinj2 (WaR_app hW)
                            (by
                              show _ ++ (dW _ _ _ _ _ (25 - (k + 1) + 1) (dVs _ (k + 1 + 1)) (upN vw (k + 1) q (k + 1)) (vp_updL fse (k + 1) (fse k ||| bitL (tw k)) (k + 1)) (upN _ (k + 1) 0 (k + 1)) ++ (dW _ _ _ _ _ _ (dVs _ (k + 1)) (upN vw (k + 1) q k) (vp_updL fse (k + 1) (fse k ||| bitL (tw k)) k) (upN _ (k + 1) 0 k) ++ dRM _ _ _ _ _ _ _ _ k)) = _
                              rw [upN_s, pk_uLs, upN_s, dVs_app, upN_n (show k ≠ k + 1 by omega), pk_uLn (show k ≠ k + 1 by omega), upN_n (show k ≠ k + 1 by omega), upN_s, dVs_congr (vw' := vw) (n := k + 1) (fun i hi => upN_n (by omega)), dRM_congr (vw' := vw) (tw' := tw) (fse' := fse) (n := k) (fun i hi => ⟨upN_n (by omega), by rw [upN_n (by omega), upN_n (by omega)], pk_uLn (by omega)⟩), show 25 - (k + 1) + 1 = 25 - k by omega, ← hT1]
                              simp only [List.append_assoc])
                            (by have q0 := dM_push hte (show k + 1 ≤ 25 by omega); exact Nat.lt_of_lt_of_le q0 (Nat.le_of_lt_succ hm))
                        · -- 197
                          refine e_goto (tgt := 24) C d_MD_walkFrom_197 (by decide) ?_
                          rw [if_pos (hmem.mp (by simp only [bI_eq0, Bool.not_eq_false] at h194; exact h194)), List.append_nil] at hT1
                          refine e_lv [(0, .ref m), (1, .int (nI fr)), (2, .int (nI ls)), (3, .int (bI bk)), (4, .int (nI (k + 1)))] ⟨rfl, rfl, rfl, rfl, rfl, trivial⟩ ?_
                          refine e_ws [oMD m th kd (nI w) (nI h) aho aaw fi sc (nI el.length) aen ato (bI li) (nI (out ++ [(fse k ||| bitL (tw k))]).length) awa aot (bI drn) wyv rkv awk atr ase ade ala ach apa asq, aI cI aen 80 fen, aJ cJ awa 40000 (vp_updL fw out.length (fse k ||| bitL (tw k))), aI cI awk 26 fwk, aI cI atr 26 (upd ftr k (nI (tw k + 1))), aJ cJ ase 26 fse] (by rw [List.length_append]; rfl) ?_
                          exact ihLP (k + 1) vw (upN tw k (tw k + 1)) fwk _ fse _ (out ++ [(fse k ||| bitL (tw k))]) hn hk (fun i hi => by by_cases z : i = k; (rw [z, pk_us, upN_s]; exact ⟨rfl, hte⟩); (rw [pk_un z, upN_n z]; exact ht i hi)) hinj (WaR_app hW) (by show _ ++ (dW _ _ _ _ _ _ _ _ _ (upN tw k (tw k + 1) k) ++ dRM _ _ _ _ _ _ _ _ _) = _; rw [upN_s, dRM_congr (vw' := vw) (tw' := tw) (fse' := fse) (fun i hi => ⟨rfl, upN_n (by omega), rfl⟩), ← hT1, List.append_assoc, List.append_assoc]) (by have q0 := dM_next hte; omega)
              · -- 134
                refine e_goto (tgt := 24) C d_MD_walkFrom_134 (by decide) ?_
                have hT1 : out ++ ((if q < ls then [] else dAdd fr bk (dVs vw (k + 1)) (vw k) (fse k) (tw k) q ++ (if q ∈ dVs vw (k + 1) then [] else dW el fr ls bk sc (25 - k) (dVs vw (k + 1) ++ [q]) q (fse k ||| bitL (tw k)) 0)) ++ dW el fr ls bk sc (25 - k + 1) (dVs vw (k + 1)) (vw k) (fse k) (tw k + 1) ++ dRM el fr ls bk sc vw tw fse k) = TOT := hT1
                rw [if_pos (show q < ls by rcases Nat.lt_or_ge q ls with z | z; exact z; exact absurd (nI_le z (by omega)) h131), List.nil_append] at hT1
                refine e_lv [(0, .ref m), (1, .int (nI fr)), (2, .int (nI ls)), (3, .int (bI bk)), (4, .int (nI (k + 1)))] ⟨rfl, rfl, rfl, rfl, rfl, trivial⟩ ?_
                exact ihLP (k + 1) vw (upN tw k (tw k + 1)) fwk _ fse _ (out) hn hk (fun i hi => by by_cases z : i = k; (rw [z, pk_us, upN_s]; exact ⟨rfl, hte⟩); (rw [pk_un z, upN_n z]; exact ht i hi)) hinj hW (by show _ ++ (dW _ _ _ _ _ _ _ _ _ (upN tw k (tw k + 1) k) ++ dRM _ _ _ _ _ _ _ _ _) = _; rw [upN_s, dRM_congr (vw' := vw) (tw' := tw) (fse' := fse) (fun i hi => ⟨rfl, upN_n (by omega), rfl⟩), ← hT1]) (by have q0 := dM_next hte; omega)
          · -- 64
            refine e_iload C d_MD_walkFrom_64 rfl ?_
            refine e_aload_n C d_MD_walkFrom_66 rfl rfl ?_
            refine e_get C hin_MD 0 rfl rfl 7 (by decide) fl_MD_20 rfl d_MD_walkFrom_67 ?_
            refine e_icmp_ne (tgt := 105) C d_MD_walkFrom_70 (by decide) (fun h70 => ?_) (fun h70 => ?_)
            · -- 105
              have htg : dTgt bk sc (vw k) = false := by unfold dTgt; rw [decide_eq_false h70, Bool.and_false]
              have hte : tw k < el.length := by rcases Nat.lt_or_ge (tw k) el.length with z | z; exact z; exact absurd (by rw [show tw k = el.length by omega]) h57
              obtain ⟨⟨ea, eb⟩, hsv⟩ : ∃ q, el[tw k]? = some q := ⟨_, List.getElem?_eq_getElem hte⟩
              have hab := hev _ _ _ hsv
              rw [dW_step htg hte] at hT1
              have hone : dOne el fr ls bk (fun vs q s => dW el fr ls bk sc (25 - k) vs q s 0) (dVs vw (k + 1)) (vw k) (fse k) (tw k) = (match acN (ea, eb) (vw k) with | none => [] | some q => if q < ls then [] else dAdd fr bk (dVs vw (k + 1)) (vw k) (fse k) (tw k) q ++ (if q ∈ dVs vw (k + 1) then [] else dW el fr ls bk sc (25 - k) (dVs vw (k + 1) ++ [q]) q (fse k ||| bitL (tw k)) 0)) := by unfold dOne; rw [hsv]; rfl
              rw [hone] at hT1
              refine e_aload_n C d_MD_walkFrom_105 rfl rfl ?_
              refine e_get C hin_MD 0 rfl rfl 19 (by decide) fl_MD_41 rfl d_MD_walkFrom_106 ?_
              refine e_iload C d_MD_walkFrom_109 rfl ?_
              refine e_iconst (v := 1) C d_MD_walkFrom_111 rfl ?_
              refine e_isub C d_MD_walkFrom_112 ?_
              refine e_st [.int (nI k), .ref atr] (by rw [nI_pred]) ?_
              refine e_dup2_11 C d_MD_walkFrom_113 rfl rfl ?_
              refine e_iald C 4 0 rfl rfl (vp_in_nI (by omega) (by omega)) d_MD_walkFrom_114 ?_
              refine e_st [.int (ftr k), .int (nI k), .ref atr] (by rw [nI_clamp (by omega)]) ?_
              refine e_iconst (v := 1) C d_MD_walkFrom_115 rfl ?_
              refine e_iadd C d_MD_walkFrom_116 ?_
              refine e_st [.int (nI (tw k + 1)), .int (nI k), .ref atr] (by rw [ht1.1, nI_1]) ?_
              refine e_iast C 4 0 rfl rfl (vp_in_nI (by omega) (by omega)) d_MD_walkFrom_117 ?_
              refine e_ws [oMD m th kd (nI w) (nI h) aho aaw fi sc (nI el.length) aen ato (bI li) (nI out.length) awa aot (bI drn) wyv rkv awk atr ase ade ala ach apa asq, aI cI aen 80 fen, aJ cJ awa 40000 fw, aI cI awk 26 fwk, aI cI atr 26 (upd ftr k (nI (tw k + 1))), aJ cJ ase 26 fse] (by rw [nI_clamp (by omega)]; rfl) ?_
              refine e_aload_n C d_MD_walkFrom_118 rfl rfl ?_
              refine e_iload C d_MD_walkFrom_119 rfl ?_
              refine e_iload C d_MD_walkFrom_121 rfl ?_
              refine e_callV (As := [.int (nI (tw k)), .int (nI (vw k))]) (st := []) (wc := [oMD m th kd (nI w) (nI h) aho aaw fi sc (nI el.length) aen ato (bI li) (nI out.length) awa aot (bI drn) wyv rkv awk atr ase ade ala ach apa asq, aI cI aen 80 fen]) (wr := [aJ cJ awa 40000 fw, aI cI awk 26 fwk, aI cI atr 26 (upd ftr k (nI (tw k + 1))), aJ cJ ase 26 fse]) C (M_MD_across l D cI cJ cZ m aho aaw aen ato awa aot awk atr ase ade ala ach apa asq w h hw hh hw1 hh1 th kd fi sc el li out.length drn wyv rkv fen (tw k) ea eb (nI (vw k)) (by omega) hen hsv) v_MD_across ml_MD_113 0 rfl rfl nwW_ok ⟨Nat.le_of_ble_eq_true rfl, Nat.le_of_ble_eq_true rfl⟩ ⟨Nat.le_of_ble_eq_true rfl, Nat.le_of_ble_eq_true rfl⟩ [0, 1] [2, 3, 4, 5] rfl rfl rfl rfl (by decide) (Nat.le_of_ble_eq_true rfl) rfl d_MD_walkFrom_123 (fun v w1 hp => ?_)
              obtain ⟨rfl, rfl⟩ := hp
              refine e_perm (st' := [.int (acF (ea, eb) (nI (vw k)))]) (ws' := [oMD m th kd (nI w) (nI h) aho aaw fi sc (nI el.length) aen ato (bI li) (nI out.length) awa aot (bI drn) wyv rkv awk atr ase ade ala ach apa asq, aI cI aen 80 fen, aJ cJ awa 40000 fw, aI cI awk 26 fwk, aI cI atr 26 (upd ftr k (nI (tw k + 1))), aJ cJ ase 26 fse]) [4, 5, 0, 1, 2, 3] rfl rfl rfl ?_
              rcases acF_cases hab.1 hab.2 hk1.2 with ⟨hq, hqn⟩ | ⟨q, hq25, hq, hqn⟩
              · rw [hqn] at hT1
                refine e_st [.int (-1)] (by rw [hq]) ?_
                refine e_istore C d_MD_walkFrom_126 (by decide) ?_
                refine e_iload C d_MD_walkFrom_128 rfl ?_
                refine e_iload_n C d_MD_walkFrom_130 rfl rfl ?_
                refine e_icmp_ge (tgt := 137) C d_MD_walkFrom_131 (by decide) (fun h131 => ?_) (fun h131 => ?_)
                · -- 137
                  exact absurd h131 (by have q1 : ¬ nI ls ≤ -1 := fun z => absurd (Int32.le_iff_toInt_le.mp z) (by rw [nI_toInt (by omega)]; show ¬ (ls : Int) ≤ -1; omega); exact q1)
                · -- 134
                  refine e_goto (tgt := 24) C d_MD_walkFrom_134 (by decide) ?_
                  rw [List.nil_append] at hT1
                  refine e_lv [(0, .ref m), (1, .int (nI fr)), (2, .int (nI ls)), (3, .int (bI bk)), (4, .int (nI (k + 1)))] ⟨rfl, rfl, rfl, rfl, rfl, trivial⟩ ?_
                  exact ihLP (k + 1) vw (upN tw k (tw k + 1)) fwk _ fse _ (out) hn hk (fun i hi => by by_cases z : i = k; (rw [z, pk_us, upN_s]; exact ⟨rfl, hte⟩); (rw [pk_un z, upN_n z]; exact ht i hi)) hinj hW (by show _ ++ (dW _ _ _ _ _ _ _ _ _ (upN tw k (tw k + 1) k) ++ dRM _ _ _ _ _ _ _ _ _) = _; rw [upN_s, dRM_congr (vw' := vw) (tw' := tw) (fse' := fse) (fun i hi => ⟨rfl, upN_n (by omega), rfl⟩), ← hT1]) (by have q0 := dM_next hte; omega)
              · rw [hqn] at hT1
                refine e_st [.int (nI q)] (by rw [hq]) ?_
                refine e_istore C d_MD_walkFrom_126 (by decide) ?_
                refine e_iload C d_MD_walkFrom_128 rfl ?_
                refine e_iload_n C d_MD_walkFrom_130 rfl rfl ?_
                refine e_icmp_ge (tgt := 137) C d_MD_walkFrom_131 (by decide) (fun h131 => ?_) (fun h131 => ?_)
                · -- 137
                  have hlq : ls ≤ q := (nI_leI (by omega) (by omega)).mp h131
                  have hT1 : out ++ ((if q < ls then [] else dAdd fr bk (dVs vw (k + 1)) (vw k) (fse k) (tw k) q ++ (if q ∈ dVs vw (k + 1) then [] else dW el fr ls bk sc (25 - k) (dVs vw (k + 1) ++ [q]) q (fse k ||| bitL (tw k)) 0)) ++ dW el fr ls bk sc (25 - k + 1) (dVs vw (k + 1)) (vw k) (fse k) (tw k + 1) ++ dRM el fr ls bk sc vw tw fse k) = TOT := hT1
                  rw [if_neg (by omega)] at hT1
                  refine e_aload_n C d_MD_walkFrom_137 rfl rfl ?_
                  refine e_get C hin_MD 0 rfl rfl 20 (by decide) fl_MD_44 rfl d_MD_walkFrom_138 ?_
                  refine e_iload C d_MD_walkFrom_141 rfl ?_
                  refine e_iconst (v := 1) C d_MD_walkFrom_143 rfl ?_
                  refine e_isub C d_MD_walkFrom_144 ?_
                  refine e_st [.int (nI k), .ref ase] (by rw [nI_pred]) ?_
                  refine e_lald C 5 1 rfl rfl (vp_in_nI (by omega) (by omega)) d_MD_walkFrom_145 ?_
                  refine e_st [.long (fse k)] (by rw [nI_clamp (by omega)]) ?_
                  refine e_lconst (v := 1) C d_MD_walkFrom_146 rfl ?_
                  refine e_iload C d_MD_walkFrom_147 rfl ?_
                  refine e_lshl C d_MD_walkFrom_149 ?_
                  refine e_lor C d_MD_walkFrom_150 ?_
                  refine e_st [.long (fse k ||| bitL (tw k))] rfl ?_
                  refine e_lstore C d_MD_walkFrom_151 (by decide) ?_
                  refine e_iload_n C d_MD_walkFrom_153 rfl rfl ?_
                  refine e_if_eq (tgt := 186) C d_MD_walkFrom_154 (by decide) (fun h154 => ?_) (fun h154 => ?_)
                  · -- 186
                    have hadd : dAdd fr bk (dVs vw (k + 1)) (vw k) (fse k) (tw k) q = [] := by unfold dAdd; rw [if_neg (by simp only [bI_eq0] at h154; rw [h154]; simp)]
                    rw [hadd, List.nil_append] at hT1
                    have hmem := thereF_mem (vw := vw) (fwk := fwk) (q := q) (by omega) (n := k + 1) (fun i hi => ⟨(hk i hi).1, by have := (hk i hi).2; omega⟩)
                    refine e_aload_n C d_MD_walkFrom_186 rfl rfl ?_
                    refine e_iload C d_MD_walkFrom_187 rfl ?_
                    refine e_iload C d_MD_walkFrom_189 rfl ?_
                    refine e_callV (As := [.int (nI (k + 1)), .int (nI q)]) (st := []) (wc := [oMD m th kd (nI w) (nI h) aho aaw fi sc (nI el.length) aen ato (bI li) (nI out.length) awa aot (bI drn) wyv rkv awk atr ase ade ala ach apa asq, aI cI awk 26 fwk]) (wr := [aI cI aen 80 fen, aJ cJ awa 40000 fw, aI cI atr 26 (upd ftr k (nI (tw k + 1))), aJ cJ ase 26 fse]) C (M_MD_isOn l D cI cJ cZ m aho aaw aen ato awa aot awk atr ase ade ala ach apa asq w h hw hh hw1 hh1 th kd fi sc el li out.length drn wyv rkv fwk (k + 1) (nI q) (by omega)) v_MD_isOn ml_MD_117 0 rfl rfl nwW_ok ⟨Nat.le_of_ble_eq_true rfl, Nat.le_of_ble_eq_true rfl⟩ ⟨Nat.le_of_ble_eq_true rfl, Nat.le_of_ble_eq_true rfl⟩ [0, 3] [1, 2, 4, 5] rfl rfl rfl rfl (by decide) (Nat.le_of_ble_eq_true rfl) rfl d_MD_walkFrom_191 (fun v w1 hp => ?_)
                    obtain ⟨rfl, rfl⟩ := hp
                    refine e_perm (st' := [.int (bI (thereF fwk (nI q) (k + 1)))]) (ws' := [oMD m th kd (nI w) (nI h) aho aaw fi sc (nI el.length) aen ato (bI li) (nI out.length) awa aot (bI drn) wyv rkv awk atr ase ade ala ach apa asq, aI cI aen 80 fen, aJ cJ awa 40000 fw, aI cI awk 26 fwk, aI cI atr 26 (upd ftr k (nI (tw k + 1))), aJ cJ ase 26 fse]) [4, 0, 1, 5, 2, 3] rfl rfl rfl ?_
                    refine e_if_eq (tgt := 200) C d_MD_walkFrom_194 (by decide) (fun h194 => ?_) (fun h194 => ?_)
                    · -- 200
                      have hnm : q ∉ dVs vw (k + 1) := fun z => by have q1 := hmem.mpr z; simp only [bI_eq0] at h194; rw [h194] at q1; exact absurd q1 (by decide)
                      rw [if_neg hnm] at hT1
                      have hqv : ∀ i, i < k + 1 → vw i ≠ q := fun i hi z => hnm (by rw [← z]; exact List.mem_of_getElem? (dVs_get hi))
                      have hinj2 : ∀ i j, i < k + 1 + 1 → j < k + 1 + 1 → upN vw (k + 1) q i = upN vw (k + 1) q j → i = j := fun i j hi hj z => by
                        by_cases a : i = k + 1
                        · by_cases b : j = k + 1
                          · omega
                          · rw [a, upN_s, upN_n b] at z; exact absurd z.symm (hqv j (by omega))
                        · by_cases b : j = k + 1
                          · rw [b, upN_s, upN_n a] at z; exact absurd z (hqv i (by omega))
                          · rw [upN_n a, upN_n b] at z; exact hinj i j (by omega) (by omega) z
                      have hk25 : k + 1 + 1 ≤ 25 := pigeon (k + 1 + 1) 25 (upN vw (k + 1) q) (fun i hi => by by_cases a : i = k + 1; (rw [a, upN_s]; exact hq25); (rw [upN_n a]; exact (hk i (by omega)).2)) hinj2
                      refine e_aload_n C d_MD_walkFrom_200 rfl rfl ?_
                      refine e_get C hin_MD 0 rfl rfl 18 (by decide) fl_MD_38 rfl d_MD_walkFrom_201 ?_
                      refine e_iload C d_MD_walkFrom_204 rfl ?_
                      refine e_iload C d_MD_walkFrom_206 rfl ?_
                      refine e_iast C 3 0 rfl rfl (vp_in_nI (by omega) (by omega)) d_MD_walkFrom_208 ?_
                      refine e_ws [oMD m th kd (nI w) (nI h) aho aaw fi sc (nI el.length) aen ato (bI li) (nI out.length) awa aot (bI drn) wyv rkv awk atr ase ade ala ach apa asq, aI cI aen 80 fen, aJ cJ awa 40000 fw, aI cI awk 26 (upd fwk (k + 1) (nI q)), aI cI atr 26 (upd ftr k (nI (tw k + 1))), aJ cJ ase 26 fse] (by rw [nI_clamp (by omega)]; rfl) ?_
                      refine e_aload_n C d_MD_walkFrom_209 rfl rfl ?_
                      refine e_get C hin_MD 0 rfl rfl 19 (by decide) fl_MD_41 rfl d_MD_walkFrom_210 ?_
                      refine e_iload C d_MD_walkFrom_213 rfl ?_
                      refine e_iconst (v := 0) C d_MD_walkFrom_215 rfl ?_
                      refine e_iast C 4 0 rfl rfl (vp_in_nI (by omega) (by omega)) d_MD_walkFrom_216 ?_
                      refine e_ws [oMD m th kd (nI w) (nI h) aho aaw fi sc (nI el.length) aen ato (bI li) (nI out.length) awa aot (bI drn) wyv rkv awk atr ase ade ala ach apa asq, aI cI aen 80 fen, aJ cJ awa 40000 fw, aI cI awk 26 (upd fwk (k + 1) (nI q)), aI cI atr 26 (upd (upd ftr k (nI (tw k + 1))) (k + 1) 0), aJ cJ ase 26 fse] (by rw [nI_clamp (by omega)]; rfl) ?_
                      refine e_aload_n C d_MD_walkFrom_217 rfl rfl ?_
                      refine e_get C hin_MD 0 rfl rfl 20 (by decide) fl_MD_44 rfl d_MD_walkFrom_218 ?_
                      refine e_iload C d_MD_walkFrom_221 rfl ?_
                      refine e_lload C d_MD_walkFrom_223 rfl ?_
                      refine e_last C 5 1 rfl rfl (vp_in_nI (by omega) (by omega)) d_MD_walkFrom_225 ?_
                      refine e_ws [oMD m th kd (nI w) (nI h) aho aaw fi sc (nI el.length) aen ato (bI li) (nI out.length) awa aot (bI drn) wyv rkv awk atr ase ade ala ach apa asq, aI cI aen 80 fen, aJ cJ awa 40000 fw, aI cI awk 26 (upd fwk (k + 1) (nI q)), aI cI atr 26 (upd (upd ftr k (nI (tw k + 1))) (k + 1) 0), aJ cJ ase 26 (vp_updL fse (k + 1) (fse k ||| bitL (tw k)))] (by rw [nI_clamp (by omega)]; rfl) ?_
                      refine e_iinc (v := (nI (k + 1)) + 1) C d_MD_walkFrom_226 rfl rfl (by decide) ?_
                      refine e_goto (tgt := 24) C d_MD_walkFrom_229 (by decide) ?_
                      refine e_lv [(0, .ref m), (1, .int (nI fr)), (2, .int (nI ls)), (3, .int (bI bk)), (4, .int (nI (k + 1 + 1)))] ⟨rfl, rfl, rfl, rfl, congrArg (fun z => some (Value.int z)) (nI_1 (k + 1)), trivial⟩ ?_
                      exact ihLP (k + 1 + 1) (upN vw (k + 1) q) (upN (upN tw k (tw k + 1)) (k + 1) 0) _ _ _ _ (out) hk25
                        (fun i hi => by by_cases a : i = k + 1; (rw [a, pk_us, upN_s]; exact ⟨rfl, hq25⟩); (rw [pk_un a, upN_n a]; exact hk i (by omega)))
                        (fun i hi => by by_cases a : i = k + 1; (rw [a, pk_us, upN_s]; exact ⟨rfl, Nat.zero_le _⟩); (rw [pk_un a, upN_n a]; by_cases z : i = k; (rw [z, pk_us, upN_s]; exact ⟨rfl, hte⟩); (rw [pk_un z, upN_n z]; exact ht i (by omega))))
                        hinj2 hW
                        (by
                          show _ ++ (dW _ _ _ _ _ (25 - (k + 1) + 1) (dVs _ (k + 1 + 1)) (upN vw (k + 1) q (k + 1)) (vp_updL fse (k + 1) (fse k ||| bitL (tw k)) (k + 1)) (upN _ (k + 1) 0 (k + 1)) ++ (dW _ _ _ _ _ _ (dVs _ (k + 1)) (upN vw (k + 1) q k) (vp_updL fse (k + 1) (fse k ||| bitL (tw k)) k) (upN _ (k + 1) 0 k) ++ dRM _ _ _ _ _ _ _ _ k)) = _
                          rw [upN_s, pk_uLs, upN_s, dVs_app, upN_n (show k ≠ k + 1 by omega), pk_uLn (show k ≠ k + 1 by omega), upN_n (show k ≠ k + 1 by omega), upN_s, dVs_congr (vw' := vw) (n := k + 1) (fun i hi => upN_n (by omega)), dRM_congr (vw' := vw) (tw' := tw) (fse' := fse) (n := k) (fun i hi => ⟨upN_n (by omega), by rw [upN_n (by omega), upN_n (by omega)], pk_uLn (by omega)⟩), show 25 - (k + 1) + 1 = 25 - k by omega, ← hT1]
                          simp only [List.append_assoc])
                        (by have q0 := dM_push hte (show k + 1 ≤ 25 by omega); exact Nat.lt_of_lt_of_le q0 (Nat.le_of_lt_succ hm))
                    · -- 197
                      refine e_goto (tgt := 24) C d_MD_walkFrom_197 (by decide) ?_
                      rw [if_pos (hmem.mp (by simp only [bI_eq0, Bool.not_eq_false] at h194; exact h194)), List.nil_append] at hT1
                      refine e_lv [(0, .ref m), (1, .int (nI fr)), (2, .int (nI ls)), (3, .int (bI bk)), (4, .int (nI (k + 1)))] ⟨rfl, rfl, rfl, rfl, rfl, trivial⟩ ?_
                      exact ihLP (k + 1) vw (upN tw k (tw k + 1)) fwk _ fse _ (out) hn hk (fun i hi => by by_cases z : i = k; (rw [z, pk_us, upN_s]; exact ⟨rfl, hte⟩); (rw [pk_un z, upN_n z]; exact ht i hi)) hinj hW (by show _ ++ (dW _ _ _ _ _ _ _ _ _ (upN tw k (tw k + 1) k) ++ dRM _ _ _ _ _ _ _ _ _) = _; rw [upN_s, dRM_congr (vw' := vw) (tw' := tw) (fse' := fse) (fun i hi => ⟨rfl, upN_n (by omega), rfl⟩), ← hT1]) (by have q0 := dM_next hte; omega)
                  · exact absurd h61 h154
                · -- 134
                  refine e_goto (tgt := 24) C d_MD_walkFrom_134 (by decide) ?_
                  have hT1 : out ++ ((if q < ls then [] else dAdd fr bk (dVs vw (k + 1)) (vw k) (fse k) (tw k) q ++ (if q ∈ dVs vw (k + 1) then [] else dW el fr ls bk sc (25 - k) (dVs vw (k + 1) ++ [q]) q (fse k ||| bitL (tw k)) 0)) ++ dW el fr ls bk sc (25 - k + 1) (dVs vw (k + 1)) (vw k) (fse k) (tw k + 1) ++ dRM el fr ls bk sc vw tw fse k) = TOT := hT1
                  rw [if_pos (show q < ls by rcases Nat.lt_or_ge q ls with z | z; exact z; exact absurd (nI_le z (by omega)) h131), List.nil_append] at hT1
                  refine e_lv [(0, .ref m), (1, .int (nI fr)), (2, .int (nI ls)), (3, .int (bI bk)), (4, .int (nI (k + 1)))] ⟨rfl, rfl, rfl, rfl, rfl, trivial⟩ ?_
                  exact ihLP (k + 1) vw (upN tw k (tw k + 1)) fwk _ fse _ (out) hn hk (fun i hi => by by_cases z : i = k; (rw [z, pk_us, upN_s]; exact ⟨rfl, hte⟩); (rw [pk_un z, upN_n z]; exact ht i hi)) hinj hW (by show _ ++ (dW _ _ _ _ _ _ _ _ _ (upN tw k (tw k + 1) k) ++ dRM _ _ _ _ _ _ _ _ _) = _; rw [upN_s, dRM_congr (vw' := vw) (tw' := tw) (fse' := fse) (fun i hi => ⟨rfl, upN_n (by omega), rfl⟩), ← hT1]) (by have q0 := dM_next hte; omega)
            · -- 73
              refine e_iload_n C d_MD_walkFrom_73 rfl rfl ?_
              refine e_if_ne (tgt := 99) C d_MD_walkFrom_74 (by decide) (fun h74 => ?_) (fun h74 => ?_)
              · exact absurd h61 h74
              · -- 77
                refine e_iload C d_MD_walkFrom_77 rfl ?_
                refine e_aload_n C d_MD_walkFrom_79 rfl rfl ?_
                refine e_get C hin_MD 0 rfl rfl 7 (by decide) fl_MD_20 rfl d_MD_walkFrom_80 ?_
                refine e_icmp_ne (tgt := 99) C d_MD_walkFrom_83 (by decide) (fun h83 => ?_) (fun h83 => ?_)
                · exact absurd h70 h83
                · -- 86
                  have hlen : out.length < 40000 := by have q := congrArg List.length hT1; simp only [List.length_append] at q; rw [dW_tgt (by simp only [bI_eq0] at h74; unfold dTgt; rw [h74, decide_eq_true h83]; rfl)] at q; simp only [List.length_singleton] at q; omega
                  refine e_aload_n C d_MD_walkFrom_86 rfl rfl ?_
                  refine e_aload_n C d_MD_walkFrom_87 rfl rfl ?_
                  refine e_get C hin_MD 0 rfl rfl 20 (by decide) fl_MD_44 rfl d_MD_walkFrom_88 ?_
                  refine e_iload C d_MD_walkFrom_91 rfl ?_
                  refine e_iconst (v := 1) C d_MD_walkFrom_93 rfl ?_
                  refine e_isub C d_MD_walkFrom_94 ?_
                  refine e_st [.int (nI k), .ref ase, .ref m] (by rw [nI_pred]) ?_
                  refine e_lald C 5 1 rfl rfl (vp_in_nI (by omega) (by omega)) d_MD_walkFrom_95 ?_
                  refine e_st [.long (fse k), .ref m] (by rw [nI_clamp (by omega)]) ?_
                  refine e_callV (As := [.long (fse k)]) (st := []) (wc := [oMD m th kd (nI w) (nI h) aho aaw fi sc (nI el.length) aen ato (bI li) (nI out.length) awa aot (bI drn) wyv rkv awk atr ase ade ala ach apa asq, aJ cJ awa 40000 fw]) (wr := [aI cI aen 80 fen, aI cI awk 26 fwk, aI cI atr 26 ftr, aJ cJ ase 26 fse]) C (M_MD_add l D cI cJ cZ m aho aaw aen ato awa aot awk atr ase ade ala ach apa asq w h hw hh hw1 hh1 th kd fi sc el li out.length drn wyv rkv fw (fse k) hlen) v_MD_add ml_MD_109 0 rfl rfl nwW_ok ⟨Nat.le_of_ble_eq_true rfl, Nat.le_of_ble_eq_true rfl⟩ ⟨Nat.le_of_ble_eq_true rfl, Nat.le_of_ble_eq_true rfl⟩ [0, 2] [1, 3, 4, 5] rfl rfl rfl rfl (by decide) (Nat.le_of_ble_eq_true rfl) rfl d_MD_walkFrom_96 (fun v w1 hp => ?_)
                  obtain ⟨rfl, rfl⟩ := hp
                  refine e_perm (st' := []) (ws' := [oMD m th kd (nI w) (nI h) aho aaw fi sc (nI el.length) aen ato (bI li) (nI (out.length + 1)) awa aot (bI drn) wyv rkv awk atr ase ade ala ach apa asq, aI cI aen 80 fen, aJ cJ awa 40000 (vp_updL fw out.length (fse k)), aI cI awk 26 fwk, aI cI atr 26 ftr, aJ cJ ase 26 fse]) [4, 0, 5, 1, 2, 3] rfl rfl rfl ?_
                  have htg : dTgt bk sc (vw k) = true := by simp only [bI_eq0] at h74; unfold dTgt; rw [h74, decide_eq_true h83]; rfl
                  rw [dW_tgt htg] at hT1
                  refine e_iinc (v := nI k) C d_MD_walkFrom_99 rfl (pk_m1 k) (by decide) ?_
                  refine e_goto (tgt := 24) C d_MD_walkFrom_102 (by decide) ?_
                  refine e_lv [(0, .ref m), (1, .int (nI fr)), (2, .int (nI ls)), (3, .int (bI bk)), (4, .int (nI (k)))] ⟨rfl, rfl, rfl, rfl, rfl, trivial⟩ ?_
                  refine e_ws [oMD m th kd (nI w) (nI h) aho aaw fi sc (nI el.length) aen ato (bI li) (nI (out ++ [fse k]).length) awa aot (bI drn) wyv rkv awk atr ase ade ala ach apa asq, aI cI aen 80 fen, aJ cJ awa 40000 (vp_updL fw out.length (fse k)), aI cI awk 26 fwk, aI cI atr 26 ftr, aJ cJ ase 26 fse] (by rw [List.length_append]; rfl) ?_
                  exact ihLP k vw tw fwk ftr fse _ (out ++ [fse k]) (by omega) (fun i hi => hk i (by omega)) (fun i hi => ht i (by omega)) (fun i j hi hj => hinj i j (by omega) (by omega)) (WaR_app hW) (by rw [← hT1, List.append_assoc]) (by have q : dM el.length tw (k + 1) = (el.length - tw k) * (1 + dK el.length (25 - k)) + 1 + dM el.length tw k := rfl; omega)
  refine e_lv [(0, .ref m), (1, .int (nI fr)), (2, .int (nI ls)), (3, .int (bI bk)), (4, .int (nI 1))] ⟨rfl, rfl, rfl, rfl, rfl, trivial⟩ ?_
  refine e_ws [oMD m th kd (nI w) (nI h) aho aaw fi sc (nI el.length) aen ato (bI li) (nI out.length) awa aot (bI drn) wyv rkv awk atr ase ade ala ach apa asq, aI cI aen 80 fen, aJ cJ awa 40000 fw, aI cI awk 26 (upd fwk 0 (nI fr)), aI cI atr 26 (upd ftr 0 0), aJ cJ ase 26 (vp_updL fse 0 0)] rfl ?_
  exact LP _ 1 (fun _ => fr) (fun _ => 0) (upd fwk 0 (nI fr)) (upd ftr 0 0) (vp_updL fse 0 0) fw out (by decide) (fun i hi => by rw [show i = 0 by omega, pk_us]; exact ⟨rfl, hfr⟩) (fun i hi => by rw [show i = 0 by omega, pk_us]; exact ⟨rfl, Nat.zero_le _⟩) (fun i j hi hj _ => by omega) hW (by rw [← hTOT]; show out ++ (dW _ _ _ _ _ _ _ _ _ _ ++ []) = _; rw [List.append_nil, pk_uLs]; rfl) (Nat.lt_succ_self _)
