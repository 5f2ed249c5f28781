/-! FRONTIERCOUNTS: the numbering of the edges, and what the face answers without counting -/
def mostF (k : Int32) : Int32 := if k = 1 then 136 else if k = 2 then 136 else if k = 3 then 42 else 64
def isEdgeF (n m : Nat) (e : Int32) : Bool := !decide (e < 0) && !decide (nI n ≤ e) && !decide (nI m ≤ e)
def slR (sl : List Nat) (fsl : Nat → Int32) : Prop := ∀ i s, sl[i]? = some s → fsl i = nI s
def addS (P : Nat) (op gone : Int64) (sl : List Nat) (s : Nat) : List Nat := if hasF op (nI s) = true then (if hasF gone (nI s) = true then sl else if sl.length < 2 * P then sl ++ [s] else sl) else sl
def slS (P : Nat) (op gone : Int64) (p : Nat) (sl : List Nat) : List Nat := addS P op gone (addS P op gone sl (2 * p + 1)) (2 * p)
def slF (P : Nat) (op gone : Int64) : List Nat := itn (slS P op gone) P []
theorem slR_app {sl : List Nat} {fsl : Nat → Int32} {s : Nat} (h : slR sl fsl) : slR (sl ++ [s]) (upd fsl sl.length (nI s)) := by
  intro i y hy
  rcases Nat.lt_trichotomy i sl.length with q | q | q
  · rw [List.getElem?_append_left q] at hy
    rw [pk_un (by omega)]
    exact h i y hy
  · subst q
    rw [List.getElem?_append_right (Nat.le_refl _), Nat.sub_self] at hy
    rw [pk_us, Option.some.inj hy]
  · rw [List.getElem?_append_right (by omega)] at hy
    have := (List.getElem?_eq_some_iff.mp hy).1
    simp at this
    omega
set_option maxHeartbeats 4000000 in
set_option maxRecDepth 100000 in
theorem M_FC_forgetWays (l : Launch) (D : va_G) (cI cJ cZ : ClassId) (x g ly sa P : Nat) (hP : P ≤ 25) (sl : List Nat) (fsl : Nat → Int32) (gone tin tout : Int64) (bu we : Bool) (dw dr : Int64) : MK l D cI cJ cZ y_FC_forgetWays c_FC_forgetWays 1 none 0 0 [.ref x] [oFC x g ly sa (nI sl.length) gone tin tout (bI bu) (bI we) dw dr] 0 0 (rV [oFC x g ly sa (nI sl.length) gone tin tout (bI bu) (bI false) dw (-1)]) := by
  refine MC.of (by decide) bigW_good (Nat.le_of_ble_eq_true rfl) (fun κ C Z IN => ?_)
  refine e_aload_n C d_FC_forgetWays_0 rfl rfl ?_
  refine e_iconst (v := 0) C d_FC_forgetWays_1 rfl ?_
  refine e_put C hin_FC ty_FC tyk_FC nm_FC 0 rfl rfl 8 (by decide) fl_FC_112 rfl rfl rfl (Nat.le_of_ble_eq_true rfl) d_FC_forgetWays_2 ?_
  refine e_ws [oFC x g ly sa (nI sl.length) gone tin tout (bI bu) 0 dw dr] rfl ?_
  refine e_aload_n C d_FC_forgetWays_5 rfl rfl ?_
  refine e_ldc2 C kl_FC_47 d_FC_forgetWays_6 ?_
  refine e_put C hin_FC ty_FC tyk_FC nm_FC 0 rfl rfl 10 (by decide) fl_FC_49 rfl rfl rfl (Nat.le_of_ble_eq_true rfl) d_FC_forgetWays_9 ?_
  refine e_ws [oFC x g ly sa (nI sl.length) gone tin tout (bI bu) 0 dw (-1)] rfl ?_
  exact e_vret C Z (Nat.le_of_ble_eq_true rfl) (Nat.le_of_ble_eq_true rfl) (⟨rfl, rfl⟩) d_FC_forgetWays_12

set_option maxHeartbeats 4000000 in
set_option maxRecDepth 100000 in
theorem M_FC_isEdge (l : Launch) (D : va_G) (cI cJ cZ : ClassId) (x g ly sa P : Nat) (hP : P ≤ 25) (sl : List Nat) (fsl : Nat → Int32) (gone tin tout : Int64) (bu we : Bool) (dw dr : Int64) (e : Int32) : MK l D cI cJ cZ y_FC_isEdge c_FC_isEdge 2 (some FieldType.boolean) 0 0 [.ref x, .int e] [oFC x g ly sa (nI sl.length) gone tin tout (bI bu) (bI we) dw dr, aI cI sa (2 * P) fsl] 0 0 (rI (bI (isEdgeF sl.length (2 * P) e)) [oFC x g ly sa (nI sl.length) gone tin tout (bI bu) (bI we) dw dr, aI cI sa (2 * P) fsl]) := by
  refine MC.of (by decide) bigW_good (Nat.le_of_ble_eq_true rfl) (fun κ C Z IN => ?_)
  refine e_iload_n C d_FC_isEdge_0 rfl rfl ?_
  refine e_if_lt (tgt := 25) C d_FC_isEdge_1 (by decide) (fun h1 => ?_) (fun h1 => ?_)
  · -- 25
    refine e_iconst (v := 0) C d_FC_isEdge_25 rfl ?_
    exact e_iret C Z rfl (Nat.le_of_ble_eq_true rfl) (Nat.le_of_ble_eq_true rfl) (⟨by simp [isEdgeF, bI, h1], rfl⟩) d_FC_isEdge_26
  · -- 4
    refine e_iload_n C d_FC_isEdge_4 rfl rfl ?_
    refine e_aload_n C d_FC_isEdge_5 rfl rfl ?_
    refine e_get C hin_FC 0 rfl rfl 3 (by decide) fl_FC_91 rfl d_FC_isEdge_6 ?_
    refine e_icmp_ge (tgt := 25) C d_FC_isEdge_9 (by decide) (fun h9 => ?_) (fun h9 => ?_)
    · -- 25
      refine e_iconst (v := 0) C d_FC_isEdge_25 rfl ?_
      exact e_iret C Z rfl (Nat.le_of_ble_eq_true rfl) (Nat.le_of_ble_eq_true rfl) (⟨by simp [isEdgeF, bI, h1, h9], rfl⟩) d_FC_isEdge_26
    · -- 12
      refine e_iload_n C d_FC_isEdge_12 rfl rfl ?_
      refine e_aload_n C d_FC_isEdge_13 rfl rfl ?_
      refine e_get C hin_FC 0 rfl rfl 2 (by decide) fl_FC_43 rfl d_FC_isEdge_14 ?_
      refine e_alen C 1 0 rfl rfl rfl d_FC_isEdge_17 ?_
      refine e_icmp_ge (tgt := 25) C d_FC_isEdge_18 (by decide) (fun h18 => ?_) (fun h18 => ?_)
      · -- 25
        refine e_iconst (v := 0) C d_FC_isEdge_25 rfl ?_
        exact e_iret C Z rfl (Nat.le_of_ble_eq_true rfl) (Nat.le_of_ble_eq_true rfl) (⟨by have q18 : nI (2 * P) ≤ e := h18; simp [isEdgeF, bI, h1, h9, q18], rfl⟩) d_FC_isEdge_26
      · -- 21
        refine e_iconst (v := 1) C d_FC_isEdge_21 rfl ?_
        refine e_goto (tgt := 26) C d_FC_isEdge_22 (by decide) ?_
        exact e_iret C Z rfl (Nat.le_of_ble_eq_true rfl) (Nat.le_of_ble_eq_true rfl) (⟨by have q18 : ¬ nI (2 * P) ≤ e := h18; simp [isEdgeF, bI, h1, h9, q18], rfl⟩) d_FC_isEdge_26

set_option maxHeartbeats 4000000 in
set_option maxRecDepth 100000 in
theorem M_FC_edges (l : Launch) (D : va_G) (cI cJ cZ : ClassId) (x g ly sa P : Nat) (hP : P ≤ 25) (sl : List Nat) (fsl : Nat → Int32) (gone tin tout : Int64) (bu we : Bool) (dw dr : Int64) : MK l D cI cJ cZ y_FC_edges c_FC_edges 1 (some FieldType.int) 0 0 [.ref x] [oFC x g ly sa (nI sl.length) gone tin tout (bI bu) (bI we) dw dr] 0 0 (rI (nI sl.length) [oFC x g ly sa (nI sl.length) gone tin tout (bI bu) (bI we) dw dr]) := by
  refine MC.of (by decide) bigW_good (Nat.le_of_ble_eq_true rfl) (fun κ C Z IN => ?_)
  refine e_aload_n C d_FC_edges_0 rfl rfl ?_
  refine e_get C hin_FC 0 rfl rfl 3 (by decide) fl_FC_91 rfl d_FC_edges_1 ?_
  exact e_iret C Z rfl (Nat.le_of_ble_eq_true rfl) (Nat.le_of_ble_eq_true rfl) (⟨rfl, rfl⟩) d_FC_edges_4

set_option maxHeartbeats 4000000 in
set_option maxRecDepth 100000 in
theorem M_FC_rank (l : Launch) (D : va_G) (cI cJ cZ : ClassId) (x g ly sa P : Nat) (hP : P ≤ 25) (sl : List Nat) (fsl : Nat → Int32) (gone tin tout : Int64) (bu we : Bool) (dw dr : Int64) : MK l D cI cJ cZ y_FC_rank c_FC_rank 1 (some FieldType.long) 0 0 [.ref x] [oFC x g ly sa (nI sl.length) gone tin tout (bI bu) (bI we) dw dr] 0 0 (rJ dr [oFC x g ly sa (nI sl.length) gone tin tout (bI bu) (bI we) dw dr]) := by
  refine MC.of (by decide) bigW_good (Nat.le_of_ble_eq_true rfl) (fun κ C Z IN => ?_)
  refine e_aload_n C d_FC_rank_0 rfl rfl ?_
  refine e_get C hin_FC 0 rfl rfl 10 (by decide) fl_FC_49 rfl d_FC_rank_1 ?_
  exact e_lret C Z (Nat.le_of_ble_eq_true rfl) (Nat.le_of_ble_eq_true rfl) (⟨rfl, rfl⟩) d_FC_rank_4

set_option maxHeartbeats 4000000 in
set_option maxRecDepth 100000 in
theorem M_FC_addSlot (l : Launch) (D : va_G) (cI cJ cZ : ClassId) (x g ly sa P : Nat) (hP : P ≤ 25) (sl : List Nat) (fsl : Nat → Int32) (gone tin tout : Int64) (bu we : Bool) (dw dr : Int64) (wd ht ho : Int32) (op : Int64) (lpl ea eb : Int32) (s : Nat) (hsl : slR sl fsl) (hle : sl.length ≤ 2 * P) : MK l D cI cJ cZ y_FC_addSlot c_FC_addSlot 2 none 2 43 [.ref x, .int (nI s)] [oFC x g ly sa (nI sl.length) gone tin tout (bI bu) (bI we) dw dr, oGR g wd ht (nI P) ho op lpl ea eb, aI cI sa (2 * P) fsl] 0 0 (fun v w1 => ∃ fs2 : Nat → Int32, v = none ∧ w1 = [oFC x g ly sa (nI (addS P op gone sl s).length) gone tin tout (bI bu) (bI we) dw dr, oGR g wd ht (nI P) ho op lpl ea eb, aI cI sa (2 * P) fs2] ∧ slR (addS P op gone sl s) fs2) := by
  refine MC.of (by decide) bigW_good (Nat.le_of_ble_eq_true rfl) (fun κ C Z IN => ?_)
  refine e_aload_n C d_FC_addSlot_0 rfl rfl ?_
  refine e_get C hin_FC 0 rfl rfl 0 (by decide) fl_FC_18 rfl d_FC_addSlot_1 ?_
  refine e_iload_n C d_FC_addSlot_4 rfl rfl ?_
  refine e_callVN (As := [.int (nI s)]) (st := []) (wc := [oGR g wd ht (nI P) ho op lpl ea eb]) (wr := [oFC x g ly sa (nI sl.length) gone tin tout (bI bu) (bI we) dw dr, aI cI sa (2 * P) fsl]) C (M_GR_isOpen l D cI cJ cZ g wd ht (nI P) ho op lpl ea eb (nI s)) v_GR_isOpen mn_FC_171 1 rfl rfl nwW_ok ⟨Nat.le_of_ble_eq_true rfl, Nat.le_of_ble_eq_true rfl⟩ ⟨Nat.le_of_ble_eq_true rfl, Nat.le_of_ble_eq_true rfl⟩ [1] [0, 2] rfl rfl rfl rfl (by decide) (Nat.le_of_ble_eq_true rfl) rfl d_FC_addSlot_5 (fun v w1 hp => ?_)
  obtain ⟨rfl, rfl⟩ := hp
  refine e_perm (st' := [.int (bI (hasF op (nI s)))]) (ws' := [oFC x g ly sa (nI sl.length) gone tin tout (bI bu) (bI we) dw dr, oGR g wd ht (nI P) ho op lpl ea eb, aI cI sa (2 * P) fsl]) [0, 2, 1] rfl rfl rfl ?_
  refine e_if_eq (tgt := 54) C d_FC_addSlot_8 (by decide) (fun h8 => ?_) (fun h8 => ?_)
  · -- 54
    exact e_vret C Z (Nat.le_of_ble_eq_true rfl) (Nat.le_of_ble_eq_true rfl) (⟨fsl, rfl, by rw [show (addS P op gone sl s) = sl from (by (try simp only [bI_eq0, Bool.not_eq_false] at h8); unfold addS; (first | rw [if_pos h8] | rw [if_neg h8] | rw [if_neg (Bool.eq_false_iff.mp h8)] | skip))], by rw [show (addS P op gone sl s) = sl from (by (try simp only [bI_eq0, Bool.not_eq_false] at h8); unfold addS; (first | rw [if_pos h8] | rw [if_neg h8] | rw [if_neg (Bool.eq_false_iff.mp h8)] | skip))]; exact hsl⟩) d_FC_addSlot_54
  · -- 11
    refine e_aload_n C d_FC_addSlot_11 rfl rfl ?_
    refine e_get C hin_FC 0 rfl rfl 4 (by decide) fl_FC_66 rfl d_FC_addSlot_12 ?_
    refine e_iload_n C d_FC_addSlot_15 rfl rfl ?_
    refine e_callS (As := [.long gone, .int (nI s)]) (st := []) (wc := []) (wr := [oFC x g ly sa (nI sl.length) gone tin tout (bI bu) (bI we) dw dr, oGR g wd ht (nI P) ho op lpl ea eb, aI cI sa (2 * P) fsl]) C (M_FC_has l D cI cJ cZ gone (nI s)) s_FC_has ml_FC_77 nwW_ok ⟨Nat.le_of_ble_eq_true rfl, Nat.le_of_ble_eq_true rfl⟩ ⟨Nat.le_of_ble_eq_true rfl, Nat.le_of_ble_eq_true rfl⟩ [] [0, 1, 2] rfl rfl rfl rfl (by decide) (Nat.le_of_ble_eq_true rfl) rfl d_FC_addSlot_16 (fun v w1 hp => ?_)
    obtain ⟨rfl, rfl⟩ := hp
    refine e_perm (st' := [.int (bI (hasF gone (nI s)))]) (ws' := [oFC x g ly sa (nI sl.length) gone tin tout (bI bu) (bI we) dw dr, oGR g wd ht (nI P) ho op lpl ea eb, aI cI sa (2 * P) fsl]) [0, 1, 2] rfl rfl rfl ?_
    refine e_if_ne (tgt := 54) C d_FC_addSlot_19 (by decide) (fun h19 => ?_) (fun h19 => ?_)
    · -- 54
      exact e_vret C Z (Nat.le_of_ble_eq_true rfl) (Nat.le_of_ble_eq_true rfl) (⟨fsl, rfl, by rw [show (addS P op gone sl s) = sl from (by (try simp only [bI_eq0, Bool.not_eq_false] at h8 h19); unfold addS; (first | rw [if_pos h8] | rw [if_neg h8] | rw [if_neg (Bool.eq_false_iff.mp h8)] | skip); (first | rw [if_pos h19] | rw [if_neg h19] | rw [if_neg (Bool.eq_false_iff.mp h19)] | skip))], by rw [show (addS P op gone sl s) = sl from (by (try simp only [bI_eq0, Bool.not_eq_false] at h8 h19); unfold addS; (first | rw [if_pos h8] | rw [if_neg h8] | rw [if_neg (Bool.eq_false_iff.mp h8)] | skip); (first | rw [if_pos h19] | rw [if_neg h19] | rw [if_neg (Bool.eq_false_iff.mp h19)] | skip))]; exact hsl⟩) d_FC_addSlot_54
    · -- 22
      refine e_aload_n C d_FC_addSlot_22 rfl rfl ?_
      refine e_get C hin_FC 0 rfl rfl 3 (by decide) fl_FC_91 rfl d_FC_addSlot_23 ?_
      refine e_aload_n C d_FC_addSlot_26 rfl rfl ?_
      refine e_get C hin_FC 0 rfl rfl 2 (by decide) fl_FC_43 rfl d_FC_addSlot_27 ?_
      refine e_alen C 2 0 rfl rfl rfl d_FC_addSlot_30 ?_
      refine e_icmp_ge (tgt := 54) C d_FC_addSlot_31 (by decide) (fun h31 => ?_) (fun h31 => ?_)
      · -- 54
        have hlt : ¬ sl.length < 2 * P := by have q := (nI_leI (by omega) (by omega)).mp h31; omega
        exact e_vret C Z (Nat.le_of_ble_eq_true rfl) (Nat.le_of_ble_eq_true rfl) (⟨fsl, rfl, by rw [show (addS P op gone sl s) = sl from (by (try simp only [bI_eq0, Bool.not_eq_false] at h8 h19); unfold addS; (first | rw [if_pos h8] | rw [if_neg h8] | rw [if_neg (Bool.eq_false_iff.mp h8)] | skip); (first | rw [if_pos h19] | rw [if_neg h19] | rw [if_neg (Bool.eq_false_iff.mp h19)] | skip); first | rw [if_pos hlt] | rw [if_neg hlt])], by rw [show (addS P op gone sl s) = sl from (by (try simp only [bI_eq0, Bool.not_eq_false] at h8 h19); unfold addS; (first | rw [if_pos h8] | rw [if_neg h8] | rw [if_neg (Bool.eq_false_iff.mp h8)] | skip); (first | rw [if_pos h19] | rw [if_neg h19] | rw [if_neg (Bool.eq_false_iff.mp h19)] | skip); first | rw [if_pos hlt] | rw [if_neg hlt])]; exact hsl⟩) d_FC_addSlot_54
      · -- 34
        have hlt : sl.length < 2 * P := by rcases Nat.lt_or_ge sl.length (2 * P) with q | q; exact q; exact absurd (nI_le q (by omega)) h31
        refine e_aload_n C d_FC_addSlot_34 rfl rfl ?_
        refine e_get C hin_FC 0 rfl rfl 2 (by decide) fl_FC_43 rfl d_FC_addSlot_35 ?_
        refine e_aload_n C d_FC_addSlot_38 rfl rfl ?_
        refine e_get C hin_FC 0 rfl rfl 3 (by decide) fl_FC_91 rfl d_FC_addSlot_39 ?_
        refine e_iload_n C d_FC_addSlot_42 rfl rfl ?_
        refine e_iast C 2 0 rfl rfl (vp_in_nI (by omega) (by omega)) d_FC_addSlot_43 ?_
        refine e_ws [oFC x g ly sa (nI sl.length) gone tin tout (bI bu) (bI we) dw dr, oGR g wd ht (nI P) ho op lpl ea eb, aI cI sa (2 * P) (upd fsl sl.length (nI s))] (by rw [nI_clamp (by omega)]; rfl) ?_
        refine e_aload_n C d_FC_addSlot_44 rfl rfl ?_
        refine e_dup C d_FC_addSlot_45 rfl ?_
        refine e_get C hin_FC 0 rfl rfl 3 (by decide) fl_FC_91 rfl d_FC_addSlot_46 ?_
        refine e_iconst (v := 1) C d_FC_addSlot_49 rfl ?_
        refine e_iadd C d_FC_addSlot_50 ?_
        refine e_put C hin_FC ty_FC tyk_FC nm_FC 0 rfl rfl 3 (by decide) fl_FC_91 rfl rfl rfl (Nat.le_of_ble_eq_true rfl) d_FC_addSlot_51 ?_
        refine e_ws [oFC x g ly sa ((nI sl.length) + 1) gone tin tout (bI bu) (bI we) dw dr, oGR g wd ht (nI P) ho op lpl ea eb, aI cI sa (2 * P) (upd fsl sl.length (nI s))] rfl ?_
        exact e_vret C Z (Nat.le_of_ble_eq_true rfl) (Nat.le_of_ble_eq_true rfl) (⟨upd fsl sl.length (nI s), rfl, by rw [show (addS P op gone sl s) = sl ++ [s] from (by (try simp only [bI_eq0, Bool.not_eq_false] at h8 h19); unfold addS; (first | rw [if_pos h8] | rw [if_neg h8] | rw [if_neg (Bool.eq_false_iff.mp h8)] | skip); (first | rw [if_pos h19] | rw [if_neg h19] | rw [if_neg (Bool.eq_false_iff.mp h19)] | skip); first | rw [if_pos hlt] | rw [if_neg hlt]), List.length_append, nI_1]; rfl, by rw [show (addS P op gone sl s) = sl ++ [s] from (by (try simp only [bI_eq0, Bool.not_eq_false] at h8 h19); unfold addS; (first | rw [if_pos h8] | rw [if_neg h8] | rw [if_neg (Bool.eq_false_iff.mp h8)] | skip); (first | rw [if_pos h19] | rw [if_neg h19] | rw [if_neg (Bool.eq_false_iff.mp h19)] | skip); first | rw [if_pos hlt] | rw [if_neg hlt])]; exact slR_app hsl⟩) d_FC_addSlot_54

theorem addS_le {P : Nat} {op gone : Int64} {sl : List Nat} {s : Nat} (h : sl.length ≤ 2 * P) : (addS P op gone sl s).length ≤ 2 * P := by
  unfold addS
  by_cases a : hasF op (nI s) = true
  · rw [if_pos a]
    by_cases b : hasF gone (nI s) = true
    · rw [if_pos b]; exact h
    · rw [if_neg b]
      by_cases c : sl.length < 2 * P
      · rw [if_pos c, List.length_append]; exact c
      · rw [if_neg c]; exact h
  · rw [if_neg a]; exact h
theorem slF_le {P : Nat} {op gone : Int64} : (slF P op gone).length ≤ 2 * P := by
  have key : ∀ n, (itn (slS P op gone) n []).length ≤ 2 * P := by
    intro n
    induction n with
    | zero => exact Nat.zero_le _
    | succ n ih => exact addS_le (addS_le ih)
  exact key P
set_option maxHeartbeats 4000000 in
set_option maxRecDepth 100000 in
theorem M_FC_numberEdges (l : Launch) (D : va_G) (cI cJ cZ : ClassId) (x g ly sa P : Nat) (hP : P ≤ 25) (cnt : Int32) (fsl : Nat → Int32) (gone tin tout : Int64) (bu we : Bool) (dw dr : Int64) (wd ht ho : Int32) (op : Int64) (lpl ea eb : Int32) : MK l D cI cJ cZ y_FC_numberEdges c_FC_numberEdges 2 none 3 64 [.ref x] [oFC x g ly sa cnt gone tin tout (bI bu) (bI we) dw dr, oGR g wd ht (nI P) ho op lpl ea eb, aI cI sa (2 * P) fsl] 0 0 (fun v w1 => ∃ fs2 : Nat → Int32, v = none ∧ w1 = [oFC x g ly sa (nI (slF P op gone).length) gone 0 0 (bI bu) (bI false) dw (-1), oGR g wd ht (nI P) ho op lpl ea eb, aI cI sa (2 * P) fs2] ∧ slR (slF P op gone) fs2) := by
  refine MC.of (by decide) bigW_good (Nat.le_of_ble_eq_true rfl) (fun κ C Z IN => ?_)
  refine e_aload_n C d_FC_numberEdges_0 rfl rfl ?_
  refine e_iconst (v := 0) C d_FC_numberEdges_1 rfl ?_
  refine e_put C hin_FC ty_FC tyk_FC nm_FC 0 rfl rfl 3 (by decide) fl_FC_91 rfl rfl rfl (Nat.le_of_ble_eq_true rfl) d_FC_numberEdges_2 ?_
  refine e_ws [oFC x g ly sa 0 gone tin tout (bI bu) (bI we) dw dr, oGR g wd ht (nI P) ho op lpl ea eb, aI cI sa (2 * P) fsl] rfl ?_
  refine e_iconst (v := 0) C d_FC_numberEdges_5 rfl ?_
  refine e_istore_n C d_FC_numberEdges_6 rfl (by decide) ?_
  have LP : ∀ (fuel : Nat) (p : Nat) (s1 : List Nat) (f1 : Nat → Int32), p ≤ P → itn (slS P op gone) p [] = s1 → slR s1 f1 → s1.length ≤ 2 * P →  P - p < fuel → E κ (lu_o [(0, .ref x), (1, .int (nI p))]) [] [oFC x g ly sa (nI s1.length) gone tin tout (bI bu) (bI we) dw dr, oGR g wd ht (nI P) ho op lpl ea eb, aI cI sa (2 * P) f1] 0 0 7 := by
    intro fuel
    induction fuel with
    | zero => intro p s1 f1 hp hS hR hle hm; exact absurd hm (Nat.not_lt_zero _)
    | succ fuel ihLP =>
      intro p s1 f1 hp hS hR hle hm
      refine e_iload_n C d_FC_numberEdges_7 rfl rfl ?_
      refine e_aload_n C d_FC_numberEdges_8 rfl rfl ?_
      refine e_get C hin_FC 0 rfl rfl 0 (by decide) fl_FC_18 rfl d_FC_numberEdges_9 ?_
      refine e_getN C hin_GR 1 rfl rfl 2 (by decide) fn_FC_39 rfl d_FC_numberEdges_12 ?_
      refine e_icmp_ge (tgt := 40) C d_FC_numberEdges_15 (by decide) (fun h15 => ?_) (fun h15 => ?_)
      · -- 40
        have hpP : P = p := by have q := (nI_leI (by omega) (by omega)).mp h15; omega
        subst hpP
        refine e_aload_n C d_FC_numberEdges_40 rfl rfl ?_
        refine e_lconst (v := 0) C d_FC_numberEdges_41 rfl ?_
        refine e_put C hin_FC ty_FC tyk_FC nm_FC 0 rfl rfl 5 (by decide) fl_FC_103 rfl rfl rfl (Nat.le_of_ble_eq_true rfl) d_FC_numberEdges_42 ?_
        refine e_ws [oFC x g ly sa (nI s1.length) gone 0 tout (bI bu) (bI we) dw dr, oGR g wd ht (nI P) ho op lpl ea eb, aI cI sa (2 * P) f1] rfl ?_
        refine e_aload_n C d_FC_numberEdges_45 rfl rfl ?_
        refine e_lconst (v := 0) C d_FC_numberEdges_46 rfl ?_
        refine e_put C hin_FC ty_FC tyk_FC nm_FC 0 rfl rfl 6 (by decide) fl_FC_106 rfl rfl rfl (Nat.le_of_ble_eq_true rfl) d_FC_numberEdges_47 ?_
        refine e_ws [oFC x g ly sa (nI s1.length) gone 0 0 (bI bu) (bI we) dw dr, oGR g wd ht (nI P) ho op lpl ea eb, aI cI sa (2 * P) f1] rfl ?_
        refine e_aload_n C d_FC_numberEdges_50 rfl rfl ?_
        refine e_callV (As := []) (st := []) (wc := [oFC x g ly sa (nI s1.length) gone 0 0 (bI bu) (bI we) dw dr]) (wr := [oGR g wd ht (nI P) ho op lpl ea eb, aI cI sa (2 * P) f1]) C (M_FC_forgetWays l D cI cJ cZ x g ly sa P hP s1 f1 gone 0 0 bu we dw dr) v_FC_forgetWays ml_FC_88 0 rfl rfl nwW_ok ⟨Nat.le_of_ble_eq_true rfl, Nat.le_of_ble_eq_true rfl⟩ ⟨Nat.le_of_ble_eq_true rfl, Nat.le_of_ble_eq_true rfl⟩ [0] [1, 2] rfl rfl rfl rfl (by decide) (Nat.le_of_ble_eq_true rfl) rfl d_FC_numberEdges_51 (fun v w1 hp => ?_)
        obtain ⟨rfl, rfl⟩ := hp
        refine e_perm (st' := []) (ws' := [oFC x g ly sa (nI s1.length) gone 0 0 (bI bu) (bI false) dw (-1), oGR g wd ht (nI P) ho op lpl ea eb, aI cI sa (2 * P) f1]) [2, 0, 1] rfl rfl rfl ?_
        exact e_vret C Z (Nat.le_of_ble_eq_true rfl) (Nat.le_of_ble_eq_true rfl) (⟨f1, rfl, by unfold slF; rw [hS], by unfold slF; rw [hS]; exact hR⟩) d_FC_numberEdges_54
      · -- 18
        have hpP : p < P := by rcases Nat.lt_or_ge (p) P with q | q; exact q; exact absurd (nI_le q (by omega)) h15
        refine e_aload_n C d_FC_numberEdges_18 rfl rfl ?_
        refine e_iload_n C d_FC_numberEdges_19 rfl rfl ?_
        refine e_callSN (As := [.int (nI p)]) (st := [.ref x]) (wc := []) (wr := [oFC x g ly sa (nI s1.length) gone tin tout (bI bu) (bI we) dw dr, oGR g wd ht (nI P) ho op lpl ea eb, aI cI sa (2 * P) f1]) C (M_GR_rightOf l D cI cJ cZ (nI p)) s_GR_rightOf mn_FC_162 nwW_ok ⟨Nat.le_of_ble_eq_true rfl, Nat.le_of_ble_eq_true rfl⟩ ⟨Nat.le_of_ble_eq_true rfl, Nat.le_of_ble_eq_true rfl⟩ [] [0, 1, 2] rfl rfl rfl rfl (by decide) (Nat.le_of_ble_eq_true rfl) rfl d_FC_numberEdges_20 (fun v w1 hp => ?_)
        obtain ⟨rfl, rfl⟩ := hp
        refine e_perm (st' := [.int (2 * (nI p) + 1), .ref x]) (ws' := [oFC x g ly sa (nI s1.length) gone tin tout (bI bu) (bI we) dw dr, oGR g wd ht (nI P) ho op lpl ea eb, aI cI sa (2 * P) f1]) [0, 1, 2] rfl rfl rfl ?_
        refine e_st [.int (nI (2 * p + 1)), .ref x] (by rw [show (2 : Int32) * nI p = nI (2 * p) from pk_mul 2 p, nI_1]) ?_
        refine e_callV (As := [.int (nI (2 * p + 1))]) (st := []) (wc := [oFC x g ly sa (nI s1.length) gone tin tout (bI bu) (bI we) dw dr, oGR g wd ht (nI P) ho op lpl ea eb, aI cI sa (2 * P) f1]) (wr := []) C (M_FC_addSlot l D cI cJ cZ x g ly sa P hP s1 f1 gone tin tout bu we dw dr wd ht ho op lpl ea eb (2 * p + 1) hR hle) v_FC_addSlot ml_FC_165 0 rfl rfl nwW_ok ⟨Nat.le_of_ble_eq_true rfl, Nat.le_of_ble_eq_true rfl⟩ ⟨Nat.le_of_ble_eq_true rfl, Nat.le_of_ble_eq_true rfl⟩ [0, 1, 2] [] rfl rfl rfl rfl (by decide) (Nat.le_of_ble_eq_true rfl) rfl d_FC_numberEdges_23 (fun v w1 hp => ?_)
        obtain ⟨f2, rfl, rfl, hR2⟩ := hp
        refine e_perm (st' := []) (ws' := [oFC x g ly sa (nI (addS P op gone s1 (2 * p + 1)).length) gone tin tout (bI bu) (bI we) dw dr, oGR g wd ht (nI P) ho op lpl ea eb, aI cI sa (2 * P) f2]) [0, 1, 2] rfl rfl rfl ?_
        refine e_aload_n C d_FC_numberEdges_26 rfl rfl ?_
        refine e_iload_n C d_FC_numberEdges_27 rfl rfl ?_
        refine e_callSN (As := [.int (nI p)]) (st := [.ref x]) (wc := []) (wr := [oFC x g ly sa (nI (addS P op gone s1 (2 * p + 1)).length) gone tin tout (bI bu) (bI we) dw dr, oGR g wd ht (nI P) ho op lpl ea eb, aI cI sa (2 * P) f2]) C (M_GR_belowOf l D cI cJ cZ (nI p)) s_GR_belowOf mn_FC_168 nwW_ok ⟨Nat.le_of_ble_eq_true rfl, Nat.le_of_ble_eq_true rfl⟩ ⟨Nat.le_of_ble_eq_true rfl, Nat.le_of_ble_eq_true rfl⟩ [] [0, 1, 2] rfl rfl rfl rfl (by decide) (Nat.le_of_ble_eq_true rfl) rfl d_FC_numberEdges_28 (fun v w1 hp => ?_)
        obtain ⟨rfl, rfl⟩ := hp
        refine e_perm (st' := [.int (2 * (nI p)), .ref x]) (ws' := [oFC x g ly sa (nI (addS P op gone s1 (2 * p + 1)).length) gone tin tout (bI bu) (bI we) dw dr, oGR g wd ht (nI P) ho op lpl ea eb, aI cI sa (2 * P) f2]) [0, 1, 2] rfl rfl rfl ?_
        refine e_st [.int (nI (2 * p)), .ref x] (by rw [show (2 : Int32) * nI p = nI (2 * p) from pk_mul 2 p]) ?_
        refine e_callV (As := [.int (nI (2 * p))]) (st := []) (wc := [oFC x g ly sa (nI (addS P op gone s1 (2 * p + 1)).length) gone tin tout (bI bu) (bI we) dw dr, oGR g wd ht (nI P) ho op lpl ea eb, aI cI sa (2 * P) f2]) (wr := []) C (M_FC_addSlot l D cI cJ cZ x g ly sa P hP (addS P op gone s1 (2 * p + 1)) f2 gone tin tout bu we dw dr wd ht ho op lpl ea eb (2 * p) hR2 (addS_le hle)) v_FC_addSlot ml_FC_165 0 rfl rfl nwW_ok ⟨Nat.le_of_ble_eq_true rfl, Nat.le_of_ble_eq_true rfl⟩ ⟨Nat.le_of_ble_eq_true rfl, Nat.le_of_ble_eq_true rfl⟩ [0, 1, 2] [] rfl rfl rfl rfl (by decide) (Nat.le_of_ble_eq_true rfl) rfl d_FC_numberEdges_31 (fun v w1 hp => ?_)
        obtain ⟨f3, rfl, rfl, hR3⟩ := hp
        refine e_perm (st' := []) (ws' := [oFC x g ly sa (nI (addS P op gone (addS P op gone s1 (2 * p + 1)) (2 * p)).length) gone tin tout (bI bu) (bI we) dw dr, oGR g wd ht (nI P) ho op lpl ea eb, aI cI sa (2 * P) f3]) [0, 1, 2] rfl rfl rfl ?_
        refine e_iinc (v := (nI p) + 1) C d_FC_numberEdges_34 rfl rfl (by decide) ?_
        refine e_goto (tgt := 7) C d_FC_numberEdges_37 (by decide) ?_
        refine e_lv [(0, .ref x), (1, .int (nI (p + 1)))] ⟨rfl, congrArg (fun z => some (Value.int z)) (nI_1 p), trivial⟩ ?_
        refine e_ws [oFC x g ly sa (nI (addS P op gone (addS P op gone s1 (2 * p + 1)) (2 * p)).length) gone tin tout (bI bu) (bI we) dw dr, oGR g wd ht (nI P) ho op lpl ea eb, aI cI sa (2 * P) f3] rfl ?_
        exact ihLP (p + 1) _ _ (by omega) (by show slS P op gone p (itn _ p []) = _; rw [hS]; rfl) hR3 (addS_le (addS_le hle)) (by omega)
  refine e_lv [(0, .ref x), (1, .int (nI 0))] ⟨rfl, rfl, trivial⟩ ?_
  refine e_ws [oFC x g ly sa (nI ([] : List Nat).length) gone tin tout (bI bu) (bI we) dw dr, oGR g wd ht (nI P) ho op lpl ea eb, aI cI sa (2 * P) fsl] rfl ?_
  exact LP _ 0 ([] : List Nat) fsl (Nat.zero_le _) rfl (fun i s h => by simp at h) (Nat.zero_le _) (Nat.lt_succ_self _)

def slotAt (sl : List Nat) (e : Int32) : Nat := (sl[e.toNatClampNeg]?).getD 0
theorem slotAt_nI {sl : List Nat} {j s : Nat} (hj : j < 2 ^ 31) (h : sl[j]? = some s) : slotAt sl (nI j) = s := by
  unfold slotAt
  rw [nI_clamp hj, h]
  rfl
def drawnF (sl : List Nat) (P : Nat) (dw dr : Int64) (e : Int32) : Bool := if lg_cmp dr (-1) = 0 then false else if isEdgeF sl.length (2 * P) e = true then hasF dw (nI (slotAt sl e)) else false
set_option maxHeartbeats 4000000 in
set_option maxRecDepth 100000 in
theorem M_FC_drawn (l : Launch) (D : va_G) (cI cJ cZ : ClassId) (x g ly sa P : Nat) (hP : P ≤ 25) (sl : List Nat) (fsl : Nat → Int32) (gone tin tout : Int64) (bu we : Bool) (dw dr : Int64) (e : Int32) (hsl : slR sl fsl) (hle : sl.length ≤ 2 * P) : MK l D cI cJ cZ y_FC_drawn c_FC_drawn 2 (some FieldType.boolean) 1 22 [.ref x, .int e] [oFC x g ly sa (nI sl.length) gone tin tout (bI bu) (bI we) dw dr, aI cI sa (2 * P) fsl] 0 0 (rI (bI (drawnF sl P dw dr e)) [oFC x g ly sa (nI sl.length) gone tin tout (bI bu) (bI we) dw dr, aI cI sa (2 * P) fsl]) := by
  refine MC.of (by decide) bigW_good (Nat.le_of_ble_eq_true rfl) (fun κ C Z IN => ?_)
  refine e_aload_n C d_FC_drawn_0 rfl rfl ?_
  refine e_get C hin_FC 0 rfl rfl 10 (by decide) fl_FC_49 rfl d_FC_drawn_1 ?_
  refine e_ldc2 C kl_FC_47 d_FC_drawn_4 ?_
  refine e_lcmp C d_FC_drawn_7 ?_
  refine e_if_eq (tgt := 39) C d_FC_drawn_8 (by decide) (fun h8 => ?_) (fun h8 => ?_)
  · -- 39
    refine e_iconst (v := 0) C d_FC_drawn_39 rfl ?_
    exact e_iret C Z rfl (Nat.le_of_ble_eq_true rfl) (Nat.le_of_ble_eq_true rfl) (⟨by unfold drawnF; rw [if_pos h8]; rfl, rfl⟩) d_FC_drawn_40
  · -- 11
    refine e_aload_n C d_FC_drawn_11 rfl rfl ?_
    refine e_iload_n C d_FC_drawn_12 rfl rfl ?_
    refine e_callV (As := [.int e]) (st := []) (wc := [oFC x g ly sa (nI sl.length) gone tin tout (bI bu) (bI we) dw dr, aI cI sa (2 * P) fsl]) (wr := []) C (M_FC_isEdge l D cI cJ cZ x g ly sa P hP sl fsl gone tin tout bu we dw dr e) v_FC_isEdge ml_FC_94 0 rfl rfl nwW_ok ⟨Nat.le_of_ble_eq_true rfl, Nat.le_of_ble_eq_true rfl⟩ ⟨Nat.le_of_ble_eq_true rfl, Nat.le_of_ble_eq_true rfl⟩ [0, 1] [] rfl rfl rfl rfl (by decide) (Nat.le_of_ble_eq_true rfl) rfl d_FC_drawn_13 (fun v w1 hp => ?_)
    obtain ⟨rfl, rfl⟩ := hp
    refine e_perm (st' := [.int (bI (isEdgeF sl.length (2 * P) e))]) (ws' := [oFC x g ly sa (nI sl.length) gone tin tout (bI bu) (bI we) dw dr, aI cI sa (2 * P) fsl]) [0, 1] rfl rfl rfl ?_
    refine e_if_eq (tgt := 39) C d_FC_drawn_16 (by decide) (fun h16 => ?_) (fun h16 => ?_)
    · -- 39
      refine e_iconst (v := 0) C d_FC_drawn_39 rfl ?_
      exact e_iret C Z rfl (Nat.le_of_ble_eq_true rfl) (Nat.le_of_ble_eq_true rfl) (⟨by simp only [bI_eq0] at h16; unfold drawnF; rw [if_neg h8, if_neg (Bool.eq_false_iff.mp h16)]; rfl, rfl⟩) d_FC_drawn_40
    · -- 19
      have hie : isEdgeF sl.length (2 * P) e = true := by simp only [bI_eq0, Bool.not_eq_false] at h16; exact h16
      obtain ⟨j, hj, hje⟩ : ∃ j : Nat, j < sl.length ∧ e = nI j := by (have q := hie; unfold isEdgeF at q; simp only [Bool.and_eq_true, Bool.not_eq_true', decide_eq_false_iff_not] at q; rcases pk_ix e (n := sl.length) (by omega) with z | z | z; exact absurd z q.1.1; exact absurd z q.1.2; exact z)
      subst hje
      obtain ⟨sv, hsv⟩ : ∃ sv, sl[j]? = some sv := ⟨_, List.getElem?_eq_getElem hj⟩
      refine e_aload_n C d_FC_drawn_19 rfl rfl ?_
      refine e_get C hin_FC 0 rfl rfl 9 (by decide) fl_FC_136 rfl d_FC_drawn_20 ?_
      refine e_aload_n C d_FC_drawn_23 rfl rfl ?_
      refine e_get C hin_FC 0 rfl rfl 2 (by decide) fl_FC_43 rfl d_FC_drawn_24 ?_
      refine e_iload_n C d_FC_drawn_27 rfl rfl ?_
      refine e_iald C 1 0 rfl rfl (vp_in_nI (by omega) (by omega)) d_FC_drawn_28 ?_
      refine e_st [.int (fsl j), .long dw] (by rw [nI_clamp (by omega)]) ?_
      refine e_st [.int (nI sv), .long dw] (by rw [hsl j sv hsv]) ?_
      refine e_callS (As := [.long dw, .int (nI sv)]) (st := []) (wc := []) (wr := [oFC x g ly sa (nI sl.length) gone tin tout (bI bu) (bI we) dw dr, aI cI sa (2 * P) fsl]) C (M_FC_has l D cI cJ cZ dw (nI sv)) s_FC_has ml_FC_77 nwW_ok ⟨Nat.le_of_ble_eq_true rfl, Nat.le_of_ble_eq_true rfl⟩ ⟨Nat.le_of_ble_eq_true rfl, Nat.le_of_ble_eq_true rfl⟩ [] [0, 1] rfl rfl rfl rfl (by decide) (Nat.le_of_ble_eq_true rfl) rfl d_FC_drawn_29 (fun v w1 hp => ?_)
      obtain ⟨rfl, rfl⟩ := hp
      refine e_perm (st' := [.int (bI (hasF dw (nI sv)))]) (ws' := [oFC x g ly sa (nI sl.length) gone tin tout (bI bu) (bI we) dw dr, aI cI sa (2 * P) fsl]) [0, 1] rfl rfl rfl ?_
      refine e_if_eq (tgt := 39) C d_FC_drawn_32 (by decide) (fun h32 => ?_) (fun h32 => ?_)
      · -- 39
        refine e_iconst (v := 0) C d_FC_drawn_39 rfl ?_
        exact e_iret C Z rfl (Nat.le_of_ble_eq_true rfl) (Nat.le_of_ble_eq_true rfl) (⟨by simp only [bI_eq0, Bool.not_eq_false] at h32; unfold drawnF; rw [if_neg h8, if_pos hie, slotAt_nI (by omega) hsv, h32]; rfl, rfl⟩) d_FC_drawn_40
      · -- 35
        refine e_iconst (v := 1) C d_FC_drawn_35 rfl ?_
        refine e_goto (tgt := 40) C d_FC_drawn_36 (by decide) ?_
        exact e_iret C Z rfl (Nat.le_of_ble_eq_true rfl) (Nat.le_of_ble_eq_true rfl) (⟨by simp only [bI_eq0, Bool.not_eq_false] at h32; unfold drawnF; rw [if_neg h8, if_pos hie, slotAt_nI (by omega) hsv, h32]; rfl, rfl⟩) d_FC_drawn_40

def endF (sl : List Nat) (P : Nat) (wd : Int32) (e : Int32) (other : Bool) : Int32 := if isEdgeF sl.length (2 * P) e = true then (if other = true then farEndF wd (nI (slotAt sl e)) else nI (slotAt sl e) >>> ((1 : Int32) &&& 31)) else -1
set_option maxHeartbeats 4000000 in
set_option maxRecDepth 100000 in
theorem M_FC_end (l : Launch) (D : va_G) (cI cJ cZ : ClassId) (x g ly sa P : Nat) (hP : P ≤ 25) (sl : List Nat) (fsl : Nat → Int32) (gone tin tout : Int64) (bu we : Bool) (dw dr : Int64) (wd ht ho : Int32) (op : Int64) (lpl ea eb : Int32) (e : Int32) (other : Bool) (hsl : slR sl fsl) (hle : sl.length ≤ 2 * P) : MK l D cI cJ cZ y_FC_end c_FC_end 4 (some FieldType.int) 2 43 [.ref x, .int e, .int (bI other)] [oFC x g ly sa (nI sl.length) gone tin tout (bI bu) (bI we) dw dr, oGR g wd ht (nI P) ho op lpl ea eb, aI cI sa (2 * P) fsl] 0 0 (rI (endF sl P wd e other) [oFC x g ly sa (nI sl.length) gone tin tout (bI bu) (bI we) dw dr, oGR g wd ht (nI P) ho op lpl ea eb, aI cI sa (2 * P) fsl]) := by
  refine MC.of (by decide) bigW_good (Nat.le_of_ble_eq_true rfl) (fun κ C Z IN => ?_)
  refine e_aload_n C d_FC_end_0 rfl rfl ?_
  refine e_iload_n C d_FC_end_1 rfl rfl ?_
  refine e_callV (As := [.int e]) (st := []) (wc := [oFC x g ly sa (nI sl.length) gone tin tout (bI bu) (bI we) dw dr, aI cI sa (2 * P) fsl]) (wr := [oGR g wd ht (nI P) ho op lpl ea eb]) C (M_FC_isEdge l D cI cJ cZ x g ly sa P hP sl fsl gone tin tout bu we dw dr e) v_FC_isEdge ml_FC_94 0 rfl rfl nwW_ok ⟨Nat.le_of_ble_eq_true rfl, Nat.le_of_ble_eq_true rfl⟩ ⟨Nat.le_of_ble_eq_true rfl, Nat.le_of_ble_eq_true rfl⟩ [0, 2] [1] rfl rfl rfl rfl (by decide) (Nat.le_of_ble_eq_true rfl) rfl d_FC_end_2 (fun v w1 hp => ?_)
  obtain ⟨rfl, rfl⟩ := hp
  refine e_perm (st' := [.int (bI (isEdgeF sl.length (2 * P) e))]) (ws' := [oFC x g ly sa (nI sl.length) gone tin tout (bI bu) (bI we) dw dr, oGR g wd ht (nI P) ho op lpl ea eb, aI cI sa (2 * P) fsl]) [1, 0, 2] rfl rfl rfl ?_
  refine e_if_ne (tgt := 10) C d_FC_end_5 (by decide) (fun h5 => ?_) (fun h5 => ?_)
  · -- 10
    have hie : isEdgeF sl.length (2 * P) e = true := by simp only [bI_eq0, Bool.not_eq_false] at h5; exact h5
    obtain ⟨j, hj, hje⟩ : ∃ j : Nat, j < sl.length ∧ e = nI j := by (have q := hie; unfold isEdgeF at q; simp only [Bool.and_eq_true, Bool.not_eq_true', decide_eq_false_iff_not] at q; rcases pk_ix e (n := sl.length) (by omega) with z | z | z; exact absurd z q.1.1; exact absurd z q.1.2; exact z)
    subst hje
    obtain ⟨sv, hsv⟩ : ∃ sv, sl[j]? = some sv := ⟨_, List.getElem?_eq_getElem hj⟩
    refine e_aload_n C d_FC_end_10 rfl rfl ?_
    refine e_get C hin_FC 0 rfl rfl 2 (by decide) fl_FC_43 rfl d_FC_end_11 ?_
    refine e_iload_n C d_FC_end_14 rfl rfl ?_
    refine e_iald C 2 0 rfl rfl (vp_in_nI (by omega) (by omega)) d_FC_end_15 ?_
    refine e_st [.int (fsl j)] (by rw [nI_clamp (by omega)]) ?_
    refine e_st [.int (nI sv)] (by rw [hsl j sv hsv]) ?_
    refine e_istore_n C d_FC_end_16 rfl (by decide) ?_
    refine e_iload_n C d_FC_end_17 rfl rfl ?_
    refine e_if_eq (tgt := 32) C d_FC_end_18 (by decide) (fun h18 => ?_) (fun h18 => ?_)
    · -- 32
      refine e_aload_n C d_FC_end_32 rfl rfl ?_
      refine e_get C hin_FC 0 rfl rfl 0 (by decide) fl_FC_18 rfl d_FC_end_33 ?_
      refine e_iload_n C d_FC_end_36 rfl rfl ?_
      refine e_callVN (As := [.int (nI sv)]) (st := []) (wc := [oGR g wd ht (nI P) ho op lpl ea eb]) (wr := [oFC x g ly sa (nI sl.length) gone tin tout (bI bu) (bI we) dw dr, aI cI sa (2 * P) fsl]) C (M_GR_nearEnd l D cI cJ cZ g wd ht (nI P) ho op lpl ea eb (nI sv)) v_GR_nearEnd mn_FC_100 1 rfl rfl nwW_ok ⟨Nat.le_of_ble_eq_true rfl, Nat.le_of_ble_eq_true rfl⟩ ⟨Nat.le_of_ble_eq_true rfl, Nat.le_of_ble_eq_true rfl⟩ [1] [0, 2] rfl rfl rfl rfl (by decide) (Nat.le_of_ble_eq_true rfl) rfl d_FC_end_37 (fun v w1 hp => ?_)
      obtain ⟨rfl, rfl⟩ := hp
      refine e_perm (st' := [.int ((nI sv) >>> ((1 : Int32) &&& 31))]) (ws' := [oFC x g ly sa (nI sl.length) gone tin tout (bI bu) (bI we) dw dr, oGR g wd ht (nI P) ho op lpl ea eb, aI cI sa (2 * P) fsl]) [0, 2, 1] rfl rfl rfl ?_
      exact e_iret C Z rfl (Nat.le_of_ble_eq_true rfl) (Nat.le_of_ble_eq_true rfl) (⟨by simp only [bI_eq0, Bool.not_eq_false] at h18; unfold endF; rw [if_pos hie, slotAt_nI (by omega) hsv]; first | rw [if_pos h18] | rw [if_neg (Bool.eq_false_iff.mp h18)], rfl⟩) d_FC_end_40
    · -- 21
      refine e_aload_n C d_FC_end_21 rfl rfl ?_
      refine e_get C hin_FC 0 rfl rfl 0 (by decide) fl_FC_18 rfl d_FC_end_22 ?_
      refine e_iload_n C d_FC_end_25 rfl rfl ?_
      refine e_callVN (As := [.int (nI sv)]) (st := []) (wc := [oGR g wd ht (nI P) ho op lpl ea eb]) (wr := [oFC x g ly sa (nI sl.length) gone tin tout (bI bu) (bI we) dw dr, aI cI sa (2 * P) fsl]) C (M_GR_farEnd l D cI cJ cZ g wd ht (nI P) ho op lpl ea eb (nI sv)) v_GR_farEnd mn_FC_97 1 rfl rfl nwW_ok ⟨Nat.le_of_ble_eq_true rfl, Nat.le_of_ble_eq_true rfl⟩ ⟨Nat.le_of_ble_eq_true rfl, Nat.le_of_ble_eq_true rfl⟩ [1] [0, 2] rfl rfl rfl rfl (by decide) (Nat.le_of_ble_eq_true rfl) rfl d_FC_end_26 (fun v w1 hp => ?_)
      obtain ⟨rfl, rfl⟩ := hp
      refine e_perm (st' := [.int (farEndF wd (nI sv))]) (ws' := [oFC x g ly sa (nI sl.length) gone tin tout (bI bu) (bI we) dw dr, oGR g wd ht (nI P) ho op lpl ea eb, aI cI sa (2 * P) fsl]) [0, 2, 1] rfl rfl rfl ?_
      refine e_goto (tgt := 40) C d_FC_end_29 (by decide) ?_
      exact e_iret C Z rfl (Nat.le_of_ble_eq_true rfl) (Nat.le_of_ble_eq_true rfl) (⟨by simp only [bI_eq0, Bool.not_eq_false] at h18; unfold endF; rw [if_pos hie, slotAt_nI (by omega) hsv]; first | rw [if_pos h18] | rw [if_neg (Bool.eq_false_iff.mp h18)], rfl⟩) d_FC_end_40
  · -- 8
    refine e_iconst (v := (-1)) C d_FC_end_8 rfl ?_
    exact e_iret C Z rfl (Nat.le_of_ble_eq_true rfl) (Nat.le_of_ble_eq_true rfl) (⟨by simp only [bI_eq0] at h5; unfold endF; rw [if_neg (Bool.eq_false_iff.mp h5)], rfl⟩) d_FC_end_9

def bitL (s : Nat) : Int64 := 1 <<< ((nI s).toInt64 &&& 63)
def forceOK (sl : List Nat) (P : Nat) (e how : Int32) : Bool := isEdgeF sl.length (2 * P) e && !decide (how < 0) && decide (how ≤ 2)
def tinF (tin : Int64) (s : Nat) (how : Int32) : Int64 := if how = 1 then tin ||| bitL s else tin &&& (bitL s ^^^ -1)
def toutF (tout : Int64) (s : Nat) (how : Int32) : Int64 := if how = 2 then tout ||| bitL s else tout &&& (bitL s ^^^ -1)
set_option maxHeartbeats 4000000 in
set_option maxRecDepth 100000 in
theorem M_FC_force (l : Launch) (D : va_G) (cI cJ cZ : ClassId) (x g ly sa P : Nat) (hP : P ≤ 25) (sl : List Nat) (fsl : Nat → Int32) (gone tin tout : Int64) (bu we : Bool) (dw dr : Int64) (e how : Int32) (hsl : slR sl fsl) (hle : sl.length ≤ 2 * P) : MK l D cI cJ cZ y_FC_force c_FC_force 5 (some FieldType.boolean) 1 21 [.ref x, .int e, .int how] [oFC x g ly sa (nI sl.length) gone tin tout (bI bu) (bI we) dw dr, aI cI sa (2 * P) fsl] 0 0 (fun v w1 => (forceOK sl P e how = false ∧ v = some (.int 0) ∧ w1 = [oFC x g ly sa (nI sl.length) gone tin tout (bI bu) (bI we) dw dr, aI cI sa (2 * P) fsl]) ∨ (forceOK sl P e how = true ∧ v = some (.int 1) ∧ w1 = [oFC x g ly sa (nI sl.length) gone (tinF tin (slotAt sl e) how) (toutF tout (slotAt sl e) how) (bI bu) (bI false) dw (-1), aI cI sa (2 * P) fsl])) := by
  refine MC.of (by decide) bigW_good (Nat.le_of_ble_eq_true rfl) (fun κ C Z IN => ?_)
  refine e_aload_n C d_FC_force_0 rfl rfl ?_
  refine e_iload_n C d_FC_force_1 rfl rfl ?_
  refine e_callV (As := [.int e]) (st := []) (wc := [oFC x g ly sa (nI sl.length) gone tin tout (bI bu) (bI we) dw dr, aI cI sa (2 * P) fsl]) (wr := []) C (M_FC_isEdge l D cI cJ cZ x g ly sa P hP sl fsl gone tin tout bu we dw dr e) v_FC_isEdge ml_FC_94 0 rfl rfl nwW_ok ⟨Nat.le_of_ble_eq_true rfl, Nat.le_of_ble_eq_true rfl⟩ ⟨Nat.le_of_ble_eq_true rfl, Nat.le_of_ble_eq_true rfl⟩ [0, 1] [] rfl rfl rfl rfl (by decide) (Nat.le_of_ble_eq_true rfl) rfl d_FC_force_2 (fun v w1 hp => ?_)
  obtain ⟨rfl, rfl⟩ := hp
  refine e_perm (st' := [.int (bI (isEdgeF sl.length (2 * P) e))]) (ws' := [oFC x g ly sa (nI sl.length) gone tin tout (bI bu) (bI we) dw dr, aI cI sa (2 * P) fsl]) [0, 1] rfl rfl rfl ?_
  refine e_if_eq (tgt := 17) C d_FC_force_5 (by decide) (fun h5 => ?_) (fun h5 => ?_)
  · -- 17
    have hok : forceOK sl P e how = false := by unfold forceOK; simp only [bI_eq0] at h5; rw [h5]; rfl
    refine e_iconst (v := 0) C d_FC_force_17 rfl ?_
    exact e_iret C Z rfl (Nat.le_of_ble_eq_true rfl) (Nat.le_of_ble_eq_true rfl) (Or.inl ⟨hok, rfl, rfl⟩) d_FC_force_18
  · -- 8
    refine e_iload_n C d_FC_force_8 rfl rfl ?_
    refine e_if_lt (tgt := 17) C d_FC_force_9 (by decide) (fun h9 => ?_) (fun h9 => ?_)
    · -- 17
      have hok : forceOK sl P e how = false := by unfold forceOK; rw [decide_eq_true h9]; simp
      refine e_iconst (v := 0) C d_FC_force_17 rfl ?_
      exact e_iret C Z rfl (Nat.le_of_ble_eq_true rfl) (Nat.le_of_ble_eq_true rfl) (Or.inl ⟨hok, rfl, rfl⟩) d_FC_force_18
    · -- 12
      refine e_iload_n C d_FC_force_12 rfl rfl ?_
      refine e_iconst (v := 2) C d_FC_force_13 rfl ?_
      refine e_icmp_le (tgt := 19) C d_FC_force_14 (by decide) (fun h14 => ?_) (fun h14 => ?_)
      · -- 19
        have hie : isEdgeF sl.length (2 * P) e = true := by simp only [bI_eq0, Bool.not_eq_false] at h5; exact h5
        have hok : forceOK sl P e how = true := by unfold forceOK; rw [hie, decide_eq_false h9, decide_eq_true h14]; rfl
        obtain ⟨j, hj, hje⟩ : ∃ j : Nat, j < sl.length ∧ e = nI j := by (have q := hie; unfold isEdgeF at q; simp only [Bool.and_eq_true, Bool.not_eq_true', decide_eq_false_iff_not] at q; rcases pk_ix e (n := sl.length) (by omega) with z | z | z; exact absurd z q.1.1; exact absurd z q.1.2; exact z)
        subst hje
        obtain ⟨sv, hsv⟩ : ∃ sv, sl[j]? = some sv := ⟨_, List.getElem?_eq_getElem hj⟩
        refine e_lconst (v := 1) C d_FC_force_19 rfl ?_
        refine e_aload_n C d_FC_force_20 rfl rfl ?_
        refine e_get C hin_FC 0 rfl rfl 2 (by decide) fl_FC_43 rfl d_FC_force_21 ?_
        refine e_iload_n C d_FC_force_24 rfl rfl ?_
        refine e_iald C 1 0 rfl rfl (vp_in_nI (by omega) (by omega)) d_FC_force_25 ?_
        refine e_st [.int (fsl j), .long 1] (by rw [nI_clamp (by omega)]) ?_
        refine e_st [.int (nI sv), .long 1] (by rw [hsl j sv hsv]) ?_
        refine e_lshl C d_FC_force_26 ?_
        refine e_st [.long (bitL sv)] rfl ?_
        refine e_lstore_n C d_FC_force_27 rfl (by decide) ?_
        refine e_aload_n C d_FC_force_28 rfl rfl ?_
        refine e_iload_n C d_FC_force_29 rfl rfl ?_
        refine e_lv [(0, .ref x), (1, .int (nI j)), (2, .int how), (3, .long (bitL sv))] ⟨rfl, rfl, rfl, rfl, trivial⟩ ?_
        have J53 : ∀ (y53 : Int64), y53 = tinF tin sv how → E κ (lu_o [(0, .ref x), (1, .int (nI j)), (2, .int how), (3, .long (bitL sv))]) [.long y53, .ref x] [oFC x g ly sa (nI sl.length) gone tin tout (bI bu) (bI we) dw dr, aI cI sa (2 * P) fsl] 0 0 53 := by
          intro y53 ey53
          refine e_put C hin_FC ty_FC tyk_FC nm_FC 0 rfl rfl 5 (by decide) fl_FC_103 rfl rfl rfl (Nat.le_of_ble_eq_true rfl) d_FC_force_53 ?_
          refine e_ws [oFC x g ly sa (nI sl.length) gone y53 tout (bI bu) (bI we) dw dr, aI cI sa (2 * P) fsl] rfl ?_
          refine e_aload_n C d_FC_force_56 rfl rfl ?_
          refine e_iload_n C d_FC_force_57 rfl rfl ?_
          refine e_lv [(0, .ref x), (1, .int (nI j)), (2, .int how), (3, .long (bitL sv))] ⟨rfl, rfl, rfl, rfl, trivial⟩ ?_
          have J81 : ∀ (y81 : Int64), y81 = toutF tout sv how → E κ (lu_o [(0, .ref x), (1, .int (nI j)), (2, .int how), (3, .long (bitL sv))]) [.long y81, .ref x] [oFC x g ly sa (nI sl.length) gone y53 tout (bI bu) (bI we) dw dr, aI cI sa (2 * P) fsl] 0 0 81 := by
            intro y81 ey81
            refine e_put C hin_FC ty_FC tyk_FC nm_FC 0 rfl rfl 6 (by decide) fl_FC_106 rfl rfl rfl (Nat.le_of_ble_eq_true rfl) d_FC_force_81 ?_
            refine e_ws [oFC x g ly sa (nI sl.length) gone y53 y81 (bI bu) (bI we) dw dr, aI cI sa (2 * P) fsl] rfl ?_
            subst ey53; subst ey81
            refine e_aload_n C d_FC_force_84 rfl rfl ?_
            refine e_callV (As := []) (st := []) (wc := [oFC x g ly sa (nI sl.length) gone (tinF tin sv how) (toutF tout sv how) (bI bu) (bI we) dw dr]) (wr := [aI cI sa (2 * P) fsl]) C (M_FC_forgetWays l D cI cJ cZ x g ly sa P hP sl fsl gone (tinF tin sv how) (toutF tout sv how) bu we dw dr) v_FC_forgetWays ml_FC_88 0 rfl rfl nwW_ok ⟨Nat.le_of_ble_eq_true rfl, Nat.le_of_ble_eq_true rfl⟩ ⟨Nat.le_of_ble_eq_true rfl, Nat.le_of_ble_eq_true rfl⟩ [0] [1] rfl rfl rfl rfl (by decide) (Nat.le_of_ble_eq_true rfl) rfl d_FC_force_85 (fun v w1 hp => ?_)
            obtain ⟨rfl, rfl⟩ := hp
            refine e_perm (st' := []) (ws' := [oFC x g ly sa (nI sl.length) gone (tinF tin sv how) (toutF tout sv how) (bI bu) (bI false) dw (-1), aI cI sa (2 * P) fsl]) [1, 0] rfl rfl rfl ?_
            refine e_iconst (v := 1) C d_FC_force_88 rfl ?_
            exact e_iret C Z rfl (Nat.le_of_ble_eq_true rfl) (Nat.le_of_ble_eq_true rfl) (Or.inr ⟨hok, rfl, by rw [slotAt_nI (by omega) hsv]⟩) d_FC_force_89
          refine e_iconst (v := 2) C d_FC_force_58 rfl ?_
          refine e_icmp_ne (tgt := 71) C d_FC_force_59 (by decide) (fun h59 => ?_) (fun h59 => ?_)
          · -- 71
            refine e_aload_n C d_FC_force_71 rfl rfl ?_
            refine e_get C hin_FC 0 rfl rfl 6 (by decide) fl_FC_106 rfl d_FC_force_72 ?_
            refine e_lload_n C d_FC_force_75 rfl rfl ?_
            refine e_ldc2 C kl_FC_47 d_FC_force_76 ?_
            refine e_lxor C d_FC_force_79 ?_
            refine e_land C d_FC_force_80 ?_
            refine e_lv [(0, .ref x), (1, .int (nI j)), (2, .int how), (3, .long (bitL sv))] ⟨rfl, rfl, rfl, rfl, trivial⟩ ?_
            exact J81 (tout &&& ((bitL sv) ^^^ (-1))) (by unfold toutF; first | rw [if_pos h59] | rw [if_neg h59])
          · -- 62
            refine e_aload_n C d_FC_force_62 rfl rfl ?_
            refine e_get C hin_FC 0 rfl rfl 6 (by decide) fl_FC_106 rfl d_FC_force_63 ?_
            refine e_lload_n C d_FC_force_66 rfl rfl ?_
            refine e_lor C d_FC_force_67 ?_
            refine e_goto (tgt := 81) C d_FC_force_68 (by decide) ?_
            refine e_lv [(0, .ref x), (1, .int (nI j)), (2, .int how), (3, .long (bitL sv))] ⟨rfl, rfl, rfl, rfl, trivial⟩ ?_
            exact J81 (tout ||| (bitL sv)) (by unfold toutF; first | rw [if_pos h59] | rw [if_neg h59])
        refine e_iconst (v := 1) C d_FC_force_30 rfl ?_
        refine e_icmp_ne (tgt := 43) C d_FC_force_31 (by decide) (fun h31 => ?_) (fun h31 => ?_)
        · -- 43
          refine e_aload_n C d_FC_force_43 rfl rfl ?_
          refine e_get C hin_FC 0 rfl rfl 5 (by decide) fl_FC_103 rfl d_FC_force_44 ?_
          refine e_lload_n C d_FC_force_47 rfl rfl ?_
          refine e_ldc2 C kl_FC_47 d_FC_force_48 ?_
          refine e_lxor C d_FC_force_51 ?_
          refine e_land C d_FC_force_52 ?_
          refine e_lv [(0, .ref x), (1, .int (nI j)), (2, .int how), (3, .long (bitL sv))] ⟨rfl, rfl, rfl, rfl, trivial⟩ ?_
          exact J53 (tin &&& ((bitL sv) ^^^ (-1))) (by unfold tinF; first | rw [if_pos h31] | rw [if_neg h31])
        · -- 34
          refine e_aload_n C d_FC_force_34 rfl rfl ?_
          refine e_get C hin_FC 0 rfl rfl 5 (by decide) fl_FC_103 rfl d_FC_force_35 ?_
          refine e_lload_n C d_FC_force_38 rfl rfl ?_
          refine e_lor C d_FC_force_39 ?_
          refine e_goto (tgt := 53) C d_FC_force_40 (by decide) ?_
          refine e_lv [(0, .ref x), (1, .int (nI j)), (2, .int how), (3, .long (bitL sv))] ⟨rfl, rfl, rfl, rfl, trivial⟩ ?_
          exact J53 (tin ||| (bitL sv)) (by unfold tinF; first | rw [if_pos h31] | rw [if_neg h31])
      · -- 17
        have hok : forceOK sl P e how = false := by unfold forceOK; rw [decide_eq_false h14]; simp
        refine e_iconst (v := 0) C d_FC_force_17 rfl ?_
        exact e_iret C Z rfl (Nat.le_of_ble_eq_true rfl) (Nat.le_of_ble_eq_true rfl) (Or.inl ⟨hok, rfl, rfl⟩) d_FC_force_18

def endsOK (P : Nat) (a b : Int32) : Bool := insideF (nI P) a && insideF (nI P) b && !decide (a = b)
set_option maxHeartbeats 4000000 in
set_option maxRecDepth 100000 in
theorem M_FC_ends (l : Launch) (D : va_G) (cI cJ cZ : ClassId) (x g ly sa P : Nat) (hP : P ≤ 25) (sl : List Nat) (fsl : Nat → Int32) (gone tin tout : Int64) (bu we : Bool) (dw dr : Int64) (wd ht ho : Int32) (op : Int64) (lpl ea eb : Int32) (a b : Int32) : MK l D cI cJ cZ y_FC_ends c_FC_ends 3 (some FieldType.boolean) 1 22 [.ref x, .int a, .int b] [oFC x g ly sa (nI sl.length) gone tin tout (bI bu) (bI we) dw dr, oGR g wd ht (nI P) ho op lpl ea eb] 0 0 (fun v w1 => (endsOK P a b = false ∧ v = some (.int 0) ∧ w1 = [oFC x g ly sa (nI sl.length) gone tin tout (bI bu) (bI we) dw dr, oGR g wd ht (nI P) ho op lpl ea eb]) ∨ (endsOK P a b = true ∧ v = some (.int 1) ∧ w1 = [oFC x g ly sa (nI sl.length) gone tin tout (bI false) (bI false) dw (-1), oGR g wd ht (nI P) ho op lpl a b])) := by
  refine MC.of (by decide) bigW_good (Nat.le_of_ble_eq_true rfl) (fun κ C Z IN => ?_)
  refine e_aload_n C d_FC_ends_0 rfl rfl ?_
  refine e_get C hin_FC 0 rfl rfl 0 (by decide) fl_FC_18 rfl d_FC_ends_1 ?_
  refine e_iload_n C d_FC_ends_4 rfl rfl ?_
  refine e_callVN (As := [.int a]) (st := []) (wc := [oGR g wd ht (nI P) ho op lpl ea eb]) (wr := [oFC x g ly sa (nI sl.length) gone tin tout (bI bu) (bI we) dw dr]) C (M_GR_inside l D cI cJ cZ g wd ht (nI P) ho op lpl ea eb a) v_GR_inside mn_FC_81 1 rfl rfl nwW_ok ⟨Nat.le_of_ble_eq_true rfl, Nat.le_of_ble_eq_true rfl⟩ ⟨Nat.le_of_ble_eq_true rfl, Nat.le_of_ble_eq_true rfl⟩ [1] [0] rfl rfl rfl rfl (by decide) (Nat.le_of_ble_eq_true rfl) rfl d_FC_ends_5 (fun v w1 hp => ?_)
  obtain ⟨rfl, rfl⟩ := hp
  refine e_perm (st' := [.int (bI (insideF (nI P) a))]) (ws' := [oFC x g ly sa (nI sl.length) gone tin tout (bI bu) (bI we) dw dr, oGR g wd ht (nI P) ho op lpl ea eb]) [0, 1] rfl rfl rfl ?_
  refine e_if_eq (tgt := 27) C d_FC_ends_8 (by decide) (fun h8 => ?_) (fun h8 => ?_)
  · -- 27
    have hok : endsOK P a b = false := by (try simp only [bI_eq0, Bool.not_eq_false] at h8); unfold endsOK; simp [h8]
    refine e_iconst (v := 0) C d_FC_ends_27 rfl ?_
    exact e_iret C Z rfl (Nat.le_of_ble_eq_true rfl) (Nat.le_of_ble_eq_true rfl) (Or.inl ⟨hok, rfl, rfl⟩) d_FC_ends_28
  · -- 11
    refine e_aload_n C d_FC_ends_11 rfl rfl ?_
    refine e_get C hin_FC 0 rfl rfl 0 (by decide) fl_FC_18 rfl d_FC_ends_12 ?_
    refine e_iload_n C d_FC_ends_15 rfl rfl ?_
    refine e_callVN (As := [.int b]) (st := []) (wc := [oGR g wd ht (nI P) ho op lpl ea eb]) (wr := [oFC x g ly sa (nI sl.length) gone tin tout (bI bu) (bI we) dw dr]) C (M_GR_inside l D cI cJ cZ g wd ht (nI P) ho op lpl ea eb b) v_GR_inside mn_FC_81 1 rfl rfl nwW_ok ⟨Nat.le_of_ble_eq_true rfl, Nat.le_of_ble_eq_true rfl⟩ ⟨Nat.le_of_ble_eq_true rfl, Nat.le_of_ble_eq_true rfl⟩ [1] [0] rfl rfl rfl rfl (by decide) (Nat.le_of_ble_eq_true rfl) rfl d_FC_ends_16 (fun v w1 hp => ?_)
    obtain ⟨rfl, rfl⟩ := hp
    refine e_perm (st' := [.int (bI (insideF (nI P) b))]) (ws' := [oFC x g ly sa (nI sl.length) gone tin tout (bI bu) (bI we) dw dr, oGR g wd ht (nI P) ho op lpl ea eb]) [0, 1] rfl rfl rfl ?_
    refine e_if_eq (tgt := 27) C d_FC_ends_19 (by decide) (fun h19 => ?_) (fun h19 => ?_)
    · -- 27
      have hok : endsOK P a b = false := by (try simp only [bI_eq0, Bool.not_eq_false] at h8 h19); unfold endsOK; simp [h8, h19]
      refine e_iconst (v := 0) C d_FC_ends_27 rfl ?_
      exact e_iret C Z rfl (Nat.le_of_ble_eq_true rfl) (Nat.le_of_ble_eq_true rfl) (Or.inl ⟨hok, rfl, rfl⟩) d_FC_ends_28
    · -- 22
      refine e_iload_n C d_FC_ends_22 rfl rfl ?_
      refine e_iload_n C d_FC_ends_23 rfl rfl ?_
      refine e_icmp_ne (tgt := 29) C d_FC_ends_24 (by decide) (fun h24 => ?_) (fun h24 => ?_)
      · -- 29
        have hok : endsOK P a b = true := by (try simp only [bI_eq0, Bool.not_eq_false] at h8 h19); unfold endsOK; simp [h8, h19, h24]
        refine e_aload_n C d_FC_ends_29 rfl rfl ?_
        refine e_get C hin_FC 0 rfl rfl 0 (by decide) fl_FC_18 rfl d_FC_ends_30 ?_
        refine e_iload_n C d_FC_ends_33 rfl rfl ?_
        refine e_iload_n C d_FC_ends_34 rfl rfl ?_
        refine e_callVN (As := [.int a, .int b]) (st := []) (wc := [oGR g wd ht (nI P) ho op lpl ea eb]) (wr := [oFC x g ly sa (nI sl.length) gone tin tout (bI bu) (bI we) dw dr]) C (M_GR_tellEnds l D cI cJ cZ g wd ht (nI P) ho op lpl ea eb a b) v_GR_tellEnds mn_FC_85 1 rfl rfl nwW_ok ⟨Nat.le_of_ble_eq_true rfl, Nat.le_of_ble_eq_true rfl⟩ ⟨Nat.le_of_ble_eq_true rfl, Nat.le_of_ble_eq_true rfl⟩ [1] [0] rfl rfl rfl rfl (by decide) (Nat.le_of_ble_eq_true rfl) rfl d_FC_ends_35 (fun v w1 hp => ?_)
        obtain ⟨rfl, rfl⟩ := hp
        refine e_perm (st' := []) (ws' := [oFC x g ly sa (nI sl.length) gone tin tout (bI bu) (bI we) dw dr, oGR g wd ht (nI P) ho op lpl a b]) [0, 1] rfl rfl rfl ?_
        refine e_aload_n C d_FC_ends_38 rfl rfl ?_
        refine e_iconst (v := 0) C d_FC_ends_39 rfl ?_
        refine e_put C hin_FC ty_FC tyk_FC nm_FC 0 rfl rfl 7 (by decide) fl_FC_69 rfl rfl rfl (Nat.le_of_ble_eq_true rfl) d_FC_ends_40 ?_
        refine e_ws [oFC x g ly sa (nI sl.length) gone tin tout 0 (bI we) dw dr, oGR g wd ht (nI P) ho op lpl a b] rfl ?_
        refine e_aload_n C d_FC_ends_43 rfl rfl ?_
        refine e_callV (As := []) (st := []) (wc := [oFC x g ly sa (nI sl.length) gone tin tout 0 (bI we) dw dr]) (wr := [oGR g wd ht (nI P) ho op lpl a b]) C (M_FC_forgetWays l D cI cJ cZ x g ly sa P hP sl fsl gone tin tout false we dw dr) v_FC_forgetWays ml_FC_88 0 rfl rfl nwW_ok ⟨Nat.le_of_ble_eq_true rfl, Nat.le_of_ble_eq_true rfl⟩ ⟨Nat.le_of_ble_eq_true rfl, Nat.le_of_ble_eq_true rfl⟩ [0] [1] rfl rfl rfl rfl (by decide) (Nat.le_of_ble_eq_true rfl) rfl d_FC_ends_44 (fun v w1 hp => ?_)
        obtain ⟨rfl, rfl⟩ := hp
        refine e_perm (st' := []) (ws' := [oFC x g ly sa (nI sl.length) gone tin tout (bI false) (bI false) dw (-1), oGR g wd ht (nI P) ho op lpl a b]) [1, 0] rfl rfl rfl ?_
        refine e_iconst (v := 1) C d_FC_ends_47 rfl ?_
        exact e_iret C Z rfl (Nat.le_of_ble_eq_true rfl) (Nat.le_of_ble_eq_true rfl) (Or.inr ⟨hok, rfl, rfl⟩) d_FC_ends_48
      · -- 27
        have hok : endsOK P a b = false := by (try simp only [bI_eq0, Bool.not_eq_false] at h8 h19); unfold endsOK; simp [h8, h19, h24]
        refine e_iconst (v := 0) C d_FC_ends_27 rfl ?_
        exact e_iret C Z rfl (Nat.le_of_ble_eq_true rfl) (Nat.le_of_ble_eq_true rfl) (Or.inl ⟨hok, rfl, rfl⟩) d_FC_ends_28

def edgeS (wd : Int32) (P : Nat) (op : Int64) (a b : Int32) : Int32 := slotBetweenF wd (nI P) op a b
def edgeOK (wd : Int32) (P : Nat) (op gone : Int64) (a b : Int32) (on : Bool) : Bool := !decide (edgeS wd P op a b = -1) && decide (hasF gone (edgeS wd P op a b) = on)
def goneF (wd : Int32) (P : Nat) (op gone : Int64) (a b : Int32) : Int64 := gone ^^^ (1 <<< ((edgeS wd P op a b).toInt64 &&& 63))
set_option maxHeartbeats 4000000 in
set_option maxRecDepth 100000 in
theorem M_FC_edge (l : Launch) (D : va_G) (cI cJ cZ : ClassId) (x g ly sa P : Nat) (hP : P ≤ 25) (sl : List Nat) (fsl : Nat → Int32) (gone tin tout : Int64) (bu we : Bool) (dw dr : Int64) (wd ht ho : Int32) (op : Int64) (lpl ea eb : Int32) (a b : Int32) (on : Bool) : MK l D cI cJ cZ y_FC_edge c_FC_edge 5 (some FieldType.boolean) 4 85 [.ref x, .int a, .int b, .int (bI on)] [oFC x g ly sa (nI sl.length) gone tin tout (bI bu) (bI we) dw dr, oGR g wd ht (nI P) ho op lpl ea eb, aI cI sa (2 * P) fsl] 0 0 (fun v w1 => (edgeOK wd P op gone a b on = false ∧ v = some (.int 0) ∧ w1 = [oFC x g ly sa (nI sl.length) gone tin tout (bI bu) (bI we) dw dr, oGR g wd ht (nI P) ho op lpl ea eb, aI cI sa (2 * P) fsl]) ∨ (edgeOK wd P op gone a b on = true ∧ ∃ fs2 : Nat → Int32, v = some (.int 1) ∧ w1 = [oFC x g ly sa (nI (slF P op (goneF wd P op gone a b)).length) (goneF wd P op gone a b) 0 0 (bI bu) (bI false) dw (-1), oGR g wd ht (nI P) ho op lpl ea eb, aI cI sa (2 * P) fs2] ∧ slR (slF P op (goneF wd P op gone a b)) fs2)) := by
  refine MC.of (by decide) bigW_good (Nat.le_of_ble_eq_true rfl) (fun κ C Z IN => ?_)
  refine e_aload_n C d_FC_edge_0 rfl rfl ?_
  refine e_get C hin_FC 0 rfl rfl 0 (by decide) fl_FC_18 rfl d_FC_edge_1 ?_
  refine e_iload_n C d_FC_edge_4 rfl rfl ?_
  refine e_iload_n C d_FC_edge_5 rfl rfl ?_
  refine e_callVN (As := [.int a, .int b]) (st := []) (wc := [oGR g wd ht (nI P) ho op lpl ea eb]) (wr := [oFC x g ly sa (nI sl.length) gone tin tout (bI bu) (bI we) dw dr, aI cI sa (2 * P) fsl]) C (M_GR_slotBetween l D cI cJ cZ g wd ht (nI P) ho op lpl ea eb a b) v_GR_slotBetween mn_FC_73 1 rfl rfl nwW_ok ⟨Nat.le_of_ble_eq_true rfl, Nat.le_of_ble_eq_true rfl⟩ ⟨Nat.le_of_ble_eq_true rfl, Nat.le_of_ble_eq_true rfl⟩ [1] [0, 2] rfl rfl rfl rfl (by decide) (Nat.le_of_ble_eq_true rfl) rfl d_FC_edge_6 (fun v w1 hp => ?_)
  obtain ⟨rfl, rfl⟩ := hp
  refine e_perm (st' := [.int (edgeS wd P op a b)]) (ws' := [oFC x g ly sa (nI sl.length) gone tin tout (bI bu) (bI we) dw dr, oGR g wd ht (nI P) ho op lpl ea eb, aI cI sa (2 * P) fsl]) [0, 2, 1] rfl rfl rfl ?_
  refine e_istore C d_FC_edge_9 (by decide) ?_
  refine e_iload C d_FC_edge_11 rfl ?_
  refine e_iconst (v := (-1)) C d_FC_edge_13 rfl ?_
  refine e_icmp_eq (tgt := 30) C d_FC_edge_14 (by decide) (fun h14 => ?_) (fun h14 => ?_)
  · -- 30
    have hok : edgeOK wd P op gone a b on = false := by unfold edgeOK; rw [decide_eq_true h14]; rfl
    refine e_iconst (v := 0) C d_FC_edge_30 rfl ?_
    exact e_iret C Z rfl (Nat.le_of_ble_eq_true rfl) (Nat.le_of_ble_eq_true rfl) (Or.inl ⟨hok, rfl, rfl⟩) d_FC_edge_31
  · -- 17
    refine e_aload_n C d_FC_edge_17 rfl rfl ?_
    refine e_get C hin_FC 0 rfl rfl 4 (by decide) fl_FC_66 rfl d_FC_edge_18 ?_
    refine e_iload C d_FC_edge_21 rfl ?_
    refine e_callS (As := [.long gone, .int (edgeS wd P op a b)]) (st := []) (wc := []) (wr := [oFC x g ly sa (nI sl.length) gone tin tout (bI bu) (bI we) dw dr, oGR g wd ht (nI P) ho op lpl ea eb, aI cI sa (2 * P) fsl]) C (M_FC_has l D cI cJ cZ gone (edgeS wd P op a b)) s_FC_has ml_FC_77 nwW_ok ⟨Nat.le_of_ble_eq_true rfl, Nat.le_of_ble_eq_true rfl⟩ ⟨Nat.le_of_ble_eq_true rfl, Nat.le_of_ble_eq_true rfl⟩ [] [0, 1, 2] rfl rfl rfl rfl (by decide) (Nat.le_of_ble_eq_true rfl) rfl d_FC_edge_23 (fun v w1 hp => ?_)
    obtain ⟨rfl, rfl⟩ := hp
    refine e_perm (st' := [.int (bI (hasF gone (edgeS wd P op a b)))]) (ws' := [oFC x g ly sa (nI sl.length) gone tin tout (bI bu) (bI we) dw dr, oGR g wd ht (nI P) ho op lpl ea eb, aI cI sa (2 * P) fsl]) [0, 1, 2] rfl rfl rfl ?_
    refine e_iload_n C d_FC_edge_26 rfl rfl ?_
    refine e_icmp_eq (tgt := 32) C d_FC_edge_27 (by decide) (fun h27 => ?_) (fun h27 => ?_)
    · -- 32
      have hok : edgeOK wd P op gone a b on = true := by have q := bI_inj.mp h27; unfold edgeOK; rw [decide_eq_false h14, decide_eq_true q]; rfl
      refine e_aload_n C d_FC_edge_32 rfl rfl ?_
      refine e_dup C d_FC_edge_33 rfl ?_
      refine e_get C hin_FC 0 rfl rfl 4 (by decide) fl_FC_66 rfl d_FC_edge_34 ?_
      refine e_lconst (v := 1) C d_FC_edge_37 rfl ?_
      refine e_iload C d_FC_edge_38 rfl ?_
      refine e_lshl C d_FC_edge_40 ?_
      refine e_lxor C d_FC_edge_41 ?_
      refine e_st [.long (goneF wd P op gone a b), .ref x] rfl ?_
      refine e_put C hin_FC ty_FC tyk_FC nm_FC 0 rfl rfl 4 (by decide) fl_FC_66 rfl rfl rfl (Nat.le_of_ble_eq_true rfl) d_FC_edge_42 ?_
      refine e_ws [oFC x g ly sa (nI sl.length) (goneF wd P op gone a b) tin tout (bI bu) (bI we) dw dr, oGR g wd ht (nI P) ho op lpl ea eb, aI cI sa (2 * P) fsl] rfl ?_
      refine e_aload_n C d_FC_edge_45 rfl rfl ?_
      refine e_callV (As := []) (st := []) (wc := [oFC x g ly sa (nI sl.length) (goneF wd P op gone a b) tin tout (bI bu) (bI we) dw dr, oGR g wd ht (nI P) ho op lpl ea eb, aI cI sa (2 * P) fsl]) (wr := []) C (M_FC_numberEdges l D cI cJ cZ x g ly sa P hP (nI sl.length) fsl (goneF wd P op gone a b) tin tout bu we dw dr wd ht ho op lpl ea eb) v_FC_numberEdges ml_FC_53 0 rfl rfl nwW_ok ⟨Nat.le_of_ble_eq_true rfl, Nat.le_of_ble_eq_true rfl⟩ ⟨Nat.le_of_ble_eq_true rfl, Nat.le_of_ble_eq_true rfl⟩ [0, 1, 2] [] rfl rfl rfl rfl (by decide) (Nat.le_of_ble_eq_true rfl) rfl d_FC_edge_46 (fun v w1 hp => ?_)
      obtain ⟨fs2, rfl, rfl, hR2⟩ := hp
      refine e_perm (st' := []) (ws' := [oFC x g ly sa (nI (slF P op (goneF wd P op gone a b)).length) (goneF wd P op gone a b) 0 0 (bI bu) (bI false) dw (-1), oGR g wd ht (nI P) ho op lpl ea eb, aI cI sa (2 * P) fs2]) [0, 1, 2] rfl rfl rfl ?_
      refine e_iconst (v := 1) C d_FC_edge_49 rfl ?_
      exact e_iret C Z rfl (Nat.le_of_ble_eq_true rfl) (Nat.le_of_ble_eq_true rfl) (Or.inr ⟨hok, fs2, rfl, rfl, hR2⟩) d_FC_edge_50
    · -- 30
      have hok : edgeOK wd P op gone a b on = false := by have q := fun z => h27 (bI_inj.mpr z); unfold edgeOK; rw [decide_eq_false q]; simp
      refine e_iconst (v := 0) C d_FC_edge_30 rfl ?_
      exact e_iret C Z rfl (Nat.le_of_ble_eq_true rfl) (Nat.le_of_ble_eq_true rfl) (Or.inl ⟨hok, rfl, rfl⟩) d_FC_edge_31

def holeOK (w h : Nat) (u v : Int32) : Bool := !decide (u < 0) && !decide (nI w ≤ u) && !decide (v < 0) && decide (v < nI h)
def holF (w : Nat) (ho u v : Int32) : Int32 := ho ^^^ (1 <<< ((u + nI w * v) &&& 31))
set_option maxHeartbeats 4000000 in
set_option maxRecDepth 100000 in
theorem M_FC_hole (l : Launch) (D : va_G) (cI cJ cZ : ClassId) (x g ly sa P : Nat) (hP : P ≤ 25) (sl : List Nat) (fsl : Nat → Int32) (gone tin tout : Int64) (bu we : Bool) (dw dr : Int64) (w h : Nat) (hw : w ≤ 5) (hh : h ≤ 5) (ho : Int32) (op : Int64) (lpl ea eb : Int32) (u v : Int32) : MK l D cI cJ cZ y_FC_hole c_FC_hole 3 (some FieldType.boolean) 5 107 [.ref x, .int u, .int v] [oFC x g ly sa (nI sl.length) gone tin tout (bI bu) (bI we) dw dr, oGR g (nI w) (nI h) (nI P) ho op lpl ea eb, aI cI sa (2 * P) fsl] 0 0 (fun r w1 => (holeOK w h u v = false ∧ r = some (.int 0) ∧ w1 = [oFC x g ly sa (nI sl.length) gone tin tout (bI bu) (bI we) dw dr, oGR g (nI w) (nI h) (nI P) ho op lpl ea eb, aI cI sa (2 * P) fsl]) ∨ (holeOK w h u v = true ∧ ∃ fs2 : Nat → Int32, r = some (.int 1) ∧ w1 = [oFC x g ly sa (nI (slF P (fosF w h (nI P) (holF w ho u v)).1 0).length) 0 0 0 (bI false) (bI false) dw (-1), oGR g (nI w) (nI h) (nI P) (holF w ho u v) ((fosF w h (nI P) (holF w ho u v)).1) ((fosF w h (nI P) (holF w ho u v)).2) ea eb, aI cI sa (2 * P) fs2] ∧ slR (slF P (fosF w h (nI P) (holF w ho u v)).1 0) fs2)) := by
  refine MC.of (by decide) bigW_good (Nat.le_of_ble_eq_true rfl) (fun κ C Z IN => ?_)
  refine e_iload_n C d_FC_hole_0 rfl rfl ?_
  refine e_if_lt (tgt := 30) C d_FC_hole_1 (by decide) (fun h1 => ?_) (fun h1 => ?_)
  · -- 30
    have hok : holeOK w h u v = false := by unfold holeOK; simp [h1]
    refine e_iconst (v := 0) C d_FC_hole_30 rfl ?_
    exact e_iret C Z rfl (Nat.le_of_ble_eq_true rfl) (Nat.le_of_ble_eq_true rfl) (Or.inl ⟨hok, rfl, rfl⟩) d_FC_hole_31
  · -- 4
    refine e_iload_n C d_FC_hole_4 rfl rfl ?_
    refine e_aload_n C d_FC_hole_5 rfl rfl ?_
    refine e_get C hin_FC 0 rfl rfl 0 (by decide) fl_FC_18 rfl d_FC_hole_6 ?_
    refine e_getN C hin_GR 1 rfl rfl 0 (by decide) fn_FC_56 rfl d_FC_hole_9 ?_
    refine e_icmp_ge (tgt := 30) C d_FC_hole_12 (by decide) (fun h12 => ?_) (fun h12 => ?_)
    · -- 30
      have hok : holeOK w h u v = false := by unfold holeOK; simp [h1, h12]
      refine e_iconst (v := 0) C d_FC_hole_30 rfl ?_
      exact e_iret C Z rfl (Nat.le_of_ble_eq_true rfl) (Nat.le_of_ble_eq_true rfl) (Or.inl ⟨hok, rfl, rfl⟩) d_FC_hole_31
    · -- 15
      refine e_iload_n C d_FC_hole_15 rfl rfl ?_
      refine e_if_lt (tgt := 30) C d_FC_hole_16 (by decide) (fun h16 => ?_) (fun h16 => ?_)
      · -- 30
        have hok : holeOK w h u v = false := by unfold holeOK; simp [h1, h12, h16]
        refine e_iconst (v := 0) C d_FC_hole_30 rfl ?_
        exact e_iret C Z rfl (Nat.le_of_ble_eq_true rfl) (Nat.le_of_ble_eq_true rfl) (Or.inl ⟨hok, rfl, rfl⟩) d_FC_hole_31
      · -- 19
        refine e_iload_n C d_FC_hole_19 rfl rfl ?_
        refine e_aload_n C d_FC_hole_20 rfl rfl ?_
        refine e_get C hin_FC 0 rfl rfl 0 (by decide) fl_FC_18 rfl d_FC_hole_21 ?_
        refine e_getN C hin_GR 1 rfl rfl 1 (by decide) fn_FC_59 rfl d_FC_hole_24 ?_
        refine e_icmp_lt (tgt := 32) C d_FC_hole_27 (by decide) (fun h27 => ?_) (fun h27 => ?_)
        · -- 32
          have hok : holeOK w h u v = true := by unfold holeOK; rw [decide_eq_false h1, decide_eq_false h12, decide_eq_false h16, decide_eq_true h27]; rfl
          refine e_aload_n C d_FC_hole_32 rfl rfl ?_
          refine e_get C hin_FC 0 rfl rfl 0 (by decide) fl_FC_18 rfl d_FC_hole_33 ?_
          refine e_iload_n C d_FC_hole_36 rfl rfl ?_
          refine e_aload_n C d_FC_hole_37 rfl rfl ?_
          refine e_get C hin_FC 0 rfl rfl 0 (by decide) fl_FC_18 rfl d_FC_hole_38 ?_
          refine e_getN C hin_GR 1 rfl rfl 0 (by decide) fn_FC_56 rfl d_FC_hole_41 ?_
          refine e_iload_n C d_FC_hole_44 rfl rfl ?_
          refine e_imul C d_FC_hole_45 ?_
          refine e_iadd C d_FC_hole_46 ?_
          refine e_callVN (As := [.int (u + ((nI w) * v))]) (st := []) (wc := [oGR g (nI w) (nI h) (nI P) ho op lpl ea eb]) (wr := [oFC x g ly sa (nI sl.length) gone tin tout (bI bu) (bI we) dw dr, aI cI sa (2 * P) fsl]) C (M_GR_turnHole l D cI cJ cZ g w h hw hh (nI P) ho op lpl ea eb (u + ((nI w) * v))) v_GR_turnHole mn_FC_62 1 rfl rfl nwW_ok ⟨Nat.le_of_ble_eq_true rfl, Nat.le_of_ble_eq_true rfl⟩ ⟨Nat.le_of_ble_eq_true rfl, Nat.le_of_ble_eq_true rfl⟩ [1] [0, 2] rfl rfl rfl rfl (by decide) (Nat.le_of_ble_eq_true rfl) rfl d_FC_hole_47 (fun v w1 hp => ?_)
          obtain ⟨rfl, rfl⟩ := hp
          refine e_perm (st' := []) (ws' := [oFC x g ly sa (nI sl.length) gone tin tout (bI bu) (bI we) dw dr, oGR g (nI w) (nI h) (nI P) (holF w ho u v) ((fosF w h (nI P) (holF w ho u v)).1) ((fosF w h (nI P) (holF w ho u v)).2) ea eb, aI cI sa (2 * P) fsl]) [0, 2, 1] rfl rfl rfl ?_
          refine e_aload_n C d_FC_hole_50 rfl rfl ?_
          refine e_lconst (v := 0) C d_FC_hole_51 rfl ?_
          refine e_put C hin_FC ty_FC tyk_FC nm_FC 0 rfl rfl 4 (by decide) fl_FC_66 rfl rfl rfl (Nat.le_of_ble_eq_true rfl) d_FC_hole_52 ?_
          refine e_ws [oFC x g ly sa (nI sl.length) 0 tin tout (bI bu) (bI we) dw dr, oGR g (nI w) (nI h) (nI P) (holF w ho u v) ((fosF w h (nI P) (holF w ho u v)).1) ((fosF w h (nI P) (holF w ho u v)).2) ea eb, aI cI sa (2 * P) fsl] rfl ?_
          refine e_aload_n C d_FC_hole_55 rfl rfl ?_
          refine e_iconst (v := 0) C d_FC_hole_56 rfl ?_
          refine e_put C hin_FC ty_FC tyk_FC nm_FC 0 rfl rfl 7 (by decide) fl_FC_69 rfl rfl rfl (Nat.le_of_ble_eq_true rfl) d_FC_hole_57 ?_
          refine e_ws [oFC x g ly sa (nI sl.length) 0 tin tout 0 (bI we) dw dr, oGR g (nI w) (nI h) (nI P) (holF w ho u v) ((fosF w h (nI P) (holF w ho u v)).1) ((fosF w h (nI P) (holF w ho u v)).2) ea eb, aI cI sa (2 * P) fsl] rfl ?_
          refine e_aload_n C d_FC_hole_60 rfl rfl ?_
          refine e_callV (As := []) (st := []) (wc := [oFC x g ly sa (nI sl.length) 0 tin tout 0 (bI we) dw dr, oGR g (nI w) (nI h) (nI P) (holF w ho u v) ((fosF w h (nI P) (holF w ho u v)).1) ((fosF w h (nI P) (holF w ho u v)).2) ea eb, aI cI sa (2 * P) fsl]) (wr := []) C (M_FC_numberEdges l D cI cJ cZ x g ly sa P hP (nI sl.length) fsl 0 tin tout false we dw dr (nI w) (nI h) (holF w ho u v) ((fosF w h (nI P) (holF w ho u v)).1) ((fosF w h (nI P) (holF w ho u v)).2) ea eb) v_FC_numberEdges ml_FC_53 0 rfl rfl nwW_ok ⟨Nat.le_of_ble_eq_true rfl, Nat.le_of_ble_eq_true rfl⟩ ⟨Nat.le_of_ble_eq_true rfl, Nat.le_of_ble_eq_true rfl⟩ [0, 1, 2] [] rfl rfl rfl rfl (by decide) (Nat.le_of_ble_eq_true rfl) rfl d_FC_hole_61 (fun v w1 hp => ?_)
          obtain ⟨fs2, rfl, rfl, hR2⟩ := hp
          refine e_perm (st' := []) (ws' := [oFC x g ly sa (nI (slF P ((fosF w h (nI P) (holF w ho u v)).1) 0).length) 0 0 0 (bI false) (bI false) dw (-1), oGR g (nI w) (nI h) (nI P) (holF w ho u v) ((fosF w h (nI P) (holF w ho u v)).1) ((fosF w h (nI P) (holF w ho u v)).2) ea eb, aI cI sa (2 * P) fs2]) [0, 1, 2] rfl rfl rfl ?_
          refine e_iconst (v := 1) C d_FC_hole_64 rfl ?_
          exact e_iret C Z rfl (Nat.le_of_ble_eq_true rfl) (Nat.le_of_ble_eq_true rfl) (Or.inr ⟨hok, fs2, rfl, rfl, hR2⟩) d_FC_hole_65
        · -- 30
          have hok : holeOK w h u v = false := by unfold holeOK; simp [h1, h12, h16, h27]
          refine e_iconst (v := 0) C d_FC_hole_30 rfl ?_
          exact e_iret C Z rfl (Nat.le_of_ble_eq_true rfl) (Nat.le_of_ble_eq_true rfl) (Or.inl ⟨hok, rfl, rfl⟩) d_FC_hole_31
