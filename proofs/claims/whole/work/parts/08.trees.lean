/-! TREES -/
theorem itn_congr {σ : Type} {f g : Nat → σ → σ} : ∀ {n : Nat} {s : σ}, (∀ i, i < n → ∀ s, f i s = g i s) → itn f n s = itn g n s
  | 0, _, _ => rfl
  | n + 1, s, h => by
    show f n (itn f n s) = g n (itn g n s)
    rw [h n (Nat.lt_succ_self n), itn_congr (fun i hi => h i (Nat.lt_succ_of_lt hi))]
def copN (p : Int32) (nm : Int32 × Int32) : Int32 × Int32 := if p = 0 then nm else if jushr nm.1 (3 * p) &&& 7 = 0 then (nm.1 ||| ((nm.2 + 1) <<< ((3 * p) &&& 31)), nm.2 + 1) else nm
def copS (f : Nat → Int32) (i : Nat) (s : Int32 × (Int32 × Int32)) : Int32 × (Int32 × Int32) := (s.1 ||| ((jushr (copN (f i) s.2).1 (3 * f i) &&& 7) <<< ((3 * nI i) &&& 31)), copN (f i) s.2)
def codeF (f : Nat → Int32) (w : Nat) : Int32 := (itn (copS f) w (0, 0, 0)).1
theorem codeF_congr {f g : Nat → Int32} {w : Nat} (h : ∀ q, q < w → f q = g q) : codeF f w = codeF g w := by
  unfold codeF
  rw [itn_congr (g := copS g) (fun i hi s => by unfold copS; rw [h i hi])]
def thereF (f : Nat → Int32) (x : Int32) : Nat → Bool
  | 0 => false
  | n + 1 => thereF f x n || decide (f n = x)
theorem thereF_congr {f g : Nat → Int32} {x : Int32} : ∀ {w : Nat}, (∀ q, q < w → f q = g q) → thereF f x w = thereF g x w
  | 0, _ => rfl
  | w + 1, h => by
    show (thereF f x w || decide (f w = x)) = (thereF g x w || decide (g w = x))
    rw [h w (Nat.lt_succ_self w), thereF_congr (fun q hq => h q (Nat.lt_succ_of_lt hq))]
theorem thereF_of {f : Nat → Int32} {x : Int32} {i : Nat} (hx : f i = x) : ∀ {w : Nat}, i < w → thereF f x w = true
  | w + 1, h => by
    show (thereF f x w || decide (f w = x)) = true
    rcases Nat.lt_or_ge i w with q | q
    · rw [thereF_of hx q]; rfl
    · have e : i = w := by omega
      subst e
      rw [hx]; simp
def upk (code : Int32) (q : Nat) : Int32 := jushr code (3 * nI q) &&& 7
def relab (f : Nat → Int32) (a b : Int32) (q : Nat) : Int32 := if f q = b then a else f q
def jrF (f : Nat → Int32) (w c : Nat) : Bool := if c + 1 < w then (if f c = f (c + 1) then false else true) else false
def cafT3 (w : Nat) (last : Bool) (f : Nat → Int32) (own : Int32) : Int32 := if own = 0 then codeF f w else if thereF f own w = true then codeF f w else if last = true then codeF f w else -1
def cafT2 (w : Nat) (pb last : Bool) (f : Nat → Int32) (own : Int32) (c : Nat) (choice : Int32) : Int32 := cafT3 w last (upd f c (if pb = true then (if choice &&& 1 = 0 then 6 else own) else 0)) own
def cafT (w : Nat) (pb last : Bool) (code : Int32) (c : Nat) (choice : Int32) : Int32 :=
  if choice &&& 2 = 0 then cafT2 w pb last (upk code) (upk code c) c choice
  else if jrF (upk code) w c = true then cafT2 w pb last (relab (upk code) (upk code c) (upk code (c + 1))) (upk code c) c choice else -1
theorem cafT3_congr {w : Nat} {last : Bool} {f g : Nat → Int32} {own : Int32} (h : ∀ q, q < w → f q = g q) : cafT3 w last f own = cafT3 w last g own := by
  unfold cafT3
  rw [codeF_congr h, thereF_congr h]
theorem cafT2_congr {w : Nat} {pb last : Bool} {f g : Nat → Int32} {own : Int32} {c : Nat} {choice : Int32} (h : ∀ q, q < w → f q = g q) : cafT2 w pb last f own c choice = cafT2 w pb last g own c choice := by
  unfold cafT2
  refine cafT3_congr (fun q hq => ?_)
  unfold upd
  by_cases e : q = c
  · rw [if_pos e, if_pos e]
  · rw [if_neg e, if_neg e, h q hq]
set_option maxHeartbeats 4000000 in
set_option maxRecDepth 100000 in
theorem M_TR_codeOfPieces (l : Launch) (D : va_G) (cI cJ cZ : ClassId) (r g pcs w : Nat) (hw : w ≤ 5) (f : Nat → Int32) : MK l D cI cJ cZ y_TR_codeOfPieces c_TR_codeOfPieces 6 (some FieldType.int) 0 0 [.ref r] [oTR r g pcs, aI cI pcs w f] 0 0 (rI (codeF f w) [oTR r g pcs, aI cI pcs w f]) := by
  refine MC.of (by decide) bigW_good (Nat.le_of_ble_eq_true rfl) (fun κ C Z IN => ?_)
  refine e_iconst (v := 0) C d_TR_codeOfPieces_0 rfl ?_
  refine e_istore_n C d_TR_codeOfPieces_1 rfl (by decide) ?_
  refine e_iconst (v := 0) C d_TR_codeOfPieces_2 rfl ?_
  refine e_istore_n C d_TR_codeOfPieces_3 rfl (by decide) ?_
  refine e_iconst (v := 0) C d_TR_codeOfPieces_4 rfl ?_
  refine e_istore_n C d_TR_codeOfPieces_5 rfl (by decide) ?_
  refine e_iconst (v := 0) C d_TR_codeOfPieces_6 rfl ?_
  refine e_istore C d_TR_codeOfPieces_7 (by decide) ?_
  have LP : ∀ (fuel : Nat) (i : Nat) (cd nm nd : Int32), i ≤ w → itn (copS f) i (0, 0, 0) = (cd, nm, nd) →  w - i < fuel → E κ (lu_o [(0, .ref r), (1, .int cd), (2, .int nm), (3, .int nd), (4, .int (nI i))]) [] [oTR r g pcs, aI cI pcs w f] 0 0 9 := by
    intro fuel
    induction fuel with
    | zero => intro i cd nm nd hi hS hm; exact absurd hm (Nat.not_lt_zero _)
    | succ fuel ihLP =>
      intro i cd nm nd hi hS hm
      refine e_iload C d_TR_codeOfPieces_9 rfl ?_
      refine e_aload_n C d_TR_codeOfPieces_11 rfl rfl ?_
      refine e_get C hin_TR 0 rfl rfl 1 (by decide) fl_TR_21 rfl d_TR_codeOfPieces_12 ?_
      refine e_alen C 1 0 rfl rfl rfl d_TR_codeOfPieces_15 ?_
      refine e_icmp_ge (tgt := 80) C d_TR_codeOfPieces_16 (by decide) (fun h16 => ?_) (fun h16 => ?_)
      · -- 80
        have hiw : w = i := by have q := (nI_leI (by omega) (by omega)).mp h16; omega
        subst hiw
        refine e_iload_n C d_TR_codeOfPieces_80 rfl rfl ?_
        exact e_iret C Z rfl (Nat.le_of_ble_eq_true rfl) (Nat.le_of_ble_eq_true rfl) (⟨by unfold codeF; rw [hS], rfl⟩) d_TR_codeOfPieces_81
      · -- 19
        have hiw : i < w := by rcases Nat.lt_or_ge (i) w with q | q; exact q; exact absurd (nI_le q (by omega)) h16
        refine e_aload_n C d_TR_codeOfPieces_19 rfl rfl ?_
        refine e_get C hin_TR 0 rfl rfl 1 (by decide) fl_TR_21 rfl d_TR_codeOfPieces_20 ?_
        refine e_iload C d_TR_codeOfPieces_23 rfl ?_
        refine e_iald C 1 0 rfl rfl (vp_in_nI (by omega) (by omega)) d_TR_codeOfPieces_25 ?_
        refine e_st [.int (f i)] (by rw [nI_clamp (by omega)]) ?_
        refine e_istore C d_TR_codeOfPieces_26 (by decide) ?_
        refine e_lv [(0, .ref r), (1, .int cd), (2, .int nm), (3, .int nd), (4, .int (nI i)), (5, .int (f i))] ⟨rfl, rfl, rfl, rfl, rfl, rfl, trivial⟩ ?_
        have J57 : ∀ (y2 : Int32) (y3 : Int32), copN (f i) (nm, nd) = (y2, y3) → E κ (lu_o [(0, .ref r), (1, .int cd), (2, .int y2), (3, .int y3), (4, .int (nI i)), (5, .int (f i))]) [] [oTR r g pcs, aI cI pcs w f] 0 0 57 := by
          intro y2 y3 ey
          refine e_iload_n C d_TR_codeOfPieces_57 rfl rfl ?_
          refine e_iload_n C d_TR_codeOfPieces_58 rfl rfl ?_
          refine e_iconst (v := 3) C d_TR_codeOfPieces_59 rfl ?_
          refine e_iload C d_TR_codeOfPieces_60 rfl ?_
          refine e_imul C d_TR_codeOfPieces_62 ?_
          refine e_iushr C d_TR_codeOfPieces_63 ?_
          refine e_bipush (v := 7) C d_TR_codeOfPieces_64 (by decide) ?_
          refine e_iand C d_TR_codeOfPieces_66 ?_
          refine e_iconst (v := 3) C d_TR_codeOfPieces_67 rfl ?_
          refine e_iload C d_TR_codeOfPieces_68 rfl ?_
          refine e_imul C d_TR_codeOfPieces_70 ?_
          refine e_ishl C d_TR_codeOfPieces_71 ?_
          refine e_ior C d_TR_codeOfPieces_72 ?_
          refine e_istore_n C d_TR_codeOfPieces_73 rfl (by decide) ?_
          refine e_iinc (v := (nI i) + 1) C d_TR_codeOfPieces_74 rfl rfl (by decide) ?_
          refine e_goto (tgt := 9) C d_TR_codeOfPieces_77 (by decide) ?_
          refine e_lv [(0, .ref r), (1, .int (cd ||| (((jushr y2 (3 * (f i))) &&& 7) <<< ((3 * (nI i)) &&& 31)))), (2, .int y2), (3, .int y3), (4, .int (nI (i + 1)))] ⟨rfl, rfl, rfl, rfl, congrArg (fun z => some (Value.int z)) (nI_1 i), trivial⟩ ?_
          refine e_ws [oTR r g pcs, aI cI pcs w f] rfl ?_
          exact ihLP (i + 1) _ y2 y3 (by omega) (by show copS f i (itn (copS f) i (0, 0, 0)) = _; rw [hS]; unfold copS; rw [ey]) (by omega)
        refine e_iload C d_TR_codeOfPieces_28 rfl ?_
        refine e_if_eq (tgt := 57) C d_TR_codeOfPieces_30 (by decide) (fun h30 => ?_) (fun h30 => ?_)
        · -- 57
          refine e_lv [(0, .ref r), (1, .int cd), (2, .int nm), (3, .int nd), (4, .int (nI i)), (5, .int (f i))] ⟨rfl, rfl, rfl, rfl, rfl, rfl, trivial⟩ ?_
          exact J57 nm nd (by unfold copN; (first | rw [if_pos h30] | rw [if_neg h30] | rw [if_neg (Bool.eq_false_iff.mp h30)] | skip))
        · -- 33
          refine e_iload_n C d_TR_codeOfPieces_33 rfl rfl ?_
          refine e_iconst (v := 3) C d_TR_codeOfPieces_34 rfl ?_
          refine e_iload C d_TR_codeOfPieces_35 rfl ?_
          refine e_imul C d_TR_codeOfPieces_37 ?_
          refine e_iushr C d_TR_codeOfPieces_38 ?_
          refine e_bipush (v := 7) C d_TR_codeOfPieces_39 (by decide) ?_
          refine e_iand C d_TR_codeOfPieces_41 ?_
          refine e_if_ne (tgt := 57) C d_TR_codeOfPieces_42 (by decide) (fun h42 => ?_) (fun h42 => ?_)
          · -- 57
            refine e_lv [(0, .ref r), (1, .int cd), (2, .int nm), (3, .int nd), (4, .int (nI i)), (5, .int (f i))] ⟨rfl, rfl, rfl, rfl, rfl, rfl, trivial⟩ ?_
            exact J57 nm nd (by unfold copN; (first | rw [if_pos h30] | rw [if_neg h30] | rw [if_neg (Bool.eq_false_iff.mp h30)] | skip); (first | rw [if_pos h42] | rw [if_neg h42] | rw [if_neg (Bool.eq_false_iff.mp h42)] | skip))
          · -- 45
            refine e_iinc (v := nd + 1) C d_TR_codeOfPieces_45 rfl rfl (by decide) ?_
            refine e_iload_n C d_TR_codeOfPieces_48 rfl rfl ?_
            refine e_iload_n C d_TR_codeOfPieces_49 rfl rfl ?_
            refine e_iconst (v := 3) C d_TR_codeOfPieces_50 rfl ?_
            refine e_iload C d_TR_codeOfPieces_51 rfl ?_
            refine e_imul C d_TR_codeOfPieces_53 ?_
            refine e_ishl C d_TR_codeOfPieces_54 ?_
            refine e_ior C d_TR_codeOfPieces_55 ?_
            refine e_istore_n C d_TR_codeOfPieces_56 rfl (by decide) ?_
            refine e_lv [(0, .ref r), (1, .int cd), (2, .int (nm ||| ((nd + 1) <<< ((3 * (f i)) &&& 31)))), (3, .int (nd + 1)), (4, .int (nI i)), (5, .int (f i))] ⟨rfl, rfl, rfl, rfl, rfl, rfl, trivial⟩ ?_
            exact J57 (nm ||| ((nd + 1) <<< ((3 * (f i)) &&& 31))) (nd + 1) (by unfold copN; (first | rw [if_pos h30] | rw [if_neg h30] | rw [if_neg (Bool.eq_false_iff.mp h30)] | skip); (first | rw [if_pos h42] | rw [if_neg h42] | rw [if_neg (Bool.eq_false_iff.mp h42)] | skip))
  refine e_lv [(0, .ref r), (1, .int 0), (2, .int 0), (3, .int 0), (4, .int (nI 0))] ⟨rfl, rfl, rfl, rfl, rfl, trivial⟩ ?_
  refine e_ws [oTR r g pcs, aI cI pcs w f] rfl ?_
  exact LP _ 0 0 0 0 (Nat.zero_le _) rfl (Nat.lt_succ_self _)

set_option maxHeartbeats 4000000 in
set_option maxRecDepth 100000 in
theorem M_TR_isThere (l : Launch) (D : va_G) (cI cJ cZ : ClassId) (r g pcs w : Nat) (hw : w ≤ 5) (f : Nat → Int32) (x : Int32) : MK l D cI cJ cZ y_TR_isThere c_TR_isThere 3 (some FieldType.boolean) 0 0 [.ref r, .int x] [oTR r g pcs, aI cI pcs w f] 0 0 (rI (bI (thereF f x w)) [oTR r g pcs, aI cI pcs w f]) := by
  refine MC.of (by decide) bigW_good (Nat.le_of_ble_eq_true rfl) (fun κ C Z IN => ?_)
  refine e_iconst (v := 0) C d_TR_isThere_0 rfl ?_
  refine e_istore_n C d_TR_isThere_1 rfl (by decide) ?_
  have LP : ∀ (fuel : Nat) (i : Nat), i ≤ w → thereF f x i = false →  w - i < fuel → E κ (lu_o [(0, .ref r), (1, .int x), (2, .int (nI i))]) [] [oTR r g pcs, aI cI pcs w f] 0 0 2 := by
    intro fuel
    induction fuel with
    | zero => intro i hi hS hm; exact absurd hm (Nat.not_lt_zero _)
    | succ fuel ihLP =>
      intro i hi hS hm
      refine e_iload_n C d_TR_isThere_2 rfl rfl ?_
      refine e_aload_n C d_TR_isThere_3 rfl rfl ?_
      refine e_get C hin_TR 0 rfl rfl 1 (by decide) fl_TR_21 rfl d_TR_isThere_4 ?_
      refine e_alen C 1 0 rfl rfl rfl d_TR_isThere_7 ?_
      refine e_icmp_ge (tgt := 29) C d_TR_isThere_8 (by decide) (fun h8 => ?_) (fun h8 => ?_)
      · -- 29
        have hiw : w = i := by have q := (nI_leI (by omega) (by omega)).mp h8; omega
        subst hiw
        refine e_iconst (v := 0) C d_TR_isThere_29 rfl ?_
        exact e_iret C Z rfl (Nat.le_of_ble_eq_true rfl) (Nat.le_of_ble_eq_true rfl) (⟨by rw [hS]; rfl, rfl⟩) d_TR_isThere_30
      · -- 11
        have hiw : i < w := by rcases Nat.lt_or_ge (i) w with q | q; exact q; exact absurd (nI_le q (by omega)) h8
        refine e_aload_n C d_TR_isThere_11 rfl rfl ?_
        refine e_get C hin_TR 0 rfl rfl 1 (by decide) fl_TR_21 rfl d_TR_isThere_12 ?_
        refine e_iload_n C d_TR_isThere_15 rfl rfl ?_
        refine e_iald C 1 0 rfl rfl (vp_in_nI (by omega) (by omega)) d_TR_isThere_16 ?_
        refine e_st [.int (f i)] (by rw [nI_clamp (by omega)]) ?_
        refine e_iload_n C d_TR_isThere_17 rfl rfl ?_
        refine e_icmp_ne (tgt := 23) C d_TR_isThere_18 (by decide) (fun h18 => ?_) (fun h18 => ?_)
        · -- 23
          refine e_iinc (v := (nI i) + 1) C d_TR_isThere_23 rfl rfl (by decide) ?_
          refine e_goto (tgt := 2) C d_TR_isThere_26 (by decide) ?_
          refine e_lv [(0, .ref r), (1, .int x), (2, .int (nI (i + 1)))] ⟨rfl, rfl, congrArg (fun z => some (Value.int z)) (nI_1 i), trivial⟩ ?_
          refine e_ws [oTR r g pcs, aI cI pcs w f] rfl ?_
          exact ihLP (i + 1) (by omega) (by show (thereF f x i || decide (f i = x)) = false; rw [hS, decide_eq_false h18]; rfl) (by omega)
        · -- 21
          refine e_iconst (v := 1) C d_TR_isThere_21 rfl ?_
          exact e_iret C Z rfl (Nat.le_of_ble_eq_true rfl) (Nat.le_of_ble_eq_true rfl) (⟨by rw [thereF_of h18 hiw]; rfl, rfl⟩) d_TR_isThere_22
  refine e_lv [(0, .ref r), (1, .int x), (2, .int (nI 0))] ⟨rfl, rfl, rfl, trivial⟩ ?_
  refine e_ws [oTR r g pcs, aI cI pcs w f] rfl ?_
  exact LP _ 0 (Nat.zero_le _) rfl (Nat.lt_succ_self _)

theorem jr_hit (f : Nat → Int32) {a b : Int32} {i : Nat} (h : f i = b) : upd (fun q => if q < i then relab f a b q else f q) i a = fun q => if q < i + 1 then relab f a b q else f q := by
  funext q
  unfold upd
  by_cases e : q = i
  · subst e
    rw [if_pos rfl, if_pos (Nat.lt_succ_self q)]
    unfold relab
    rw [if_pos h]
  · rw [if_neg e]
    show (if q < i then relab f a b q else f q) = _
    by_cases l : q < i
    · rw [if_pos l, if_pos (by omega)]
    · rw [if_neg l, if_neg (by omega)]
theorem jr_miss (f : Nat → Int32) {a b : Int32} {i : Nat} (h : ¬ f i = b) : (fun q => if q < i then relab f a b q else f q) = fun q => if q < i + 1 then relab f a b q else f q := by
  funext q
  by_cases e : q = i
  · subst e
    rw [if_neg (Nat.lt_irrefl q), if_pos (Nat.lt_succ_self q)]
    unfold relab
    rw [if_neg h]
  · by_cases l : q < i
    · rw [if_pos l, if_pos (by omega)]
    · rw [if_neg l, if_neg (by omega)]
set_option maxHeartbeats 4000000 in
set_option maxRecDepth 100000 in
theorem M_TR_joinRight (l : Launch) (D : va_G) (cI cJ cZ : ClassId) (r g pcs w : Nat) (hw : w ≤ 5) (f : Nat → Int32) (c : Nat) (hc : c < w) : MK l D cI cJ cZ y_TR_joinRight c_TR_joinRight 5 (some FieldType.boolean) 0 0 [.ref r, .int (nI c)] [oTR r g pcs, aI cI pcs w f] 0 0 (fun v w1 => v = some (.int (bI (jrF f w c))) ∧ ((jrF f w c = false ∧ w1 = [oTR r g pcs, aI cI pcs w f]) ∨ (jrF f w c = true ∧ ∃ f2 : Nat → Int32, (∀ q, q < w → f2 q = relab f (f c) (f (c + 1)) q) ∧ w1 = [oTR r g pcs, aI cI pcs w f2]))) := by
  refine MC.of (by decide) bigW_good (Nat.le_of_ble_eq_true rfl) (fun κ C Z IN => ?_)
  refine e_iload_n C d_TR_joinRight_0 rfl rfl ?_
  refine e_iconst (v := 1) C d_TR_joinRight_1 rfl ?_
  refine e_iadd C d_TR_joinRight_2 ?_
  refine e_st [.int (nI (c + 1))] (congrArg (fun z => [Value.int z]) (nI_1 c)) ?_
  refine e_aload_n C d_TR_joinRight_3 rfl rfl ?_
  refine e_get C hin_TR 0 rfl rfl 1 (by decide) fl_TR_21 rfl d_TR_joinRight_4 ?_
  refine e_alen C 1 0 rfl rfl rfl d_TR_joinRight_7 ?_
  refine e_icmp_ge (tgt := 28) C d_TR_joinRight_8 (by decide) (fun h8 => ?_) (fun h8 => ?_)
  · -- 28
    have hcw : ¬ c + 1 < w := by have q := (nI_leI (by omega) (by omega)).mp h8; omega
    refine e_iconst (v := 0) C d_TR_joinRight_28 rfl ?_
    exact e_iret C Z rfl (Nat.le_of_ble_eq_true rfl) (Nat.le_of_ble_eq_true rfl) (⟨by unfold jrF; rw [if_neg hcw]; rfl, Or.inl ⟨by unfold jrF; rw [if_neg hcw], rfl⟩⟩) d_TR_joinRight_29
  · -- 11
    have hcw : c + 1 < w := by rcases Nat.lt_or_ge (c + 1) w with q | q; exact q; exact absurd (nI_le q (by omega)) h8
    refine e_aload_n C d_TR_joinRight_11 rfl rfl ?_
    refine e_get C hin_TR 0 rfl rfl 1 (by decide) fl_TR_21 rfl d_TR_joinRight_12 ?_
    refine e_iload_n C d_TR_joinRight_15 rfl rfl ?_
    refine e_iald C 1 0 rfl rfl (vp_in_nI (by omega) (by omega)) d_TR_joinRight_16 ?_
    refine e_st [.int (f c)] (by rw [nI_clamp (by omega)]) ?_
    refine e_aload_n C d_TR_joinRight_17 rfl rfl ?_
    refine e_get C hin_TR 0 rfl rfl 1 (by decide) fl_TR_21 rfl d_TR_joinRight_18 ?_
    refine e_iload_n C d_TR_joinRight_21 rfl rfl ?_
    refine e_iconst (v := 1) C d_TR_joinRight_22 rfl ?_
    refine e_iadd C d_TR_joinRight_23 ?_
    refine e_st [.int (nI (c + 1)), .ref pcs, .int (f c)] (by rw [nI_1]) ?_
    refine e_iald C 1 0 rfl rfl (vp_in_nI (by omega) (by omega)) d_TR_joinRight_24 ?_
    refine e_st [.int (f (c + 1)), .int (f c)] (by rw [nI_clamp (by omega)]) ?_
    refine e_icmp_ne (tgt := 30) C d_TR_joinRight_25 (by decide) (fun h25 => ?_) (fun h25 => ?_)
    · -- 30
      refine e_aload_n C d_TR_joinRight_30 rfl rfl ?_
      refine e_get C hin_TR 0 rfl rfl 1 (by decide) fl_TR_21 rfl d_TR_joinRight_31 ?_
      refine e_iload_n C d_TR_joinRight_34 rfl rfl ?_
      refine e_iald C 1 0 rfl rfl (vp_in_nI (by omega) (by omega)) d_TR_joinRight_35 ?_
      refine e_st [.int (f c)] (by rw [nI_clamp (by omega)]) ?_
      refine e_istore_n C d_TR_joinRight_36 rfl (by decide) ?_
      refine e_aload_n C d_TR_joinRight_37 rfl rfl ?_
      refine e_get C hin_TR 0 rfl rfl 1 (by decide) fl_TR_21 rfl d_TR_joinRight_38 ?_
      refine e_iload_n C d_TR_joinRight_41 rfl rfl ?_
      refine e_iconst (v := 1) C d_TR_joinRight_42 rfl ?_
      refine e_iadd C d_TR_joinRight_43 ?_
      refine e_st [.int (nI (c + 1)), .ref pcs] (by rw [nI_1]) ?_
      refine e_iald C 1 0 rfl rfl (vp_in_nI (by omega) (by omega)) d_TR_joinRight_44 ?_
      refine e_st [.int (f (c + 1))] (by rw [nI_clamp (by omega)]) ?_
      refine e_istore_n C d_TR_joinRight_45 rfl (by decide) ?_
      refine e_iconst (v := 0) C d_TR_joinRight_46 rfl ?_
      refine e_istore C d_TR_joinRight_47 (by decide) ?_
      have LP : ∀ (fuel : Nat) (i : Nat), i ≤ w →  w - i < fuel → E κ (lu_o [(0, .ref r), (2, .int (f c)), (3, .int (f (c + 1))), (4, .int (nI i))]) [] [oTR r g pcs, aI cI pcs w (fun q => if q < i then relab f (f c) (f (c + 1)) q else f q)] 0 0 49 := by
        intro fuel
        induction fuel with
        | zero => intro i hi hm; exact absurd hm (Nat.not_lt_zero _)
        | succ fuel ihLP =>
          intro i hi hm
          refine e_iload C d_TR_joinRight_49 rfl ?_
          refine e_aload_n C d_TR_joinRight_51 rfl rfl ?_
          refine e_get C hin_TR 0 rfl rfl 1 (by decide) fl_TR_21 rfl d_TR_joinRight_52 ?_
          refine e_alen C 1 0 rfl rfl rfl d_TR_joinRight_55 ?_
          refine e_icmp_ge (tgt := 84) C d_TR_joinRight_56 (by decide) (fun h56 => ?_) (fun h56 => ?_)
          · -- 84
            have hiw : w = i := by have q := (nI_leI (by omega) (by omega)).mp h56; omega
            subst hiw
            refine e_iconst (v := 1) C d_TR_joinRight_84 rfl ?_
            exact e_iret C Z rfl (Nat.le_of_ble_eq_true rfl) (Nat.le_of_ble_eq_true rfl) (⟨by unfold jrF; rw [if_pos hcw, if_neg h25]; rfl, Or.inr ⟨by unfold jrF; rw [if_pos hcw, if_neg h25], _, fun q hq => if_pos hq, rfl⟩⟩) d_TR_joinRight_85
          · -- 59
            have hiw : i < w := by rcases Nat.lt_or_ge (i) w with q | q; exact q; exact absurd (nI_le q (by omega)) h56
            refine e_aload_n C d_TR_joinRight_59 rfl rfl ?_
            refine e_get C hin_TR 0 rfl rfl 1 (by decide) fl_TR_21 rfl d_TR_joinRight_60 ?_
            refine e_iload C d_TR_joinRight_63 rfl ?_
            refine e_iald C 1 0 rfl rfl (vp_in_nI (by omega) (by omega)) d_TR_joinRight_65 ?_
            refine e_st [.int ((fun q => if q < i then relab f (f c) (f (c + 1)) q else f q) i)] (by rw [nI_clamp (by omega)]) ?_
            refine e_st [.int (f i)] (by simp) ?_
            refine e_iload_n C d_TR_joinRight_66 rfl rfl ?_
            refine e_icmp_ne (tgt := 78) C d_TR_joinRight_67 (by decide) (fun h67 => ?_) (fun h67 => ?_)
            · -- 78
              refine e_iinc (v := (nI i) + 1) C d_TR_joinRight_78 rfl rfl (by decide) ?_
              refine e_goto (tgt := 49) C d_TR_joinRight_81 (by decide) ?_
              refine e_lv [(0, .ref r), (2, .int (f c)), (3, .int (f (c + 1))), (4, .int (nI (i + 1)))] ⟨rfl, rfl, rfl, congrArg (fun z => some (Value.int z)) (nI_1 i), trivial⟩ ?_
              refine e_ws [oTR r g pcs, aI cI pcs w (fun q => if q < i + 1 then relab f (f c) (f (c + 1)) q else f q)] (by rw [jr_miss f h67]) ?_
              exact ihLP (i + 1) (by omega) (by omega)
            · -- 70
              refine e_aload_n C d_TR_joinRight_70 rfl rfl ?_
              refine e_get C hin_TR 0 rfl rfl 1 (by decide) fl_TR_21 rfl d_TR_joinRight_71 ?_
              refine e_iload C d_TR_joinRight_74 rfl ?_
              refine e_iload_n C d_TR_joinRight_76 rfl rfl ?_
              refine e_iast C 1 0 rfl rfl (vp_in_nI (by omega) (by omega)) d_TR_joinRight_77 ?_
              refine e_ws [oTR r g pcs, aI cI pcs w (upd (fun q => if q < i then relab f (f c) (f (c + 1)) q else f q) i (f c))] (by rw [nI_clamp (by omega)]; rfl) ?_
              refine e_iinc (v := (nI i) + 1) C d_TR_joinRight_78 rfl rfl (by decide) ?_
              refine e_goto (tgt := 49) C d_TR_joinRight_81 (by decide) ?_
              refine e_lv [(0, .ref r), (2, .int (f c)), (3, .int (f (c + 1))), (4, .int (nI (i + 1)))] ⟨rfl, rfl, rfl, congrArg (fun z => some (Value.int z)) (nI_1 i), trivial⟩ ?_
              refine e_ws [oTR r g pcs, aI cI pcs w (fun q => if q < i + 1 then relab f (f c) (f (c + 1)) q else f q)] (by rw [jr_hit f h67]) ?_
              exact ihLP (i + 1) (by omega) (by omega)
      refine e_lv [(0, .ref r), (2, .int (f c)), (3, .int (f (c + 1))), (4, .int (nI 0))] ⟨rfl, rfl, rfl, rfl, trivial⟩ ?_
      refine e_ws [oTR r g pcs, aI cI pcs w (fun q => if q < 0 then relab f (f c) (f (c + 1)) q else f q)] (by simp) ?_
      exact LP _ 0 (Nat.zero_le _) (Nat.lt_succ_self _)
    · -- 28
      refine e_iconst (v := 0) C d_TR_joinRight_28 rfl ?_
      exact e_iret C Z rfl (Nat.le_of_ble_eq_true rfl) (Nat.le_of_ble_eq_true rfl) (⟨by unfold jrF; rw [if_pos hcw, if_pos h25]; rfl, Or.inl ⟨by unfold jrF; rw [if_pos hcw, if_pos h25], rfl⟩⟩) d_TR_joinRight_29

set_option maxHeartbeats 4000000 in
set_option maxRecDepth 100000 in
theorem M_TR_init (l : Launch) (D : va_G) (cI cJ cZ : ClassId) (r g w : Nat) (hw : w ≤ 5) (ht pl ho : Int32) (op : Int64) (lpl ea eb : Int32) : MK l D cI cJ cZ y_TR_init c_TR_init 2 none 2 40 [.ref r, .ref g] [nTR r, oGR g (nI w) ht pl ho op lpl ea eb] 1 5 (fun v w1 => ∃ pcs : Nat, v = none ∧ w1 = [oTR r g pcs, oGR g (nI w) ht pl ho op lpl ea eb, aI cI pcs w (fun _ => 0)]) := by
  refine MC.of (by decide) bigW_good (Nat.le_of_ble_eq_true rfl) (fun κ C Z IN => ?_)
  refine e_aload_n C d_TR_init_0 rfl rfl ?_
  refine e_callIN (ret := none) (As := []) (st := []) (wc := [nTR r]) (wr := [oGR g (nI w) ht pl ho op lpl ea eb]) C (M_RU_init_TR l D cI cJ cZ r) i_RU_init mn_TR_3 nwW_ok ⟨Nat.le_of_ble_eq_true rfl, Nat.le_of_ble_eq_true rfl⟩ ⟨Nat.le_of_ble_eq_true rfl, Nat.le_of_ble_eq_true rfl⟩ [0] [1] rfl rfl rfl rfl (by decide) (Nat.le_of_ble_eq_true rfl) rfl d_TR_init_1 (fun v w1 hp => ?_)
  obtain ⟨rfl, rfl⟩ := hp
  refine e_perm (st' := []) (ws' := [nTR r, oGR g (nI w) ht pl ho op lpl ea eb]) [1, 0] rfl rfl rfl ?_
  refine e_aload_n C d_TR_init_4 rfl rfl ?_
  refine e_aload_n C d_TR_init_5 rfl rfl ?_
  refine e_putF C IN hin_TR ty_TR tyk_TR nm_TR 0 rfl rfl 0 (by decide) fl_TR_9 rfl rfl rfl rfl (Nat.le_of_ble_eq_true rfl) d_TR_init_6 ?_
  refine e_ws [gTR r g, oGR g (nI w) ht pl ho op lpl ea eb] rfl ?_
  refine e_aload_n C d_TR_init_9 rfl rfl ?_
  refine e_aload_n C d_TR_init_10 rfl rfl ?_
  refine e_getN C hin_GR 1 rfl rfl 0 (by decide) fn_TR_15 rfl d_TR_init_11 ?_
  refine e_newI (N := w) C 0 rfl ac_int (nI_pos (by omega)) (nI_clamp (by omega)) (by show w * 4 ≤ 536870912; omega) (Nat.le_of_ble_eq_true rfl) (by show 0 + w ≤ 5; omega) d_TR_init_14 (fun pcs => ?_)
  refine e_wide (k' := 1) (n' := 5) (by decide) (by omega) ?_
  refine e_putF C IN hin_TR ty_TR tyk_TR nm_TR 0 rfl rfl 1 (by decide) fl_TR_21 rfl rfl rfl rfl (Nat.le_of_ble_eq_true rfl) d_TR_init_16 ?_
  refine e_ws [oTR r g pcs, oGR g (nI w) ht pl ho op lpl ea eb, aI cI pcs w (fun _ => 0)] rfl ?_
  exact e_vret C Z (Nat.le_of_ble_eq_true rfl) (Nat.le_of_ble_eq_true rfl) (⟨pcs, rfl, rfl⟩) d_TR_init_19

def fstT (w : Nat) (pl ho : Int32) (q : Nat) : Int32 := if isPlaceF pl ho (nI q) = true then nI q + 1 else 0
set_option maxHeartbeats 4000000 in
set_option maxRecDepth 100000 in
theorem M_TR_firstCode (l : Launch) (D : va_G) (cI cJ cZ : ClassId) (r g pcs w : Nat) (hw : w ≤ 5) (f : Nat → Int32) (ht pl ho : Int32) (op : Int64) (lpl ea eb : Int32) : MK l D cI cJ cZ y_TR_firstCode c_TR_firstCode 2 (some FieldType.int) 2 42 [.ref r] [oTR r g pcs, aI cI pcs w f, oGR g (nI w) ht pl ho op lpl ea eb] 0 0 (fun v w1 => ∃ f2 : Nat → Int32, v = some (.int (codeF (fstT w pl ho) w)) ∧ w1 = [oTR r g pcs, aI cI pcs w f2, oGR g (nI w) ht pl ho op lpl ea eb]) := by
  refine MC.of (by decide) bigW_good (Nat.le_of_ble_eq_true rfl) (fun κ C Z IN => ?_)
  refine e_iconst (v := 0) C d_TR_firstCode_0 rfl ?_
  refine e_istore_n C d_TR_firstCode_1 rfl (by decide) ?_
  have LP : ∀ (fuel : Nat) (i : Nat) (fi : Nat → Int32), i ≤ w → (∀ q, q < i → fi q = fstT w pl ho q) →  w - i < fuel → E κ (lu_o [(0, .ref r), (1, .int (nI i))]) [] [oTR r g pcs, aI cI pcs w fi, oGR g (nI w) ht pl ho op lpl ea eb] 0 0 2 := by
    intro fuel
    induction fuel with
    | zero => intro i fi hi hS hm; exact absurd hm (Nat.not_lt_zero _)
    | succ fuel ihLP =>
      intro i fi hi hS hm
      refine e_iload_n C d_TR_firstCode_2 rfl rfl ?_
      refine e_aload_n C d_TR_firstCode_3 rfl rfl ?_
      refine e_get C hin_TR 0 rfl rfl 1 (by decide) fl_TR_21 rfl d_TR_firstCode_4 ?_
      refine e_alen C 1 0 rfl rfl rfl d_TR_firstCode_7 ?_
      refine e_icmp_ge (tgt := 41) C d_TR_firstCode_8 (by decide) (fun h8 => ?_) (fun h8 => ?_)
      · -- 41
        have hiw : w = i := by have q := (nI_leI (by omega) (by omega)).mp h8; omega
        subst hiw
        refine e_aload_n C d_TR_firstCode_41 rfl rfl ?_
        refine e_callV (As := []) (st := []) (wc := [oTR r g pcs, aI cI pcs w fi]) (wr := [oGR g (nI w) ht pl ho op lpl ea eb]) C (M_TR_codeOfPieces l D cI cJ cZ r g pcs w hw fi) v_TR_codeOfPieces ml_TR_29 0 rfl rfl nwW_ok ⟨Nat.le_of_ble_eq_true rfl, Nat.le_of_ble_eq_true rfl⟩ ⟨Nat.le_of_ble_eq_true rfl, Nat.le_of_ble_eq_true rfl⟩ [0, 1] [2] rfl rfl rfl rfl (by decide) (Nat.le_of_ble_eq_true rfl) rfl d_TR_firstCode_42 (fun v w1 hp => ?_)
        obtain ⟨rfl, rfl⟩ := hp
        refine e_perm (st' := [.int (codeF fi w)]) (ws' := [oTR r g pcs, aI cI pcs w fi, oGR g (nI w) ht pl ho op lpl ea eb]) [1, 2, 0] rfl rfl rfl ?_
        exact e_iret C Z rfl (Nat.le_of_ble_eq_true rfl) (Nat.le_of_ble_eq_true rfl) (⟨_, by rw [codeF_congr hS], rfl⟩) d_TR_firstCode_45
      · -- 11
        have hiw : i < w := by rcases Nat.lt_or_ge (i) w with q | q; exact q; exact absurd (nI_le q (by omega)) h8
        refine e_aload_n C d_TR_firstCode_11 rfl rfl ?_
        refine e_get C hin_TR 0 rfl rfl 1 (by decide) fl_TR_21 rfl d_TR_firstCode_12 ?_
        refine e_iload_n C d_TR_firstCode_15 rfl rfl ?_
        refine e_aload_n C d_TR_firstCode_16 rfl rfl ?_
        refine e_get C hin_TR 0 rfl rfl 0 (by decide) fl_TR_9 rfl d_TR_firstCode_17 ?_
        refine e_iload_n C d_TR_firstCode_20 rfl rfl ?_
        refine e_callVN (As := [.int (nI i)]) (st := [.int (nI i), .ref pcs]) (wc := [oGR g (nI w) ht pl ho op lpl ea eb]) (wr := [oTR r g pcs, aI cI pcs w fi]) C (M_GR_isPlace l D cI cJ cZ g (nI w) ht pl ho op lpl ea eb (nI i)) v_GR_isPlace mn_TR_25 2 rfl rfl nwW_ok ⟨Nat.le_of_ble_eq_true rfl, Nat.le_of_ble_eq_true rfl⟩ ⟨Nat.le_of_ble_eq_true rfl, Nat.le_of_ble_eq_true rfl⟩ [2] [0, 1] rfl rfl rfl rfl (by decide) (Nat.le_of_ble_eq_true rfl) rfl d_TR_firstCode_21 (fun v w1 hp => ?_)
        obtain ⟨rfl, rfl⟩ := hp
        refine e_perm (st' := [.int (bI (isPlaceF pl ho (nI i))), .int (nI i), .ref pcs]) (ws' := [oTR r g pcs, aI cI pcs w fi, oGR g (nI w) ht pl ho op lpl ea eb]) [0, 1, 2] rfl rfl rfl ?_
        refine e_if_eq (tgt := 33) C d_TR_firstCode_24 (by decide) (fun h24 => ?_) (fun h24 => ?_)
        · -- 33
          refine e_iconst (v := 0) C d_TR_firstCode_33 rfl ?_
          refine e_iast C 1 0 rfl rfl (vp_in_nI (by omega) (by omega)) d_TR_firstCode_34 ?_
          refine e_ws [oTR r g pcs, aI cI pcs w (upd fi i 0), oGR g (nI w) ht pl ho op lpl ea eb] (by rw [nI_clamp (by omega)]; rfl) ?_
          refine e_iinc (v := (nI i) + 1) C d_TR_firstCode_35 rfl rfl (by decide) ?_
          refine e_goto (tgt := 2) C d_TR_firstCode_38 (by decide) ?_
          refine e_lv [(0, .ref r), (1, .int (nI (i + 1)))] ⟨rfl, congrArg (fun z => some (Value.int z)) (nI_1 i), trivial⟩ ?_
          refine e_ws [oTR r g pcs, aI cI pcs w (upd fi i 0), oGR g (nI w) ht pl ho op lpl ea eb] rfl ?_
          exact ihLP (i + 1) _ (by omega) (fun q hq => by (try simp only [bI_eq0, Bool.not_eq_false] at h24); unfold upd; by_cases e : q = i; (subst e; rw [if_pos rfl]; unfold fstT; (first | rw [if_pos h24] | rw [if_neg h24] | rw [if_neg (Bool.eq_false_iff.mp h24)] | skip)); (rw [if_neg e]; exact hS q (by omega))) (by omega)
        · -- 27
          refine e_iload_n C d_TR_firstCode_27 rfl rfl ?_
          refine e_iconst (v := 1) C d_TR_firstCode_28 rfl ?_
          refine e_iadd C d_TR_firstCode_29 ?_
          refine e_goto (tgt := 34) C d_TR_firstCode_30 (by decide) ?_
          refine e_iast C 1 0 rfl rfl (vp_in_nI (by omega) (by omega)) d_TR_firstCode_34 ?_
          refine e_ws [oTR r g pcs, aI cI pcs w (upd fi i ((nI i) + 1)), oGR g (nI w) ht pl ho op lpl ea eb] (by rw [nI_clamp (by omega)]; rfl) ?_
          refine e_iinc (v := (nI i) + 1) C d_TR_firstCode_35 rfl rfl (by decide) ?_
          refine e_goto (tgt := 2) C d_TR_firstCode_38 (by decide) ?_
          refine e_lv [(0, .ref r), (1, .int (nI (i + 1)))] ⟨rfl, congrArg (fun z => some (Value.int z)) (nI_1 i), trivial⟩ ?_
          refine e_ws [oTR r g pcs, aI cI pcs w (upd fi i ((nI i) + 1)), oGR g (nI w) ht pl ho op lpl ea eb] rfl ?_
          exact ihLP (i + 1) _ (by omega) (fun q hq => by (try simp only [bI_eq0, Bool.not_eq_false] at h24); unfold upd; by_cases e : q = i; (subst e; rw [if_pos rfl]; unfold fstT; (first | rw [if_pos h24] | rw [if_neg h24] | rw [if_neg (Bool.eq_false_iff.mp h24)] | skip)); (rw [if_neg e]; exact hS q (by omega))) (by omega)
  refine e_lv [(0, .ref r), (1, .int (nI 0))] ⟨rfl, rfl, trivial⟩ ?_
  refine e_ws [oTR r g pcs, aI cI pcs w f, oGR g (nI w) ht pl ho op lpl ea eb] rfl ?_
  exact LP _ 0 f (Nat.zero_le _) (fun q h => absurd h (Nat.not_lt_zero q)) (Nat.lt_succ_self _)

set_option maxHeartbeats 4000000 in
set_option maxRecDepth 100000 in
theorem M_TR_codeAfter (l : Launch) (D : va_G) (cI cJ cZ : ClassId) (r g pcs w : Nat) (hw : w ≤ 5) (f : Nat → Int32) (ht pl ho : Int32) (op : Int64) (lpl ea eb : Int32) (code place choice : Int32) (c : Nat) (hc : c < w) : MK l D cI cJ cZ y_TR_codeAfter c_TR_codeAfter 8 (some FieldType.int) 2 42 [.ref r, .int code, .int place, .int (nI c), .int choice] [oTR r g pcs, aI cI pcs w f, oGR g (nI w) ht pl ho op lpl ea eb] 0 0 (fun v w1 => ∃ f2 : Nat → Int32, v = some (.int (cafT w (isPlaceF pl ho (place + nI w)) (decide (place = lpl)) code c choice)) ∧ w1 = [oTR r g pcs, aI cI pcs w f2, oGR g (nI w) ht pl ho op lpl ea eb]) := by
  refine MC.of (by decide) bigW_good (Nat.le_of_ble_eq_true rfl) (fun κ C Z IN => ?_)
  refine e_iload_n C d_TR_codeAfter_0 rfl rfl ?_
  refine e_if_lt (tgt := 13) C d_TR_codeAfter_1 (by decide) (fun h1 => ?_) (fun h1 => ?_)
  · -- 13
    exact absurd h1 (nI_pos (by omega))
  · -- 4
    refine e_iload_n C d_TR_codeAfter_4 rfl rfl ?_
    refine e_aload_n C d_TR_codeAfter_5 rfl rfl ?_
    refine e_get C hin_TR 0 rfl rfl 1 (by decide) fl_TR_21 rfl d_TR_codeAfter_6 ?_
    refine e_alen C 1 0 rfl rfl rfl d_TR_codeAfter_9 ?_
    refine e_icmp_lt (tgt := 15) C d_TR_codeAfter_10 (by decide) (fun h10 => ?_) (fun h10 => ?_)
    · -- 15
      refine e_iconst (v := 0) C d_TR_codeAfter_15 rfl ?_
      refine e_istore C d_TR_codeAfter_16 (by decide) ?_
      have LP : ∀ (fuel : Nat) (i : Nat) (fi : Nat → Int32), i ≤ w → (∀ q, q < i → fi q = upk code q) →  w - i < fuel → E κ (lu_o [(0, .ref r), (1, .int code), (2, .int place), (3, .int (nI c)), (4, .int choice), (5, .int (nI i))]) [] [oTR r g pcs, aI cI pcs w fi, oGR g (nI w) ht pl ho op lpl ea eb] 0 0 18 := by
        intro fuel
        induction fuel with
        | zero => intro i fi hi hS hm; exact absurd hm (Nat.not_lt_zero _)
        | succ fuel ihLP =>
          intro i fi hi hS hm
          refine e_iload C d_TR_codeAfter_18 rfl ?_
          refine e_aload_n C d_TR_codeAfter_20 rfl rfl ?_
          refine e_get C hin_TR 0 rfl rfl 1 (by decide) fl_TR_21 rfl d_TR_codeAfter_21 ?_
          refine e_alen C 1 0 rfl rfl rfl d_TR_codeAfter_24 ?_
          refine e_icmp_ge (tgt := 50) C d_TR_codeAfter_25 (by decide) (fun h25 => ?_) (fun h25 => ?_)
          · -- 50
            have hiw : w = i := by have q := (nI_leI (by omega) (by omega)).mp h25; omega
            subst hiw
            refine e_aload_n C d_TR_codeAfter_50 rfl rfl ?_
            refine e_get C hin_TR 0 rfl rfl 1 (by decide) fl_TR_21 rfl d_TR_codeAfter_51 ?_
            refine e_iload_n C d_TR_codeAfter_54 rfl rfl ?_
            refine e_iald C 1 0 rfl rfl (vp_in_nI (by omega) (by omega)) d_TR_codeAfter_55 ?_
            refine e_st [.int (fi c)] (by rw [nI_clamp (by omega)]) ?_
            refine e_istore C d_TR_codeAfter_56 (by decide) ?_
            have hown : fi c = upk code c := hS c hc
            refine e_lv [(0, .ref r), (1, .int code), (2, .int place), (3, .int (nI c)), (4, .int choice), (5, .int (fi c))] ⟨rfl, rfl, rfl, rfl, rfl, rfl, trivial⟩ ?_
            have J75 : ∀ (f2 : Nat → Int32), cafT w (isPlaceF pl ho (place + nI w)) (decide (place = lpl)) code c choice = cafT2 w (isPlaceF pl ho (place + nI w)) (decide (place = lpl)) f2 (fi c) c choice → E κ (lu_o [(0, .ref r), (1, .int code), (2, .int place), (3, .int (nI c)), (4, .int choice), (5, .int (fi c))]) [] [oTR r g pcs, aI cI pcs w f2, oGR g (nI w) ht pl ho op lpl ea eb] 0 0 75 := by
              intro f2 heq
              refine e_iload C d_TR_codeAfter_75 rfl ?_
              refine e_iconst (v := 1) C d_TR_codeAfter_77 rfl ?_
              refine e_iand C d_TR_codeAfter_78 ?_
              refine e_lv [(0, .ref r), (1, .int code), (2, .int place), (3, .int (nI c)), (4, .int choice), (5, .int (fi c))] ⟨rfl, rfl, rfl, rfl, rfl, rfl, trivial⟩ ?_
              have J89 : ∀ (y89 : Int32), y89 = (if choice &&& 1 = 0 then 6 else fi c) → E κ (lu_o [(0, .ref r), (1, .int code), (2, .int place), (3, .int (nI c)), (4, .int choice), (5, .int (fi c))]) [.int y89] [oTR r g pcs, aI cI pcs w f2, oGR g (nI w) ht pl ho op lpl ea eb] 0 0 89 := by
                intro y89 ey89
                refine e_istore C d_TR_codeAfter_89 (by decide) ?_
                refine e_aload_n C d_TR_codeAfter_91 rfl rfl ?_
                refine e_get C hin_TR 0 rfl rfl 1 (by decide) fl_TR_21 rfl d_TR_codeAfter_92 ?_
                refine e_iload_n C d_TR_codeAfter_95 rfl rfl ?_
                refine e_aload_n C d_TR_codeAfter_96 rfl rfl ?_
                refine e_get C hin_TR 0 rfl rfl 0 (by decide) fl_TR_9 rfl d_TR_codeAfter_97 ?_
                refine e_iload_n C d_TR_codeAfter_100 rfl rfl ?_
                refine e_aload_n C d_TR_codeAfter_101 rfl rfl ?_
                refine e_get C hin_TR 0 rfl rfl 0 (by decide) fl_TR_9 rfl d_TR_codeAfter_102 ?_
                refine e_getN C hin_GR 2 rfl rfl 0 (by decide) fn_TR_15 rfl d_TR_codeAfter_105 ?_
                refine e_iadd C d_TR_codeAfter_108 ?_
                refine e_callVN (As := [.int (place + (nI w))]) (st := [.int (nI c), .ref pcs]) (wc := [oGR g (nI w) ht pl ho op lpl ea eb]) (wr := [oTR r g pcs, aI cI pcs w f2]) C (M_GR_isPlace l D cI cJ cZ g (nI w) ht pl ho op lpl ea eb (place + (nI w))) v_GR_isPlace mn_TR_25 2 rfl rfl nwW_ok ⟨Nat.le_of_ble_eq_true rfl, Nat.le_of_ble_eq_true rfl⟩ ⟨Nat.le_of_ble_eq_true rfl, Nat.le_of_ble_eq_true rfl⟩ [2] [0, 1] rfl rfl rfl rfl (by decide) (Nat.le_of_ble_eq_true rfl) rfl d_TR_codeAfter_109 (fun v w1 hp => ?_)
                obtain ⟨rfl, rfl⟩ := hp
                refine e_perm (st' := [.int (bI (isPlaceF pl ho (place + (nI w)))), .int (nI c), .ref pcs]) (ws' := [oTR r g pcs, aI cI pcs w f2, oGR g (nI w) ht pl ho op lpl ea eb]) [0, 1, 2] rfl rfl rfl ?_
                refine e_lv [(0, .ref r), (1, .int code), (2, .int place), (3, .int (nI c)), (4, .int choice), (5, .int (fi c)), (6, .int y89)] ⟨rfl, rfl, rfl, rfl, rfl, rfl, rfl, trivial⟩ ?_
                have J121 : ∀ (y121 : Int32), y121 = (if isPlaceF pl ho (place + nI w) = true then y89 else 0) → E κ (lu_o [(0, .ref r), (1, .int code), (2, .int place), (3, .int (nI c)), (4, .int choice), (5, .int (fi c)), (6, .int y89)]) [.int y121, .int (nI c), .ref pcs] [oTR r g pcs, aI cI pcs w f2, oGR g (nI w) ht pl ho op lpl ea eb] 0 0 121 := by
                  intro y121 ey121
                  refine e_iast C 1 0 rfl rfl (vp_in_nI (by omega) (by omega)) d_TR_codeAfter_121 ?_
                  refine e_ws [oTR r g pcs, aI cI pcs w (upd f2 c y121), oGR g (nI w) ht pl ho op lpl ea eb] (by rw [nI_clamp (by omega)]; rfl) ?_
                  have heq3 : cafT w (isPlaceF pl ho (place + nI w)) (decide (place = lpl)) code c choice = cafT3 w (decide (place = lpl)) (upd f2 c y121) (fi c) := by rw [heq]; unfold cafT2; rw [← ey89, ← ey121]
                  refine e_iload C d_TR_codeAfter_122 rfl ?_
                  refine e_if_eq (tgt := 140) C d_TR_codeAfter_124 (by decide) (fun h124 => ?_) (fun h124 => ?_)
                  · -- 140
                    refine e_iconst (v := 0) C d_TR_codeAfter_140 rfl ?_
                    refine e_istore C d_TR_codeAfter_141 (by decide) ?_
                    refine e_iload C d_TR_codeAfter_143 rfl ?_
                    refine e_if_eq (tgt := 163) C d_TR_codeAfter_145 (by decide) (fun h145 => ?_) (fun h145 => ?_)
                    · -- 163
                      refine e_aload_n C d_TR_codeAfter_163 rfl rfl ?_
                      refine e_callV (As := []) (st := []) (wc := [oTR r g pcs, aI cI pcs w (upd f2 c y121)]) (wr := [oGR g (nI w) ht pl ho op lpl ea eb]) C (M_TR_codeOfPieces l D cI cJ cZ r g pcs w hw (upd f2 c y121)) v_TR_codeOfPieces ml_TR_29 0 rfl rfl nwW_ok ⟨Nat.le_of_ble_eq_true rfl, Nat.le_of_ble_eq_true rfl⟩ ⟨Nat.le_of_ble_eq_true rfl, Nat.le_of_ble_eq_true rfl⟩ [0, 1] [2] rfl rfl rfl rfl (by decide) (Nat.le_of_ble_eq_true rfl) rfl d_TR_codeAfter_164 (fun v w1 hp => ?_)
                      obtain ⟨rfl, rfl⟩ := hp
                      refine e_perm (st' := [.int (codeF (upd f2 c y121) w)]) (ws' := [oTR r g pcs, aI cI pcs w (upd f2 c y121), oGR g (nI w) ht pl ho op lpl ea eb]) [1, 2, 0] rfl rfl rfl ?_
                      exact e_iret C Z rfl (Nat.le_of_ble_eq_true rfl) (Nat.le_of_ble_eq_true rfl) (⟨_, by rw [heq3]; unfold cafT3; (first | rw [if_pos h124] | rw [if_neg h124] | rw [if_neg (Bool.eq_false_iff.mp h124)] | rw [if_pos (decide_eq_true h124)] | rw [if_neg (fun z => h124 (of_decide_eq_true z))] | skip), rfl⟩) d_TR_codeAfter_167
                    · exact absurd rfl h145
                  · -- 127
                    refine e_aload_n C d_TR_codeAfter_127 rfl rfl ?_
                    refine e_iload C d_TR_codeAfter_128 rfl ?_
                    refine e_callV (As := [.int (fi c)]) (st := []) (wc := [oTR r g pcs, aI cI pcs w (upd f2 c y121)]) (wr := [oGR g (nI w) ht pl ho op lpl ea eb]) C (M_TR_isThere l D cI cJ cZ r g pcs w hw (upd f2 c y121) (fi c)) v_TR_isThere ml_TR_36 0 rfl rfl nwW_ok ⟨Nat.le_of_ble_eq_true rfl, Nat.le_of_ble_eq_true rfl⟩ ⟨Nat.le_of_ble_eq_true rfl, Nat.le_of_ble_eq_true rfl⟩ [0, 1] [2] rfl rfl rfl rfl (by decide) (Nat.le_of_ble_eq_true rfl) rfl d_TR_codeAfter_130 (fun v w1 hp => ?_)
                    obtain ⟨rfl, rfl⟩ := hp
                    refine e_perm (st' := [.int (bI (thereF (upd f2 c y121) (fi c) w))]) (ws' := [oTR r g pcs, aI cI pcs w (upd f2 c y121), oGR g (nI w) ht pl ho op lpl ea eb]) [1, 2, 0] rfl rfl rfl ?_
                    refine e_if_ne (tgt := 140) C d_TR_codeAfter_133 (by decide) (fun h133 => ?_) (fun h133 => ?_)
                    · -- 140
                      refine e_iconst (v := 0) C d_TR_codeAfter_140 rfl ?_
                      refine e_istore C d_TR_codeAfter_141 (by decide) ?_
                      refine e_iload C d_TR_codeAfter_143 rfl ?_
                      refine e_if_eq (tgt := 163) C d_TR_codeAfter_145 (by decide) (fun h145 => ?_) (fun h145 => ?_)
                      · -- 163
                        refine e_aload_n C d_TR_codeAfter_163 rfl rfl ?_
                        refine e_callV (As := []) (st := []) (wc := [oTR r g pcs, aI cI pcs w (upd f2 c y121)]) (wr := [oGR g (nI w) ht pl ho op lpl ea eb]) C (M_TR_codeOfPieces l D cI cJ cZ r g pcs w hw (upd f2 c y121)) v_TR_codeOfPieces ml_TR_29 0 rfl rfl nwW_ok ⟨Nat.le_of_ble_eq_true rfl, Nat.le_of_ble_eq_true rfl⟩ ⟨Nat.le_of_ble_eq_true rfl, Nat.le_of_ble_eq_true rfl⟩ [0, 1] [2] rfl rfl rfl rfl (by decide) (Nat.le_of_ble_eq_true rfl) rfl d_TR_codeAfter_164 (fun v w1 hp => ?_)
                        obtain ⟨rfl, rfl⟩ := hp
                        refine e_perm (st' := [.int (codeF (upd f2 c y121) w)]) (ws' := [oTR r g pcs, aI cI pcs w (upd f2 c y121), oGR g (nI w) ht pl ho op lpl ea eb]) [1, 2, 0] rfl rfl rfl ?_
                        exact e_iret C Z rfl (Nat.le_of_ble_eq_true rfl) (Nat.le_of_ble_eq_true rfl) (⟨_, by rw [heq3]; (try simp only [bI_eq0, Bool.not_eq_false] at h133); unfold cafT3; (first | rw [if_pos h124] | rw [if_neg h124] | rw [if_neg (Bool.eq_false_iff.mp h124)] | rw [if_pos (decide_eq_true h124)] | rw [if_neg (fun z => h124 (of_decide_eq_true z))] | skip); (first | rw [if_pos h133] | rw [if_neg h133] | rw [if_neg (Bool.eq_false_iff.mp h133)] | rw [if_pos (decide_eq_true h133)] | rw [if_neg (fun z => h133 (of_decide_eq_true z))] | skip), rfl⟩) d_TR_codeAfter_167
                      · exact absurd rfl h145
                    · -- 136
                      refine e_iconst (v := 1) C d_TR_codeAfter_136 rfl ?_
                      refine e_goto (tgt := 141) C d_TR_codeAfter_137 (by decide) ?_
                      refine e_istore C d_TR_codeAfter_141 (by decide) ?_
                      refine e_iload C d_TR_codeAfter_143 rfl ?_
                      refine e_if_eq (tgt := 163) C d_TR_codeAfter_145 (by decide) (fun h145 => ?_) (fun h145 => ?_)
                      · exact absurd h145 (by decide)
                      · -- 148
                        refine e_iload_n C d_TR_codeAfter_148 rfl rfl ?_
                        refine e_aload_n C d_TR_codeAfter_149 rfl rfl ?_
                        refine e_get C hin_TR 0 rfl rfl 0 (by decide) fl_TR_9 rfl d_TR_codeAfter_150 ?_
                        refine e_getN C hin_GR 2 rfl rfl 5 (by decide) fn_TR_39 rfl d_TR_codeAfter_153 ?_
                        refine e_icmp_eq (tgt := 163) C d_TR_codeAfter_156 (by decide) (fun h156 => ?_) (fun h156 => ?_)
                        · -- 163
                          refine e_aload_n C d_TR_codeAfter_163 rfl rfl ?_
                          refine e_callV (As := []) (st := []) (wc := [oTR r g pcs, aI cI pcs w (upd f2 c y121)]) (wr := [oGR g (nI w) ht pl ho op lpl ea eb]) C (M_TR_codeOfPieces l D cI cJ cZ r g pcs w hw (upd f2 c y121)) v_TR_codeOfPieces ml_TR_29 0 rfl rfl nwW_ok ⟨Nat.le_of_ble_eq_true rfl, Nat.le_of_ble_eq_true rfl⟩ ⟨Nat.le_of_ble_eq_true rfl, Nat.le_of_ble_eq_true rfl⟩ [0, 1] [2] rfl rfl rfl rfl (by decide) (Nat.le_of_ble_eq_true rfl) rfl d_TR_codeAfter_164 (fun v w1 hp => ?_)
                          obtain ⟨rfl, rfl⟩ := hp
                          refine e_perm (st' := [.int (codeF (upd f2 c y121) w)]) (ws' := [oTR r g pcs, aI cI pcs w (upd f2 c y121), oGR g (nI w) ht pl ho op lpl ea eb]) [1, 2, 0] rfl rfl rfl ?_
                          exact e_iret C Z rfl (Nat.le_of_ble_eq_true rfl) (Nat.le_of_ble_eq_true rfl) (⟨_, by rw [heq3]; (try simp only [bI_eq0, Bool.not_eq_false] at h133); unfold cafT3; (first | rw [if_pos h124] | rw [if_neg h124] | rw [if_neg (Bool.eq_false_iff.mp h124)] | rw [if_pos (decide_eq_true h124)] | rw [if_neg (fun z => h124 (of_decide_eq_true z))] | skip); (first | rw [if_pos h133] | rw [if_neg h133] | rw [if_neg (Bool.eq_false_iff.mp h133)] | rw [if_pos (decide_eq_true h133)] | rw [if_neg (fun z => h133 (of_decide_eq_true z))] | skip); (first | rw [if_pos h156] | rw [if_neg h156] | rw [if_neg (Bool.eq_false_iff.mp h156)] | rw [if_pos (decide_eq_true h156)] | rw [if_neg (fun z => h156 (of_decide_eq_true z))] | skip), rfl⟩) d_TR_codeAfter_167
                        · -- 159
                          refine e_iconst (v := (-1)) C d_TR_codeAfter_159 rfl ?_
                          refine e_goto (tgt := 167) C d_TR_codeAfter_160 (by decide) ?_
                          exact e_iret C Z rfl (Nat.le_of_ble_eq_true rfl) (Nat.le_of_ble_eq_true rfl) (⟨_, by rw [heq3]; (try simp only [bI_eq0, Bool.not_eq_false] at h133); unfold cafT3; (first | rw [if_pos h124] | rw [if_neg h124] | rw [if_neg (Bool.eq_false_iff.mp h124)] | rw [if_pos (decide_eq_true h124)] | rw [if_neg (fun z => h124 (of_decide_eq_true z))] | skip); (first | rw [if_pos h133] | rw [if_neg h133] | rw [if_neg (Bool.eq_false_iff.mp h133)] | rw [if_pos (decide_eq_true h133)] | rw [if_neg (fun z => h133 (of_decide_eq_true z))] | skip); (first | rw [if_pos h156] | rw [if_neg h156] | rw [if_neg (Bool.eq_false_iff.mp h156)] | rw [if_pos (decide_eq_true h156)] | rw [if_neg (fun z => h156 (of_decide_eq_true z))] | skip), rfl⟩) d_TR_codeAfter_167
                refine e_if_eq (tgt := 120) C d_TR_codeAfter_112 (by decide) (fun h112 => ?_) (fun h112 => ?_)
                · -- 120
                  refine e_iconst (v := 0) C d_TR_codeAfter_120 rfl ?_
                  refine e_lv [(0, .ref r), (1, .int code), (2, .int place), (3, .int (nI c)), (4, .int choice), (5, .int (fi c)), (6, .int y89)] ⟨rfl, rfl, rfl, rfl, rfl, rfl, rfl, trivial⟩ ?_
                  exact J121 0 (by (try simp only [bI_eq0, Bool.not_eq_false] at h112); first | rw [if_pos h112] | rw [if_neg h112] | rw [if_neg (Bool.eq_false_iff.mp h112)])
                · -- 115
                  refine e_iload C d_TR_codeAfter_115 rfl ?_
                  refine e_goto (tgt := 121) C d_TR_codeAfter_117 (by decide) ?_
                  refine e_lv [(0, .ref r), (1, .int code), (2, .int place), (3, .int (nI c)), (4, .int choice), (5, .int (fi c)), (6, .int y89)] ⟨rfl, rfl, rfl, rfl, rfl, rfl, rfl, trivial⟩ ?_
                  exact J121 y89 (by (try simp only [bI_eq0, Bool.not_eq_false] at h112); first | rw [if_pos h112] | rw [if_neg h112] | rw [if_neg (Bool.eq_false_iff.mp h112)])
              refine e_if_eq (tgt := 87) C d_TR_codeAfter_79 (by decide) (fun h79 => ?_) (fun h79 => ?_)
              · -- 87
                refine e_bipush (v := 6) C d_TR_codeAfter_87 (by decide) ?_
                refine e_lv [(0, .ref r), (1, .int code), (2, .int place), (3, .int (nI c)), (4, .int choice), (5, .int (fi c))] ⟨rfl, rfl, rfl, rfl, rfl, rfl, trivial⟩ ?_
                exact J89 6 (by first | rw [if_pos h79] | rw [if_neg h79])
              · -- 82
                refine e_iload C d_TR_codeAfter_82 rfl ?_
                refine e_goto (tgt := 89) C d_TR_codeAfter_84 (by decide) ?_
                refine e_lv [(0, .ref r), (1, .int code), (2, .int place), (3, .int (nI c)), (4, .int choice), (5, .int (fi c))] ⟨rfl, rfl, rfl, rfl, rfl, rfl, trivial⟩ ?_
                exact J89 (fi c) (by first | rw [if_pos h79] | rw [if_neg h79])
            refine e_iload C d_TR_codeAfter_58 rfl ?_
            refine e_iconst (v := 2) C d_TR_codeAfter_60 rfl ?_
            refine e_iand C d_TR_codeAfter_61 ?_
            refine e_if_eq (tgt := 75) C d_TR_codeAfter_62 (by decide) (fun h62 => ?_) (fun h62 => ?_)
            · -- 75
              refine e_lv [(0, .ref r), (1, .int code), (2, .int place), (3, .int (nI c)), (4, .int choice), (5, .int (fi c))] ⟨rfl, rfl, rfl, rfl, rfl, rfl, trivial⟩ ?_
              exact J75 fi (by unfold cafT; rw [if_pos h62, hown]; exact cafT2_congr (fun q hq => (hS q hq).symm))
            · -- 65
              refine e_aload_n C d_TR_codeAfter_65 rfl rfl ?_
              refine e_iload_n C d_TR_codeAfter_66 rfl rfl ?_
              have hjc : jrF fi w c = jrF (upk code) w c := by unfold jrF; by_cases z : c + 1 < w; (rw [if_pos z, if_pos z, hS c hc, hS (c + 1) z]); (rw [if_neg z, if_neg z])
              refine e_callV (As := [.int (nI c)]) (st := []) (wc := [oTR r g pcs, aI cI pcs w fi]) (wr := [oGR g (nI w) ht pl ho op lpl ea eb]) C (M_TR_joinRight l D cI cJ cZ r g pcs w hw fi c hc) v_TR_joinRight ml_TR_33 0 rfl rfl nwW_ok ⟨Nat.le_of_ble_eq_true rfl, Nat.le_of_ble_eq_true rfl⟩ ⟨Nat.le_of_ble_eq_true rfl, Nat.le_of_ble_eq_true rfl⟩ [0, 1] [2] rfl rfl rfl rfl (by decide) (Nat.le_of_ble_eq_true rfl) rfl d_TR_codeAfter_67 (fun v w1 hp => ?_)
              obtain ⟨rfl, hjr⟩ := hp
              rcases hjr with ⟨hjt, rfl⟩ | ⟨hjt, f2, hf2, rfl⟩
              · rw [hjc] at hjt
                refine e_perm (st' := [.int 0]) (ws' := [oTR r g pcs, aI cI pcs w fi, oGR g (nI w) ht pl ho op lpl ea eb]) [1, 2, 0] (by rw [hjc, hjt]; rfl) rfl rfl ?_
                refine e_if_ne (tgt := 75) C d_TR_codeAfter_70 (by decide) (fun h70 => ?_) (fun h70 => ?_)
                · exact absurd rfl h70
                · -- 73
                  refine e_iconst (v := (-1)) C d_TR_codeAfter_73 rfl ?_
                  exact e_iret C Z rfl (Nat.le_of_ble_eq_true rfl) (Nat.le_of_ble_eq_true rfl) (⟨_, by unfold cafT; rw [if_neg h62, hjt]; rfl, rfl⟩) d_TR_codeAfter_74
              · rw [hjc] at hjt
                have hc1 : c + 1 < w := by rcases Nat.lt_or_ge (c + 1) w with q | q; exact q; exact absurd hjt (by unfold jrF; rw [if_neg (by omega)]; decide)
                refine e_perm (st' := [.int 1]) (ws' := [oTR r g pcs, aI cI pcs w f2, oGR g (nI w) ht pl ho op lpl ea eb]) [1, 2, 0] (by rw [hjc, hjt]; rfl) rfl rfl ?_
                refine e_if_ne (tgt := 75) C d_TR_codeAfter_70 (by decide) (fun h70 => ?_) (fun h70 => ?_)
                · -- 75
                  refine e_lv [(0, .ref r), (1, .int code), (2, .int place), (3, .int (nI c)), (4, .int choice), (5, .int (fi c))] ⟨rfl, rfl, rfl, rfl, rfl, rfl, trivial⟩ ?_
                  exact J75 f2 (by unfold cafT; rw [if_neg h62, if_pos hjt, hown]; exact cafT2_congr (fun q hq => by rw [hf2 q hq]; unfold relab; rw [hS q hq, hS c hc, hS (c + 1) hc1]))
                · exact absurd h70 (by decide)
          · -- 28
            have hiw : i < w := by rcases Nat.lt_or_ge (i) w with q | q; exact q; exact absurd (nI_le q (by omega)) h25
            refine e_aload_n C d_TR_codeAfter_28 rfl rfl ?_
            refine e_get C hin_TR 0 rfl rfl 1 (by decide) fl_TR_21 rfl d_TR_codeAfter_29 ?_
            refine e_iload C d_TR_codeAfter_32 rfl ?_
            refine e_iload_n C d_TR_codeAfter_34 rfl rfl ?_
            refine e_iconst (v := 3) C d_TR_codeAfter_35 rfl ?_
            refine e_iload C d_TR_codeAfter_36 rfl ?_
            refine e_imul C d_TR_codeAfter_38 ?_
            refine e_iushr C d_TR_codeAfter_39 ?_
            refine e_bipush (v := 7) C d_TR_codeAfter_40 (by decide) ?_
            refine e_iand C d_TR_codeAfter_42 ?_
            refine e_iast C 1 0 rfl rfl (vp_in_nI (by omega) (by omega)) d_TR_codeAfter_43 ?_
            refine e_ws [oTR r g pcs, aI cI pcs w (upd fi i ((jushr code (3 * (nI i))) &&& 7)), oGR g (nI w) ht pl ho op lpl ea eb] (by rw [nI_clamp (by omega)]; rfl) ?_
            refine e_iinc (v := (nI i) + 1) C d_TR_codeAfter_44 rfl rfl (by decide) ?_
            refine e_goto (tgt := 18) C d_TR_codeAfter_47 (by decide) ?_
            refine e_lv [(0, .ref r), (1, .int code), (2, .int place), (3, .int (nI c)), (4, .int choice), (5, .int (nI (i + 1)))] ⟨rfl, rfl, rfl, rfl, rfl, congrArg (fun z => some (Value.int z)) (nI_1 i), trivial⟩ ?_
            refine e_ws [oTR r g pcs, aI cI pcs w (upd fi i ((jushr code (3 * (nI i))) &&& 7)), oGR g (nI w) ht pl ho op lpl ea eb] rfl ?_
            exact ihLP (i + 1) _ (by omega) (fun q hq => by unfold upd; by_cases e : q = i; (subst e; rw [if_pos rfl]; rfl); (rw [if_neg e]; exact hS q (by omega))) (by omega)
      refine e_lv [(0, .ref r), (1, .int code), (2, .int place), (3, .int (nI c)), (4, .int choice), (5, .int (nI 0))] ⟨rfl, rfl, rfl, rfl, rfl, rfl, trivial⟩ ?_
      refine e_ws [oTR r g pcs, aI cI pcs w f, oGR g (nI w) ht pl ho op lpl ea eb] rfl ?_
      exact LP _ 0 f (Nat.zero_le _) (fun q h => absurd h (Nat.not_lt_zero q)) (Nat.lt_succ_self _)
    · -- 13
      exact absurd (nI_lt hc (by omega)) h10
