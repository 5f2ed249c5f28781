/-! THE REFERENCE'S trees -/
def prS (el : List (Nat × Nat)) (fto : Nat → Int32) (e : Nat) (pa : Nat → Nat) : Option (Nat → Nat) := if fto e = 1 then (match el[e]? with
    | some q => if pa q.1 = pa q.2 then none else some (fun z => if pa z = pa q.2 then pa q.1 else pa z)
    | none => some pa) else some pa
def prAll (el : List (Nat × Nat)) (fto : Nat → Int32) : Nat → Option (Nat → Nat)
  | 0 => some (fun p => p)
  | e + 1 => (prAll el fto e).bind (prS el fto e)
theorem prAll_none {el : List (Nat × Nat)} {fto : Nat → Int32} {e : Nat} (h : prAll el fto e = none) : ∀ {n : Nat}, e ≤ n → prAll el fto n = none
  | 0, hn => by rw [show 0 = e by omega]; exact h
  | n + 1, hn => by
    by_cases z : e = n + 1
    · rw [← z]; exact h
    · show (prAll el fto n).bind _ = none
      rw [prAll_none h (show e ≤ n by omega)]; rfl
def adE (N : Nat → Nat → Nat) (a b : Nat) : Nat → Nat → Nat := fun i k => if i = a ∧ k = a then N i k + 1 else if i = b ∧ k = b then N i k + 1 else if i = a ∧ k = b then N i k + 2147483646 else if i = b ∧ k = a then N i k + 2147483646 else N i k
def lapN (el : List (Nat × Nat)) (fto : Nat → Int32) (pa : Nat → Nat) : Nat → Nat → Nat → Nat
  | 0 => fun _ _ => 0
  | e + 1 => match el[e]? with
    | some q => if fto e = 0 then (if pa q.1 = pa q.2 then lapN el fto pa e else adE (lapN el fto pa e) (pa q.1) (pa q.2)) else lapN el fto pa e
    | none => lapN el fto pa e
def stF (P : Nat) (hb : Nat → Bool) (pa : Nat → Nat) (p : Nat) : Bool := decide (p < P) && !hb p && decide (pa p = p)
def unM (N : Nat → Nat → Nat) (p : Nat) : Nat → Nat → Nat := fun i k => if i = p ∨ k = p then (if i = k then 1 else 0) else N i k
def clS (P : Nat) (hb : Nat → Bool) (pa : Nat → Nat) (p : Nat) (s : Bool × (Nat → Nat → Nat)) : Bool × (Nat → Nat → Nat) := if (stF P hb pa p && s.1) = true then s else (s.1 || stF P hb pa p, unM s.2 p)
def clF (P : Nat) (hb : Nat → Bool) (pa : Nat → Nat) (N : Nat → Nat → Nat) : Nat → Nat → Nat := (itn (clS P hb pa) 25 (false, N)).2
def detN (N : Nat → Nat → Nat) : Nat := gaussF 25 0 1 (fun a b => N ((25 * a + b) / 25) ((25 * a + b) % 25) % 2147483647)
def treesF (w h : Nat) (el : List (Nat × Nat)) (hb : Nat → Bool) (fto : Nat → Int32) : Nat := if cpF hb (w * h) = 0 then 1 else match prAll el fto el.length with
  | none => 0
  | some pa => detN (clF (w * h) hb pa (lapN el fto pa el.length))
theorem adE_le {N : Nat → Nat → Nat} {a b m : Nat} (h : ∀ i k, N i k ≤ m) : ∀ i k, adE N a b i k ≤ m + 2147483646 := by
  intro i k
  have := h i k
  unfold adE
  by_cases z1 : i = a ∧ k = a
  · rw [if_pos z1]; omega
  · rw [if_neg z1]
    by_cases z2 : i = b ∧ k = b
    · rw [if_pos z2]; omega
    · rw [if_neg z2]
      by_cases z3 : i = a ∧ k = b
      · rw [if_pos z3]; omega
      · rw [if_neg z3]
        by_cases z4 : i = b ∧ k = a
        · rw [if_pos z4]; omega
        · rw [if_neg z4]; omega
theorem lapN_le {el : List (Nat × Nat)} {fto : Nat → Int32} {pa : Nat → Nat} : ∀ (e i k : Nat), lapN el fto pa e i k ≤ e * 2147483646
  | 0, _, _ => Nat.le_of_eq (by rw [Nat.zero_mul]; rfl)
  | e + 1, i, k => by
    have ih := lapN_le (el := el) (fto := fto) (pa := pa) e
    have h1 := ih i k
    have h2 := adE_le (a := 0) (b := 0) ih
    unfold lapN
    rw [Nat.succ_mul]
    match el[e]? with
    | none => exact Nat.le_trans h1 (Nat.le_add_right _ _)
    | some q =>
      show (if fto e = 0 then (if pa q.1 = pa q.2 then lapN el fto pa e else adE (lapN el fto pa e) (pa q.1) (pa q.2)) else lapN el fto pa e) i k ≤ _
      by_cases z : fto e = 0
      · rw [if_pos z]
        by_cases y : pa q.1 = pa q.2
        · rw [if_pos y]; exact Nat.le_trans h1 (Nat.le_add_right _ _)
        · rw [if_neg y]; exact adE_le ih i k
      · rw [if_neg z]; exact Nat.le_trans h1 (Nat.le_add_right _ _)
theorem clS_le {P : Nat} {hb : Nat → Bool} {pa : Nat → Nat} {N : Nat → Nat → Nat} {m : Nat} (hm : 1 ≤ m) (h : ∀ i k, N i k ≤ m) : ∀ (n i k : Nat), (itn (clS P hb pa) n (false, N)).2 i k ≤ m
  | 0, i, k => h i k
  | n + 1, i, k => by
    have ih := clS_le (P := P) (hb := hb) (pa := pa) hm h n
    show (clS P hb pa n (itn (clS P hb pa) n (false, N))).2 i k ≤ m
    generalize itn (clS P hb pa) n (false, N) = s at ih
    unfold clS
    by_cases z : (stF P hb pa n && s.1) = true
    · rw [if_pos z]; exact ih i k
    · rw [if_neg z]
      show unM _ n i k ≤ m
      unfold unM
      by_cases y : i = n ∨ k = n
      · rw [if_pos y]
        by_cases x : i = k
        · rw [if_pos x]; exact hm
        · rw [if_neg x]; omega
      · rw [if_neg y]; exact ih i k
set_option maxHeartbeats 4000000 in
set_option maxRecDepth 100000 in
theorem M_MD_trees (l : Launch) (D : va_G) (cI cJ cZ : ClassId) (m aho aaw aen ato awa aot awk atr ase ade ala ach apa asq : Nat) (w h : Nat) (hw : w ≤ 5) (hh : h ≤ 5) (hw1 : 1 ≤ w) (hh1 : 1 ≤ h) (th kd fi sc : Int32) (el : List (Nat × Nat)) (li : Bool) (mny : Nat) (drn : Bool) (wyv rkv : Int64) (hb : Nat → Bool) (fen fto fpa : Nat → Int32) (fsq : Nat → Int64) (hen : enR el fen) (hel : el.length ≤ 40) (hev : ∀ (i a b : Nat), el[i]? = some (a, b) → a < 25 ∧ b < 25 ∧ a ≠ b) (RES : Nat) (hRES : treesF w h el hb fto = RES) : MK l D cI cJ cZ y_MD_trees c_MD_trees 6 (some FieldType.long) 2 59 [.ref m] [oMD m th kd (nI w) (nI h) aho aaw fi sc (nI el.length) aen ato (bI li) (nI mny) awa aot (bI drn) wyv rkv awk atr ase ade ala ach apa asq, aZ cZ aho 25 (bF hb), aI cI aen 80 fen, aI cI ato 40 fto, aI cI apa 25 fpa, aJ cJ asq 625 fsq] 0 0 (fun v w1 => ∃ (fpa2 : Nat → Int32) (fsq2 : Nat → Int64), v = some (.long (lN RES)) ∧ w1 = [oMD m th kd (nI w) (nI h) aho aaw fi sc (nI el.length) aen ato (bI li) (nI mny) awa aot (bI drn) wyv rkv awk atr ase ade ala ach apa asq, aZ cZ aho 25 (bF hb), aI cI aen 80 fen, aI cI ato 40 fto, aI cI apa 25 fpa2, aJ cJ asq 625 fsq2]) := by
  refine MC.of (by decide) bigW_good (Nat.le_of_ble_eq_true rfl) (fun κ C Z IN => ?_)
  have hP : w * h ≤ 25 := Nat.mul_le_mul hw hh
  refine e_aload_n C d_MD_trees_0 rfl rfl ?_
  refine e_callV (As := []) (st := []) (wc := [oMD m th kd (nI w) (nI h) aho aaw fi sc (nI el.length) aen ato (bI li) (nI mny) awa aot (bI drn) wyv rkv awk atr ase ade ala ach apa asq, aZ cZ aho 25 (bF hb)]) (wr := [aI cI aen 80 fen, aI cI ato 40 fto, aI cI apa 25 fpa, aJ cJ asq 625 fsq]) C (M_MD_countOfPlaces l D cI cJ cZ m aho aaw aen ato awa aot awk atr ase ade ala ach apa asq w h hw hh hw1 hh1 th kd fi sc el li mny drn wyv rkv hb) v_MD_countOfPlaces ml_MD_142 0 rfl rfl nwW_ok ⟨Nat.le_of_ble_eq_true rfl, Nat.le_of_ble_eq_true rfl⟩ ⟨Nat.le_of_ble_eq_true rfl, Nat.le_of_ble_eq_true rfl⟩ [0, 1] [2, 3, 4, 5] rfl rfl rfl rfl (by decide) (Nat.le_of_ble_eq_true rfl) rfl d_MD_trees_1 (fun v w1 hp => ?_)
  obtain ⟨rfl, rfl⟩ := hp
  refine e_perm (st' := [.int (nI (cpF hb (w * h)))]) (ws' := [oMD m th kd (nI w) (nI h) aho aaw fi sc (nI el.length) aen ato (bI li) (nI mny) awa aot (bI drn) wyv rkv awk atr ase ade ala ach apa asq, aZ cZ aho 25 (bF hb), aI cI aen 80 fen, aI cI ato 40 fto, aI cI apa 25 fpa, aJ cJ asq 625 fsq]) [4, 5, 0, 1, 2, 3] rfl rfl rfl ?_
  refine e_istore_n C d_MD_trees_4 rfl (by decide) ?_
  refine e_iload_n C d_MD_trees_5 rfl rfl ?_
  refine e_if_ne (tgt := 11) C d_MD_trees_6 (by decide) (fun h6 => ?_) (fun h6 => ?_)
  · -- 11
    have hcp : cpF hb (w * h) ≠ 0 := fun z => h6 (by rw [z]; rfl)
    refine e_lv [(0, .ref m)] ⟨rfl, trivial⟩ ?_
    refine e_iconst (v := 0) C d_MD_trees_11 rfl ?_
    refine e_istore_n C d_MD_trees_12 rfl (by decide) ?_
    have LA : ∀ (fuel : Nat) (i : Nat) (fpa : Nat → Int32), i ≤ 25 → (∀ q, q < i → fpa q = nI q) →  25 - i < fuel → E κ (lu_o [(0, .ref m), (2, .int (nI i))]) [] [oMD m th kd (nI w) (nI h) aho aaw fi sc (nI el.length) aen ato (bI li) (nI mny) awa aot (bI drn) wyv rkv awk atr ase ade ala ach apa asq, aZ cZ aho 25 (bF hb), aI cI aen 80 fen, aI cI ato 40 fto, aI cI apa 25 fpa, aJ cJ asq 625 fsq] 0 0 13 := by
      intro fuel
      induction fuel with
      | zero => intro i fpa hi hz hm; exact absurd hm (Nat.not_lt_zero _)
      | succ fuel ihLA =>
        intro i fpa hi hz hm
        refine e_iload_n C d_MD_trees_13 rfl rfl ?_
        refine e_bipush (v := 25) C d_MD_trees_14 (by decide) ?_
        refine e_icmp_ge (tgt := 32) C d_MD_trees_16 (by decide) (fun h16 => ?_) (fun h16 => ?_)
        · -- 32
          have hi25 : 25 ≤ i := (nI_leI (a := 25) (by decide) (by omega)).mp h16
          refine e_iconst (v := 0) C d_MD_trees_32 rfl ?_
          refine e_istore_n C d_MD_trees_33 rfl (by decide) ?_
          have LE : ∀ (fuel : Nat) (e : Nat) (fpa : Nat → Int32) (pa : Nat → Nat), e ≤ el.length → prAll el fto e = some pa → (∀ q, q < 25 → fpa q = nI (pa q) ∧ pa q < 25) →  el.length - e < fuel → E κ (lu_o [(0, .ref m), (2, .int (nI e))]) [] [oMD m th kd (nI w) (nI h) aho aaw fi sc (nI el.length) aen ato (bI li) (nI mny) awa aot (bI drn) wyv rkv awk atr ase ade ala ach apa asq, aZ cZ aho 25 (bF hb), aI cI aen 80 fen, aI cI ato 40 fto, aI cI apa 25 fpa, aJ cJ asq 625 fsq] 0 0 34 := by
            intro fuel
            induction fuel with
            | zero => intro e fpa pa he hpr hpa hm; exact absurd hm (Nat.not_lt_zero _)
            | succ fuel ihLE =>
              intro e fpa pa he hpr hpa hm
              refine e_iload_n C d_MD_trees_34 rfl rfl ?_
              refine e_aload_n C d_MD_trees_35 rfl rfl ?_
              refine e_get C hin_MD 0 rfl rfl 8 (by decide) fl_MD_85 rfl d_MD_trees_36 ?_
              refine e_icmp_ge (tgt := 136) C d_MD_trees_39 (by decide) (fun h39 => ?_) (fun h39 => ?_)
              · -- 136
                have heE : e = el.length := by have q := (nI_leI (by omega) (by omega)).mp h39; omega
                rw [heE] at hpr
                have hRES3 : detN (clF (w * h) hb pa (lapN el fto pa el.length)) = RES := by rw [← hRES]; unfold treesF; rw [if_neg hcp, hpr]
                refine e_iconst (v := 0) C d_MD_trees_136 rfl ?_
                refine e_istore_n C d_MD_trees_137 rfl (by decide) ?_
                have LS : ∀ (fuel : Nat) (t : Nat) (fsq : Nat → Int64), t ≤ 625 → (∀ k, k < t → fsq k = 0) →  625 - t < fuel → E κ (lu_o [(0, .ref m), (2, .int (nI t))]) [] [oMD m th kd (nI w) (nI h) aho aaw fi sc (nI el.length) aen ato (bI li) (nI mny) awa aot (bI drn) wyv rkv awk atr ase ade ala ach apa asq, aZ cZ aho 25 (bF hb), aI cI aen 80 fen, aI cI ato 40 fto, aI cI apa 25 fpa, aJ cJ asq 625 fsq] 0 0 138 := by
                  intro fuel
                  induction fuel with
                  | zero => intro t fsq ht hzs hm; exact absurd hm (Nat.not_lt_zero _)
                  | succ fuel ihLS =>
                    intro t fsq ht hzs hm
                    refine e_iload_n C d_MD_trees_138 rfl rfl ?_
                    refine e_sipush (v := 625) C d_MD_trees_139 (by decide) ?_
                    refine e_icmp_ge (tgt := 158) C d_MD_trees_142 (by decide) (fun h142 => ?_) (fun h142 => ?_)
                    · -- 158
                      have ht6 : 625 ≤ t := (nI_leI (a := 625) (by decide) (by omega)).mp h142
                      refine e_iconst (v := 0) C d_MD_trees_158 rfl ?_
                      refine e_istore_n C d_MD_trees_159 rfl (by decide) ?_
                      have LL : ∀ (fuel : Nat) (e : Nat) (fsq : Nat → Int64), e ≤ el.length → SqR (lapN el fto pa e) fsq →  el.length - e < fuel → E κ (lu_o [(0, .ref m), (2, .int (nI e))]) [] [oMD m th kd (nI w) (nI h) aho aaw fi sc (nI el.length) aen ato (bI li) (nI mny) awa aot (bI drn) wyv rkv awk atr ase ade ala ach apa asq, aZ cZ aho 25 (bF hb), aI cI aen 80 fen, aI cI ato 40 fto, aI cI apa 25 fpa, aJ cJ asq 625 fsq] 0 0 160 := by
                        intro fuel
                        induction fuel with
                        | zero => intro e fsq he2 hR hm; exact absurd hm (Nat.not_lt_zero _)
                        | succ fuel ihLL =>
                          intro e fsq he2 hR hm
                          refine e_iload_n C d_MD_trees_160 rfl rfl ?_
                          refine e_aload_n C d_MD_trees_161 rfl rfl ?_
                          refine e_get C hin_MD 0 rfl rfl 8 (by decide) fl_MD_85 rfl d_MD_trees_162 ?_
                          refine e_icmp_ge (tgt := 291) C d_MD_trees_165 (by decide) (fun h165 => ?_) (fun h165 => ?_)
                          · -- 291
                            have heE2 : e = el.length := by have q := (nI_leI (by omega) (by omega)).mp h165; omega
                            subst heE2
                            refine e_lv [(0, .ref m)] ⟨rfl, trivial⟩ ?_
                            refine e_iconst (v := 0) C d_MD_trees_291 rfl ?_
                            refine e_istore_n C d_MD_trees_292 rfl (by decide) ?_
                            refine e_lv [(0, .ref m), (2, .int (bI false))] ⟨rfl, rfl, trivial⟩ ?_
                            refine e_iconst (v := 0) C d_MD_trees_293 rfl ?_
                            refine e_istore_n C d_MD_trees_294 rfl (by decide) ?_
                            have LP : ∀ (fuel : Nat) (p : Nat) (left : Bool) (N : Nat → Nat → Nat) (fsq : Nat → Int64), p ≤ 25 → itn (clS (w * h) hb pa) p (false, (lapN el fto pa el.length)) = (left, N) → SqR N fsq →  25 - p < fuel → E κ (lu_o [(0, .ref m), (2, .int (bI left)), (3, .int (nI p))]) [] [oMD m th kd (nI w) (nI h) aho aaw fi sc (nI el.length) aen ato (bI li) (nI mny) awa aot (bI drn) wyv rkv awk atr ase ade ala ach apa asq, aZ cZ aho 25 (bF hb), aI cI aen 80 fen, aI cI ato 40 fto, aI cI apa 25 fpa, aJ cJ asq 625 fsq] 0 0 295 := by
                              intro fuel
                              induction fuel with
                              | zero => intro p left N fsq hp hS hRp hm; exact absurd hm (Nat.not_lt_zero _)
                              | succ fuel ihLP =>
                                intro p left N fsq hp hS hRp hm
                                refine e_iload_n C d_MD_trees_295 rfl rfl ?_
                                refine e_bipush (v := 25) C d_MD_trees_296 (by decide) ?_
                                refine e_icmp_ge (tgt := 422) C d_MD_trees_298 (by decide) (fun h298 => ?_) (fun h298 => ?_)
                                · -- 422
                                  have hp25 : p = 25 := by have q := (nI_leI (a := 25) (by decide) (by omega)).mp h298; omega
                                  subst hp25
                                  have hNe : N = clF (w * h) hb pa (lapN el fto pa el.length) := by unfold clF; rw [hS]
                                  have hNl : ∀ i k, N i k ≤ 40 * 2147483646 := fun i k => by rw [hNe]; exact clS_le (by decide) (fun i k => Nat.le_trans (lapN_le el.length i k) (Nat.mul_le_mul_right _ hel)) 25 i k
                                  refine e_aload_n C d_MD_trees_422 rfl rfl ?_
                                  refine e_callV (As := []) (st := []) (wc := [oMD m th kd (nI w) (nI h) aho aaw fi sc (nI el.length) aen ato (bI li) (nI mny) awa aot (bI drn) wyv rkv awk atr ase ade ala ach apa asq, aJ cJ asq 625 fsq]) (wr := [aZ cZ aho 25 (bF hb), aI cI aen 80 fen, aI cI ato 40 fto, aI cI apa 25 fpa]) C (M_MD_determinant l D cI cJ cZ m aho aaw aen ato awa aot awk atr ase ade ala ach apa asq w h hw hh hw1 hh1 th kd fi sc el li mny drn wyv rkv (fun k => N (k / 25) (k % 25)) (fun k => by have := hNl (k / 25) (k % 25); omega) fsq (fun k hk => by have q := hRp (k / 25) (k % 25) (by omega) (by omega); rw [show 25 * (k / 25) + k % 25 = k by omega] at q; exact q) RES (by rw [← hRES3, ← hNe]; rfl)) v_MD_determinant ml_MD_147 0 rfl rfl nwW_ok ⟨Nat.le_of_ble_eq_true rfl, Nat.le_of_ble_eq_true rfl⟩ ⟨Nat.le_of_ble_eq_true rfl, Nat.le_of_ble_eq_true rfl⟩ [0, 5] [1, 2, 3, 4] rfl rfl rfl rfl (by decide) (Nat.le_of_ble_eq_true rfl) rfl d_MD_trees_423 (fun v w1 hp => ?_)
                                  obtain ⟨fsq9, rfl, rfl⟩ := hp
                                  refine e_perm (st' := [.long (lN RES)]) (ws' := [oMD m th kd (nI w) (nI h) aho aaw fi sc (nI el.length) aen ato (bI li) (nI mny) awa aot (bI drn) wyv rkv awk atr ase ade ala ach apa asq, aZ cZ aho 25 (bF hb), aI cI aen 80 fen, aI cI ato 40 fto, aI cI apa 25 fpa, aJ cJ asq 625 fsq9]) [4, 0, 1, 2, 3, 5] rfl rfl rfl ?_
                                  exact e_lret C Z (Nat.le_of_ble_eq_true rfl) (Nat.le_of_ble_eq_true rfl) (⟨fpa, fsq9, rfl, rfl⟩) d_MD_trees_426
                                · -- 301
                                  have hp25 : p < 25 := by rcases Nat.lt_or_ge p 25 with zz | zz; exact zz; exact absurd (nI_le (b := p) zz (by omega)) h298
                                  have J333 : ∀ (y333 : Int32), y333 = bI (stF (w * h) hb pa p) → E κ (lu_o [(0, .ref m), (2, .int (bI left)), (3, .int (nI p))]) [.int y333] [oMD m th kd (nI w) (nI h) aho aaw fi sc (nI el.length) aen ato (bI li) (nI mny) awa aot (bI drn) wyv rkv awk atr ase ade ala ach apa asq, aZ cZ aho 25 (bF hb), aI cI aen 80 fen, aI cI ato 40 fto, aI cI apa 25 fpa, aJ cJ asq 625 fsq] 0 0 333 := by
                                    intro y333 ey333
                                    refine e_istore C d_MD_trees_333 (by decide) ?_
                                    subst ey333
                                    refine e_lv [(0, .ref m), (2, .int (bI left)), (3, .int (nI p)), (4, .int (bI (stF (w * h) hb pa p)))] ⟨rfl, rfl, rfl, rfl, trivial⟩ ?_
                                    have J361 : ∀ (y361 : Int32), y361 = bI (left || (stF (w * h) hb pa p)) → ((stF (w * h) hb pa p) && left) = false → E κ (lu_o [(0, .ref m), (2, .int (bI left)), (3, .int (nI p)), (4, .int (bI (stF (w * h) hb pa p)))]) [.int y361] [oMD m th kd (nI w) (nI h) aho aaw fi sc (nI el.length) aen ato (bI li) (nI mny) awa aot (bI drn) wyv rkv awk atr ase ade ala ach apa asq, aZ cZ aho 25 (bF hb), aI cI aen 80 fen, aI cI ato 40 fto, aI cI apa 25 fpa, aJ cJ asq 625 fsq] 0 0 361 := by
                                      intro y361 ey361 hns
                                      refine e_istore_n C d_MD_trees_361 rfl (by decide) ?_
                                      subst ey361
                                      refine e_lv [(0, .ref m), (2, .int (bI (left || (stF (w * h) hb pa p)))), (3, .int (nI p))] ⟨rfl, rfl, rfl, trivial⟩ ?_
                                      refine e_iconst (v := 0) C d_MD_trees_362 rfl ?_
                                      refine e_istore C d_MD_trees_363 (by decide) ?_
                                      have LU : ∀ (fuel : Nat) (q : Nat) (fsq : Nat → Int64), q ≤ 25 → SqR (fun i k => if (i = p ∧ k < q) ∨ (k = p ∧ i < q) then 0 else N i k) fsq →  25 - q < fuel → E κ (lu_o [(0, .ref m), (2, .int (bI (left || (stF (w * h) hb pa p)))), (3, .int (nI p)), (5, .int (nI q))]) [] [oMD m th kd (nI w) (nI h) aho aaw fi sc (nI el.length) aen ato (bI li) (nI mny) awa aot (bI drn) wyv rkv awk atr ase ade ala ach apa asq, aZ cZ aho 25 (bF hb), aI cI aen 80 fen, aI cI ato 40 fto, aI cI apa 25 fpa, aJ cJ asq 625 fsq] 0 0 365 := by
                                        intro fuel
                                        induction fuel with
                                        | zero => intro q fsq hq hRq hm; exact absurd hm (Nat.not_lt_zero _)
                                        | succ fuel ihLU =>
                                          intro q fsq hq hRq hm
                                          refine e_iload C d_MD_trees_365 rfl ?_
                                          refine e_bipush (v := 25) C d_MD_trees_367 (by decide) ?_
                                          refine e_icmp_ge (tgt := 404) C d_MD_trees_369 (by decide) (fun h369 => ?_) (fun h369 => ?_)
                                          · -- 404
                                            have hq25 : 25 ≤ q := (nI_leI (a := 25) (by decide) (by omega)).mp h369
                                            refine e_aload_n C d_MD_trees_404 rfl rfl ?_
                                            refine e_get C hin_MD 0 rfl rfl 25 (by decide) fl_MD_59 rfl d_MD_trees_405 ?_
                                            refine e_bipush (v := 25) C d_MD_trees_408 (by decide) ?_
                                            refine e_iload_n C d_MD_trees_410 rfl rfl ?_
                                            refine e_imul C d_MD_trees_411 ?_
                                            refine e_iload_n C d_MD_trees_412 rfl rfl ?_
                                            refine e_iadd C d_MD_trees_413 ?_
                                            refine e_st [.int (nI (25 * p + p)), .ref asq] (by rw [show (25 : Int32) * nI p = nI (25 * p) from pk_mul 25 p, nI_add]) ?_
                                            refine e_lconst (v := 1) C d_MD_trees_414 rfl ?_
                                            refine e_st [.long (lN 1), .int (nI (25 * p + p)), .ref asq] (by rfl) ?_
                                            refine e_last C 5 1 rfl rfl (vp_in_nI (by omega) (by omega)) d_MD_trees_415 ?_
                                            refine e_ws [oMD m th kd (nI w) (nI h) aho aaw fi sc (nI el.length) aen ato (bI li) (nI mny) awa aot (bI drn) wyv rkv awk atr ase ade ala ach apa asq, aZ cZ aho 25 (bF hb), aI cI aen 80 fen, aI cI ato 40 fto, aI cI apa 25 fpa, aJ cJ asq 625 (vp_updL fsq (25 * p + p) (lN 1))] (by rw [nI_clamp (by omega)]; rfl) ?_
                                            have hRn : SqR (unM N p) (vp_updL fsq (25 * p + p) (lN 1)) := SqR_congr (SqR_upd (i := p) (k := p) (v := 1) hRq hp25) (fun i k hi hk => by
                                              unfold upM unM; dsimp only
                                              by_cases u1 : i = p ∧ k = p
                                              · rw [if_pos u1, if_pos (by omega), if_pos (by omega)]
                                              · rw [if_neg u1]
                                                by_cases u2 : i = p ∨ k = p
                                                · rw [if_pos (by omega), if_pos u2, if_neg (by omega)]
                                                · rw [if_neg (by omega), if_neg u2])
                                            refine e_iinc (v := (nI p) + 1) C d_MD_trees_416 rfl rfl (by decide) ?_
                                            refine e_goto (tgt := 295) C d_MD_trees_419 (by decide) ?_
                                            refine e_lv [(0, .ref m), (2, .int (bI (left || (stF (w * h) hb pa p)))), (3, .int (nI (p + 1)))] ⟨rfl, rfl, congrArg (fun z => some (Value.int z)) (nI_1 p), trivial⟩ ?_
                                            refine e_ws [oMD m th kd (nI w) (nI h) aho aaw fi sc (nI el.length) aen ato (bI li) (nI mny) awa aot (bI drn) wyv rkv awk atr ase ade ala ach apa asq, aZ cZ aho 25 (bF hb), aI cI aen 80 fen, aI cI ato 40 fto, aI cI apa 25 fpa, aJ cJ asq 625 (vp_updL fsq (25 * p + p) (lN 1))] rfl ?_
                                            exact ihLP (p + 1) (left || (stF (w * h) hb pa p)) (unM N p) _ (by omega) (by show clS _ _ _ p (itn _ p _) = _; rw [hS]; unfold clS; rw [if_neg (by rw [hns]; decide)]) hRn (by omega)
                                          · -- 372
                                            have hq25 : q < 25 := by rcases Nat.lt_or_ge q 25 with zz | zz; exact zz; exact absurd (nI_le (b := q) zz (by omega)) h369
                                            refine e_aload_n C d_MD_trees_372 rfl rfl ?_
                                            refine e_get C hin_MD 0 rfl rfl 25 (by decide) fl_MD_59 rfl d_MD_trees_373 ?_
                                            refine e_bipush (v := 25) C d_MD_trees_376 (by decide) ?_
                                            refine e_iload_n C d_MD_trees_378 rfl rfl ?_
                                            refine e_imul C d_MD_trees_379 ?_
                                            refine e_iload C d_MD_trees_380 rfl ?_
                                            refine e_iadd C d_MD_trees_382 ?_
                                            refine e_st [.int (nI (25 * p + q)), .ref asq] (by rw [show (25 : Int32) * nI p = nI (25 * p) from pk_mul 25 p, nI_add]) ?_
                                            refine e_lconst (v := 0) C d_MD_trees_383 rfl ?_
                                            refine e_st [.long (lN 0), .int (nI (25 * p + q)), .ref asq] (by rfl) ?_
                                            refine e_last C 5 1 rfl rfl (vp_in_nI (by omega) (by omega)) d_MD_trees_384 ?_
                                            refine e_ws [oMD m th kd (nI w) (nI h) aho aaw fi sc (nI el.length) aen ato (bI li) (nI mny) awa aot (bI drn) wyv rkv awk atr ase ade ala ach apa asq, aZ cZ aho 25 (bF hb), aI cI aen 80 fen, aI cI ato 40 fto, aI cI apa 25 fpa, aJ cJ asq 625 (vp_updL fsq (25 * p + q) (lN 0))] (by rw [nI_clamp (by omega)]; rfl) ?_
                                            refine e_aload_n C d_MD_trees_385 rfl rfl ?_
                                            refine e_get C hin_MD 0 rfl rfl 25 (by decide) fl_MD_59 rfl d_MD_trees_386 ?_
                                            refine e_bipush (v := 25) C d_MD_trees_389 (by decide) ?_
                                            refine e_iload C d_MD_trees_391 rfl ?_
                                            refine e_imul C d_MD_trees_393 ?_
                                            refine e_iload_n C d_MD_trees_394 rfl rfl ?_
                                            refine e_iadd C d_MD_trees_395 ?_
                                            refine e_st [.int (nI (25 * q + p)), .ref asq] (by rw [show (25 : Int32) * nI q = nI (25 * q) from pk_mul 25 q, nI_add]) ?_
                                            refine e_lconst (v := 0) C d_MD_trees_396 rfl ?_
                                            refine e_st [.long (lN 0), .int (nI (25 * q + p)), .ref asq] (by rfl) ?_
                                            refine e_last C 5 1 rfl rfl (vp_in_nI (by omega) (by omega)) d_MD_trees_397 ?_
                                            refine e_ws [oMD m th kd (nI w) (nI h) aho aaw fi sc (nI el.length) aen ato (bI li) (nI mny) awa aot (bI drn) wyv rkv awk atr ase ade ala ach apa asq, aZ cZ aho 25 (bF hb), aI cI aen 80 fen, aI cI ato 40 fto, aI cI apa 25 fpa, aJ cJ asq 625 (vp_updL (vp_updL fsq (25 * p + q) (lN 0)) (25 * q + p) (lN 0))] (by rw [nI_clamp (by omega)]; rfl) ?_
                                            refine e_iinc (v := (nI q) + 1) C d_MD_trees_398 rfl rfl (by decide) ?_
                                            refine e_goto (tgt := 365) C d_MD_trees_401 (by decide) ?_
                                            refine e_lv [(0, .ref m), (2, .int (bI (left || (stF (w * h) hb pa p)))), (3, .int (nI p)), (5, .int (nI (q + 1)))] ⟨rfl, rfl, rfl, congrArg (fun z => some (Value.int z)) (nI_1 q), trivial⟩ ?_
                                            refine e_ws [oMD m th kd (nI w) (nI h) aho aaw fi sc (nI el.length) aen ato (bI li) (nI mny) awa aot (bI drn) wyv rkv awk atr ase ade ala ach apa asq, aZ cZ aho 25 (bF hb), aI cI aen 80 fen, aI cI ato 40 fto, aI cI apa 25 fpa, aJ cJ asq 625 (vp_updL (vp_updL fsq (25 * p + q) (lN 0)) (25 * q + p) (lN 0))] rfl ?_
                                            exact ihLU (q + 1) _ (by omega) (SqR_congr (SqR_upd (i := q) (k := p) (v := 0) (SqR_upd (i := p) (k := q) (v := 0) hRq hq25) hp25) (fun i k hi hk => by
                                              unfold upM; dsimp only
                                              by_cases u1 : i = q ∧ k = p
                                              · rw [if_pos u1, if_pos (by omega)]
                                              · rw [if_neg u1]
                                                by_cases u2 : i = p ∧ k = q
                                                · rw [if_pos u2, if_pos (by omega)]
                                                · rw [if_neg u2]
                                                  by_cases u3 : (i = p ∧ k < q) ∨ (k = p ∧ i < q)
                                                  · rw [if_pos u3, if_pos (by omega)]
                                                  · rw [if_neg u3, if_neg (by omega)])) (by omega)
                                      refine e_lv [(0, .ref m), (2, .int (bI (left || (stF (w * h) hb pa p)))), (3, .int (nI p)), (5, .int (nI 0))] ⟨rfl, rfl, rfl, rfl, trivial⟩ ?_
                                      refine e_ws [oMD m th kd (nI w) (nI h) aho aaw fi sc (nI el.length) aen ato (bI li) (nI mny) awa aot (bI drn) wyv rkv awk atr ase ade ala ach apa asq, aZ cZ aho 25 (bF hb), aI cI aen 80 fen, aI cI ato 40 fto, aI cI apa 25 fpa, aJ cJ asq 625 fsq] rfl ?_
                                      exact LU _ 0 fsq (Nat.zero_le _) (SqR_congr hRp (fun i k hi hk => by rw [if_neg (by omega)])) (Nat.lt_succ_self _)
                                    refine e_iload C d_MD_trees_335 rfl ?_
                                    refine e_if_eq (tgt := 347) C d_MD_trees_337 (by decide) (fun h337 => ?_) (fun h337 => ?_)
                                    · -- 347
                                      refine e_iload_n C d_MD_trees_347 rfl rfl ?_
                                      refine e_if_ne (tgt := 356) C d_MD_trees_348 (by decide) (fun h348 => ?_) (fun h348 => ?_)
                                      · -- 356
                                        refine e_iconst (v := 1) C d_MD_trees_356 rfl ?_
                                        refine e_goto (tgt := 361) C d_MD_trees_357 (by decide) ?_
                                        refine e_lv [(0, .ref m), (2, .int (bI left)), (3, .int (nI p)), (4, .int (bI (stF (w * h) hb pa p)))] ⟨rfl, rfl, rfl, rfl, trivial⟩ ?_
                                        exact J361 1 (by (try simp only [bI_eq0, Bool.not_eq_false] at h337 h348); simp [h337, h348, bI]) (by (try simp only [bI_eq0, Bool.not_eq_false] at h337 h348); simp [h337, h348])
                                      · -- 351
                                        refine e_iload C d_MD_trees_351 rfl ?_
                                        refine e_if_eq (tgt := 360) C d_MD_trees_353 (by decide) (fun h353 => ?_) (fun h353 => ?_)
                                        · -- 360
                                          refine e_iconst (v := 0) C d_MD_trees_360 rfl ?_
                                          refine e_lv [(0, .ref m), (2, .int (bI left)), (3, .int (nI p)), (4, .int (bI (stF (w * h) hb pa p)))] ⟨rfl, rfl, rfl, rfl, trivial⟩ ?_
                                          exact J361 0 (by (try simp only [bI_eq0, Bool.not_eq_false] at h337 h348 h353); simp [h337, h348, h353, bI]) (by (try simp only [bI_eq0, Bool.not_eq_false] at h337 h348 h353); simp [h337, h348, h353])
                                        · exact absurd h337 h353
                                    · -- 340
                                      refine e_iload_n C d_MD_trees_340 rfl rfl ?_
                                      refine e_if_eq (tgt := 347) C d_MD_trees_341 (by decide) (fun h341 => ?_) (fun h341 => ?_)
                                      · -- 347
                                        refine e_iload_n C d_MD_trees_347 rfl rfl ?_
                                        refine e_if_ne (tgt := 356) C d_MD_trees_348 (by decide) (fun h348 => ?_) (fun h348 => ?_)
                                        · exact absurd h341 h348
                                        · -- 351
                                          refine e_iload C d_MD_trees_351 rfl ?_
                                          refine e_if_eq (tgt := 360) C d_MD_trees_353 (by decide) (fun h353 => ?_) (fun h353 => ?_)
                                          · exact absurd h353 h337
                                          · -- 356
                                            refine e_iconst (v := 1) C d_MD_trees_356 rfl ?_
                                            refine e_goto (tgt := 361) C d_MD_trees_357 (by decide) ?_
                                            refine e_lv [(0, .ref m), (2, .int (bI left)), (3, .int (nI p)), (4, .int (bI (stF (w * h) hb pa p)))] ⟨rfl, rfl, rfl, rfl, trivial⟩ ?_
                                            exact J361 1 (by (try simp only [bI_eq0, Bool.not_eq_false] at h337 h341 h348 h353); simp [h337, h341, h348, h353, bI]) (by (try simp only [bI_eq0, Bool.not_eq_false] at h337 h341 h348 h353); simp [h337, h341, h348, h353])
                                      · -- 344
                                        refine e_goto (tgt := 416) C d_MD_trees_344 (by decide) ?_
                                        refine e_iinc (v := (nI p) + 1) C d_MD_trees_416 rfl rfl (by decide) ?_
                                        refine e_goto (tgt := 295) C d_MD_trees_419 (by decide) ?_
                                        refine e_lv [(0, .ref m), (2, .int (bI left)), (3, .int (nI (p + 1)))] ⟨rfl, rfl, congrArg (fun z => some (Value.int z)) (nI_1 p), trivial⟩ ?_
                                        refine e_ws [oMD m th kd (nI w) (nI h) aho aaw fi sc (nI el.length) aen ato (bI li) (nI mny) awa aot (bI drn) wyv rkv awk atr ase ade ala ach apa asq, aZ cZ aho 25 (bF hb), aI cI aen 80 fen, aI cI ato 40 fto, aI cI apa 25 fpa, aJ cJ asq 625 fsq] rfl ?_
                                        exact ihLP (p + 1) left N _ (by omega) (by show clS _ _ _ p (itn _ p _) = _; rw [hS]; unfold clS; rw [if_pos (by simp only [bI_eq0, Bool.not_eq_false] at h337 h341; rw [h337, h341]; rfl)]) hRp (by omega)
                                  refine e_iload_n C d_MD_trees_301 rfl rfl ?_
                                  refine e_aload_n C d_MD_trees_302 rfl rfl ?_
                                  refine e_callV (As := []) (st := [.int (nI p)]) (wc := [oMD m th kd (nI w) (nI h) aho aaw fi sc (nI el.length) aen ato (bI li) (nI mny) awa aot (bI drn) wyv rkv awk atr ase ade ala ach apa asq]) (wr := [aZ cZ aho 25 (bF hb), aI cI aen 80 fen, aI cI ato 40 fto, aI cI apa 25 fpa, aJ cJ asq 625 fsq]) C (M_MD_places l D cI cJ cZ m aho aaw aen ato awa aot awk atr ase ade ala ach apa asq w h hw hh hw1 hh1 th kd fi sc el li mny drn wyv rkv) v_MD_places ml_MD_81 0 rfl rfl nwW_ok ⟨Nat.le_of_ble_eq_true rfl, Nat.le_of_ble_eq_true rfl⟩ ⟨Nat.le_of_ble_eq_true rfl, Nat.le_of_ble_eq_true rfl⟩ [0] [1, 2, 3, 4, 5] rfl rfl rfl rfl (by decide) (Nat.le_of_ble_eq_true rfl) rfl d_MD_trees_303 (fun v w1 hp => ?_)
                                  obtain ⟨rfl, rfl⟩ := hp
                                  refine e_perm (st' := [.int (nI (w * h)), .int (nI p)]) (ws' := [oMD m th kd (nI w) (nI h) aho aaw fi sc (nI el.length) aen ato (bI li) (nI mny) awa aot (bI drn) wyv rkv awk atr ase ade ala ach apa asq, aZ cZ aho 25 (bF hb), aI cI aen 80 fen, aI cI ato 40 fto, aI cI apa 25 fpa, aJ cJ asq 625 fsq]) [5, 0, 1, 2, 3, 4] rfl rfl rfl ?_
                                  refine e_icmp_ge (tgt := 332) C d_MD_trees_306 (by decide) (fun h306 => ?_) (fun h306 => ?_)
                                  · -- 332
                                    refine e_iconst (v := 0) C d_MD_trees_332 rfl ?_
                                    refine e_lv [(0, .ref m), (2, .int (bI left)), (3, .int (nI p))] ⟨rfl, rfl, rfl, trivial⟩ ?_
                                    exact J333 0 (by unfold stF; rw [decide_eq_false (show ¬ p < w * h from by have q := (nI_leI (by omega) (by omega)).mp h306; omega)]; rfl)
                                  · -- 309
                                    refine e_aload_n C d_MD_trees_309 rfl rfl ?_
                                    refine e_get C hin_MD 0 rfl rfl 4 (by decide) fl_MD_7 rfl d_MD_trees_310 ?_
                                    refine e_iload_n C d_MD_trees_313 rfl rfl ?_
                                    refine e_zald C 1 2 rfl rfl (vp_in_nI (by omega) (by omega)) d_MD_trees_314 ?_
                                    refine e_st [.int (bI (hb p))] (by rw [nI_clamp (by omega)]; rfl) ?_
                                    refine e_if_ne (tgt := 332) C d_MD_trees_315 (by decide) (fun h315 => ?_) (fun h315 => ?_)
                                    · -- 332
                                      refine e_iconst (v := 0) C d_MD_trees_332 rfl ?_
                                      refine e_lv [(0, .ref m), (2, .int (bI left)), (3, .int (nI p))] ⟨rfl, rfl, rfl, trivial⟩ ?_
                                      exact J333 0 (by unfold stF; rw [(show hb p = true from by simp only [bI_eq0, Bool.not_eq_false] at h315; exact h315)]; simp [bI])
                                    · -- 318
                                      refine e_aload_n C d_MD_trees_318 rfl rfl ?_
                                      refine e_get C hin_MD 0 rfl rfl 24 (by decide) fl_MD_56 rfl d_MD_trees_319 ?_
                                      refine e_iload_n C d_MD_trees_322 rfl rfl ?_
                                      refine e_iald C 4 0 rfl rfl (vp_in_nI (by omega) (by omega)) d_MD_trees_323 ?_
                                      refine e_st [.int (fpa p)] (by rw [nI_clamp (by omega)]) ?_
                                      refine e_st [.int (nI (pa p))] (by rw [(hpa p hp25).1]) ?_
                                      refine e_iload_n C d_MD_trees_324 rfl rfl ?_
                                      refine e_icmp_ne (tgt := 332) C d_MD_trees_325 (by decide) (fun h325 => ?_) (fun h325 => ?_)
                                      · -- 332
                                        refine e_iconst (v := 0) C d_MD_trees_332 rfl ?_
                                        refine e_lv [(0, .ref m), (2, .int (bI left)), (3, .int (nI p))] ⟨rfl, rfl, rfl, trivial⟩ ?_
                                        exact J333 0 (by unfold stF; rw [decide_eq_true (show p < w * h from (by rcases Nat.lt_or_ge p (w * h) with q | q; exact q; exact absurd (nI_le q (by omega)) h306)), (show hb p = false from by simp only [bI_eq0] at h315; exact h315)]; (first | rw [decide_eq_true (show pa p = p from (nI_eq (by have := (hpa p hp25).2; omega) (by omega)).mp h325)] | rw [decide_eq_false (show ¬ pa p = p from fun z => h325 (by rw [z]))]); rfl)
                                      · -- 328
                                        refine e_iconst (v := 1) C d_MD_trees_328 rfl ?_
                                        refine e_goto (tgt := 333) C d_MD_trees_329 (by decide) ?_
                                        refine e_lv [(0, .ref m), (2, .int (bI left)), (3, .int (nI p))] ⟨rfl, rfl, rfl, trivial⟩ ?_
                                        exact J333 1 (by unfold stF; rw [decide_eq_true (show p < w * h from (by rcases Nat.lt_or_ge p (w * h) with q | q; exact q; exact absurd (nI_le q (by omega)) h306)), (show hb p = false from by simp only [bI_eq0] at h315; exact h315)]; (first | rw [decide_eq_true (show pa p = p from (nI_eq (by have := (hpa p hp25).2; omega) (by omega)).mp h325)] | rw [decide_eq_false (show ¬ pa p = p from fun z => h325 (by rw [z]))]); rfl)
                            refine e_lv [(0, .ref m), (2, .int (bI false)), (3, .int (nI 0))] ⟨rfl, rfl, rfl, trivial⟩ ?_
                            refine e_ws [oMD m th kd (nI w) (nI h) aho aaw fi sc (nI el.length) aen ato (bI li) (nI mny) awa aot (bI drn) wyv rkv awk atr ase ade ala ach apa asq, aZ cZ aho 25 (bF hb), aI cI aen 80 fen, aI cI ato 40 fto, aI cI apa 25 fpa, aJ cJ asq 625 fsq] rfl ?_
                            exact LP _ 0 false (lapN el fto pa el.length) fsq (Nat.zero_le _) rfl hR (Nat.lt_succ_self _)
                          · -- 168
                            have heE : e < el.length := by rcases Nat.lt_or_ge (e) el.length with q | q; exact q; exact absurd (nI_le q (by omega)) h165
                            obtain ⟨⟨x, y⟩, hsv⟩ : ∃ q, el[e]? = some q := ⟨_, List.getElem?_eq_getElem heE⟩
                            have hab := hev _ _ _ hsv
                            have hxa := hpa x hab.1
                            have hya := hpa y hab.2.1
                            refine e_aload_n C d_MD_trees_168 rfl rfl ?_
                            refine e_get C hin_MD 0 rfl rfl 24 (by decide) fl_MD_56 rfl d_MD_trees_169 ?_
                            refine e_aload_n C d_MD_trees_172 rfl rfl ?_
                            refine e_get C hin_MD 0 rfl rfl 9 (by decide) fl_MD_23 rfl d_MD_trees_173 ?_
                            refine e_iconst (v := 2) C d_MD_trees_176 rfl ?_
                            refine e_iload_n C d_MD_trees_177 rfl rfl ?_
                            refine e_imul C d_MD_trees_178 ?_
                            refine e_st [.int (nI (2 * e)), .ref aen, .ref apa] (by rw [show (2 : Int32) * nI e = nI (2 * e) from pk_mul 2 e]) ?_
                            refine e_iald C 2 0 rfl rfl (vp_in_nI (by omega) (by omega)) d_MD_trees_179 ?_
                            refine e_st [.int (fen (2 * e)), .ref apa] (by rw [nI_clamp (by omega)]) ?_
                            refine e_st [.int (nI x), .ref apa] (by rw [(hen e x y hsv).1]) ?_
                            refine e_iald C 4 0 rfl rfl (vp_in_nI (by omega) (by omega)) d_MD_trees_180 ?_
                            refine e_st [.int (fpa x)] (by rw [nI_clamp (by omega)]) ?_
                            refine e_st [.int (nI (pa x))] (by rw [hxa.1]) ?_
                            refine e_istore_n C d_MD_trees_181 rfl (by decide) ?_
                            refine e_aload_n C d_MD_trees_182 rfl rfl ?_
                            refine e_get C hin_MD 0 rfl rfl 24 (by decide) fl_MD_56 rfl d_MD_trees_183 ?_
                            refine e_aload_n C d_MD_trees_186 rfl rfl ?_
                            refine e_get C hin_MD 0 rfl rfl 9 (by decide) fl_MD_23 rfl d_MD_trees_187 ?_
                            refine e_iconst (v := 2) C d_MD_trees_190 rfl ?_
                            refine e_iload_n C d_MD_trees_191 rfl rfl ?_
                            refine e_imul C d_MD_trees_192 ?_
                            refine e_iconst (v := 1) C d_MD_trees_193 rfl ?_
                            refine e_iadd C d_MD_trees_194 ?_
                            refine e_st [.int (nI (2 * e + 1)), .ref aen, .ref apa] (by rw [show (2 : Int32) * nI e = nI (2 * e) from pk_mul 2 e, nI_1]) ?_
                            refine e_iald C 2 0 rfl rfl (vp_in_nI (by omega) (by omega)) d_MD_trees_195 ?_
                            refine e_st [.int (fen (2 * e + 1)), .ref apa] (by rw [nI_clamp (by omega)]) ?_
                            refine e_st [.int (nI y), .ref apa] (by rw [(hen e x y hsv).2]) ?_
                            refine e_iald C 4 0 rfl rfl (vp_in_nI (by omega) (by omega)) d_MD_trees_196 ?_
                            refine e_st [.int (fpa y)] (by rw [nI_clamp (by omega)]) ?_
                            refine e_st [.int (nI (pa y))] (by rw [hya.1]) ?_
                            refine e_istore C d_MD_trees_197 (by decide) ?_
                            refine e_aload_n C d_MD_trees_199 rfl rfl ?_
                            refine e_get C hin_MD 0 rfl rfl 10 (by decide) fl_MD_27 rfl d_MD_trees_200 ?_
                            refine e_iload_n C d_MD_trees_203 rfl rfl ?_
                            refine e_iald C 3 0 rfl rfl (vp_in_nI (by omega) (by omega)) d_MD_trees_204 ?_
                            refine e_st [.int (fto e)] (by rw [nI_clamp (by omega)]) ?_
                            refine e_if_ne (tgt := 285) C d_MD_trees_205 (by decide) (fun h205 => ?_) (fun h205 => ?_)
                            · -- 285
                              refine e_iinc (v := (nI e) + 1) C d_MD_trees_285 rfl rfl (by decide) ?_
                              refine e_goto (tgt := 160) C d_MD_trees_288 (by decide) ?_
                              refine e_lv [(0, .ref m), (2, .int (nI (e + 1)))] ⟨rfl, congrArg (fun z => some (Value.int z)) (nI_1 e), trivial⟩ ?_
                              refine e_ws [oMD m th kd (nI w) (nI h) aho aaw fi sc (nI el.length) aen ato (bI li) (nI mny) awa aot (bI drn) wyv rkv awk atr ase ade ala ach apa asq, aZ cZ aho 25 (bF hb), aI cI aen 80 fen, aI cI ato 40 fto, aI cI apa 25 fpa, aJ cJ asq 625 fsq] rfl ?_
                              exact ihLL (e + 1) _ (by omega) (by show SqR (lapN el fto pa (e + 1)) _; unfold lapN; rw [hsv]; show SqR (if fto e = 0 then (if pa x = pa y then lapN el fto pa e else adE (lapN el fto pa e) (pa x) (pa y)) else lapN el fto pa e) _; rw [if_neg h205]; exact hR) (by omega)
                            · -- 208
                              refine e_iload_n C d_MD_trees_208 rfl rfl ?_
                              refine e_iload C d_MD_trees_209 rfl ?_
                              refine e_icmp_ne (tgt := 217) C d_MD_trees_211 (by decide) (fun h211 => ?_) (fun h211 => ?_)
                              · -- 217
                                have hxy : ¬ pa x = pa y := fun z => h211 (by rw [z])
                                obtain ⟨N, hN⟩ : ∃ N, N = lapN el fto pa e := ⟨_, rfl⟩
                                obtain ⟨a, ha⟩ : ∃ a, a = pa x := ⟨_, rfl⟩
                                obtain ⟨b, hb2⟩ : ∃ b, b = pa y := ⟨_, rfl⟩
                                have hR2 : SqR N fsq := by rw [hN]; exact hR
                                have ha25 : a < 25 := by rw [ha]; exact hxa.2
                                have hb25 : b < 25 := by rw [hb2]; exact hya.2
                                have hne : ¬ a = b := by rw [ha, hb2]; exact hxy
                                refine e_lv [(0, .ref m), (2, .int (nI e)), (3, .int (nI a)), (4, .int (nI b))] ⟨rfl, rfl, by rw [ha]; rfl, by rw [hb2]; rfl, trivial⟩ ?_
                                refine e_aload_n C d_MD_trees_217 rfl rfl ?_
                                refine e_get C hin_MD 0 rfl rfl 25 (by decide) fl_MD_59 rfl d_MD_trees_218 ?_
                                refine e_bipush (v := 25) C d_MD_trees_221 (by decide) ?_
                                refine e_iload_n C d_MD_trees_223 rfl rfl ?_
                                refine e_imul C d_MD_trees_224 ?_
                                refine e_iload_n C d_MD_trees_225 rfl rfl ?_
                                refine e_iadd C d_MD_trees_226 ?_
                                refine e_st [.int (nI (25 * a + a)), .ref asq] (by rw [show (25 : Int32) * nI a = nI (25 * a) from pk_mul 25 a, nI_add]) ?_
                                refine e_dup2_11 C d_MD_trees_227 rfl rfl ?_
                                refine e_lald C 5 1 rfl rfl (vp_in_nI (by omega) (by omega)) d_MD_trees_228 ?_
                                refine e_st [.long (fsq (25 * a + a)), .int (nI (25 * a + a)), .ref asq] (by rw [nI_clamp (by omega)]) ?_
                                refine e_st [.long (lN (N a a)), .int (nI (25 * a + a)), .ref asq] (by rw [hR2 a a ha25 ha25]) ?_
                                refine e_lconst (v := 1) C d_MD_trees_229 rfl ?_
                                refine e_ladd C d_MD_trees_230 ?_
                                refine e_st [.long (lN (N a a + 1)), .int (nI (25 * a + a)), .ref asq] (by rw [lN_1]) ?_
                                refine e_last C 5 1 rfl rfl (vp_in_nI (by omega) (by omega)) d_MD_trees_231 ?_
                                refine e_ws [oMD m th kd (nI w) (nI h) aho aaw fi sc (nI el.length) aen ato (bI li) (nI mny) awa aot (bI drn) wyv rkv awk atr ase ade ala ach apa asq, aZ cZ aho 25 (bF hb), aI cI aen 80 fen, aI cI ato 40 fto, aI cI apa 25 fpa, aJ cJ asq 625 (vp_updL fsq (25 * a + a) (lN (N a a + 1)))] (by rw [nI_clamp (by omega)]; rfl) ?_
                                have hRa := SqR_upd (i := a) (k := a) (v := N a a + 1) hR2 ha25
                                refine e_aload_n C d_MD_trees_232 rfl rfl ?_
                                refine e_get C hin_MD 0 rfl rfl 25 (by decide) fl_MD_59 rfl d_MD_trees_233 ?_
                                refine e_bipush (v := 25) C d_MD_trees_236 (by decide) ?_
                                refine e_iload C d_MD_trees_238 rfl ?_
                                refine e_imul C d_MD_trees_240 ?_
                                refine e_iload C d_MD_trees_241 rfl ?_
                                refine e_iadd C d_MD_trees_243 ?_
                                refine e_st [.int (nI (25 * b + b)), .ref asq] (by rw [show (25 : Int32) * nI b = nI (25 * b) from pk_mul 25 b, nI_add]) ?_
                                refine e_dup2_11 C d_MD_trees_244 rfl rfl ?_
                                refine e_lald C 5 1 rfl rfl (vp_in_nI (by omega) (by omega)) d_MD_trees_245 ?_
                                refine e_st [.long ((vp_updL fsq (25 * a + a) (lN (N a a + 1))) (25 * b + b)), .int (nI (25 * b + b)), .ref asq] (by rw [nI_clamp (by omega)]) ?_
                                refine e_st [.long (lN (N b b)), .int (nI (25 * b + b)), .ref asq] (by rw [hRa b b hb25 hb25]; unfold upM; rw [if_neg (fun z => hne z.1.symm)]) ?_
                                refine e_lconst (v := 1) C d_MD_trees_246 rfl ?_
                                refine e_ladd C d_MD_trees_247 ?_
                                refine e_st [.long (lN (N b b + 1)), .int (nI (25 * b + b)), .ref asq] (by rw [lN_1]) ?_
                                refine e_last C 5 1 rfl rfl (vp_in_nI (by omega) (by omega)) d_MD_trees_248 ?_
                                refine e_ws [oMD m th kd (nI w) (nI h) aho aaw fi sc (nI el.length) aen ato (bI li) (nI mny) awa aot (bI drn) wyv rkv awk atr ase ade ala ach apa asq, aZ cZ aho 25 (bF hb), aI cI aen 80 fen, aI cI ato 40 fto, aI cI apa 25 fpa, aJ cJ asq 625 (vp_updL (vp_updL fsq (25 * a + a) (lN (N a a + 1))) (25 * b + b) (lN (N b b + 1)))] (by rw [nI_clamp (by omega)]; rfl) ?_
                                have hRb := SqR_upd (i := b) (k := b) (v := N b b + 1) hRa hb25
                                refine e_aload_n C d_MD_trees_249 rfl rfl ?_
                                refine e_get C hin_MD 0 rfl rfl 25 (by decide) fl_MD_59 rfl d_MD_trees_250 ?_
                                refine e_bipush (v := 25) C d_MD_trees_253 (by decide) ?_
                                refine e_iload_n C d_MD_trees_255 rfl rfl ?_
                                refine e_imul C d_MD_trees_256 ?_
                                refine e_iload C d_MD_trees_257 rfl ?_
                                refine e_iadd C d_MD_trees_259 ?_
                                refine e_st [.int (nI (25 * a + b)), .ref asq] (by rw [show (25 : Int32) * nI a = nI (25 * a) from pk_mul 25 a, nI_add]) ?_
                                refine e_dup2_11 C d_MD_trees_260 rfl rfl ?_
                                refine e_lald C 5 1 rfl rfl (vp_in_nI (by omega) (by omega)) d_MD_trees_261 ?_
                                refine e_st [.long ((vp_updL (vp_updL fsq (25 * a + a) (lN (N a a + 1))) (25 * b + b) (lN (N b b + 1))) (25 * a + b)), .int (nI (25 * a + b)), .ref asq] (by rw [nI_clamp (by omega)]) ?_
                                refine e_st [.long (lN (N a b)), .int (nI (25 * a + b)), .ref asq] (by rw [hRb a b ha25 hb25]; unfold upM; rw [if_neg (fun z => hne z.1), if_neg (fun z => hne z.2.symm)]) ?_
                                refine e_ldc2 C kl_MD_145 d_MD_trees_262 ?_
                                refine e_ladd C d_MD_trees_265 ?_
                                refine e_st [.long (lN (N a b + 2147483646)), .int (nI (25 * a + b)), .ref asq] (by rw [show (2147483646 : Int64) = lN 2147483646 from rfl, lN_add]) ?_
                                refine e_last C 5 1 rfl rfl (vp_in_nI (by omega) (by omega)) d_MD_trees_266 ?_
                                refine e_ws [oMD m th kd (nI w) (nI h) aho aaw fi sc (nI el.length) aen ato (bI li) (nI mny) awa aot (bI drn) wyv rkv awk atr ase ade ala ach apa asq, aZ cZ aho 25 (bF hb), aI cI aen 80 fen, aI cI ato 40 fto, aI cI apa 25 fpa, aJ cJ asq 625 (vp_updL (vp_updL (vp_updL fsq (25 * a + a) (lN (N a a + 1))) (25 * b + b) (lN (N b b + 1))) (25 * a + b) (lN (N a b + 2147483646)))] (by rw [nI_clamp (by omega)]; rfl) ?_
                                have hRc := SqR_upd (i := a) (k := b) (v := N a b + 2147483646) hRb hb25
                                refine e_aload_n C d_MD_trees_267 rfl rfl ?_
                                refine e_get C hin_MD 0 rfl rfl 25 (by decide) fl_MD_59 rfl d_MD_trees_268 ?_
                                refine e_bipush (v := 25) C d_MD_trees_271 (by decide) ?_
                                refine e_iload C d_MD_trees_273 rfl ?_
                                refine e_imul C d_MD_trees_275 ?_
                                refine e_iload_n C d_MD_trees_276 rfl rfl ?_
                                refine e_iadd C d_MD_trees_277 ?_
                                refine e_st [.int (nI (25 * b + a)), .ref asq] (by rw [show (25 : Int32) * nI b = nI (25 * b) from pk_mul 25 b, nI_add]) ?_
                                refine e_dup2_11 C d_MD_trees_278 rfl rfl ?_
                                refine e_lald C 5 1 rfl rfl (vp_in_nI (by omega) (by omega)) d_MD_trees_279 ?_
                                refine e_st [.long ((vp_updL (vp_updL (vp_updL fsq (25 * a + a) (lN (N a a + 1))) (25 * b + b) (lN (N b b + 1))) (25 * a + b) (lN (N a b + 2147483646))) (25 * b + a)), .int (nI (25 * b + a)), .ref asq] (by rw [nI_clamp (by omega)]) ?_
                                refine e_st [.long (lN (N b a)), .int (nI (25 * b + a)), .ref asq] (by rw [hRc b a hb25 ha25]; unfold upM; rw [if_neg (fun z => hne z.2), if_neg (fun z => hne z.2), if_neg (fun z => hne z.1.symm)]) ?_
                                refine e_ldc2 C kl_MD_145 d_MD_trees_280 ?_
                                refine e_ladd C d_MD_trees_283 ?_
                                refine e_st [.long (lN (N b a + 2147483646)), .int (nI (25 * b + a)), .ref asq] (by rw [show (2147483646 : Int64) = lN 2147483646 from rfl, lN_add]) ?_
                                refine e_last C 5 1 rfl rfl (vp_in_nI (by omega) (by omega)) d_MD_trees_284 ?_
                                refine e_ws [oMD m th kd (nI w) (nI h) aho aaw fi sc (nI el.length) aen ato (bI li) (nI mny) awa aot (bI drn) wyv rkv awk atr ase ade ala ach apa asq, aZ cZ aho 25 (bF hb), aI cI aen 80 fen, aI cI ato 40 fto, aI cI apa 25 fpa, aJ cJ asq 625 (vp_updL (vp_updL (vp_updL (vp_updL fsq (25 * a + a) (lN (N a a + 1))) (25 * b + b) (lN (N b b + 1))) (25 * a + b) (lN (N a b + 2147483646))) (25 * b + a) (lN (N b a + 2147483646)))] (by rw [nI_clamp (by omega)]; rfl) ?_
                                have hRd : SqR (adE (lapN el fto pa e) (pa x) (pa y)) (vp_updL (vp_updL (vp_updL (vp_updL fsq (25 * a + a) (lN (N a a + 1))) (25 * b + b) (lN (N b b + 1))) (25 * a + b) (lN (N a b + 2147483646))) (25 * b + a) (lN (N b a + 2147483646))) := SqR_congr (SqR_upd (i := b) (k := a) (v := N b a + 2147483646) hRc ha25) (fun i k hi hk => by
                                  rw [← hN, ← ha, ← hb2]
                                  unfold upM adE
                                  by_cases u1 : i = a ∧ k = a
                                  · rw [if_neg (by omega), if_neg (by omega), if_neg (by omega), if_pos u1, if_pos u1, u1.1, u1.2]
                                  · by_cases u2 : i = b ∧ k = b
                                    · rw [if_neg (by omega), if_neg (by omega), if_pos u2, if_neg u1, if_pos u2, u2.1, u2.2]
                                    · by_cases u3 : i = a ∧ k = b
                                      · rw [if_neg (by omega), if_pos u3, if_neg u1, if_neg u2, if_pos u3, u3.1, u3.2]
                                      · by_cases u4 : i = b ∧ k = a
                                        · rw [if_pos u4, if_neg u1, if_neg u2, if_neg u3, if_pos u4, u4.1, u4.2]
                                        · rw [if_neg u4, if_neg u3, if_neg u2, if_neg u1, if_neg u1, if_neg u2, if_neg u3, if_neg u4])
                                refine e_iinc (v := (nI e) + 1) C d_MD_trees_285 rfl rfl (by decide) ?_
                                refine e_goto (tgt := 160) C d_MD_trees_288 (by decide) ?_
                                refine e_lv [(0, .ref m), (2, .int (nI (e + 1)))] ⟨rfl, congrArg (fun z => some (Value.int z)) (nI_1 e), trivial⟩ ?_
                                refine e_ws [oMD m th kd (nI w) (nI h) aho aaw fi sc (nI el.length) aen ato (bI li) (nI mny) awa aot (bI drn) wyv rkv awk atr ase ade ala ach apa asq, aZ cZ aho 25 (bF hb), aI cI aen 80 fen, aI cI ato 40 fto, aI cI apa 25 fpa, aJ cJ asq 625 (vp_updL (vp_updL (vp_updL (vp_updL fsq (25 * a + a) (lN (N a a + 1))) (25 * b + b) (lN (N b b + 1))) (25 * a + b) (lN (N a b + 2147483646))) (25 * b + a) (lN (N b a + 2147483646)))] rfl ?_
                                exact ihLL (e + 1) _ (by omega) (by show SqR (lapN el fto pa (e + 1)) _; unfold lapN; rw [hsv]; show SqR (if fto e = 0 then (if pa x = pa y then lapN el fto pa e else adE (lapN el fto pa e) (pa x) (pa y)) else lapN el fto pa e) _; rw [if_pos h205, if_neg hxy]; exact hRd) (by omega)
                              · -- 214
                                refine e_goto (tgt := 285) C d_MD_trees_214 (by decide) ?_
                                refine e_iinc (v := (nI e) + 1) C d_MD_trees_285 rfl rfl (by decide) ?_
                                refine e_goto (tgt := 160) C d_MD_trees_288 (by decide) ?_
                                refine e_lv [(0, .ref m), (2, .int (nI (e + 1)))] ⟨rfl, congrArg (fun z => some (Value.int z)) (nI_1 e), trivial⟩ ?_
                                refine e_ws [oMD m th kd (nI w) (nI h) aho aaw fi sc (nI el.length) aen ato (bI li) (nI mny) awa aot (bI drn) wyv rkv awk atr ase ade ala ach apa asq, aZ cZ aho 25 (bF hb), aI cI aen 80 fen, aI cI ato 40 fto, aI cI apa 25 fpa, aJ cJ asq 625 fsq] rfl ?_
                                exact ihLL (e + 1) _ (by omega) (by show SqR (lapN el fto pa (e + 1)) _; unfold lapN; rw [hsv]; show SqR (if fto e = 0 then (if pa x = pa y then lapN el fto pa e else adE (lapN el fto pa e) (pa x) (pa y)) else lapN el fto pa e) _; rw [if_pos h205, if_pos ((nI_eq (by omega) (by omega)).mp h211)]; exact hR) (by omega)
                      refine e_lv [(0, .ref m), (2, .int (nI 0))] ⟨rfl, rfl, trivial⟩ ?_
                      refine e_ws [oMD m th kd (nI w) (nI h) aho aaw fi sc (nI el.length) aen ato (bI li) (nI mny) awa aot (bI drn) wyv rkv awk atr ase ade ala ach apa asq, aZ cZ aho 25 (bF hb), aI cI aen 80 fen, aI cI ato 40 fto, aI cI apa 25 fpa, aJ cJ asq 625 fsq] rfl ?_
                      exact LL _ 0 fsq (Nat.zero_le _) (fun a b ha hb2 => by rw [hzs _ (by omega)]; rfl) (Nat.lt_succ_self _)
                    · -- 145
                      have ht6 : t < 625 := by rcases Nat.lt_or_ge (t) 625 with q | q; exact q; exact absurd (nI_le (b := t) q (by omega)) h142
                      refine e_aload_n C d_MD_trees_145 rfl rfl ?_
                      refine e_get C hin_MD 0 rfl rfl 25 (by decide) fl_MD_59 rfl d_MD_trees_146 ?_
                      refine e_iload_n C d_MD_trees_149 rfl rfl ?_
                      refine e_lconst (v := 0) C d_MD_trees_150 rfl ?_
                      refine e_last C 5 1 rfl rfl (vp_in_nI (by omega) (by omega)) d_MD_trees_151 ?_
                      refine e_ws [oMD m th kd (nI w) (nI h) aho aaw fi sc (nI el.length) aen ato (bI li) (nI mny) awa aot (bI drn) wyv rkv awk atr ase ade ala ach apa asq, aZ cZ aho 25 (bF hb), aI cI aen 80 fen, aI cI ato 40 fto, aI cI apa 25 fpa, aJ cJ asq 625 (vp_updL fsq t 0)] (by rw [nI_clamp (by omega)]; rfl) ?_
                      refine e_iinc (v := (nI t) + 1) C d_MD_trees_152 rfl rfl (by decide) ?_
                      refine e_goto (tgt := 138) C d_MD_trees_155 (by decide) ?_
                      refine e_lv [(0, .ref m), (2, .int (nI (t + 1)))] ⟨rfl, congrArg (fun z => some (Value.int z)) (nI_1 t), trivial⟩ ?_
                      refine e_ws [oMD m th kd (nI w) (nI h) aho aaw fi sc (nI el.length) aen ato (bI li) (nI mny) awa aot (bI drn) wyv rkv awk atr ase ade ala ach apa asq, aZ cZ aho 25 (bF hb), aI cI aen 80 fen, aI cI ato 40 fto, aI cI apa 25 fpa, aJ cJ asq 625 (vp_updL fsq t 0)] rfl ?_
                      exact ihLS (t + 1) _ (by omega) (fun k hk => by by_cases z : k = t; (rw [z, pk_uLs]); (rw [pk_uLn z]; exact hzs k (by omega))) (by omega)
                refine e_lv [(0, .ref m), (2, .int (nI 0))] ⟨rfl, rfl, trivial⟩ ?_
                refine e_ws [oMD m th kd (nI w) (nI h) aho aaw fi sc (nI el.length) aen ato (bI li) (nI mny) awa aot (bI drn) wyv rkv awk atr ase ade ala ach apa asq, aZ cZ aho 25 (bF hb), aI cI aen 80 fen, aI cI ato 40 fto, aI cI apa 25 fpa, aJ cJ asq 625 fsq] rfl ?_
                exact LS _ 0 fsq (Nat.zero_le _) (fun q hq => absurd hq (Nat.not_lt_zero _)) (Nat.lt_succ_self _)
              · -- 42
                have heE : e < el.length := by rcases Nat.lt_or_ge (e) el.length with q | q; exact q; exact absurd (nI_le q (by omega)) h39
                obtain ⟨⟨x, y⟩, hsv⟩ : ∃ q, el[e]? = some q := ⟨_, List.getElem?_eq_getElem heE⟩
                have hab := hev _ _ _ hsv
                have hxa := hpa x hab.1
                have hya := hpa y hab.2.1
                refine e_aload_n C d_MD_trees_42 rfl rfl ?_
                refine e_get C hin_MD 0 rfl rfl 10 (by decide) fl_MD_27 rfl d_MD_trees_43 ?_
                refine e_iload_n C d_MD_trees_46 rfl rfl ?_
                refine e_iald C 3 0 rfl rfl (vp_in_nI (by omega) (by omega)) d_MD_trees_47 ?_
                refine e_st [.int (fto e)] (by rw [nI_clamp (by omega)]) ?_
                refine e_iconst (v := 1) C d_MD_trees_48 rfl ?_
                refine e_icmp_eq (tgt := 55) C d_MD_trees_49 (by decide) (fun h49 => ?_) (fun h49 => ?_)
                · -- 55
                  refine e_aload_n C d_MD_trees_55 rfl rfl ?_
                  refine e_get C hin_MD 0 rfl rfl 24 (by decide) fl_MD_56 rfl d_MD_trees_56 ?_
                  refine e_aload_n C d_MD_trees_59 rfl rfl ?_
                  refine e_get C hin_MD 0 rfl rfl 9 (by decide) fl_MD_23 rfl d_MD_trees_60 ?_
                  refine e_iconst (v := 2) C d_MD_trees_63 rfl ?_
                  refine e_iload_n C d_MD_trees_64 rfl rfl ?_
                  refine e_imul C d_MD_trees_65 ?_
                  refine e_st [.int (nI (2 * e)), .ref aen, .ref apa] (by rw [show (2 : Int32) * nI e = nI (2 * e) from pk_mul 2 e]) ?_
                  refine e_iald C 2 0 rfl rfl (vp_in_nI (by omega) (by omega)) d_MD_trees_66 ?_
                  refine e_st [.int (fen (2 * e)), .ref apa] (by rw [nI_clamp (by omega)]) ?_
                  refine e_st [.int (nI x), .ref apa] (by rw [(hen e x y hsv).1]) ?_
                  refine e_iald C 4 0 rfl rfl (vp_in_nI (by omega) (by omega)) d_MD_trees_67 ?_
                  refine e_st [.int (fpa x)] (by rw [nI_clamp (by omega)]) ?_
                  refine e_st [.int (nI (pa x))] (by rw [hxa.1]) ?_
                  refine e_istore_n C d_MD_trees_68 rfl (by decide) ?_
                  refine e_aload_n C d_MD_trees_69 rfl rfl ?_
                  refine e_get C hin_MD 0 rfl rfl 24 (by decide) fl_MD_56 rfl d_MD_trees_70 ?_
                  refine e_aload_n C d_MD_trees_73 rfl rfl ?_
                  refine e_get C hin_MD 0 rfl rfl 9 (by decide) fl_MD_23 rfl d_MD_trees_74 ?_
                  refine e_iconst (v := 2) C d_MD_trees_77 rfl ?_
                  refine e_iload_n C d_MD_trees_78 rfl rfl ?_
                  refine e_imul C d_MD_trees_79 ?_
                  refine e_iconst (v := 1) C d_MD_trees_80 rfl ?_
                  refine e_iadd C d_MD_trees_81 ?_
                  refine e_st [.int (nI (2 * e + 1)), .ref aen, .ref apa] (by rw [show (2 : Int32) * nI e = nI (2 * e) from pk_mul 2 e, nI_1]) ?_
                  refine e_iald C 2 0 rfl rfl (vp_in_nI (by omega) (by omega)) d_MD_trees_82 ?_
                  refine e_st [.int (fen (2 * e + 1)), .ref apa] (by rw [nI_clamp (by omega)]) ?_
                  refine e_st [.int (nI y), .ref apa] (by rw [(hen e x y hsv).2]) ?_
                  refine e_iald C 4 0 rfl rfl (vp_in_nI (by omega) (by omega)) d_MD_trees_83 ?_
                  refine e_st [.int (fpa y)] (by rw [nI_clamp (by omega)]) ?_
                  refine e_st [.int (nI (pa y))] (by rw [hya.1]) ?_
                  refine e_istore C d_MD_trees_84 (by decide) ?_
                  refine e_iload_n C d_MD_trees_86 rfl rfl ?_
                  refine e_iload C d_MD_trees_87 rfl ?_
                  refine e_icmp_ne (tgt := 94) C d_MD_trees_89 (by decide) (fun h89 => ?_) (fun h89 => ?_)
                  · -- 94
                    have hab2 : ¬ pa x = pa y := fun z => h89 (by rw [z])
                    refine e_iconst (v := 0) C d_MD_trees_94 rfl ?_
                    refine e_istore C d_MD_trees_95 (by decide) ?_
                    have LQ : ∀ (fuel : Nat) (q : Nat) (fp2 : Nat → Int32), q ≤ 25 → (∀ k, k < 25 → fp2 k = nI (if k < q ∧ pa k = pa y then pa x else pa k)) →  25 - q < fuel → E κ (lu_o [(0, .ref m), (2, .int (nI e)), (3, .int (nI (pa x))), (4, .int (nI (pa y))), (5, .int (nI q))]) [] [oMD m th kd (nI w) (nI h) aho aaw fi sc (nI el.length) aen ato (bI li) (nI mny) awa aot (bI drn) wyv rkv awk atr ase ade ala ach apa asq, aZ cZ aho 25 (bF hb), aI cI aen 80 fen, aI cI ato 40 fto, aI cI apa 25 fp2, aJ cJ asq 625 fsq] 0 0 97 := by
                      intro fuel
                      induction fuel with
                      | zero => intro q fp2 hq hq2 hm; exact absurd hm (Nat.not_lt_zero _)
                      | succ fuel ihLQ =>
                        intro q fp2 hq hq2 hm
                        refine e_iload C d_MD_trees_97 rfl ?_
                        refine e_bipush (v := 25) C d_MD_trees_99 (by decide) ?_
                        refine e_icmp_ge (tgt := 130) C d_MD_trees_101 (by decide) (fun h101 => ?_) (fun h101 => ?_)
                        · -- 130
                          have hq25 : 25 ≤ q := (nI_leI (a := 25) (by decide) (by omega)).mp h101
                          refine e_iinc (v := (nI e) + 1) C d_MD_trees_130 rfl rfl (by decide) ?_
                          refine e_goto (tgt := 34) C d_MD_trees_133 (by decide) ?_
                          refine e_lv [(0, .ref m), (2, .int (nI (e + 1)))] ⟨rfl, congrArg (fun z => some (Value.int z)) (nI_1 e), trivial⟩ ?_
                          refine e_ws [oMD m th kd (nI w) (nI h) aho aaw fi sc (nI el.length) aen ato (bI li) (nI mny) awa aot (bI drn) wyv rkv awk atr ase ade ala ach apa asq, aZ cZ aho 25 (bF hb), aI cI aen 80 fen, aI cI ato 40 fto, aI cI apa 25 fp2, aJ cJ asq 625 fsq] rfl ?_
                          exact ihLE (e + 1) _ (fun z => if pa z = pa y then pa x else pa z) (by omega) (by show (prAll el fto e).bind _ = _; rw [hpr]; show prS el fto e pa = _; unfold prS; rw [if_pos h49, hsv]; show (if pa x = pa y then none else some (fun z => if pa z = pa y then pa x else pa z)) = _; rw [if_neg hab2]) (fun k hk => ⟨by rw [hq2 k hk]; by_cases z : pa k = pa y; (rw [if_pos ⟨by omega, z⟩, if_pos z]); (rw [if_neg (fun t => z t.2), if_neg z]), by by_cases z : pa k = pa y; (rw [if_pos z]; exact hxa.2); (rw [if_neg z]; exact (hpa k hk).2)⟩) (by omega)
                        · -- 104
                          have hq25 : q < 25 := by rcases Nat.lt_or_ge q 25 with zz | zz; exact zz; exact absurd (nI_le (b := q) zz (by omega)) h101
                          refine e_aload_n C d_MD_trees_104 rfl rfl ?_
                          refine e_get C hin_MD 0 rfl rfl 24 (by decide) fl_MD_56 rfl d_MD_trees_105 ?_
                          refine e_iload C d_MD_trees_108 rfl ?_
                          refine e_iald C 4 0 rfl rfl (vp_in_nI (by omega) (by omega)) d_MD_trees_110 ?_
                          refine e_st [.int (fp2 q)] (by rw [nI_clamp (by omega)]) ?_
                          refine e_st [.int (nI (pa q))] (by rw [hq2 q hq25, if_neg (fun z => absurd z.1 (Nat.lt_irrefl q))]) ?_
                          refine e_iload C d_MD_trees_111 rfl ?_
                          refine e_icmp_ne (tgt := 124) C d_MD_trees_113 (by decide) (fun h113 => ?_) (fun h113 => ?_)
                          · -- 124
                            refine e_iinc (v := (nI q) + 1) C d_MD_trees_124 rfl rfl (by decide) ?_
                            refine e_goto (tgt := 97) C d_MD_trees_127 (by decide) ?_
                            refine e_lv [(0, .ref m), (2, .int (nI e)), (3, .int (nI (pa x))), (4, .int (nI (pa y))), (5, .int (nI (q + 1)))] ⟨rfl, rfl, rfl, rfl, congrArg (fun z => some (Value.int z)) (nI_1 q), trivial⟩ ?_
                            refine e_ws [oMD m th kd (nI w) (nI h) aho aaw fi sc (nI el.length) aen ato (bI li) (nI mny) awa aot (bI drn) wyv rkv awk atr ase ade ala ach apa asq, aZ cZ aho 25 (bF hb), aI cI aen 80 fen, aI cI ato 40 fto, aI cI apa 25 fp2, aJ cJ asq 625 fsq] rfl ?_
                            exact ihLQ (q + 1) _ (by omega) (fun k hk => by have hpq : ¬ pa q = pa y := fun z => h113 (by rw [z]); rw [hq2 k hk]; by_cases u : k < q ∧ pa k = pa y; (rw [if_pos u, if_pos ⟨by omega, u.2⟩]); (rw [if_neg u, if_neg (fun t => u ⟨by rcases Nat.lt_or_ge k q with g | g; exact g; exact absurd (by rw [show q = k by omega]; exact t.2) hpq, t.2⟩)])) (by omega)
                          · -- 116
                            refine e_aload_n C d_MD_trees_116 rfl rfl ?_
                            refine e_get C hin_MD 0 rfl rfl 24 (by decide) fl_MD_56 rfl d_MD_trees_117 ?_
                            refine e_iload C d_MD_trees_120 rfl ?_
                            refine e_iload_n C d_MD_trees_122 rfl rfl ?_
                            refine e_iast C 4 0 rfl rfl (vp_in_nI (by omega) (by omega)) d_MD_trees_123 ?_
                            refine e_ws [oMD m th kd (nI w) (nI h) aho aaw fi sc (nI el.length) aen ato (bI li) (nI mny) awa aot (bI drn) wyv rkv awk atr ase ade ala ach apa asq, aZ cZ aho 25 (bF hb), aI cI aen 80 fen, aI cI ato 40 fto, aI cI apa 25 (upd fp2 q (nI (pa x))), aJ cJ asq 625 fsq] (by rw [nI_clamp (by omega)]; rfl) ?_
                            refine e_iinc (v := (nI q) + 1) C d_MD_trees_124 rfl rfl (by decide) ?_
                            refine e_goto (tgt := 97) C d_MD_trees_127 (by decide) ?_
                            refine e_lv [(0, .ref m), (2, .int (nI e)), (3, .int (nI (pa x))), (4, .int (nI (pa y))), (5, .int (nI (q + 1)))] ⟨rfl, rfl, rfl, rfl, congrArg (fun z => some (Value.int z)) (nI_1 q), trivial⟩ ?_
                            refine e_ws [oMD m th kd (nI w) (nI h) aho aaw fi sc (nI el.length) aen ato (bI li) (nI mny) awa aot (bI drn) wyv rkv awk atr ase ade ala ach apa asq, aZ cZ aho 25 (bF hb), aI cI aen 80 fen, aI cI ato 40 fto, aI cI apa 25 (upd fp2 q (nI (pa x))), aJ cJ asq 625 fsq] rfl ?_
                            exact ihLQ (q + 1) _ (by omega) (fun k hk => by have hpq : pa q = pa y := (nI_eq (by have := (hpa q hq25).2; omega) (by omega)).mp h113; by_cases z : k = q; (rw [z, pk_us, if_pos ⟨Nat.lt_succ_self q, hpq⟩]); (rw [pk_un z, hq2 k hk]; by_cases u : k < q ∧ pa k = pa y; (rw [if_pos u, if_pos ⟨by omega, u.2⟩]); (rw [if_neg u, if_neg (fun t => u ⟨by omega, t.2⟩)]))) (by omega)
                    refine e_lv [(0, .ref m), (2, .int (nI e)), (3, .int (nI (pa x))), (4, .int (nI (pa y))), (5, .int (nI 0))] ⟨rfl, rfl, rfl, rfl, rfl, trivial⟩ ?_
                    refine e_ws [oMD m th kd (nI w) (nI h) aho aaw fi sc (nI el.length) aen ato (bI li) (nI mny) awa aot (bI drn) wyv rkv awk atr ase ade ala ach apa asq, aZ cZ aho 25 (bF hb), aI cI aen 80 fen, aI cI ato 40 fto, aI cI apa 25 fpa, aJ cJ asq 625 fsq] rfl ?_
                    exact LQ _ 0 fpa (Nat.zero_le _) (fun k hk => by rw [if_neg (fun z => absurd z.1 (Nat.not_lt_zero _))]; exact (hpa k hk).1) (Nat.lt_succ_self _)
                  · -- 92
                    have hab2 : pa x = pa y := (nI_eq (by omega) (by omega)).mp h89
                    have hno : prAll el fto (e + 1) = none := by show (prAll el fto e).bind _ = _; rw [hpr]; show prS el fto e pa = _; unfold prS; rw [if_pos h49, hsv]; show (if pa x = pa y then none else _) = _; rw [if_pos hab2]
                    have hRES2 : RES = 0 := by rw [← hRES]; unfold treesF; rw [if_neg hcp, prAll_none hno heE]
                    refine e_lconst (v := 0) C d_MD_trees_92 rfl ?_
                    exact e_lret C Z (Nat.le_of_ble_eq_true rfl) (Nat.le_of_ble_eq_true rfl) (⟨fpa, fsq, by rw [hRES2]; rfl, rfl⟩) d_MD_trees_93
                · -- 52
                  refine e_goto (tgt := 130) C d_MD_trees_52 (by decide) ?_
                  refine e_iinc (v := (nI e) + 1) C d_MD_trees_130 rfl rfl (by decide) ?_
                  refine e_goto (tgt := 34) C d_MD_trees_133 (by decide) ?_
                  refine e_lv [(0, .ref m), (2, .int (nI (e + 1)))] ⟨rfl, congrArg (fun z => some (Value.int z)) (nI_1 e), trivial⟩ ?_
                  refine e_ws [oMD m th kd (nI w) (nI h) aho aaw fi sc (nI el.length) aen ato (bI li) (nI mny) awa aot (bI drn) wyv rkv awk atr ase ade ala ach apa asq, aZ cZ aho 25 (bF hb), aI cI aen 80 fen, aI cI ato 40 fto, aI cI apa 25 fpa, aJ cJ asq 625 fsq] rfl ?_
                  exact ihLE (e + 1) fpa pa (by omega) (by show (prAll el fto e).bind _ = _; rw [hpr]; show prS el fto e pa = _; unfold prS; rw [if_neg h49]) hpa (by omega)
          refine e_lv [(0, .ref m), (2, .int (nI 0))] ⟨rfl, rfl, trivial⟩ ?_
          refine e_ws [oMD m th kd (nI w) (nI h) aho aaw fi sc (nI el.length) aen ato (bI li) (nI mny) awa aot (bI drn) wyv rkv awk atr ase ade ala ach apa asq, aZ cZ aho 25 (bF hb), aI cI aen 80 fen, aI cI ato 40 fto, aI cI apa 25 fpa, aJ cJ asq 625 fsq] rfl ?_
          exact LE _ 0 fpa (fun p => p) (Nat.zero_le _) rfl (fun q hq => ⟨hz q (by omega), hq⟩) (Nat.lt_succ_self _)
        · -- 19
          have hi25 : i < 25 := by rcases Nat.lt_or_ge i 25 with zz | zz; exact zz; exact absurd (nI_le (b := i) zz (by omega)) h16
          refine e_aload_n C d_MD_trees_19 rfl rfl ?_
          refine e_get C hin_MD 0 rfl rfl 24 (by decide) fl_MD_56 rfl d_MD_trees_20 ?_
          refine e_iload_n C d_MD_trees_23 rfl rfl ?_
          refine e_iload_n C d_MD_trees_24 rfl rfl ?_
          refine e_iast C 4 0 rfl rfl (vp_in_nI (by omega) (by omega)) d_MD_trees_25 ?_
          refine e_ws [oMD m th kd (nI w) (nI h) aho aaw fi sc (nI el.length) aen ato (bI li) (nI mny) awa aot (bI drn) wyv rkv awk atr ase ade ala ach apa asq, aZ cZ aho 25 (bF hb), aI cI aen 80 fen, aI cI ato 40 fto, aI cI apa 25 (upd fpa i (nI i)), aJ cJ asq 625 fsq] (by rw [nI_clamp (by omega)]; rfl) ?_
          refine e_iinc (v := (nI i) + 1) C d_MD_trees_26 rfl rfl (by decide) ?_
          refine e_goto (tgt := 13) C d_MD_trees_29 (by decide) ?_
          refine e_lv [(0, .ref m), (2, .int (nI (i + 1)))] ⟨rfl, congrArg (fun z => some (Value.int z)) (nI_1 i), trivial⟩ ?_
          refine e_ws [oMD m th kd (nI w) (nI h) aho aaw fi sc (nI el.length) aen ato (bI li) (nI mny) awa aot (bI drn) wyv rkv awk atr ase ade ala ach apa asq, aZ cZ aho 25 (bF hb), aI cI aen 80 fen, aI cI ato 40 fto, aI cI apa 25 (upd fpa i (nI i)), aJ cJ asq 625 fsq] rfl ?_
          exact ihLA (i + 1) _ (by omega) (fun q hq => by by_cases z : q = i; (rw [z, pk_us]); (rw [pk_un z]; exact hz q (by omega))) (by omega)
    refine e_lv [(0, .ref m), (2, .int (nI 0))] ⟨rfl, rfl, trivial⟩ ?_
    refine e_ws [oMD m th kd (nI w) (nI h) aho aaw fi sc (nI el.length) aen ato (bI li) (nI mny) awa aot (bI drn) wyv rkv awk atr ase ade ala ach apa asq, aZ cZ aho 25 (bF hb), aI cI aen 80 fen, aI cI ato 40 fto, aI cI apa 25 fpa, aJ cJ asq 625 fsq] rfl ?_
    exact LA _ 0 fpa (Nat.zero_le _) (fun q hq => absurd hq (Nat.not_lt_zero _)) (Nat.lt_succ_self _)
  · -- 9
    have hRES2 : RES = 1 := by rw [← hRES]; unfold treesF; rw [if_pos (by rcases Nat.eq_zero_or_pos (cpF hb (w * h)) with z | z; exact z; exact absurd h6 (nI_ne0 z (by have := cpF_le hb (w * h); omega)))]
    refine e_lconst (v := 1) C d_MD_trees_9 rfl ?_
    exact e_lret C Z (Nat.le_of_ble_eq_true rfl) (Nat.le_of_ble_eq_true rfl) (⟨fpa, fsq, by rw [hRES2]; rfl, rfl⟩) d_MD_trees_10
