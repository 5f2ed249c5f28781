/-! BUILDING THE TABLE -/
def LInv (L mo : Nat) (cs : List Int32) (fbk fnc : Nat → Int32) : Prop := ∃ kv : Nat → Nat, (∀ b, b < 512 → fbk b = nI (kv b)) ∧ HInv L kv cs ∧ (∀ (i : Nat) (x : Int32), cs[i]? = some x → fnc i = x) ∧ cs.length ≤ mo
theorem insF_len {mo : Nat} {cs : List Int32} {x : Int32} (h : cs.length ≤ mo) : (insF mo cs x).2.length ≤ mo := by
  unfold insF
  by_cases c : ixOf x cs < cs.length
  · rw [if_pos c]; exact h
  · rw [if_neg c]
    by_cases d : cs.length < mo
    · rw [if_pos d]; show (cs ++ [x]).length ≤ mo; rw [List.length_append]; exact d
    · rw [if_neg d]; exact h
theorem rem512 {b : Nat} (h : b < 512) : nI b + 1 - (nI b + 1) / 512 * 512 = nI ((b + 1) % 512) := by
  rw [nI_1]
  exact pk_rem (d := 512) (by omega) (by omega) (by omega)
set_option maxHeartbeats 4000000 in
set_option maxRecDepth 100000 in
theorem M_LY_indexOfNext (l : Launch) (D : va_G) (cI cJ cZ : ClassId) (ly g ru sz ld wy bk cd nc : Nat) (P mo : Nat) (hP : P ≤ 25) (hmo : mo ≤ 136) (mh mn : Int64) (fbk fnc : Nat → Int32) (cs : List Int32) (code : Int32) (L : Nat) (hL : L ≤ 25) (hLI : LInv L mo cs fbk fnc) : MK l D cI cJ cZ y_LY_indexOfNext c_LY_indexOfNext 7 (some FieldType.int) 1 24 [.ref ly, .int code, .int (nI L)] [oLY ly g ru (nI mo) sz ld wy bk cd nc (nI cs.length) mh mn, aI cI bk 512 fbk, aI cI nc mo fnc] 0 0 (fun v w1 => ∃ fbk2 fnc2 : Nat → Int32, v = some (.int (nI (insF mo cs code).1)) ∧ w1 = [oLY ly g ru (nI mo) sz ld wy bk cd nc (nI (insF mo cs code).2.length) mh mn, aI cI bk 512 fbk2, aI cI nc mo fnc2] ∧ LInv L mo (insF mo cs code).2 fbk2 fnc2) := by
  refine MC.of (by decide) bigW_good (Nat.le_of_ble_eq_true rfl) (fun κ C Z IN => ?_)
  have hPm : P * mo ≤ 3400 := Nat.mul_le_mul hP hmo
  have hPm1 : (P + 1) * mo ≤ 3536 := Nat.mul_le_mul (Nat.succ_le_succ hP) hmo
  obtain ⟨kv, hfb, hI, hfn, hlen⟩ := hLI
  refine e_iload_n C d_LY_indexOfNext_0 rfl rfl ?_
  refine e_ldc C kl_LY_87 d_LY_indexOfNext_1 ?_
  refine e_imul C d_LY_indexOfNext_3 ?_
  refine e_bipush (v := 23) C d_LY_indexOfNext_4 (by decide) ?_
  refine e_iushr C d_LY_indexOfNext_6 ?_
  refine e_istore_n C d_LY_indexOfNext_7 rfl (by decide) ?_
  refine e_iconst (v := 0) C d_LY_indexOfNext_8 rfl ?_
  refine e_istore C d_LY_indexOfNext_9 (by decide) ?_
  have LP : ∀ (fuel : Nat) (t : Nat), t ≤ 512 → HSeen L kv cs code t →  512 - t < fuel → E κ (lu_o [(0, .ref ly), (1, .int code), (2, .int (nI L)), (3, .int (nI ((hB code + t) % 512))), (4, .int (nI t))]) [] [oLY ly g ru (nI mo) sz ld wy bk cd nc (nI cs.length) mh mn, aI cI bk 512 fbk, aI cI nc mo fnc] 0 0 11 := by
    intro fuel
    induction fuel with
    | zero => intro t ht hS hm; exact absurd hm (Nat.not_lt_zero _)
    | succ fuel ihLP =>
      intro t ht hS hm
      refine e_iload C d_LY_indexOfNext_11 rfl ?_
      refine e_sipush (v := 512) C d_LY_indexOfNext_13 (by decide) ?_
      refine e_icmp_ge (tgt := 89) C d_LY_indexOfNext_16 (by decide) (fun h16 => ?_) (fun h16 => ?_)
      · -- 89
        have ht5 : 512 = t := by have q := (nI_leI (a := 512) (by omega) (by omega)).mp h16; omega
        subst ht5
        exact (hI.full hS (by omega)).elim
      · -- 19
        have ht5 : t < 512 := by rcases Nat.lt_or_ge t 512 with q | q; exact q; exact absurd (nI_le (a := 512) q (by omega)) h16
        have hbl : (hB code + t) % 512 < 512 := Nat.mod_lt _ (by decide)
        have hkv : kv ((hB code + t) % 512) < 256 * (L + 1) := hI.1 _ hbl
        refine e_aload_n C d_LY_indexOfNext_19 rfl rfl ?_
        refine e_get C hin_LY 0 rfl rfl 6 (by decide) fl_LY_37 rfl d_LY_indexOfNext_20 ?_
        refine e_iload_n C d_LY_indexOfNext_23 rfl rfl ?_
        refine e_iald C 1 0 rfl rfl (vp_in_nI hbl (by decide)) d_LY_indexOfNext_24 ?_
        refine e_st [.int (fbk ((hB code + t) % 512))] (by rw [nI_clamp (by omega)]) ?_
        refine e_st [.int (nI (kv ((hB code + t) % 512)))] (by rw [hfb _ hbl]) ?_
        refine e_istore C d_LY_indexOfNext_25 (by decide) ?_
        refine e_iload C d_LY_indexOfNext_27 rfl ?_
        refine e_bipush (v := 8) C d_LY_indexOfNext_29 (by decide) ?_
        refine e_iushr C d_LY_indexOfNext_31 ?_
        refine e_iload_n C d_LY_indexOfNext_32 rfl rfl ?_
        refine e_st [.int (nI L), .int (nI (kv ((hB code + t) % 512) / 256))] (by rw [jushr8 (by omega)]) ?_
        refine e_icmp_eq (tgt := 44) C d_LY_indexOfNext_33 (by decide) (fun h33 => ?_) (fun h33 => ?_)
        · -- 44
          have htag : kv ((hB code + t) % 512) / 256 = L := (nI_eq (by omega) (by omega)).mp h33
          have hidx := hI.2.1 _ hbl htag
          refine e_iload C d_LY_indexOfNext_44 rfl ?_
          refine e_sipush (v := 255) C d_LY_indexOfNext_46 (by decide) ?_
          refine e_iand C d_LY_indexOfNext_49 ?_
          refine e_st [.int (nI (kv ((hB code + t) % 512) % 256))] (by rw [and255 (by omega)]) ?_
          refine e_istore C d_LY_indexOfNext_50 (by decide) ?_
          refine e_iload C d_LY_indexOfNext_52 rfl ?_
          refine e_aload_n C d_LY_indexOfNext_54 rfl rfl ?_
          refine e_get C hin_LY 0 rfl rfl 9 (by decide) fl_LY_58 rfl d_LY_indexOfNext_55 ?_
          refine e_icmp_ge (tgt := 75) C d_LY_indexOfNext_58 (by decide) (fun h58 => ?_) (fun h58 => ?_)
          · -- 75
            exact absurd (nI_lt hidx (by omega)) (fun z => (nI_ge (a := kv ((hB code + t) % 512) % 256) (b := cs.length) hidx (by omega)) h58)
          · -- 61
            refine e_aload_n C d_LY_indexOfNext_61 rfl rfl ?_
            refine e_get C hin_LY 0 rfl rfl 8 (by decide) fl_LY_43 rfl d_LY_indexOfNext_62 ?_
            refine e_iload C d_LY_indexOfNext_65 rfl ?_
            refine e_iald C 2 0 rfl rfl (vp_in_nI (by omega) (by omega)) d_LY_indexOfNext_67 ?_
            refine e_st [.int (fnc (kv ((hB code + t) % 512) % 256))] (by rw [nI_clamp (by omega)]) ?_
            refine e_iload_n C d_LY_indexOfNext_68 rfl rfl ?_
            refine e_icmp_ne (tgt := 75) C d_LY_indexOfNext_69 (by decide) (fun h69 => ?_) (fun h69 => ?_)
            · -- 75
              have hge : cs[kv ((hB code + t) % 512) % 256]? = some (fnc (kv ((hB code + t) % 512) % 256)) := by obtain ⟨x, hx⟩ : ∃ x, cs[kv ((hB code + t) % 512) % 256]? = some x := ⟨_, List.getElem?_eq_getElem hidx⟩; rw [hx, hfn _ _ hx]
              refine e_iload_n C d_LY_indexOfNext_75 rfl rfl ?_
              refine e_iconst (v := 1) C d_LY_indexOfNext_76 rfl ?_
              refine e_iadd C d_LY_indexOfNext_77 ?_
              refine e_sipush (v := 512) C d_LY_indexOfNext_78 (by decide) ?_
              refine e_irem C d_LY_indexOfNext_81 (by decide) ?_
              refine e_istore_n C d_LY_indexOfNext_82 rfl (by decide) ?_
              refine e_iinc (v := (nI t) + 1) C d_LY_indexOfNext_83 rfl rfl (by decide) ?_
              refine e_goto (tgt := 11) C d_LY_indexOfNext_86 (by decide) ?_
              refine e_lv [(0, .ref ly), (1, .int code), (2, .int (nI L)), (3, .int (nI ((hB code + (t + 1)) % 512))), (4, .int (nI (t + 1)))] ⟨rfl, rfl, rfl, (by show some (Value.int _) = _; rw [rem512 hbl, show ((hB code + t) % 512 + 1) % 512 = (hB code + (t + 1)) % 512 by omega]), congrArg (fun z => some (Value.int z)) (nI_1 t), trivial⟩ ?_
              refine e_ws [oLY ly g ru (nI mo) sz ld wy bk cd nc (nI cs.length) mh mn, aI cI bk 512 fbk, aI cI nc mo fnc] rfl ?_
              exact ihLP (t + 1) (by omega) (fun u hu => by
                rcases Nat.lt_or_ge u t with z | z
                · exact hS u z
                · rw [show u = t by omega]; exact ⟨htag, fun z => h69 (hfn _ _ z)⟩) (by omega)
            · -- 72
              have hge : cs[kv ((hB code + t) % 512) % 256]? = some code := by obtain ⟨x, hx⟩ : ∃ x, cs[kv ((hB code + t) % 512) % 256]? = some x := ⟨_, List.getElem?_eq_getElem hidx⟩; rw [hx, ← hfn _ _ hx, h69]
              have hins : insF mo cs code = (kv ((hB code + t) % 512) % 256, cs) := by unfold insF; rw [ixOf_eq hI.2.2.2.2 hge, if_pos hidx]
              refine e_iload C d_LY_indexOfNext_72 rfl ?_
              exact e_iret C Z rfl (Nat.le_of_ble_eq_true rfl) (Nat.le_of_ble_eq_true rfl) (⟨fbk, fnc, by rw [hins], by rw [hins], by rw [hins]; exact ⟨kv, hfb, hI, hfn, hlen⟩⟩) d_LY_indexOfNext_74
        · -- 36
          have hnt : kv ((hB code + t) % 512) / 256 ≠ L := fun z => h33 (by rw [z])
          have hab := hI.absent hS (by omega) hnt
          have hix : ixOf code cs = cs.length := ixOf_none hab
          refine e_aload_n C d_LY_indexOfNext_36 rfl rfl ?_
          refine e_iload_n C d_LY_indexOfNext_37 rfl rfl ?_
          refine e_iload_n C d_LY_indexOfNext_38 rfl rfl ?_
          refine e_iload_n C d_LY_indexOfNext_39 rfl rfl ?_
          refine e_callV (As := [.int code, .int (nI L), .int (nI ((hB code + t) % 512))]) (st := []) (wc := [oLY ly g ru (nI mo) sz ld wy bk cd nc (nI cs.length) mh mn, aI cI bk 512 fbk, aI cI nc mo fnc]) (wr := []) C (M_LY_addNext l D cI cJ cZ ly g ru sz ld wy bk cd nc P mo hP hmo cs.length mh mn hlen fbk fnc code L ((hB code + t) % 512) hL hbl) v_LY_addNext ml_LY_88 0 rfl rfl nwW_ok ⟨Nat.le_of_ble_eq_true rfl, Nat.le_of_ble_eq_true rfl⟩ ⟨Nat.le_of_ble_eq_true rfl, Nat.le_of_ble_eq_true rfl⟩ [0, 1, 2] [] rfl rfl rfl rfl (by decide) (Nat.le_of_ble_eq_true rfl) rfl d_LY_indexOfNext_40 (fun v w1 hp => ?_)
          rcases hp with ⟨hlt, rfl, rfl⟩ | ⟨hge, rfl, rfl⟩
          · have hins : insF mo cs code = (cs.length, cs ++ [code]) := by unfold insF; rw [hix, if_neg (Nat.lt_irrefl _), if_pos hlt]
            refine e_perm (st' := [.int (nI cs.length)]) (ws' := [oLY ly g ru (nI mo) sz ld wy bk cd nc (nI (cs.length + 1)) mh mn, aI cI bk 512 (upd fbk ((hB code + t) % 512) (nI (256 * L + cs.length))), aI cI nc mo (upd fnc cs.length code)]) [0, 1, 2] rfl rfl rfl ?_
            exact e_iret C Z rfl (Nat.le_of_ble_eq_true rfl) (Nat.le_of_ble_eq_true rfl) ⟨upd fbk ((hB code + t) % 512) (nI (256 * L + cs.length)), upd fnc cs.length code, by rw [hins], by rw [hins, List.length_append]; rfl, by rw [hins]; exact ⟨fun b => if b = ((hB code + t) % 512) then 256 * L + cs.length else kv b, fun b hb => by (show (if b = ((hB code + t) % 512) then nI (256 * L + cs.length) else fbk b) = nI (if b = ((hB code + t) % 512) then 256 * L + cs.length else kv b); by_cases z : b = ((hB code + t) % 512); (rw [if_pos z, if_pos z]); (rw [if_neg z, if_neg z, hfb b hb])), hI.add hS ht5 (by omega) hnt, fun i x hi => by (rcases Nat.lt_trichotomy i cs.length with z | z | z; (rw [List.getElem?_append_left z] at hi; rw [pk_un (by omega)]; exact hfn i x hi); (subst z; rw [List.getElem?_append_right (Nat.le_refl _), Nat.sub_self] at hi; rw [pk_us]; exact Option.some.inj hi); (rw [List.getElem?_append_right (by omega)] at hi; have := (List.getElem?_eq_some_iff.mp hi).1; simp at this; omega)), by rw [List.length_append]; exact hlt⟩⟩ d_LY_indexOfNext_43
          · have hins : insF mo cs code = (255, cs) := by unfold insF; rw [hix, if_neg (Nat.lt_irrefl _), if_neg hge]
            refine e_perm (st' := [.int 255]) (ws' := [oLY ly g ru (nI mo) sz ld wy bk cd nc (nI cs.length) mh mn, aI cI bk 512 fbk, aI cI nc mo fnc]) [0, 1, 2] rfl rfl rfl ?_
            exact e_iret C Z rfl (Nat.le_of_ble_eq_true rfl) (Nat.le_of_ble_eq_true rfl) ⟨fbk, fnc, by rw [hins]; rfl, by rw [hins], by rw [hins]; exact ⟨kv, hfb, hI, hfn, hlen⟩⟩ d_LY_indexOfNext_43
  refine e_lv [(0, .ref ly), (1, .int code), (2, .int (nI L)), (3, .int (nI ((hB code + 0) % 512))), (4, .int (nI 0))] ⟨rfl, rfl, rfl, (by show some (Value.int (jushr (code * (-1640531535)) 23)) = _; rw [jushr_hB, Nat.add_zero, Nat.mod_eq_of_lt (hB_lt code)]), rfl, trivial⟩ ?_
  refine e_ws [oLY ly g ru (nI mo) sz ld wy bk cd nc (nI cs.length) mh mn, aI cI bk 512 fbk, aI cI nc mo fnc] rfl ?_
  exact LP _ 0 (Nat.zero_le _) (fun u h => absurd h (Nat.not_lt_zero u)) (Nat.lt_succ_self _)

def lfY (caf : Int32 → Int32) (op : Int32) (i : Nat) : Int32 := if nI i &&& (op ^^^ -1) = 0 then caf (nI i) else -1
def lfR (mo : Nat) (cs : List Int32) (y : Int32) : Nat × List Int32 := if y = -1 then (255, cs) else insF mo cs y
def lfS (mo : Nat) (caf : Int32 → Int32) (op : Int32) (i : Nat) (s : Int32 × List Int32) : Int32 × List Int32 := (s.1 ||| (nI (lfR mo s.2 (lfY caf op i)).1 <<< ((8 * nI i) &&& 31)), (lfR mo s.2 (lfY caf op i)).2)
def lfF (mo : Nat) (caf : Int32 → Int32) (op : Int32) (cs : List Int32) : Int32 × List Int32 := itn (lfS mo caf op) 4 (0, cs)
abbrev cafDK (pl ho deg : Int32) (p c : Nat) (code z : Int32) : Int32 := cafD pl ho deg code (nI p) (nI c) z
abbrev cafLK (lp ea eb : Int32) (p c : Nat) (code z : Int32) : Int32 := cafL lp (isEndF ea eb (nI p)) code (nI (2 * c)) (nI c) z
abbrev cafTK (w : Nat) (pl ho lpl : Int32) (p c : Nat) (code z : Int32) : Int32 := cafT w (isPlaceF pl ho (nI p + nI w)) (decide (nI p = lpl)) code c z
set_option maxHeartbeats 4000000 in
set_option maxRecDepth 100000 in
theorem M_LY_leadsFrom_DG (l : Launch) (D : va_G) (cI cJ cZ : ClassId) (ly g ru sz ld wy bk cd nc : Nat) (P mo : Nat) (hP : P ≤ 25) (hmo : mo ≤ 136) (mh mn : Int64) (deg : Int32) (w : Nat) (hw : w ≤ 5) (ht pl ho : Int32) (op : Int64) (lpl ea eb : Int32) (fbk fnc : Nat → Int32) (cs : List Int32) (code : Int32) (p c : Nat) (hp : p < P) (hc : c < w) (hLI0 : LInv (p + 1) mo cs fbk fnc) : MK l D cI cJ cZ y_LY_leadsFrom c_LY_leadsFrom 9 (some FieldType.int) 4 105 [.ref ly, .int code, .int (nI p), .int (nI c)] [oLY ly g ru (nI mo) sz ld wy bk cd nc (nI cs.length) mh mn, aI cI bk 512 fbk, aI cI nc mo fnc, oGR g (nI w) ht pl ho op lpl ea eb, oDG ru g deg] 0 0 (fun v w1 => ∃ fb fn : Nat → Int32, v = some (.int (lfF mo (cafDK pl ho deg p c code) (openChoicesF op (nI p)) cs).1) ∧ w1 = [oLY ly g ru (nI mo) sz ld wy bk cd nc (nI (lfF mo (cafDK pl ho deg p c code) (openChoicesF op (nI p)) cs).2.length) mh mn, aI cI bk 512 fb, aI cI nc mo fn, oGR g (nI w) ht pl ho op lpl ea eb, oDG ru g deg] ∧ LInv (p + 1) mo (lfF mo (cafDK pl ho deg p c code) (openChoicesF op (nI p)) cs).2 fb fn) := by
  refine MC.of (by decide) bigW_good (Nat.le_of_ble_eq_true rfl) (fun κ C Z IN => ?_)
  have hPm : P * mo ≤ 3400 := Nat.mul_le_mul hP hmo
  have hPm1 : (P + 1) * mo ≤ 3536 := Nat.mul_le_mul (Nat.succ_le_succ hP) hmo
  refine e_aload_n C d_LY_leadsFrom_0 rfl rfl ?_
  refine e_get C hin_LY 0 rfl rfl 0 (by decide) fl_LY_7 rfl d_LY_leadsFrom_1 ?_
  refine e_iload_n C d_LY_leadsFrom_4 rfl rfl ?_
  refine e_callVN (As := [.int (nI p)]) (st := []) (wc := [oGR g (nI w) ht pl ho op lpl ea eb]) (wr := [oLY ly g ru (nI mo) sz ld wy bk cd nc (nI cs.length) mh mn, aI cI bk 512 fbk, aI cI nc mo fnc, oDG ru g deg]) C (M_GR_openChoices l D cI cJ cZ g (nI w) ht pl ho op lpl ea eb (nI p)) v_GR_openChoices mn_LY_75 3 rfl rfl nwW_ok ⟨Nat.le_of_ble_eq_true rfl, Nat.le_of_ble_eq_true rfl⟩ ⟨Nat.le_of_ble_eq_true rfl, Nat.le_of_ble_eq_true rfl⟩ [3] [0, 1, 2, 4] rfl rfl rfl rfl (by decide) (Nat.le_of_ble_eq_true rfl) rfl d_LY_leadsFrom_5 (fun v w1 hp => ?_)
  obtain ⟨rfl, rfl⟩ := hp
  refine e_perm (st' := [.int (openChoicesF op (nI p))]) (ws' := [oLY ly g ru (nI mo) sz ld wy bk cd nc (nI cs.length) mh mn, aI cI bk 512 fbk, aI cI nc mo fnc, oGR g (nI w) ht pl ho op lpl ea eb, oDG ru g deg]) [0, 1, 2, 4, 3] rfl rfl rfl ?_
  refine e_istore C d_LY_leadsFrom_8 (by decide) ?_
  refine e_iconst (v := 0) C d_LY_leadsFrom_10 rfl ?_
  refine e_istore C d_LY_leadsFrom_11 (by decide) ?_
  refine e_iconst (v := 0) C d_LY_leadsFrom_13 rfl ?_
  refine e_istore C d_LY_leadsFrom_14 (by decide) ?_
  have LP : ∀ (fuel : Nat) (i : Nat) (pk : Int32) (ct : List Int32) (fb fn : Nat → Int32), i ≤ 4 → itn (lfS mo (cafDK pl ho deg p c code) (openChoicesF op (nI p))) i (0, cs) = (pk, ct) → LInv (p + 1) mo ct fb fn →  4 - i < fuel → E κ (lu_o [(0, .ref ly), (1, .int code), (2, .int (nI p)), (3, .int (nI c)), (4, .int (openChoicesF op (nI p))), (5, .int pk), (6, .int (nI i))]) [] [oLY ly g ru (nI mo) sz ld wy bk cd nc (nI ct.length) mh mn, aI cI bk 512 fb, aI cI nc mo fn, oGR g (nI w) ht pl ho op lpl ea eb, oDG ru g deg] 0 0 16 := by
    intro fuel
    induction fuel with
    | zero => intro i pk ct fb fn hi hS hLI hm; exact absurd hm (Nat.not_lt_zero _)
    | succ fuel ihLP =>
      intro i pk ct fb fn hi hS hLI hm
      refine e_iload C d_LY_leadsFrom_16 rfl ?_
      refine e_iconst (v := 4) C d_LY_leadsFrom_18 rfl ?_
      refine e_icmp_ge (tgt := 92) C d_LY_leadsFrom_19 (by decide) (fun h19 => ?_) (fun h19 => ?_)
      · -- 92
        have hi4 : 4 = i := by have q := (nI_leI (a := 4) (by omega) (by omega)).mp h19; omega
        subst hi4
        refine e_iload C d_LY_leadsFrom_92 rfl ?_
        exact e_iret C Z rfl (Nat.le_of_ble_eq_true rfl) (Nat.le_of_ble_eq_true rfl) (⟨fb, fn, by unfold lfF; rw [hS], by unfold lfF; rw [hS], by unfold lfF; rw [hS]; exact hLI⟩) d_LY_leadsFrom_94
      · -- 22
        have hi4 : i < 4 := by rcases Nat.lt_or_ge i 4 with q | q; exact q; exact absurd (nI_le (a := 4) q (by omega)) h19
        refine e_lv [(0, .ref ly), (1, .int code), (2, .int (nI p)), (3, .int (nI c)), (4, .int (openChoicesF op (nI p))), (5, .int pk), (6, .int (nI i))] ⟨rfl, rfl, rfl, rfl, rfl, rfl, rfl, trivial⟩ ?_
        have J48 : ∀ (y48 : Int32), y48 = lfY (cafDK pl ho deg p c code) (openChoicesF op (nI p)) i → E κ (lu_o [(0, .ref ly), (1, .int code), (2, .int (nI p)), (3, .int (nI c)), (4, .int (openChoicesF op (nI p))), (5, .int pk), (6, .int (nI i))]) [.int y48] [oLY ly g ru (nI mo) sz ld wy bk cd nc (nI ct.length) mh mn, aI cI bk 512 fb, aI cI nc mo fn, oGR g (nI w) ht pl ho op lpl ea eb, oDG ru g deg] 0 0 48 := by
          intro y48 ey48
          refine e_istore C d_LY_leadsFrom_48 (by decide) ?_
          refine e_iload C d_LY_leadsFrom_50 rfl ?_
          refine e_iconst (v := (-1)) C d_LY_leadsFrom_52 rfl ?_
          refine e_icmp_ne (tgt := 62) C d_LY_leadsFrom_53 (by decide) (fun h53 => ?_) (fun h53 => ?_)
          · -- 62
            refine e_aload_n C d_LY_leadsFrom_62 rfl rfl ?_
            refine e_iload C d_LY_leadsFrom_63 rfl ?_
            refine e_iload_n C d_LY_leadsFrom_65 rfl rfl ?_
            refine e_iconst (v := 1) C d_LY_leadsFrom_66 rfl ?_
            refine e_iadd C d_LY_leadsFrom_67 ?_
            refine e_st [.int (nI (p + 1)), .int y48, .ref ly] (by rw [nI_1]) ?_
            refine e_callV (As := [.int y48, .int (nI (p + 1))]) (st := []) (wc := [oLY ly g ru (nI mo) sz ld wy bk cd nc (nI ct.length) mh mn, aI cI bk 512 fb, aI cI nc mo fn]) (wr := [oGR g (nI w) ht pl ho op lpl ea eb, oDG ru g deg]) C (M_LY_indexOfNext l D cI cJ cZ ly g ru sz ld wy bk cd nc P mo hP hmo mh mn fb fn ct y48 (p + 1) (by omega) hLI) v_LY_indexOfNext ml_LY_83 0 rfl rfl nwW_ok ⟨Nat.le_of_ble_eq_true rfl, Nat.le_of_ble_eq_true rfl⟩ ⟨Nat.le_of_ble_eq_true rfl, Nat.le_of_ble_eq_true rfl⟩ [0, 1, 2] [3, 4] rfl rfl rfl rfl (by decide) (Nat.le_of_ble_eq_true rfl) rfl d_LY_leadsFrom_68 (fun v w1 hp => ?_)
            obtain ⟨fb2, fn2, rfl, rfl, hLI2⟩ := hp
            refine e_perm (st' := [.int (nI (insF mo ct y48).1)]) (ws' := [oLY ly g ru (nI mo) sz ld wy bk cd nc (nI (insF mo ct y48).2.length) mh mn, aI cI bk 512 fb2, aI cI nc mo fn2, oGR g (nI w) ht pl ho op lpl ea eb, oDG ru g deg]) [2, 3, 4, 0, 1] rfl rfl rfl ?_
            refine e_istore C d_LY_leadsFrom_71 (by decide) ?_
            refine e_iload C d_LY_leadsFrom_73 rfl ?_
            refine e_iload C d_LY_leadsFrom_75 rfl ?_
            refine e_bipush (v := 8) C d_LY_leadsFrom_77 (by decide) ?_
            refine e_iload C d_LY_leadsFrom_79 rfl ?_
            refine e_imul C d_LY_leadsFrom_81 ?_
            refine e_ishl C d_LY_leadsFrom_82 ?_
            refine e_ior C d_LY_leadsFrom_83 ?_
            refine e_istore C d_LY_leadsFrom_84 (by decide) ?_
            refine e_iinc (v := (nI i) + 1) C d_LY_leadsFrom_86 rfl rfl (by decide) ?_
            refine e_goto (tgt := 16) C d_LY_leadsFrom_89 (by decide) ?_
            refine e_lv [(0, .ref ly), (1, .int code), (2, .int (nI p)), (3, .int (nI c)), (4, .int (openChoicesF op (nI p))), (5, .int (pk ||| ((nI (insF mo ct y48).1) <<< ((8 * (nI i)) &&& 31)))), (6, .int (nI (i + 1)))] ⟨rfl, rfl, rfl, rfl, rfl, rfl, congrArg (fun z => some (Value.int z)) (nI_1 i), trivial⟩ ?_
            refine e_ws [oLY ly g ru (nI mo) sz ld wy bk cd nc (nI (insF mo ct y48).2.length) mh mn, aI cI bk 512 fb2, aI cI nc mo fn2, oGR g (nI w) ht pl ho op lpl ea eb, oDG ru g deg] rfl ?_
            exact ihLP (i + 1) _ (insF mo ct y48).2 fb2 fn2 (by omega) (by show lfS mo (cafDK pl ho deg p c code) (openChoicesF op (nI p)) i (itn _ i _) = _; rw [hS]; unfold lfS; rw [← ey48]; unfold lfR; rw [if_neg h53]) hLI2 (by omega)
          · -- 56
            refine e_sipush (v := 255) C d_LY_leadsFrom_56 (by decide) ?_
            refine e_goto (tgt := 71) C d_LY_leadsFrom_59 (by decide) ?_
            refine e_istore C d_LY_leadsFrom_71 (by decide) ?_
            refine e_iload C d_LY_leadsFrom_73 rfl ?_
            refine e_iload C d_LY_leadsFrom_75 rfl ?_
            refine e_bipush (v := 8) C d_LY_leadsFrom_77 (by decide) ?_
            refine e_iload C d_LY_leadsFrom_79 rfl ?_
            refine e_imul C d_LY_leadsFrom_81 ?_
            refine e_ishl C d_LY_leadsFrom_82 ?_
            refine e_ior C d_LY_leadsFrom_83 ?_
            refine e_istore C d_LY_leadsFrom_84 (by decide) ?_
            refine e_iinc (v := (nI i) + 1) C d_LY_leadsFrom_86 rfl rfl (by decide) ?_
            refine e_goto (tgt := 16) C d_LY_leadsFrom_89 (by decide) ?_
            refine e_lv [(0, .ref ly), (1, .int code), (2, .int (nI p)), (3, .int (nI c)), (4, .int (openChoicesF op (nI p))), (5, .int (pk ||| (255 <<< ((8 * (nI i)) &&& 31)))), (6, .int (nI (i + 1)))] ⟨rfl, rfl, rfl, rfl, rfl, rfl, congrArg (fun z => some (Value.int z)) (nI_1 i), trivial⟩ ?_
            refine e_ws [oLY ly g ru (nI mo) sz ld wy bk cd nc (nI ct.length) mh mn, aI cI bk 512 fb, aI cI nc mo fn, oGR g (nI w) ht pl ho op lpl ea eb, oDG ru g deg] rfl ?_
            exact ihLP (i + 1) _ ct fb fn (by omega) (by show lfS mo (cafDK pl ho deg p c code) (openChoicesF op (nI p)) i (itn _ i _) = _; rw [hS]; unfold lfS; rw [← ey48]; unfold lfR; rw [if_pos h53]; rfl) hLI (by omega)
        refine e_iload C d_LY_leadsFrom_22 rfl ?_
        refine e_iload C d_LY_leadsFrom_24 rfl ?_
        refine e_iconst (v := (-1)) C d_LY_leadsFrom_26 rfl ?_
        refine e_ixor C d_LY_leadsFrom_27 ?_
        refine e_iand C d_LY_leadsFrom_28 ?_
        refine e_if_ne (tgt := 47) C d_LY_leadsFrom_29 (by decide) (fun h29 => ?_) (fun h29 => ?_)
        · -- 47
          refine e_iconst (v := (-1)) C d_LY_leadsFrom_47 rfl ?_
          refine e_lv [(0, .ref ly), (1, .int code), (2, .int (nI p)), (3, .int (nI c)), (4, .int (openChoicesF op (nI p))), (5, .int pk), (6, .int (nI i))] ⟨rfl, rfl, rfl, rfl, rfl, rfl, rfl, trivial⟩ ?_
          exact J48 (-1) (by unfold lfY; first | rw [if_pos h29] | rw [if_neg h29])
        · -- 32
          refine e_aload_n C d_LY_leadsFrom_32 rfl rfl ?_
          refine e_get C hin_LY 0 rfl rfl 1 (by decide) fl_LY_13 rfl d_LY_leadsFrom_33 ?_
          refine e_iload_n C d_LY_leadsFrom_36 rfl rfl ?_
          refine e_iload_n C d_LY_leadsFrom_37 rfl rfl ?_
          refine e_iload_n C d_LY_leadsFrom_38 rfl rfl ?_
          refine e_iload C d_LY_leadsFrom_39 rfl ?_
          refine e_callA (As := [.int code, .int (nI p), .int (nI c), .int (nI i)]) (st := []) (wc := [oDG ru g deg, oGR g (nI w) ht pl ho op lpl ea eb]) (wr := [oLY ly g ru (nI mo) sz ld wy bk cd nc (nI ct.length) mh mn, aI cI bk 512 fb, aI cI nc mo fn]) C (M_DG_codeAfter l D cI cJ cZ ru g deg (nI w) ht pl ho op lpl ea eb code (nI p) (nI c) (nI i)) a_DG_codeAfter ml_LY_79 4 rfl rfl nwW_ok ⟨Nat.le_of_ble_eq_true rfl, Nat.le_of_ble_eq_true rfl⟩ ⟨Nat.le_of_ble_eq_true rfl, Nat.le_of_ble_eq_true rfl⟩ [4, 3] [0, 1, 2] rfl rfl rfl rfl (by decide) (Nat.le_of_ble_eq_true rfl) rfl d_LY_leadsFrom_41 (fun v w1 hp => ?_)
          obtain ⟨rfl, rfl⟩ := hp
          refine e_perm (st' := [.int (cafDK pl ho deg p c code (nI i))]) (ws' := [oLY ly g ru (nI mo) sz ld wy bk cd nc (nI ct.length) mh mn, aI cI bk 512 fb, aI cI nc mo fn, oGR g (nI w) ht pl ho op lpl ea eb, oDG ru g deg]) [0, 1, 2, 4, 3] rfl rfl rfl ?_
          refine e_goto (tgt := 48) C d_LY_leadsFrom_44 (by decide) ?_
          refine e_lv [(0, .ref ly), (1, .int code), (2, .int (nI p)), (3, .int (nI c)), (4, .int (openChoicesF op (nI p))), (5, .int pk), (6, .int (nI i))] ⟨rfl, rfl, rfl, rfl, rfl, rfl, rfl, trivial⟩ ?_
          exact J48 (cafDK pl ho deg p c code (nI i)) (by unfold lfY; first | rw [if_pos h29] | rw [if_neg h29])
  refine e_lv [(0, .ref ly), (1, .int code), (2, .int (nI p)), (3, .int (nI c)), (4, .int (openChoicesF op (nI p))), (5, .int 0), (6, .int (nI 0))] ⟨rfl, rfl, rfl, rfl, rfl, rfl, rfl, trivial⟩ ?_
  refine e_ws [oLY ly g ru (nI mo) sz ld wy bk cd nc (nI cs.length) mh mn, aI cI bk 512 fbk, aI cI nc mo fnc, oGR g (nI w) ht pl ho op lpl ea eb, oDG ru g deg] rfl ?_
  exact LP _ 0 0 cs fbk fnc (Nat.zero_le _) rfl hLI0 (Nat.lt_succ_self _)

set_option maxHeartbeats 4000000 in
set_option maxRecDepth 100000 in
theorem M_LY_leadsFrom_LN (l : Launch) (D : va_G) (cI cJ cZ : ClassId) (ly g ru sz ld wy bk cd nc : Nat) (P mo : Nat) (hP : P ≤ 25) (hmo : mo ≤ 136) (mh mn : Int64) (lp : Int32) (w : Nat) (hw : w ≤ 5) (ht pl ho : Int32) (op : Int64) (lpl ea eb : Int32) (fbk fnc : Nat → Int32) (cs : List Int32) (code : Int32) (p c : Nat) (hp : p < P) (hc : c < w) (hLI0 : LInv (p + 1) mo cs fbk fnc) : MK l D cI cJ cZ y_LY_leadsFrom c_LY_leadsFrom 9 (some FieldType.int) 4 105 [.ref ly, .int code, .int (nI p), .int (nI c)] [oLY ly g ru (nI mo) sz ld wy bk cd nc (nI cs.length) mh mn, aI cI bk 512 fbk, aI cI nc mo fnc, oGR g (nI w) ht pl ho op lpl ea eb, oLN ru g lp] 0 0 (fun v w1 => ∃ fb fn : Nat → Int32, v = some (.int (lfF mo (cafLK lp ea eb p c code) (openChoicesF op (nI p)) cs).1) ∧ w1 = [oLY ly g ru (nI mo) sz ld wy bk cd nc (nI (lfF mo (cafLK lp ea eb p c code) (openChoicesF op (nI p)) cs).2.length) mh mn, aI cI bk 512 fb, aI cI nc mo fn, oGR g (nI w) ht pl ho op lpl ea eb, oLN ru g lp] ∧ LInv (p + 1) mo (lfF mo (cafLK lp ea eb p c code) (openChoicesF op (nI p)) cs).2 fb fn) := by
  refine MC.of (by decide) bigW_good (Nat.le_of_ble_eq_true rfl) (fun κ C Z IN => ?_)
  have hPm : P * mo ≤ 3400 := Nat.mul_le_mul hP hmo
  have hPm1 : (P + 1) * mo ≤ 3536 := Nat.mul_le_mul (Nat.succ_le_succ hP) hmo
  refine e_aload_n C d_LY_leadsFrom_0 rfl rfl ?_
  refine e_get C hin_LY 0 rfl rfl 0 (by decide) fl_LY_7 rfl d_LY_leadsFrom_1 ?_
  refine e_iload_n C d_LY_leadsFrom_4 rfl rfl ?_
  refine e_callVN (As := [.int (nI p)]) (st := []) (wc := [oGR g (nI w) ht pl ho op lpl ea eb]) (wr := [oLY ly g ru (nI mo) sz ld wy bk cd nc (nI cs.length) mh mn, aI cI bk 512 fbk, aI cI nc mo fnc, oLN ru g lp]) C (M_GR_openChoices l D cI cJ cZ g (nI w) ht pl ho op lpl ea eb (nI p)) v_GR_openChoices mn_LY_75 3 rfl rfl nwW_ok ⟨Nat.le_of_ble_eq_true rfl, Nat.le_of_ble_eq_true rfl⟩ ⟨Nat.le_of_ble_eq_true rfl, Nat.le_of_ble_eq_true rfl⟩ [3] [0, 1, 2, 4] rfl rfl rfl rfl (by decide) (Nat.le_of_ble_eq_true rfl) rfl d_LY_leadsFrom_5 (fun v w1 hp => ?_)
  obtain ⟨rfl, rfl⟩ := hp
  refine e_perm (st' := [.int (openChoicesF op (nI p))]) (ws' := [oLY ly g ru (nI mo) sz ld wy bk cd nc (nI cs.length) mh mn, aI cI bk 512 fbk, aI cI nc mo fnc, oGR g (nI w) ht pl ho op lpl ea eb, oLN ru g lp]) [0, 1, 2, 4, 3] rfl rfl rfl ?_
  refine e_istore C d_LY_leadsFrom_8 (by decide) ?_
  refine e_iconst (v := 0) C d_LY_leadsFrom_10 rfl ?_
  refine e_istore C d_LY_leadsFrom_11 (by decide) ?_
  refine e_iconst (v := 0) C d_LY_leadsFrom_13 rfl ?_
  refine e_istore C d_LY_leadsFrom_14 (by decide) ?_
  have LP : ∀ (fuel : Nat) (i : Nat) (pk : Int32) (ct : List Int32) (fb fn : Nat → Int32), i ≤ 4 → itn (lfS mo (cafLK lp ea eb p c code) (openChoicesF op (nI p))) i (0, cs) = (pk, ct) → LInv (p + 1) mo ct fb fn →  4 - i < fuel → E κ (lu_o [(0, .ref ly), (1, .int code), (2, .int (nI p)), (3, .int (nI c)), (4, .int (openChoicesF op (nI p))), (5, .int pk), (6, .int (nI i))]) [] [oLY ly g ru (nI mo) sz ld wy bk cd nc (nI ct.length) mh mn, aI cI bk 512 fb, aI cI nc mo fn, oGR g (nI w) ht pl ho op lpl ea eb, oLN ru g lp] 0 0 16 := by
    intro fuel
    induction fuel with
    | zero => intro i pk ct fb fn hi hS hLI hm; exact absurd hm (Nat.not_lt_zero _)
    | succ fuel ihLP =>
      intro i pk ct fb fn hi hS hLI hm
      refine e_iload C d_LY_leadsFrom_16 rfl ?_
      refine e_iconst (v := 4) C d_LY_leadsFrom_18 rfl ?_
      refine e_icmp_ge (tgt := 92) C d_LY_leadsFrom_19 (by decide) (fun h19 => ?_) (fun h19 => ?_)
      · -- 92
        have hi4 : 4 = i := by have q := (nI_leI (a := 4) (by omega) (by omega)).mp h19; omega
        subst hi4
        refine e_iload C d_LY_leadsFrom_92 rfl ?_
        exact e_iret C Z rfl (Nat.le_of_ble_eq_true rfl) (Nat.le_of_ble_eq_true rfl) (⟨fb, fn, by unfold lfF; rw [hS], by unfold lfF; rw [hS], by unfold lfF; rw [hS]; exact hLI⟩) d_LY_leadsFrom_94
      · -- 22
        have hi4 : i < 4 := by rcases Nat.lt_or_ge i 4 with q | q; exact q; exact absurd (nI_le (a := 4) q (by omega)) h19
        refine e_lv [(0, .ref ly), (1, .int code), (2, .int (nI p)), (3, .int (nI c)), (4, .int (openChoicesF op (nI p))), (5, .int pk), (6, .int (nI i))] ⟨rfl, rfl, rfl, rfl, rfl, rfl, rfl, trivial⟩ ?_
        have J48 : ∀ (y48 : Int32), y48 = lfY (cafLK lp ea eb p c code) (openChoicesF op (nI p)) i → E κ (lu_o [(0, .ref ly), (1, .int code), (2, .int (nI p)), (3, .int (nI c)), (4, .int (openChoicesF op (nI p))), (5, .int pk), (6, .int (nI i))]) [.int y48] [oLY ly g ru (nI mo) sz ld wy bk cd nc (nI ct.length) mh mn, aI cI bk 512 fb, aI cI nc mo fn, oGR g (nI w) ht pl ho op lpl ea eb, oLN ru g lp] 0 0 48 := by
          intro y48 ey48
          refine e_istore C d_LY_leadsFrom_48 (by decide) ?_
          refine e_iload C d_LY_leadsFrom_50 rfl ?_
          refine e_iconst (v := (-1)) C d_LY_leadsFrom_52 rfl ?_
          refine e_icmp_ne (tgt := 62) C d_LY_leadsFrom_53 (by decide) (fun h53 => ?_) (fun h53 => ?_)
          · -- 62
            refine e_aload_n C d_LY_leadsFrom_62 rfl rfl ?_
            refine e_iload C d_LY_leadsFrom_63 rfl ?_
            refine e_iload_n C d_LY_leadsFrom_65 rfl rfl ?_
            refine e_iconst (v := 1) C d_LY_leadsFrom_66 rfl ?_
            refine e_iadd C d_LY_leadsFrom_67 ?_
            refine e_st [.int (nI (p + 1)), .int y48, .ref ly] (by rw [nI_1]) ?_
            refine e_callV (As := [.int y48, .int (nI (p + 1))]) (st := []) (wc := [oLY ly g ru (nI mo) sz ld wy bk cd nc (nI ct.length) mh mn, aI cI bk 512 fb, aI cI nc mo fn]) (wr := [oGR g (nI w) ht pl ho op lpl ea eb, oLN ru g lp]) C (M_LY_indexOfNext l D cI cJ cZ ly g ru sz ld wy bk cd nc P mo hP hmo mh mn fb fn ct y48 (p + 1) (by omega) hLI) v_LY_indexOfNext ml_LY_83 0 rfl rfl nwW_ok ⟨Nat.le_of_ble_eq_true rfl, Nat.le_of_ble_eq_true rfl⟩ ⟨Nat.le_of_ble_eq_true rfl, Nat.le_of_ble_eq_true rfl⟩ [0, 1, 2] [3, 4] rfl rfl rfl rfl (by decide) (Nat.le_of_ble_eq_true rfl) rfl d_LY_leadsFrom_68 (fun v w1 hp => ?_)
            obtain ⟨fb2, fn2, rfl, rfl, hLI2⟩ := hp
            refine e_perm (st' := [.int (nI (insF mo ct y48).1)]) (ws' := [oLY ly g ru (nI mo) sz ld wy bk cd nc (nI (insF mo ct y48).2.length) mh mn, aI cI bk 512 fb2, aI cI nc mo fn2, oGR g (nI w) ht pl ho op lpl ea eb, oLN ru g lp]) [2, 3, 4, 0, 1] rfl rfl rfl ?_
            refine e_istore C d_LY_leadsFrom_71 (by decide) ?_
            refine e_iload C d_LY_leadsFrom_73 rfl ?_
            refine e_iload C d_LY_leadsFrom_75 rfl ?_
            refine e_bipush (v := 8) C d_LY_leadsFrom_77 (by decide) ?_
            refine e_iload C d_LY_leadsFrom_79 rfl ?_
            refine e_imul C d_LY_leadsFrom_81 ?_
            refine e_ishl C d_LY_leadsFrom_82 ?_
            refine e_ior C d_LY_leadsFrom_83 ?_
            refine e_istore C d_LY_leadsFrom_84 (by decide) ?_
            refine e_iinc (v := (nI i) + 1) C d_LY_leadsFrom_86 rfl rfl (by decide) ?_
            refine e_goto (tgt := 16) C d_LY_leadsFrom_89 (by decide) ?_
            refine e_lv [(0, .ref ly), (1, .int code), (2, .int (nI p)), (3, .int (nI c)), (4, .int (openChoicesF op (nI p))), (5, .int (pk ||| ((nI (insF mo ct y48).1) <<< ((8 * (nI i)) &&& 31)))), (6, .int (nI (i + 1)))] ⟨rfl, rfl, rfl, rfl, rfl, rfl, congrArg (fun z => some (Value.int z)) (nI_1 i), trivial⟩ ?_
            refine e_ws [oLY ly g ru (nI mo) sz ld wy bk cd nc (nI (insF mo ct y48).2.length) mh mn, aI cI bk 512 fb2, aI cI nc mo fn2, oGR g (nI w) ht pl ho op lpl ea eb, oLN ru g lp] rfl ?_
            exact ihLP (i + 1) _ (insF mo ct y48).2 fb2 fn2 (by omega) (by show lfS mo (cafLK lp ea eb p c code) (openChoicesF op (nI p)) i (itn _ i _) = _; rw [hS]; unfold lfS; rw [← ey48]; unfold lfR; rw [if_neg h53]) hLI2 (by omega)
          · -- 56
            refine e_sipush (v := 255) C d_LY_leadsFrom_56 (by decide) ?_
            refine e_goto (tgt := 71) C d_LY_leadsFrom_59 (by decide) ?_
            refine e_istore C d_LY_leadsFrom_71 (by decide) ?_
            refine e_iload C d_LY_leadsFrom_73 rfl ?_
            refine e_iload C d_LY_leadsFrom_75 rfl ?_
            refine e_bipush (v := 8) C d_LY_leadsFrom_77 (by decide) ?_
            refine e_iload C d_LY_leadsFrom_79 rfl ?_
            refine e_imul C d_LY_leadsFrom_81 ?_
            refine e_ishl C d_LY_leadsFrom_82 ?_
            refine e_ior C d_LY_leadsFrom_83 ?_
            refine e_istore C d_LY_leadsFrom_84 (by decide) ?_
            refine e_iinc (v := (nI i) + 1) C d_LY_leadsFrom_86 rfl rfl (by decide) ?_
            refine e_goto (tgt := 16) C d_LY_leadsFrom_89 (by decide) ?_
            refine e_lv [(0, .ref ly), (1, .int code), (2, .int (nI p)), (3, .int (nI c)), (4, .int (openChoicesF op (nI p))), (5, .int (pk ||| (255 <<< ((8 * (nI i)) &&& 31)))), (6, .int (nI (i + 1)))] ⟨rfl, rfl, rfl, rfl, rfl, rfl, congrArg (fun z => some (Value.int z)) (nI_1 i), trivial⟩ ?_
            refine e_ws [oLY ly g ru (nI mo) sz ld wy bk cd nc (nI ct.length) mh mn, aI cI bk 512 fb, aI cI nc mo fn, oGR g (nI w) ht pl ho op lpl ea eb, oLN ru g lp] rfl ?_
            exact ihLP (i + 1) _ ct fb fn (by omega) (by show lfS mo (cafLK lp ea eb p c code) (openChoicesF op (nI p)) i (itn _ i _) = _; rw [hS]; unfold lfS; rw [← ey48]; unfold lfR; rw [if_pos h53]; rfl) hLI (by omega)
        refine e_iload C d_LY_leadsFrom_22 rfl ?_
        refine e_iload C d_LY_leadsFrom_24 rfl ?_
        refine e_iconst (v := (-1)) C d_LY_leadsFrom_26 rfl ?_
        refine e_ixor C d_LY_leadsFrom_27 ?_
        refine e_iand C d_LY_leadsFrom_28 ?_
        refine e_if_ne (tgt := 47) C d_LY_leadsFrom_29 (by decide) (fun h29 => ?_) (fun h29 => ?_)
        · -- 47
          refine e_iconst (v := (-1)) C d_LY_leadsFrom_47 rfl ?_
          refine e_lv [(0, .ref ly), (1, .int code), (2, .int (nI p)), (3, .int (nI c)), (4, .int (openChoicesF op (nI p))), (5, .int pk), (6, .int (nI i))] ⟨rfl, rfl, rfl, rfl, rfl, rfl, rfl, trivial⟩ ?_
          exact J48 (-1) (by unfold lfY; first | rw [if_pos h29] | rw [if_neg h29])
        · -- 32
          refine e_aload_n C d_LY_leadsFrom_32 rfl rfl ?_
          refine e_get C hin_LY 0 rfl rfl 1 (by decide) fl_LY_13 rfl d_LY_leadsFrom_33 ?_
          refine e_iload_n C d_LY_leadsFrom_36 rfl rfl ?_
          refine e_iload_n C d_LY_leadsFrom_37 rfl rfl ?_
          refine e_iload_n C d_LY_leadsFrom_38 rfl rfl ?_
          refine e_iload C d_LY_leadsFrom_39 rfl ?_
          refine e_callA (As := [.int code, .int (nI p), .int (nI c), .int (nI i)]) (st := []) (wc := [oLN ru g lp, oGR g (nI w) ht pl ho op lpl ea eb]) (wr := [oLY ly g ru (nI mo) sz ld wy bk cd nc (nI ct.length) mh mn, aI cI bk 512 fb, aI cI nc mo fn]) C (M_LN_codeAfter l D cI cJ cZ ru g lp (nI w) ht pl ho op lpl ea eb code (nI p) (nI i) c (by omega)) a_LN_codeAfter ml_LY_79 4 rfl rfl nwW_ok ⟨Nat.le_of_ble_eq_true rfl, Nat.le_of_ble_eq_true rfl⟩ ⟨Nat.le_of_ble_eq_true rfl, Nat.le_of_ble_eq_true rfl⟩ [4, 3] [0, 1, 2] rfl rfl rfl rfl (by decide) (Nat.le_of_ble_eq_true rfl) rfl d_LY_leadsFrom_41 (fun v w1 hp => ?_)
          obtain ⟨rfl, rfl⟩ := hp
          refine e_perm (st' := [.int (cafLK lp ea eb p c code (nI i))]) (ws' := [oLY ly g ru (nI mo) sz ld wy bk cd nc (nI ct.length) mh mn, aI cI bk 512 fb, aI cI nc mo fn, oGR g (nI w) ht pl ho op lpl ea eb, oLN ru g lp]) [0, 1, 2, 4, 3] rfl rfl rfl ?_
          refine e_goto (tgt := 48) C d_LY_leadsFrom_44 (by decide) ?_
          refine e_lv [(0, .ref ly), (1, .int code), (2, .int (nI p)), (3, .int (nI c)), (4, .int (openChoicesF op (nI p))), (5, .int pk), (6, .int (nI i))] ⟨rfl, rfl, rfl, rfl, rfl, rfl, rfl, trivial⟩ ?_
          exact J48 (cafLK lp ea eb p c code (nI i)) (by unfold lfY; first | rw [if_pos h29] | rw [if_neg h29])
  refine e_lv [(0, .ref ly), (1, .int code), (2, .int (nI p)), (3, .int (nI c)), (4, .int (openChoicesF op (nI p))), (5, .int 0), (6, .int (nI 0))] ⟨rfl, rfl, rfl, rfl, rfl, rfl, rfl, trivial⟩ ?_
  refine e_ws [oLY ly g ru (nI mo) sz ld wy bk cd nc (nI cs.length) mh mn, aI cI bk 512 fbk, aI cI nc mo fnc, oGR g (nI w) ht pl ho op lpl ea eb, oLN ru g lp] rfl ?_
  exact LP _ 0 0 cs fbk fnc (Nat.zero_le _) rfl hLI0 (Nat.lt_succ_self _)

set_option maxHeartbeats 4000000 in
set_option maxRecDepth 100000 in
theorem M_LY_leadsFrom_TR (l : Launch) (D : va_G) (cI cJ cZ : ClassId) (ly g ru sz ld wy bk cd nc : Nat) (P mo : Nat) (hP : P ≤ 25) (hmo : mo ≤ 136) (mh mn : Int64) (pcs : Nat) (w : Nat) (hw : w ≤ 5) (ht pl ho : Int32) (op : Int64) (lpl ea eb : Int32) (fbk fnc pf0 : Nat → Int32) (cs : List Int32) (code : Int32) (p c : Nat) (hp : p < P) (hc : c < w) (hLI0 : LInv (p + 1) mo cs fbk fnc) : MK l D cI cJ cZ y_LY_leadsFrom c_LY_leadsFrom 9 (some FieldType.int) 4 105 [.ref ly, .int code, .int (nI p), .int (nI c)] [oLY ly g ru (nI mo) sz ld wy bk cd nc (nI cs.length) mh mn, aI cI bk 512 fbk, aI cI nc mo fnc, oGR g (nI w) ht pl ho op lpl ea eb, oTR ru g pcs, aI cI pcs w pf0] 0 0 (fun v w1 => ∃ fb fn pf : Nat → Int32, v = some (.int (lfF mo (cafTK w pl ho lpl p c code) (openChoicesF op (nI p)) cs).1) ∧ w1 = [oLY ly g ru (nI mo) sz ld wy bk cd nc (nI (lfF mo (cafTK w pl ho lpl p c code) (openChoicesF op (nI p)) cs).2.length) mh mn, aI cI bk 512 fb, aI cI nc mo fn, oGR g (nI w) ht pl ho op lpl ea eb, oTR ru g pcs, aI cI pcs w pf] ∧ LInv (p + 1) mo (lfF mo (cafTK w pl ho lpl p c code) (openChoicesF op (nI p)) cs).2 fb fn) := by
  refine MC.of (by decide) bigW_good (Nat.le_of_ble_eq_true rfl) (fun κ C Z IN => ?_)
  have hPm : P * mo ≤ 3400 := Nat.mul_le_mul hP hmo
  have hPm1 : (P + 1) * mo ≤ 3536 := Nat.mul_le_mul (Nat.succ_le_succ hP) hmo
  refine e_aload_n C d_LY_leadsFrom_0 rfl rfl ?_
  refine e_get C hin_LY 0 rfl rfl 0 (by decide) fl_LY_7 rfl d_LY_leadsFrom_1 ?_
  refine e_iload_n C d_LY_leadsFrom_4 rfl rfl ?_
  refine e_callVN (As := [.int (nI p)]) (st := []) (wc := [oGR g (nI w) ht pl ho op lpl ea eb]) (wr := [oLY ly g ru (nI mo) sz ld wy bk cd nc (nI cs.length) mh mn, aI cI bk 512 fbk, aI cI nc mo fnc, oTR ru g pcs, aI cI pcs w pf0]) C (M_GR_openChoices l D cI cJ cZ g (nI w) ht pl ho op lpl ea eb (nI p)) v_GR_openChoices mn_LY_75 3 rfl rfl nwW_ok ⟨Nat.le_of_ble_eq_true rfl, Nat.le_of_ble_eq_true rfl⟩ ⟨Nat.le_of_ble_eq_true rfl, Nat.le_of_ble_eq_true rfl⟩ [3] [0, 1, 2, 4, 5] rfl rfl rfl rfl (by decide) (Nat.le_of_ble_eq_true rfl) rfl d_LY_leadsFrom_5 (fun v w1 hp => ?_)
  obtain ⟨rfl, rfl⟩ := hp
  refine e_perm (st' := [.int (openChoicesF op (nI p))]) (ws' := [oLY ly g ru (nI mo) sz ld wy bk cd nc (nI cs.length) mh mn, aI cI bk 512 fbk, aI cI nc mo fnc, oGR g (nI w) ht pl ho op lpl ea eb, oTR ru g pcs, aI cI pcs w pf0]) [0, 1, 2, 5, 3, 4] rfl rfl rfl ?_
  refine e_istore C d_LY_leadsFrom_8 (by decide) ?_
  refine e_iconst (v := 0) C d_LY_leadsFrom_10 rfl ?_
  refine e_istore C d_LY_leadsFrom_11 (by decide) ?_
  refine e_iconst (v := 0) C d_LY_leadsFrom_13 rfl ?_
  refine e_istore C d_LY_leadsFrom_14 (by decide) ?_
  have LP : ∀ (fuel : Nat) (i : Nat) (pk : Int32) (ct : List Int32) (fb fn : Nat → Int32) (pf : Nat → Int32), i ≤ 4 → itn (lfS mo (cafTK w pl ho lpl p c code) (openChoicesF op (nI p))) i (0, cs) = (pk, ct) → LInv (p + 1) mo ct fb fn →  4 - i < fuel → E κ (lu_o [(0, .ref ly), (1, .int code), (2, .int (nI p)), (3, .int (nI c)), (4, .int (openChoicesF op (nI p))), (5, .int pk), (6, .int (nI i))]) [] [oLY ly g ru (nI mo) sz ld wy bk cd nc (nI ct.length) mh mn, aI cI bk 512 fb, aI cI nc mo fn, oGR g (nI w) ht pl ho op lpl ea eb, oTR ru g pcs, aI cI pcs w pf] 0 0 16 := by
    intro fuel
    induction fuel with
    | zero => intro i pk ct fb fn pf hi hS hLI hm; exact absurd hm (Nat.not_lt_zero _)
    | succ fuel ihLP =>
      intro i pk ct fb fn pf hi hS hLI hm
      refine e_iload C d_LY_leadsFrom_16 rfl ?_
      refine e_iconst (v := 4) C d_LY_leadsFrom_18 rfl ?_
      refine e_icmp_ge (tgt := 92) C d_LY_leadsFrom_19 (by decide) (fun h19 => ?_) (fun h19 => ?_)
      · -- 92
        have hi4 : 4 = i := by have q := (nI_leI (a := 4) (by omega) (by omega)).mp h19; omega
        subst hi4
        refine e_iload C d_LY_leadsFrom_92 rfl ?_
        exact e_iret C Z rfl (Nat.le_of_ble_eq_true rfl) (Nat.le_of_ble_eq_true rfl) (⟨fb, fn, pf, by unfold lfF; rw [hS], by unfold lfF; rw [hS], by unfold lfF; rw [hS]; exact hLI⟩) d_LY_leadsFrom_94
      · -- 22
        have hi4 : i < 4 := by rcases Nat.lt_or_ge i 4 with q | q; exact q; exact absurd (nI_le (a := 4) q (by omega)) h19
        refine e_lv [(0, .ref ly), (1, .int code), (2, .int (nI p)), (3, .int (nI c)), (4, .int (openChoicesF op (nI p))), (5, .int pk), (6, .int (nI i))] ⟨rfl, rfl, rfl, rfl, rfl, rfl, rfl, trivial⟩ ?_
        have J48 : ∀ (y48 : Int32) (pfy : Nat → Int32), y48 = lfY (cafTK w pl ho lpl p c code) (openChoicesF op (nI p)) i → E κ (lu_o [(0, .ref ly), (1, .int code), (2, .int (nI p)), (3, .int (nI c)), (4, .int (openChoicesF op (nI p))), (5, .int pk), (6, .int (nI i))]) [.int y48] [oLY ly g ru (nI mo) sz ld wy bk cd nc (nI ct.length) mh mn, aI cI bk 512 fb, aI cI nc mo fn, oGR g (nI w) ht pl ho op lpl ea eb, oTR ru g pcs, aI cI pcs w pfy] 0 0 48 := by
          intro y48 pfy ey48
          refine e_istore C d_LY_leadsFrom_48 (by decide) ?_
          refine e_iload C d_LY_leadsFrom_50 rfl ?_
          refine e_iconst (v := (-1)) C d_LY_leadsFrom_52 rfl ?_
          refine e_icmp_ne (tgt := 62) C d_LY_leadsFrom_53 (by decide) (fun h53 => ?_) (fun h53 => ?_)
          · -- 62
            refine e_aload_n C d_LY_leadsFrom_62 rfl rfl ?_
            refine e_iload C d_LY_leadsFrom_63 rfl ?_
            refine e_iload_n C d_LY_leadsFrom_65 rfl rfl ?_
            refine e_iconst (v := 1) C d_LY_leadsFrom_66 rfl ?_
            refine e_iadd C d_LY_leadsFrom_67 ?_
            refine e_st [.int (nI (p + 1)), .int y48, .ref ly] (by rw [nI_1]) ?_
            refine e_callV (As := [.int y48, .int (nI (p + 1))]) (st := []) (wc := [oLY ly g ru (nI mo) sz ld wy bk cd nc (nI ct.length) mh mn, aI cI bk 512 fb, aI cI nc mo fn]) (wr := [oGR g (nI w) ht pl ho op lpl ea eb, oTR ru g pcs, aI cI pcs w pfy]) C (M_LY_indexOfNext l D cI cJ cZ ly g ru sz ld wy bk cd nc P mo hP hmo mh mn fb fn ct y48 (p + 1) (by omega) hLI) v_LY_indexOfNext ml_LY_83 0 rfl rfl nwW_ok ⟨Nat.le_of_ble_eq_true rfl, Nat.le_of_ble_eq_true rfl⟩ ⟨Nat.le_of_ble_eq_true rfl, Nat.le_of_ble_eq_true rfl⟩ [0, 1, 2] [3, 4, 5] rfl rfl rfl rfl (by decide) (Nat.le_of_ble_eq_true rfl) rfl d_LY_leadsFrom_68 (fun v w1 hp => ?_)
            obtain ⟨fb2, fn2, rfl, rfl, hLI2⟩ := hp
            refine e_perm (st' := [.int (nI (insF mo ct y48).1)]) (ws' := [oLY ly g ru (nI mo) sz ld wy bk cd nc (nI (insF mo ct y48).2.length) mh mn, aI cI bk 512 fb2, aI cI nc mo fn2, oGR g (nI w) ht pl ho op lpl ea eb, oTR ru g pcs, aI cI pcs w pfy]) [3, 4, 5, 0, 1, 2] rfl rfl rfl ?_
            refine e_istore C d_LY_leadsFrom_71 (by decide) ?_
            refine e_iload C d_LY_leadsFrom_73 rfl ?_
            refine e_iload C d_LY_leadsFrom_75 rfl ?_
            refine e_bipush (v := 8) C d_LY_leadsFrom_77 (by decide) ?_
            refine e_iload C d_LY_leadsFrom_79 rfl ?_
            refine e_imul C d_LY_leadsFrom_81 ?_
            refine e_ishl C d_LY_leadsFrom_82 ?_
            refine e_ior C d_LY_leadsFrom_83 ?_
            refine e_istore C d_LY_leadsFrom_84 (by decide) ?_
            refine e_iinc (v := (nI i) + 1) C d_LY_leadsFrom_86 rfl rfl (by decide) ?_
            refine e_goto (tgt := 16) C d_LY_leadsFrom_89 (by decide) ?_
            refine e_lv [(0, .ref ly), (1, .int code), (2, .int (nI p)), (3, .int (nI c)), (4, .int (openChoicesF op (nI p))), (5, .int (pk ||| ((nI (insF mo ct y48).1) <<< ((8 * (nI i)) &&& 31)))), (6, .int (nI (i + 1)))] ⟨rfl, rfl, rfl, rfl, rfl, rfl, congrArg (fun z => some (Value.int z)) (nI_1 i), trivial⟩ ?_
            refine e_ws [oLY ly g ru (nI mo) sz ld wy bk cd nc (nI (insF mo ct y48).2.length) mh mn, aI cI bk 512 fb2, aI cI nc mo fn2, oGR g (nI w) ht pl ho op lpl ea eb, oTR ru g pcs, aI cI pcs w pfy] rfl ?_
            exact ihLP (i + 1) _ (insF mo ct y48).2 fb2 fn2 pfy (by omega) (by show lfS mo (cafTK w pl ho lpl p c code) (openChoicesF op (nI p)) i (itn _ i _) = _; rw [hS]; unfold lfS; rw [← ey48]; unfold lfR; rw [if_neg h53]) hLI2 (by omega)
          · -- 56
            refine e_sipush (v := 255) C d_LY_leadsFrom_56 (by decide) ?_
            refine e_goto (tgt := 71) C d_LY_leadsFrom_59 (by decide) ?_
            refine e_istore C d_LY_leadsFrom_71 (by decide) ?_
            refine e_iload C d_LY_leadsFrom_73 rfl ?_
            refine e_iload C d_LY_leadsFrom_75 rfl ?_
            refine e_bipush (v := 8) C d_LY_leadsFrom_77 (by decide) ?_
            refine e_iload C d_LY_leadsFrom_79 rfl ?_
            refine e_imul C d_LY_leadsFrom_81 ?_
            refine e_ishl C d_LY_leadsFrom_82 ?_
            refine e_ior C d_LY_leadsFrom_83 ?_
            refine e_istore C d_LY_leadsFrom_84 (by decide) ?_
            refine e_iinc (v := (nI i) + 1) C d_LY_leadsFrom_86 rfl rfl (by decide) ?_
            refine e_goto (tgt := 16) C d_LY_leadsFrom_89 (by decide) ?_
            refine e_lv [(0, .ref ly), (1, .int code), (2, .int (nI p)), (3, .int (nI c)), (4, .int (openChoicesF op (nI p))), (5, .int (pk ||| (255 <<< ((8 * (nI i)) &&& 31)))), (6, .int (nI (i + 1)))] ⟨rfl, rfl, rfl, rfl, rfl, rfl, congrArg (fun z => some (Value.int z)) (nI_1 i), trivial⟩ ?_
            refine e_ws [oLY ly g ru (nI mo) sz ld wy bk cd nc (nI ct.length) mh mn, aI cI bk 512 fb, aI cI nc mo fn, oGR g (nI w) ht pl ho op lpl ea eb, oTR ru g pcs, aI cI pcs w pfy] rfl ?_
            exact ihLP (i + 1) _ ct fb fn pfy (by omega) (by show lfS mo (cafTK w pl ho lpl p c code) (openChoicesF op (nI p)) i (itn _ i _) = _; rw [hS]; unfold lfS; rw [← ey48]; unfold lfR; rw [if_pos h53]; rfl) hLI (by omega)
        refine e_iload C d_LY_leadsFrom_22 rfl ?_
        refine e_iload C d_LY_leadsFrom_24 rfl ?_
        refine e_iconst (v := (-1)) C d_LY_leadsFrom_26 rfl ?_
        refine e_ixor C d_LY_leadsFrom_27 ?_
        refine e_iand C d_LY_leadsFrom_28 ?_
        refine e_if_ne (tgt := 47) C d_LY_leadsFrom_29 (by decide) (fun h29 => ?_) (fun h29 => ?_)
        · -- 47
          refine e_iconst (v := (-1)) C d_LY_leadsFrom_47 rfl ?_
          refine e_lv [(0, .ref ly), (1, .int code), (2, .int (nI p)), (3, .int (nI c)), (4, .int (openChoicesF op (nI p))), (5, .int pk), (6, .int (nI i))] ⟨rfl, rfl, rfl, rfl, rfl, rfl, rfl, trivial⟩ ?_
          exact J48 (-1) pf (by unfold lfY; first | rw [if_pos h29] | rw [if_neg h29])
        · -- 32
          refine e_aload_n C d_LY_leadsFrom_32 rfl rfl ?_
          refine e_get C hin_LY 0 rfl rfl 1 (by decide) fl_LY_13 rfl d_LY_leadsFrom_33 ?_
          refine e_iload_n C d_LY_leadsFrom_36 rfl rfl ?_
          refine e_iload_n C d_LY_leadsFrom_37 rfl rfl ?_
          refine e_iload_n C d_LY_leadsFrom_38 rfl rfl ?_
          refine e_iload C d_LY_leadsFrom_39 rfl ?_
          refine e_callA (As := [.int code, .int (nI p), .int (nI c), .int (nI i)]) (st := []) (wc := [oTR ru g pcs, aI cI pcs w pf, oGR g (nI w) ht pl ho op lpl ea eb]) (wr := [oLY ly g ru (nI mo) sz ld wy bk cd nc (nI ct.length) mh mn, aI cI bk 512 fb, aI cI nc mo fn]) C (M_TR_codeAfter l D cI cJ cZ ru g pcs w hw pf ht pl ho op lpl ea eb code (nI p) (nI i) c hc) a_TR_codeAfter ml_LY_79 4 rfl rfl nwW_ok ⟨Nat.le_of_ble_eq_true rfl, Nat.le_of_ble_eq_true rfl⟩ ⟨Nat.le_of_ble_eq_true rfl, Nat.le_of_ble_eq_true rfl⟩ [4, 5, 3] [0, 1, 2] rfl rfl rfl rfl (by decide) (Nat.le_of_ble_eq_true rfl) rfl d_LY_leadsFrom_41 (fun v w1 hp => ?_)
          obtain ⟨pf2, rfl, rfl⟩ := hp
          refine e_perm (st' := [.int (cafTK w pl ho lpl p c code (nI i))]) (ws' := [oLY ly g ru (nI mo) sz ld wy bk cd nc (nI ct.length) mh mn, aI cI bk 512 fb, aI cI nc mo fn, oGR g (nI w) ht pl ho op lpl ea eb, oTR ru g pcs, aI cI pcs w pf2]) [0, 1, 2, 5, 3, 4] rfl rfl rfl ?_
          refine e_goto (tgt := 48) C d_LY_leadsFrom_44 (by decide) ?_
          refine e_lv [(0, .ref ly), (1, .int code), (2, .int (nI p)), (3, .int (nI c)), (4, .int (openChoicesF op (nI p))), (5, .int pk), (6, .int (nI i))] ⟨rfl, rfl, rfl, rfl, rfl, rfl, rfl, trivial⟩ ?_
          exact J48 (cafTK w pl ho lpl p c code (nI i)) pf2 (by unfold lfY; first | rw [if_pos h29] | rw [if_neg h29])
  refine e_lv [(0, .ref ly), (1, .int code), (2, .int (nI p)), (3, .int (nI c)), (4, .int (openChoicesF op (nI p))), (5, .int 0), (6, .int (nI 0))] ⟨rfl, rfl, rfl, rfl, rfl, rfl, rfl, trivial⟩ ?_
  refine e_ws [oLY ly g ru (nI mo) sz ld wy bk cd nc (nI cs.length) mh mn, aI cI bk 512 fbk, aI cI nc mo fnc, oGR g (nI w) ht pl ho op lpl ea eb, oTR ru g pcs, aI cI pcs w pf0] rfl ?_
  exact LP _ 0 0 cs fbk fnc pf0 (Nat.zero_le _) rfl hLI0 (Nat.lt_succ_self _)
