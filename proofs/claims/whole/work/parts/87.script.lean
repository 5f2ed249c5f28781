/-! THE LAW: the script, read and never written; cell -/
def Xk (κ : eT) (b L : Nat) (xs : Nat → Int32) : Prop := match κ with
  | (_, _, _, _, s, _, _, _, _, _, A, _, _, _, _) => va_X b L xs s s.heap ∧ b < s.heap.size ∧ ¬ A b
section SROWS
variable {κ : eT} {cc : ByteArray} {nL : Nat} {own : String} {Ts : List Cond} {R : Room} {l : Launch} {D : va_G} {cl : List vw_C} {tys : List (ClassId × FieldType)} {nw : List Cond} {lv : List (Nat × Option Value)} {st : List Value} {ws : va_W} {k n pc : Nat} {b L : Nat} {xs : Nat → Int32}
theorem e_sld {i : Int32} (C : Cb κ cc nL own Ts R l D cl tys nw) (X : Xk κ b L xs) (hin : vp_in i L) (hdg : decode cc pc = .ok (.iaload, 1)) (kk : E κ lv (.int (xs i.toNatClampNeg) :: st) ws k n (pc + 1)) : E κ lv (.int i :: .ref b :: st) ws k n pc := by
  obtain ⟨p, l0, e, R0, s, m, args, below, meth, c, A, nL0, D0, cl0, Q⟩ := κ
  obtain ⟨rfl, rfl, rfl, rfl, rfl, hx, hb, hml, hown, hts, hgT, hK, hnw, hA⟩ := C
  exact fun H locs ls hl hP hD hS => va_sld hx hb X.1 X.2.1 X.2.2 hS hin hdg (kk H locs ls hl hP hD hS)
theorem e_slen (C : Cb κ cc nL own Ts R l D cl tys nw) (X : Xk κ b L xs) (hdg : decode cc pc = .ok (.arraylength, 1)) (kk : E κ lv (.int (nI L) :: st) ws k n (pc + 1)) : E κ lv (.ref b :: st) ws k n pc := by
  obtain ⟨p, l0, e, R0, s, m, args, below, meth, c, A, nL0, D0, cl0, Q⟩ := κ
  obtain ⟨rfl, rfl, rfl, rfl, rfl, hx, hb, hml, hown, hts, hgT, hK, hnw, hA⟩ := C
  exact fun H locs ls hl hP hD hS => va_slen hx hb X.1 X.2.1 X.2.2 hS hdg (kk H locs ls hl hP hD hS)
end SROWS
/-- the contract of a method that reads the script -/
def MX (l : Launch) (Ts : List Cond) (y : MethodName) (cc : ByteArray) (nL : Nat) (ret : Option FieldType) (fr lo : Nat) (D : va_G) (cl : List vw_C) (tys : List (ClassId × FieldType)) (nw : List Cond) (b L : Nat) (xs : Nat → Int32) (av : List Value) (post : Option Value → va_W → Prop) : Prop :=
  ∀ sz : Nat, Met l y (Cond.code y cc nL ret :: Ts) { frames := fr, cells := 0, slots := 0, locals := lo } (fun a U => Pg D cl tys nw av [] sz a U ∧ va_X b L xs U U.heap ∧ b < sz) (Qg D cl post (va_A [] sz)) 0 0 (va_A [] sz)
theorem va_A_nil {sz b : Nat} (h : b < sz) : ¬ va_A [] sz b := by
  intro q
  rcases q with q | q
  · obtain ⟨k, e, hq⟩ := q
    simp at hq
  · omega
theorem MX.of {l : Launch} {Ts : List Cond} {y : MethodName} {cc : ByteArray} {nL : Nat} {ret : Option FieldType} {fr lo : Nat} {D : va_G} {cl : List vw_C} {tys : List (ClassId × FieldType)} {nw : List Cond} {b L : Nat} {xs : Nat → Int32} {av : List Value} {post : Option Value → va_W → Prop} (hy : plainName y.cls = true) (hgT : ∀ w ∈ Ts, goodWord w = true) (hav : (lg_sl av).length ≤ nL)
    (body : ∀ κ : eT, Cb κ cc nL y.cls Ts { frames := fr, cells := 0, slots := 0, locals := lo } l D cl tys nw → Rt κ ret post 0 0 → Xk κ b L xs → E κ (lu_o (lv_args 0 av)) [] [] 0 0 0) : MX l Ts y cc nL ret fr lo D cl tys nw b L xs av post := by
  intro sz
  refine Met.ofW (cc := cc) (maxL := nL) (ret := ret) hy rfl ?_
  intro p e s m args below meth c s₁ B hml hv
  obtain ⟨⟨rfl, hsz, hP, hK, hN, hD0⟩, hX, hbl⟩ := hv
  subst hsz
  rw [lg_entry_eq]
  exact body (p, l, e, _, s, m, av.toArray, below, meth, c, va_A [] s.heap.size, nL, D, cl, _) ⟨rfl, rfl, rfl, rfl, rfl, B.exec, B.bytes, hml, findClass_of_methodNamed B.named, fun w hw => atoms_spec (ws := Cond.code y cc nL ret :: Ts) B.pre w (List.mem_cons_of_mem _ hw), hgT, hK, hN, fun q h => Or.inr h⟩ ⟨B.returns, B.notSynchronized, rfl⟩ ⟨hX, hbl, va_A_nil hbl⟩ s.heap [] _ (eL_entry av hav) hP hD0.self va_S.rf
section SCALL
variable {κ : eT} {cc : ByteArray} {nL : Nat} {own : String} {Ts : List Cond} {R : Room} {l : Launch} {D : va_G} {cl : List vw_C} {tys : List (ClassId × FieldType)} {nw : List Cond} {lv : List (Nat × Option Value)} {st : List Value} {ws : va_W} {k n pc : Nat} {b L : Nat} {xs : Nat → Int32}
theorem e_callX {y : MethodName} {bytes : ByteArray} {maxL fr lo ix : Nat} {ret : Option FieldType} {post : Option Value → va_W → Prop} {wr : va_W} {As st0 : List Value} (C : Cb κ cc nL own Ts R l D cl tys nw) (X : Xk κ b L xs) (hM : MX l Ts y bytes maxL ret fr lo D cl tys nw b L xs As post) (hv : mS Ts y bytes maxL ret As.length) (hw : Cond.methodLink own ix y ∈ Ts) (hnk : ∀ w ∈ nw, nwk w = true) (hf : k + 0 ≤ R.cells ∧ n + 0 ≤ R.slots) (hR : fr + 1 ≤ R.frames ∧ 8 + (maxL + 11) + lo ≤ R.locals) (isR : List Nat) (hRr : isR.map (fun i => ws[i]?) = wr.map some) (hnR : va_nd isR = true) (hst : (st.map fun v => v.category).sum ≤ 8) (hs : st0 = As.reverse ++ st) (hdg : decode cc pc = .ok (.invokestatic ix, 3)) (kk : ∀ (v : Option Value) (w1 : va_W), post v w1 → E κ lv (v.toList ++ st) (wr ++ w1) (k + 0) (n + 0) (pc + 3)) : E κ lv st0 ws k n pc := by
  obtain ⟨p, l0, e, R0, s, m, args, below, meth, c, A, nL0, D0, cl0, Q⟩ := κ
  obtain ⟨rfl, rfl, rfl, rfl, rfl, hx, hb, hml, hown, hts, hgT, hK, hnw, hA⟩ := C
  subst hs
  exact fun H locs ls hl hP hD hS => w_call (va_runS (As := As) (rest := st) ⟨hx, hb, hml, hown, hts⟩ (hM H.size) ⟨callB_of As.length hts (good_cons hv.1 hgT) rfl rfl rfl (hts _ hv.2.2.1) (hts _ hw) hv.2.2.2 hR, hts _ hv.2.1⟩
    ⟨fun a U g mk q => ⟨Pg_blind hnk a U g mk q.1, va_X.moved (u := U) (U := U.calling g mk a) (Vm.Alike.refl U.vm) q.2.1, q.2.2⟩, fun U hU hW => ⟨Pg_pre (A := A) hnk hK hnw (va_P_in hP [] rfl) (hD.sub [] rfl rfl) U hU hW, by rw [hU]; exact va_X.moved hW.alike (X.1.kept (hS.2.1 b X.2.1 X.2.2)), Nat.lt_of_lt_of_le X.2.1 hS.1⟩⟩ rfl rfl hl.1 rfl (lv_room hst) hdg hf) hP hD hS hA [] isR rfl hRr hnR (fun _ _ h => nomatch h) (fun v w1 H1 locs1 hp hP1 hD1 hS1 => kk v w1 hp H1 locs1 ls hl hP1 hD1 hS1)
end SCALL
def cellF (L : Nat) (xs : Nat → Int32) (i : Nat) : Int32 := if i < L then xs i else 0
set_option maxHeartbeats 4000000 in
set_option maxRecDepth 100000 in
theorem M_LW_cell (l : Launch) (D : va_G) (cI cJ cZ : ClassId) (b L : Nat) (hL : L ≤ 2051) (xs : Nat → Int32) (i : Nat) (hi : i < 3) : MX l bigW y_LW_cell c_LW_cell 2 (some FieldType.int) 0 0 D vwCl (tyL cI cJ cZ) nwW b L xs [.ref b, .int (nI i)] (rI (cellF L xs i) []) := by
  refine MX.of (by decide) bigW_good (Nat.le_of_ble_eq_true rfl) (fun κ C Z X => ?_)
  refine e_iload_n C d_LW_cell_0 rfl rfl ?_
  refine e_aload_n C d_LW_cell_1 rfl rfl ?_
  refine e_slen C X d_LW_cell_2 ?_
  refine e_icmp_ge (tgt := 12) C d_LW_cell_3 (by decide) (fun h => ?_) (fun h => ?_)
  · refine e_iconst (v := 0) C d_LW_cell_12 rfl ?_
    have hv : cellF L xs i = 0 := by unfold cellF; rw [if_neg (by have := (nI_leI (show L < 2 ^ 31 by omega) (show i < 2 ^ 31 by omega)).mp h; omega)]
    exact e_iret C Z rfl (Nat.le_of_ble_eq_true rfl) (Nat.le_of_ble_eq_true rfl) ⟨by rw [hv], rfl⟩ d_LW_cell_13
  · have hlt : i < L := by
      rcases Nat.lt_or_ge i L with q | q
      · exact q
      · exact absurd (nI_le q (by omega)) h
    refine e_aload_n C d_LW_cell_6 rfl rfl ?_
    refine e_iload_n C d_LW_cell_7 rfl rfl ?_
    refine e_sld C X (vp_in_nI hlt (by omega)) d_LW_cell_8 ?_
    refine e_goto (tgt := 13) C d_LW_cell_9 (by decide) ?_
    have hv : cellF L xs i = xs (nI i).toNatClampNeg := by unfold cellF; rw [if_pos hlt, nI_clamp (by omega)]
    exact e_iret C Z rfl (Nat.le_of_ble_eq_true rfl) (Nat.le_of_ble_eq_true rfl) ⟨by rw [hv], rfl⟩ d_LW_cell_13
