/-! COUNTING AND DRAWING, said of the table alone -/
def szI (LAY : Nat → List Int32) (q : Nat) : Nat := (LAY q).length
def flI (mo : Nat) (PAK : Nat → List Int32) (i : Nat) : Int32 := ((PAK (i / mo))[i % mo]?).getD 0
def laI (LAY : Nat → List Int32) (P : Nat) (isw : Int32 → Bool) (a : Nat) : Int64 := if isw (((LAY P)[a]?).getD 0) = true then 1 else 0
def cntI (P mo : Nat) (LAY PAK : Nat → List Int32) (isw : Int32 → Bool) (inn out : Int64) (k a : Nat) : Int64 := Wt P (laI LAY P isw) (flI mo PAK) (szI LAY) mo inn out k a
def wyI (P mo : Nat) (LAY PAK : Nat → List Int32) (isw : Int32 → Bool) (inn out : Int64) (ix : Int64) : Int64 := wyG (fun i => cntI P mo LAY PAK isw inn out (P - i / mo) (i % mo)) (flI mo PAK) (szI LAY) mo inn out P 0 0 ix 0
def Built3 (P mo : Nat) (LAY PAK : Nat → List Int32) (isw : Int32 → Bool) (fs fl : Nat → Int32) (fw : Nat → Int64) : Prop :=
  (∀ q, q ≤ P → fs q = nI (szI LAY q) ∧ szI LAY q ≤ mo) ∧ (∀ q, q < P → ∀ (j : Nat) (x : Int32), (PAK q)[j]? = some x → fl (q * mo + j) = x) ∧ (∀ (j : Nat) (x : Int32), (LAY P)[j]? = some x → fw (P * mo + j) = if isw x = true then 1 else 0)
def Weigh3 (P mo : Nat) (LAY PAK : Nat → List Int32) (isw : Int32 → Bool) (inn out : Int64) (fw : Nat → Int64) : Prop := ∀ p, p ≤ P → ∀ a, a < szI LAY p → fw (p * mo + a) = cntI P mo LAY PAK isw inn out (P - p) a
theorem ix_div {p mo a : Nat} (h : a < mo) : (p * mo + a) / mo = p ∧ (p * mo + a) % mo = a := by
  have h0 : 0 < mo := by omega
  rw [Nat.add_comm, Nat.add_mul_div_right _ _ h0, Nat.add_mul_mod_self_right, Nat.div_eq_of_lt h, Nat.mod_eq_of_lt h]
  exact ⟨by omega, rfl⟩
theorem fl_at {P mo : Nat} {LAY PAK : Nat → List Int32} {fl : Nat → Int32} (hl : ∀ q, (PAK q).length = szI LAY q) (hm : ∀ q, q ≤ P → szI LAY q ≤ mo) (hB : ∀ q, q < P → ∀ (j : Nat) (x : Int32), (PAK q)[j]? = some x → fl (q * mo + j) = x) {p a : Nat} (hp : p < P) (ha : a < szI LAY p) : fl (p * mo + a) = flI mo PAK (p * mo + a) := by
  have h1 : a < mo := Nat.lt_of_lt_of_le ha (hm p (by omega))
  obtain ⟨e1, e2⟩ := ix_div (p := p) h1
  unfold flI
  rw [e1, e2]
  have h2 : a < (PAK p).length := by rw [hl]; exact ha
  have h3 : (PAK p)[a]? = some (PAK p)[a] := List.getElem?_eq_getElem h2
  rw [hB p hp a _ h3, h3]
  rfl
theorem ldN_congr {f g : Nat → Int32} {mo p a c : Nat} (h : f (p * mo + a) = g (p * mo + a)) : ldN f mo p a c = ldN g mo p a c := by
  unfold ldN
  rw [h]
theorem wfG_fl {NX NY : Nat → Int64} {f g : Nat → Int32} {szN : Nat → Nat} {mo : Nat} {mh mn : Int64} {p a : Nat} (h : ∀ j, j < szN (p + 1) → NX j = NY j) (hf : f (p * mo + a) = g (p * mo + a)) : wfG NX f szN mo mh mn p a = wfG NY g szN mo mh mn p a := by
  rw [wfG_congr h]
  unfold wfG
  exact itn_congr (fun c _ s => by unfold wbG; rw [ldN_congr hf])
theorem wbG_fl {NX NY : Nat → Int64} {f g : Nat → Int32} {szN : Nat → Nat} {mo : Nat} {mh mn : Int64} {p a c : Nat} (h : ∀ j, j < szN (p + 1) → NX j = NY j) (hf : f (p * mo + a) = g (p * mo + a)) : wbG NX f szN mo mh mn p a c = wbG NY g szN mo mh mn p a c := by
  rw [wbG_congr h]
  unfold wbG
  rw [ldN_congr hf]
theorem Wt_I {P mo : Nat} {LAY PAK : Nat → List Int32} {isw : Int32 → Bool} {fs fl : Nat → Int32} {fw : Nat → Int64} {inn out : Int64} (hl : ∀ q, (PAK q).length = szI LAY q) (hB : Built3 P mo LAY PAK isw fs fl fw) :
    ∀ (k a : Nat), k ≤ P → a < szI LAY (P - k) → Wt P (fun a => fw (P * mo + a)) fl (szI LAY) mo inn out k a = cntI P mo LAY PAK isw inn out k a
  | 0, a, _, ha => by
    have h1 : (LAY P)[a]? = some (LAY P)[a] := List.getElem?_eq_getElem (by exact ha)
    show fw (P * mo + a) = laI LAY P isw a
    rw [hB.2.2 a _ h1]
    unfold laI
    rw [h1]
    rfl
  | k + 1, a, hk, ha => by
    show wfG _ fl (szI LAY) mo inn out (P - (k + 1)) a = wfG _ (flI mo PAK) (szI LAY) mo inn out (P - (k + 1)) a
    refine wfG_fl (fun j hj => ?_) (fl_at hl (fun q hq => (hB.1 q hq).2) hB.2.1 (by omega) ha)
    rw [show P - (k + 1) + 1 = P - k by omega] at hj
    exact Wt_I hl hB k j (by omega) hj
theorem chG_congr {wa wb : Nat → Int64} (h : ∀ c, wa c = wb c) : ∀ (f c : Nat) (b : Int64), chG wa f c b = chG wb f c b := by
  have e : wa = wb := funext h
  subst e
  exact fun _ _ _ => rfl
theorem wyG_I {P mo : Nat} {szN : Nat → Nat} {fw gw : Nat → Int64} {fl gl : Nat → Int32} {mh mn : Int64} (hw : ∀ p, p ≤ P → ∀ a, a < szN p → fw (p * mo + a) = gw (p * mo + a)) (hl : ∀ p, p < P → ∀ a, a < szN p → fl (p * mo + a) = gl (p * mo + a)) :
    ∀ (k p a : Nat) (b way : Int64), p + k = P → a < szN p → wyG fw fl szN mo mh mn k p a b way = wyG gw gl szN mo mh mn k p a b way
  | 0, _, _, _, _, _, _ => rfl
  | k + 1, p, a, b, way, hp, ha => by
    have e1 : ∀ c, wbG (fun j => fw ((p + 1) * mo + j)) fl szN mo mh mn p a c = wbG (fun j => gw ((p + 1) * mo + j)) gl szN mo mh mn p a c := fun c => wbG_fl (fun j hj => hw (p + 1) (by omega) j hj) (hl p (by omega) a ha)
    have e2 : ∀ c, ldN fl mo p a c = ldN gl mo p a c := fun c => ldN_congr (hl p (by omega) a ha)
    unfold wyG
    rw [chG_congr e1, e2]
    by_cases z : szN (p + 1) ≤ ldN gl mo p a (chG (wbG (fun j => gw ((p + 1) * mo + j)) gl szN mo mh mn p a) 3 0 b).1
    · rw [if_pos z, if_pos z]
    · rw [if_neg z, if_neg z]
      exact wyG_I hw hl k (p + 1) _ _ _ (by omega) (by omega)
theorem way_I {P mo : Nat} {LAY PAK : Nat → List Int32} {isw : Int32 → Bool} {fs fl : Nat → Int32} {fw : Nat → Int64} {inn out : Int64} (hl : ∀ q, (PAK q).length = szI LAY q) (hB : Built3 P mo LAY PAK isw fs fl fw) (hW : Weigh3 P mo LAY PAK isw inn out fw) (h0 : 0 < szI LAY 0) (ix : Int64) :
    wyG fw fl (szI LAY) mo inn out P 0 0 ix 0 = wyI P mo LAY PAK isw inn out ix := by
  unfold wyI
  refine wyG_I (fun p hp a ha => ?_) (fun p hp a ha => fl_at hl (fun q hq => (hB.1 q hq).2) hB.2.1 hp ha) P 0 0 ix 0 (by omega) h0
  obtain ⟨e1, e2⟩ := ix_div (p := p) (Nat.lt_of_lt_of_le ha (hB.1 p hp).2)
  rw [hW p hp a ha, e1, e2]
theorem MC.mono {l : Launch} {Ts : List Cond} {y : MethodName} {cc : ByteArray} {nL : Nat} {ret : Option FieldType} {fr lo : Nat} {D : va_G} {cl : List vw_C} {tys : List (ClassId × FieldType)} {nw : List Cond} {av : List Value} {w0 : va_W} {mc ms : Nat} {post post2 : Option Value → va_W → Prop} (h : MC l Ts y cc nL ret fr lo D cl tys nw av w0 mc ms post) (hp : ∀ v w1, post v w1 → post2 v w1) : MC l Ts y cc nL ret fr lo D cl tys nw av w0 mc ms post2 := by
  intro sz p e h1 h2 h3 s m args below h4 h5 h6 h7
  obtain ⟨n, o, q1, q2, q3, ⟨⟨⟨v, w1, e1, e2, e3, e4⟩, e5⟩, q5⟩⟩ := h sz p e h1 h2 h3 s m args below h4 h5 h6 h7
  exact ⟨n, o, q1, q2, q3, ⟨⟨v, w1, e1, hp v w1 e2, e3, e4⟩, e5⟩, q5⟩
theorem i32_nat (x : Int32) : ∃ n : Nat, x = nI n := ⟨x.toBitVec.toNat, by apply Int32.toBitVec_inj.mp; apply BitVec.eq_of_toNat_eq; rw [pk_tn x.toBitVec.isLt]⟩
def dgF (i : Int32) : Nat → Nat → Int64 → Int32
  | 0, _, _ => -1
  | f + 1, a, r => if nI a = i then (r - r / 10 * 10).toInt32 else if lg_cmp (r / 10) 0 = 0 then -1 else dgF i f (a + 1) (r / 10)
def digitF (i : Int32) (n : Int64) : Int32 := dgF i 19 0 n
def ixF (seed n : Int64) : Int64 := jlushr (6364136223846793005 * seed + 1442695040888963407) 1 - jlushr (6364136223846793005 * seed + 1442695040888963407) 1 / n * n
def layDG (w P : Nat) (ho deg : Int32) (op : Int64) : Nat → List Int32 := layF 64 (fun p => cafDK (nI P) ho deg p (p % w)) (fun p => openChoicesF op (nI p)) 0
def pakDG (w P : Nat) (ho deg : Int32) (op : Int64) : Nat → List Int32 := pakF 64 (fun p => cafDK (nI P) ho deg p (p % w)) (fun p => openChoicesF op (nI p)) 0
abbrev btDG (w P : Nat) (ho deg : Int32) (op : Int64) (fs fl : Nat → Int32) (fw : Nat → Int64) : Prop := Built3 P 64 (layDG w P ho deg op) (pakDG w P ho deg op) isWayDG fs fl fw
abbrev wtDG (w P : Nat) (ho deg : Int32) (op : Int64) (inn out : Int64) (fw : Nat → Int64) : Prop := Weigh3 P 64 (layDG w P ho deg op) (pakDG w P ho deg op) isWayDG inn out fw
abbrev ctDG (w P : Nat) (ho deg : Int32) (op : Int64) (inn out : Int64) : Int64 := cntI P 64 (layDG w P ho deg op) (pakDG w P ho deg op) isWayDG inn out P 0
abbrev wyDG (w P : Nat) (ho deg : Int32) (op : Int64) (inn out ix : Int64) : Int64 := wyI P 64 (layDG w P ho deg op) (pakDG w P ho deg op) isWayDG inn out ix
theorem plDG (w P : Nat) (ho deg : Int32) (op : Int64) : ∀ q, (pakDG w P ho deg op q).length = szI (layDG w P ho deg op) q := fun q => pak_len q
theorem z0DG (w P : Nat) (ho deg : Int32) (op : Int64) : 0 < szI (layDG w P ho deg op) 0 := Nat.succ_pos _
theorem MT_DG (l : Launch) (D : va_G) (cI cJ cZ : ClassId) (ly g ru sz ld wy bk cd nc P : Nat) (hP : P ≤ 25) (ns : Int32) (mh mn : Int64) (fw : Nat → Int64) : MK l D cI cJ cZ y_LY_total c_LY_total 1 (some FieldType.long) 0 0 [.ref ly] [oLY ly g ru (nI 64) sz ld wy bk cd nc ns mh mn, aJ cJ wy ((P + 1) * 64) fw] 0 0 (rJ (fw 0) [oLY ly g ru (nI 64) sz ld wy bk cd nc ns mh mn, aJ cJ wy ((P + 1) * 64) fw]) := by
  obtain ⟨n, -, rfl⟩ : ∃ n, n < 2 ^ 32 ∧ ns = nI n := ⟨ns.toBitVec.toNat, ns.toBitVec.isLt, by apply Int32.toBitVec_inj.mp; apply BitVec.eq_of_toNat_eq; rw [pk_tn ns.toBitVec.isLt]⟩
  exact M_LY_total l D cI cJ cZ ly g ru sz ld wy bk cd nc P 64 hP (by decide) n mh mn (by decide) fw
theorem MW_DG (l : Launch) (D : va_G) (cI cJ cZ : ClassId) (ly g ru sz ld wy bk cd nc P : Nat) (hP : P ≤ 25) (ns : Int32) (mh mn : Int64) (wd ht ho : Int32) (op : Int64) (lpl ea eb : Int32) (w : Nat) (deg : Int32) (fs fl : Nat → Int32) (fw : Nat → Int64) (hB : btDG w P ho deg op fs fl fw) (inn out : Int64) : MK l D cI cJ cZ y_LY_weigh c_LY_weigh 7 none 4 94 [.ref ly, .long inn, .long out] [oLY ly g ru (nI 64) sz ld wy bk cd nc ns mh mn, oGR g wd ht (nI P) ho op lpl ea eb, aI cI sz (P + 1) fs, aI cI ld (P * 64) fl, aJ cJ wy ((P + 1) * 64) fw] 0 0 (fun v w1 => ∃ fw2 : Nat → Int64, v = none ∧ w1 = [oLY ly g ru (nI 64) sz ld wy bk cd nc ns inn out, oGR g wd ht (nI P) ho op lpl ea eb, aI cI sz (P + 1) fs, aI cI ld (P * 64) fl, aJ cJ wy ((P + 1) * 64) fw2] ∧ btDG w P ho deg op fs fl fw2 ∧ wtDG w P ho deg op inn out fw2) := by
  obtain ⟨n, -, rfl⟩ : ∃ n, n < 2 ^ 32 ∧ ns = nI n := ⟨ns.toBitVec.toNat, ns.toBitVec.isLt, by apply Int32.toBitVec_inj.mp; apply BitVec.eq_of_toNat_eq; rw [pk_tn ns.toBitVec.isLt]⟩
  refine MC.mono (M_LY_weigh l D cI cJ cZ ly g ru sz ld wy bk cd nc P 64 hP (by decide) n mh mn ht ho op wd lpl ea eb fs fl fw (szI (layDG w P ho deg op)) hB.1 inn out) ?_
  rintro v w1 ⟨fw2, h1, h2, h3⟩
  have h4 : wtDG w P ho deg op inn out fw2 := fun p hp a ha => by
    rw [h3 p hp a ha]
    exact Wt_I (plDG w P ho deg op) hB (P - p) a (by omega) (by rw [show P - (P - p) = p by omega]; exact ha)
  refine ⟨fw2, h1, h2, ⟨hB.1, hB.2.1, fun j x hx => ?_⟩, h4⟩
  have h5 := h3 P (Nat.le_refl _) j (List.getElem?_eq_some_iff.mp hx).1
  rw [Nat.sub_self] at h5
  rw [h5]
  exact hB.2.2 j x hx
set_option maxHeartbeats 4000000 in
set_option maxRecDepth 100000 in
theorem M_FC_count_DG_00 (l : Launch) (D : va_G) (cI cJ cZ : ClassId) (x g ly sa ru sz ld wy bk cd nc : Nat) (w P : Nat) (hw : w ≤ 5) (hw0 : 0 < w) (hP : P ≤ 25) (cnt : Int32) (gone tin tout : Int64) (dw dr : Int64) (ht ho : Int32) (op : Int64) (lpl ea eb : Int32) (deg : Int32) (nz : Nat) (mh mn : Int64) (fs fl : Nat → Int32) (fw : Nat → Int64) (fb fc fn : Nat → Int32) : MK l D cI cJ cZ y_FC_count c_FC_count 1 (some FieldType.long) 6 156 [.ref x] [oFC x g ly sa cnt gone tin tout 0 0 dw dr, oGR g (nI w) ht (nI P) ho op lpl ea eb, oLY ly g ru (nI 64) sz ld wy bk cd nc (nI nz) mh mn, oDG ru g deg, aI cI sz (P + 1) fs, aI cI ld (P * 64) fl, aJ cJ wy ((P + 1) * 64) fw, aI cI bk 512 fb, aI cI cd 64 fc, aI cI nc 64 fn] 0 0 (fun v w1 => ∃ (cd2 nc2 : Nat) (nz2 : Int32) (fs2 fl2 : Nat → Int32) (fw2 : Nat → Int64) (fb2 fc2 fn2 : Nat → Int32), v = some (.long (ctDG w P ho deg op tin (tout ||| gone))) ∧ w1 = [oFC x g ly sa cnt gone tin tout (bI true) (bI true) dw dr, oGR g (nI w) ht (nI P) ho op lpl ea eb, oLY ly g ru (nI 64) sz ld wy bk cd2 nc2 nz2 tin (tout ||| gone), oDG ru g deg, aI cI sz (P + 1) fs2, aI cI ld (P * 64) fl2, aJ cJ wy ((P + 1) * 64) fw2, aI cI bk 512 fb2, aI cI cd2 64 fc2, aI cI nc2 64 fn2] ∧ btDG w P ho deg op fs2 fl2 fw2 ∧ wtDG w P ho deg op tin (tout ||| gone) fw2) := by
  refine MC.of (by decide) bigW_good (Nat.le_of_ble_eq_true rfl) (fun κ C Z IN => ?_)
  refine e_aload_n C d_FC_count_0 rfl rfl ?_
  refine e_get C hin_FC 0 rfl rfl 7 (by decide) fl_FC_69 rfl d_FC_count_1 ?_
  refine e_if_ne (tgt := 19) C d_FC_count_4 (by decide) (fun h4 => ?_) (fun h4 => ?_)
  · exact absurd rfl h4
  · -- 7
    refine e_aload_n C d_FC_count_7 rfl rfl ?_
    refine e_get C hin_FC 0 rfl rfl 1 (by decide) fl_FC_35 rfl d_FC_count_8 ?_
    refine e_callVN (As := []) (st := []) (wc := [oLY ly g ru (nI 64) sz ld wy bk cd nc (nI nz) mh mn, oGR g (nI w) ht (nI P) ho op lpl ea eb, oDG ru g deg, aI cI sz (P + 1) fs, aI cI ld (P * 64) fl, aJ cJ wy ((P + 1) * 64) fw, aI cI bk 512 fb, aI cI cd 64 fc, aI cI nc 64 fn]) (wr := [oFC x g ly sa cnt gone tin tout 0 0 dw dr]) C (M_LY_build_DG l D cI cJ cZ ly g ru sz ld wy bk cd nc P 64 hP (by decide) mh mn deg w hw hw0 (by decide) nz ht ho op lpl ea eb fs fl fb fc fn fw) v_LY_build mn_FC_109 2 rfl rfl nwW_ok ⟨Nat.le_of_ble_eq_true rfl, Nat.le_of_ble_eq_true rfl⟩ ⟨Nat.le_of_ble_eq_true rfl, Nat.le_of_ble_eq_true rfl⟩ [2, 1, 3, 4, 5, 6, 7, 8, 9] [0] rfl rfl rfl rfl (by decide) (Nat.le_of_ble_eq_true rfl) rfl d_FC_count_11 (fun v w1 hp => ?_)
    obtain ⟨cd2, nc2, nz2, fs2, fl2, fw1, fb2, fc2, fn2, rfl, rfl, hA1, hB1, hC1⟩ := hp
    refine e_perm (st' := []) (ws' := [oFC x g ly sa cnt gone tin tout 0 0 dw dr, oGR g (nI w) ht (nI P) ho op lpl ea eb, oLY ly g ru (nI 64) sz ld wy bk cd2 nc2 nz2 mh mn, oDG ru g deg, aI cI sz (P + 1) fs2, aI cI ld (P * 64) fl2, aJ cJ wy ((P + 1) * 64) fw1, aI cI bk 512 fb2, aI cI cd2 64 fc2, aI cI nc2 64 fn2]) [0, 2, 1, 3, 4, 5, 6, 7, 8, 9] rfl rfl rfl ?_
    refine e_aload_n C d_FC_count_14 rfl rfl ?_
    refine e_iconst (v := 1) C d_FC_count_15 rfl ?_
    refine e_put C hin_FC ty_FC tyk_FC nm_FC 0 rfl rfl 7 (by decide) fl_FC_69 rfl rfl rfl (Nat.le_of_ble_eq_true rfl) d_FC_count_16 ?_
    refine e_ws [oFC x g ly sa cnt gone tin tout 1 0 dw dr, oGR g (nI w) ht (nI P) ho op lpl ea eb, oLY ly g ru (nI 64) sz ld wy bk cd2 nc2 nz2 mh mn, oDG ru g deg, aI cI sz (P + 1) fs2, aI cI ld (P * 64) fl2, aJ cJ wy ((P + 1) * 64) fw1, aI cI bk 512 fb2, aI cI cd2 64 fc2, aI cI nc2 64 fn2] rfl ?_
    have hB9 : btDG w P ho deg op fs2 fl2 fw1 := ⟨hA1, hB1, hC1⟩
    refine e_aload_n C d_FC_count_19 rfl rfl ?_
    refine e_get C hin_FC 0 rfl rfl 8 (by decide) fl_FC_112 rfl d_FC_count_20 ?_
    refine e_if_ne (tgt := 51) C d_FC_count_23 (by decide) (fun h23 => ?_) (fun h23 => ?_)
    · exact absurd rfl h23
    · -- 26
      refine e_aload_n C d_FC_count_26 rfl rfl ?_
      refine e_get C hin_FC 0 rfl rfl 1 (by decide) fl_FC_35 rfl d_FC_count_27 ?_
      refine e_aload_n C d_FC_count_30 rfl rfl ?_
      refine e_get C hin_FC 0 rfl rfl 5 (by decide) fl_FC_103 rfl d_FC_count_31 ?_
      refine e_aload_n C d_FC_count_34 rfl rfl ?_
      refine e_get C hin_FC 0 rfl rfl 6 (by decide) fl_FC_106 rfl d_FC_count_35 ?_
      refine e_aload_n C d_FC_count_38 rfl rfl ?_
      refine e_get C hin_FC 0 rfl rfl 4 (by decide) fl_FC_66 rfl d_FC_count_39 ?_
      refine e_lor C d_FC_count_42 ?_
      refine e_callVN (As := [.long tin, .long (tout ||| gone)]) (st := []) (wc := [oLY ly g ru (nI 64) sz ld wy bk cd2 nc2 nz2 mh mn, oGR g (nI w) ht (nI P) ho op lpl ea eb, aI cI sz (P + 1) fs2, aI cI ld (P * 64) fl2, aJ cJ wy ((P + 1) * 64) fw1]) (wr := [oFC x g ly sa cnt gone tin tout 1 0 dw dr, oDG ru g deg, aI cI bk 512 fb2, aI cI cd2 64 fc2, aI cI nc2 64 fn2]) C (MW_DG l D cI cJ cZ ly g ru sz ld wy bk cd2 nc2 P hP nz2 mh mn (nI w) ht ho op lpl ea eb w deg fs2 fl2 fw1 hB9 tin (tout ||| gone)) v_LY_weigh mn_FC_115 2 rfl rfl nwW_ok ⟨Nat.le_of_ble_eq_true rfl, Nat.le_of_ble_eq_true rfl⟩ ⟨Nat.le_of_ble_eq_true rfl, Nat.le_of_ble_eq_true rfl⟩ [2, 1, 4, 5, 6] [0, 3, 7, 8, 9] rfl rfl rfl rfl (by decide) (Nat.le_of_ble_eq_true rfl) rfl d_FC_count_43 (fun v w1 hp => ?_)
      obtain ⟨fw9, rfl, rfl, hB10, hW10⟩ := hp
      refine e_perm (st' := []) (ws' := [oFC x g ly sa cnt gone tin tout 1 0 dw dr, oGR g (nI w) ht (nI P) ho op lpl ea eb, oLY ly g ru (nI 64) sz ld wy bk cd2 nc2 nz2 tin (tout ||| gone), oDG ru g deg, aI cI sz (P + 1) fs2, aI cI ld (P * 64) fl2, aJ cJ wy ((P + 1) * 64) fw9, aI cI bk 512 fb2, aI cI cd2 64 fc2, aI cI nc2 64 fn2]) [0, 6, 5, 1, 7, 8, 9, 2, 3, 4] rfl rfl rfl ?_
      refine e_aload_n C d_FC_count_46 rfl rfl ?_
      refine e_iconst (v := 1) C d_FC_count_47 rfl ?_
      refine e_put C hin_FC ty_FC tyk_FC nm_FC 0 rfl rfl 8 (by decide) fl_FC_112 rfl rfl rfl (Nat.le_of_ble_eq_true rfl) d_FC_count_48 ?_
      refine e_ws [oFC x g ly sa cnt gone tin tout 1 1 dw dr, oGR g (nI w) ht (nI P) ho op lpl ea eb, oLY ly g ru (nI 64) sz ld wy bk cd2 nc2 nz2 tin (tout ||| gone), oDG ru g deg, aI cI sz (P + 1) fs2, aI cI ld (P * 64) fl2, aJ cJ wy ((P + 1) * 64) fw9, aI cI bk 512 fb2, aI cI cd2 64 fc2, aI cI nc2 64 fn2] rfl ?_
      refine e_aload_n C d_FC_count_51 rfl rfl ?_
      refine e_get C hin_FC 0 rfl rfl 1 (by decide) fl_FC_35 rfl d_FC_count_52 ?_
      refine e_callVN (As := []) (st := []) (wc := [oLY ly g ru (nI 64) sz ld wy bk cd2 nc2 nz2 tin (tout ||| gone), aJ cJ wy ((P + 1) * 64) fw9]) (wr := [oFC x g ly sa cnt gone tin tout 1 1 dw dr, oGR g (nI w) ht (nI P) ho op lpl ea eb, oDG ru g deg, aI cI sz (P + 1) fs2, aI cI ld (P * 64) fl2, aI cI bk 512 fb2, aI cI cd2 64 fc2, aI cI nc2 64 fn2]) C (MT_DG l D cI cJ cZ ly g ru sz ld wy bk cd2 nc2 P hP nz2 tin (tout ||| gone) fw9) v_LY_total mn_FC_119 2 rfl rfl nwW_ok ⟨Nat.le_of_ble_eq_true rfl, Nat.le_of_ble_eq_true rfl⟩ ⟨Nat.le_of_ble_eq_true rfl, Nat.le_of_ble_eq_true rfl⟩ [2, 6] [0, 1, 3, 4, 5, 7, 8, 9] rfl rfl rfl rfl (by decide) (Nat.le_of_ble_eq_true rfl) rfl d_FC_count_55 (fun v w1 hp => ?_)
      obtain ⟨rfl, rfl⟩ := hp
      refine e_perm (st' := [.long (fw9 0)]) (ws' := [oFC x g ly sa cnt gone tin tout 1 1 dw dr, oGR g (nI w) ht (nI P) ho op lpl ea eb, oLY ly g ru (nI 64) sz ld wy bk cd2 nc2 nz2 tin (tout ||| gone), oDG ru g deg, aI cI sz (P + 1) fs2, aI cI ld (P * 64) fl2, aJ cJ wy ((P + 1) * 64) fw9, aI cI bk 512 fb2, aI cI cd2 64 fc2, aI cI nc2 64 fn2]) [0, 1, 8, 2, 3, 4, 9, 5, 6, 7] rfl rfl rfl ?_
      exact e_lret C Z (Nat.le_of_ble_eq_true rfl) (Nat.le_of_ble_eq_true rfl) (⟨cd2, nc2, nz2, fs2, fl2, fw9, fb2, fc2, fn2, by have q := hW10 0 (Nat.zero_le _) 0 (z0DG w P ho deg op); rw [Nat.zero_mul, Nat.zero_add, Nat.sub_zero] at q; rw [q], rfl, hB10, hW10⟩) d_FC_count_58

set_option maxHeartbeats 4000000 in
set_option maxRecDepth 100000 in
theorem M_FC_count_DG_10 (l : Launch) (D : va_G) (cI cJ cZ : ClassId) (x g ly sa ru sz ld wy bk cd nc : Nat) (w P : Nat) (hw : w ≤ 5) (hw0 : 0 < w) (hP : P ≤ 25) (cnt : Int32) (gone tin tout : Int64) (dw dr : Int64) (ht ho : Int32) (op : Int64) (lpl ea eb : Int32) (deg : Int32) (nz : Nat) (mh mn : Int64) (fs fl : Nat → Int32) (fw : Nat → Int64) (fb fc fn : Nat → Int32) (hB : btDG w P ho deg op fs fl fw) : MK l D cI cJ cZ y_FC_count c_FC_count 1 (some FieldType.long) 6 156 [.ref x] [oFC x g ly sa cnt gone tin tout 1 0 dw dr, oGR g (nI w) ht (nI P) ho op lpl ea eb, oLY ly g ru (nI 64) sz ld wy bk cd nc (nI nz) mh mn, oDG ru g deg, aI cI sz (P + 1) fs, aI cI ld (P * 64) fl, aJ cJ wy ((P + 1) * 64) fw, aI cI bk 512 fb, aI cI cd 64 fc, aI cI nc 64 fn] 0 0 (fun v w1 => ∃ (cd2 nc2 : Nat) (nz2 : Int32) (fs2 fl2 : Nat → Int32) (fw2 : Nat → Int64) (fb2 fc2 fn2 : Nat → Int32), v = some (.long (ctDG w P ho deg op tin (tout ||| gone))) ∧ w1 = [oFC x g ly sa cnt gone tin tout (bI true) (bI true) dw dr, oGR g (nI w) ht (nI P) ho op lpl ea eb, oLY ly g ru (nI 64) sz ld wy bk cd2 nc2 nz2 tin (tout ||| gone), oDG ru g deg, aI cI sz (P + 1) fs2, aI cI ld (P * 64) fl2, aJ cJ wy ((P + 1) * 64) fw2, aI cI bk 512 fb2, aI cI cd2 64 fc2, aI cI nc2 64 fn2] ∧ btDG w P ho deg op fs2 fl2 fw2 ∧ wtDG w P ho deg op tin (tout ||| gone) fw2) := by
  refine MC.of (by decide) bigW_good (Nat.le_of_ble_eq_true rfl) (fun κ C Z IN => ?_)
  refine e_aload_n C d_FC_count_0 rfl rfl ?_
  refine e_get C hin_FC 0 rfl rfl 7 (by decide) fl_FC_69 rfl d_FC_count_1 ?_
  refine e_if_ne (tgt := 19) C d_FC_count_4 (by decide) (fun h4 => ?_) (fun h4 => ?_)
  · -- 19
    have hB9 := hB
    refine e_aload_n C d_FC_count_19 rfl rfl ?_
    refine e_get C hin_FC 0 rfl rfl 8 (by decide) fl_FC_112 rfl d_FC_count_20 ?_
    refine e_if_ne (tgt := 51) C d_FC_count_23 (by decide) (fun h23 => ?_) (fun h23 => ?_)
    · exact absurd rfl h23
    · -- 26
      refine e_aload_n C d_FC_count_26 rfl rfl ?_
      refine e_get C hin_FC 0 rfl rfl 1 (by decide) fl_FC_35 rfl d_FC_count_27 ?_
      refine e_aload_n C d_FC_count_30 rfl rfl ?_
      refine e_get C hin_FC 0 rfl rfl 5 (by decide) fl_FC_103 rfl d_FC_count_31 ?_
      refine e_aload_n C d_FC_count_34 rfl rfl ?_
      refine e_get C hin_FC 0 rfl rfl 6 (by decide) fl_FC_106 rfl d_FC_count_35 ?_
      refine e_aload_n C d_FC_count_38 rfl rfl ?_
      refine e_get C hin_FC 0 rfl rfl 4 (by decide) fl_FC_66 rfl d_FC_count_39 ?_
      refine e_lor C d_FC_count_42 ?_
      refine e_callVN (As := [.long tin, .long (tout ||| gone)]) (st := []) (wc := [oLY ly g ru (nI 64) sz ld wy bk cd nc (nI nz) mh mn, oGR g (nI w) ht (nI P) ho op lpl ea eb, aI cI sz (P + 1) fs, aI cI ld (P * 64) fl, aJ cJ wy ((P + 1) * 64) fw]) (wr := [oFC x g ly sa cnt gone tin tout 1 0 dw dr, oDG ru g deg, aI cI bk 512 fb, aI cI cd 64 fc, aI cI nc 64 fn]) C (MW_DG l D cI cJ cZ ly g ru sz ld wy bk cd nc P hP (nI nz) mh mn (nI w) ht ho op lpl ea eb w deg fs fl fw hB9 tin (tout ||| gone)) v_LY_weigh mn_FC_115 2 rfl rfl nwW_ok ⟨Nat.le_of_ble_eq_true rfl, Nat.le_of_ble_eq_true rfl⟩ ⟨Nat.le_of_ble_eq_true rfl, Nat.le_of_ble_eq_true rfl⟩ [2, 1, 4, 5, 6] [0, 3, 7, 8, 9] rfl rfl rfl rfl (by decide) (Nat.le_of_ble_eq_true rfl) rfl d_FC_count_43 (fun v w1 hp => ?_)
      obtain ⟨fw9, rfl, rfl, hB10, hW10⟩ := hp
      refine e_perm (st' := []) (ws' := [oFC x g ly sa cnt gone tin tout 1 0 dw dr, oGR g (nI w) ht (nI P) ho op lpl ea eb, oLY ly g ru (nI 64) sz ld wy bk cd nc (nI nz) tin (tout ||| gone), oDG ru g deg, aI cI sz (P + 1) fs, aI cI ld (P * 64) fl, aJ cJ wy ((P + 1) * 64) fw9, aI cI bk 512 fb, aI cI cd 64 fc, aI cI nc 64 fn]) [0, 6, 5, 1, 7, 8, 9, 2, 3, 4] rfl rfl rfl ?_
      refine e_aload_n C d_FC_count_46 rfl rfl ?_
      refine e_iconst (v := 1) C d_FC_count_47 rfl ?_
      refine e_put C hin_FC ty_FC tyk_FC nm_FC 0 rfl rfl 8 (by decide) fl_FC_112 rfl rfl rfl (Nat.le_of_ble_eq_true rfl) d_FC_count_48 ?_
      refine e_ws [oFC x g ly sa cnt gone tin tout 1 1 dw dr, oGR g (nI w) ht (nI P) ho op lpl ea eb, oLY ly g ru (nI 64) sz ld wy bk cd nc (nI nz) tin (tout ||| gone), oDG ru g deg, aI cI sz (P + 1) fs, aI cI ld (P * 64) fl, aJ cJ wy ((P + 1) * 64) fw9, aI cI bk 512 fb, aI cI cd 64 fc, aI cI nc 64 fn] rfl ?_
      refine e_aload_n C d_FC_count_51 rfl rfl ?_
      refine e_get C hin_FC 0 rfl rfl 1 (by decide) fl_FC_35 rfl d_FC_count_52 ?_
      refine e_callVN (As := []) (st := []) (wc := [oLY ly g ru (nI 64) sz ld wy bk cd nc (nI nz) tin (tout ||| gone), aJ cJ wy ((P + 1) * 64) fw9]) (wr := [oFC x g ly sa cnt gone tin tout 1 1 dw dr, oGR g (nI w) ht (nI P) ho op lpl ea eb, oDG ru g deg, aI cI sz (P + 1) fs, aI cI ld (P * 64) fl, aI cI bk 512 fb, aI cI cd 64 fc, aI cI nc 64 fn]) C (MT_DG l D cI cJ cZ ly g ru sz ld wy bk cd nc P hP (nI nz) tin (tout ||| gone) fw9) v_LY_total mn_FC_119 2 rfl rfl nwW_ok ⟨Nat.le_of_ble_eq_true rfl, Nat.le_of_ble_eq_true rfl⟩ ⟨Nat.le_of_ble_eq_true rfl, Nat.le_of_ble_eq_true rfl⟩ [2, 6] [0, 1, 3, 4, 5, 7, 8, 9] rfl rfl rfl rfl (by decide) (Nat.le_of_ble_eq_true rfl) rfl d_FC_count_55 (fun v w1 hp => ?_)
      obtain ⟨rfl, rfl⟩ := hp
      refine e_perm (st' := [.long (fw9 0)]) (ws' := [oFC x g ly sa cnt gone tin tout 1 1 dw dr, oGR g (nI w) ht (nI P) ho op lpl ea eb, oLY ly g ru (nI 64) sz ld wy bk cd nc (nI nz) tin (tout ||| gone), oDG ru g deg, aI cI sz (P + 1) fs, aI cI ld (P * 64) fl, aJ cJ wy ((P + 1) * 64) fw9, aI cI bk 512 fb, aI cI cd 64 fc, aI cI nc 64 fn]) [0, 1, 8, 2, 3, 4, 9, 5, 6, 7] rfl rfl rfl ?_
      exact e_lret C Z (Nat.le_of_ble_eq_true rfl) (Nat.le_of_ble_eq_true rfl) (⟨cd, nc, nI nz, fs, fl, fw9, fb, fc, fn, by have q := hW10 0 (Nat.zero_le _) 0 (z0DG w P ho deg op); rw [Nat.zero_mul, Nat.zero_add, Nat.sub_zero] at q; rw [q], rfl, hB10, hW10⟩) d_FC_count_58
  · exact absurd h4 (by decide)

set_option maxHeartbeats 4000000 in
set_option maxRecDepth 100000 in
theorem M_FC_count_DG_11 (l : Launch) (D : va_G) (cI cJ cZ : ClassId) (x g ly sa ru sz ld wy bk cd nc : Nat) (w P : Nat) (hw : w ≤ 5) (hw0 : 0 < w) (hP : P ≤ 25) (cnt : Int32) (gone tin tout : Int64) (dw dr : Int64) (ht ho : Int32) (op : Int64) (lpl ea eb : Int32) (deg : Int32) (nz : Nat) (mh mn : Int64) (fs fl : Nat → Int32) (fw : Nat → Int64) (fb fc fn : Nat → Int32) (hB : btDG w P ho deg op fs fl fw) (hW : wtDG w P ho deg op tin (tout ||| gone) fw) (hM : mh = tin ∧ mn = (tout ||| gone)) : MK l D cI cJ cZ y_FC_count c_FC_count 1 (some FieldType.long) 6 156 [.ref x] [oFC x g ly sa cnt gone tin tout 1 1 dw dr, oGR g (nI w) ht (nI P) ho op lpl ea eb, oLY ly g ru (nI 64) sz ld wy bk cd nc (nI nz) mh mn, oDG ru g deg, aI cI sz (P + 1) fs, aI cI ld (P * 64) fl, aJ cJ wy ((P + 1) * 64) fw, aI cI bk 512 fb, aI cI cd 64 fc, aI cI nc 64 fn] 0 0 (fun v w1 => ∃ (cd2 nc2 : Nat) (nz2 : Int32) (fs2 fl2 : Nat → Int32) (fw2 : Nat → Int64) (fb2 fc2 fn2 : Nat → Int32), v = some (.long (ctDG w P ho deg op tin (tout ||| gone))) ∧ w1 = [oFC x g ly sa cnt gone tin tout (bI true) (bI true) dw dr, oGR g (nI w) ht (nI P) ho op lpl ea eb, oLY ly g ru (nI 64) sz ld wy bk cd2 nc2 nz2 tin (tout ||| gone), oDG ru g deg, aI cI sz (P + 1) fs2, aI cI ld (P * 64) fl2, aJ cJ wy ((P + 1) * 64) fw2, aI cI bk 512 fb2, aI cI cd2 64 fc2, aI cI nc2 64 fn2] ∧ btDG w P ho deg op fs2 fl2 fw2 ∧ wtDG w P ho deg op tin (tout ||| gone) fw2) := by
  refine MC.of (by decide) bigW_good (Nat.le_of_ble_eq_true rfl) (fun κ C Z IN => ?_)
  refine e_aload_n C d_FC_count_0 rfl rfl ?_
  refine e_get C hin_FC 0 rfl rfl 7 (by decide) fl_FC_69 rfl d_FC_count_1 ?_
  refine e_if_ne (tgt := 19) C d_FC_count_4 (by decide) (fun h4 => ?_) (fun h4 => ?_)
  · -- 19
    have hB9 := hB
    refine e_aload_n C d_FC_count_19 rfl rfl ?_
    refine e_get C hin_FC 0 rfl rfl 8 (by decide) fl_FC_112 rfl d_FC_count_20 ?_
    refine e_if_ne (tgt := 51) C d_FC_count_23 (by decide) (fun h23 => ?_) (fun h23 => ?_)
    · -- 51
      refine e_aload_n C d_FC_count_51 rfl rfl ?_
      refine e_get C hin_FC 0 rfl rfl 1 (by decide) fl_FC_35 rfl d_FC_count_52 ?_
      refine e_callVN (As := []) (st := []) (wc := [oLY ly g ru (nI 64) sz ld wy bk cd nc (nI nz) mh mn, aJ cJ wy ((P + 1) * 64) fw]) (wr := [oFC x g ly sa cnt gone tin tout 1 1 dw dr, oGR g (nI w) ht (nI P) ho op lpl ea eb, oDG ru g deg, aI cI sz (P + 1) fs, aI cI ld (P * 64) fl, aI cI bk 512 fb, aI cI cd 64 fc, aI cI nc 64 fn]) C (MT_DG l D cI cJ cZ ly g ru sz ld wy bk cd nc P hP (nI nz) mh mn fw) v_LY_total mn_FC_119 2 rfl rfl nwW_ok ⟨Nat.le_of_ble_eq_true rfl, Nat.le_of_ble_eq_true rfl⟩ ⟨Nat.le_of_ble_eq_true rfl, Nat.le_of_ble_eq_true rfl⟩ [2, 6] [0, 1, 3, 4, 5, 7, 8, 9] rfl rfl rfl rfl (by decide) (Nat.le_of_ble_eq_true rfl) rfl d_FC_count_55 (fun v w1 hp => ?_)
      obtain ⟨rfl, rfl⟩ := hp
      refine e_perm (st' := [.long (fw 0)]) (ws' := [oFC x g ly sa cnt gone tin tout 1 1 dw dr, oGR g (nI w) ht (nI P) ho op lpl ea eb, oLY ly g ru (nI 64) sz ld wy bk cd nc (nI nz) mh mn, oDG ru g deg, aI cI sz (P + 1) fs, aI cI ld (P * 64) fl, aJ cJ wy ((P + 1) * 64) fw, aI cI bk 512 fb, aI cI cd 64 fc, aI cI nc 64 fn]) [0, 1, 8, 2, 3, 4, 9, 5, 6, 7] rfl rfl rfl ?_
      exact e_lret C Z (Nat.le_of_ble_eq_true rfl) (Nat.le_of_ble_eq_true rfl) (⟨cd, nc, nI nz, fs, fl, fw, fb, fc, fn, by have q := hW 0 (Nat.zero_le _) 0 (z0DG w P ho deg op); rw [Nat.zero_mul, Nat.zero_add, Nat.sub_zero] at q; rw [q], (by rw [hM.1, hM.2]; rfl), hB, hW⟩) d_FC_count_58
    · exact absurd h23 (by decide)
  · exact absurd h4 (by decide)

theorem M_FC_count_DG (l : Launch) (D : va_G) (cI cJ cZ : ClassId) (x g ly sa ru sz ld wy bk cd nc : Nat) (w P : Nat) (hw : w ≤ 5) (hw0 : 0 < w) (hP : P ≤ 25) (cnt : Int32) (gone tin tout : Int64) (dw dr : Int64) (ht ho : Int32) (op : Int64) (lpl ea eb : Int32) (deg : Int32) (nz : Int32) (mh mn : Int64) (fs fl : Nat → Int32) (fw : Nat → Int64) (fb fc fn : Nat → Int32) (bu we : Bool) (hwb : we = true → bu = true) (hB : bu = true → btDG w P ho deg op fs fl fw) (hW : we = true → wtDG w P ho deg op tin (tout ||| gone) fw ∧ mh = tin ∧ mn = (tout ||| gone)) : MK l D cI cJ cZ y_FC_count c_FC_count 1 (some FieldType.long) 6 156 [.ref x] [oFC x g ly sa cnt gone tin tout (bI bu) (bI we) dw dr, oGR g (nI w) ht (nI P) ho op lpl ea eb, oLY ly g ru (nI 64) sz ld wy bk cd nc nz mh mn, oDG ru g deg, aI cI sz (P + 1) fs, aI cI ld (P * 64) fl, aJ cJ wy ((P + 1) * 64) fw, aI cI bk 512 fb, aI cI cd 64 fc, aI cI nc 64 fn] 0 0 (fun v w1 => ∃ (cd2 nc2 : Nat) (nz2 : Int32) (fs2 fl2 : Nat → Int32) (fw2 : Nat → Int64) (fb2 fc2 fn2 : Nat → Int32), v = some (.long (ctDG w P ho deg op tin (tout ||| gone))) ∧ w1 = [oFC x g ly sa cnt gone tin tout (bI true) (bI true) dw dr, oGR g (nI w) ht (nI P) ho op lpl ea eb, oLY ly g ru (nI 64) sz ld wy bk cd2 nc2 nz2 tin (tout ||| gone), oDG ru g deg, aI cI sz (P + 1) fs2, aI cI ld (P * 64) fl2, aJ cJ wy ((P + 1) * 64) fw2, aI cI bk 512 fb2, aI cI cd2 64 fc2, aI cI nc2 64 fn2] ∧ btDG w P ho deg op fs2 fl2 fw2 ∧ wtDG w P ho deg op tin (tout ||| gone) fw2) := by
  obtain ⟨nz, rfl⟩ := i32_nat nz
  cases we with
  | true =>
    obtain rfl : bu = true := hwb rfl
    exact M_FC_count_DG_11 l D cI cJ cZ x g ly sa ru sz ld wy bk cd nc w P hw hw0 hP cnt gone tin tout dw dr ht ho op lpl ea eb deg nz mh mn fs fl fw fb fc fn (hB rfl) (hW rfl).1 (hW rfl).2
  | false =>
    cases bu with
    | true => exact M_FC_count_DG_10 l D cI cJ cZ x g ly sa ru sz ld wy bk cd nc w P hw hw0 hP cnt gone tin tout dw dr ht ho op lpl ea eb deg nz mh mn fs fl fw fb fc fn (hB rfl)
    | false => exact M_FC_count_DG_00 l D cI cJ cZ x g ly sa ru sz ld wy bk cd nc w P hw hw0 hP cnt gone tin tout dw dr ht ho op lpl ea eb deg nz mh mn fs fl fw fb fc fn
set_option maxHeartbeats 4000000 in
set_option maxRecDepth 100000 in
theorem M_FC_digit_DG (l : Launch) (D : va_G) (cI cJ cZ : ClassId) (x g ly sa ru sz ld wy bk cd nc : Nat) (w P : Nat) (hw : w ≤ 5) (hw0 : 0 < w) (hP : P ≤ 25) (cnt : Int32) (gone tin tout : Int64) (dw dr : Int64) (ht ho : Int32) (op : Int64) (lpl ea eb : Int32) (deg : Int32) (nz : Int32) (mh mn : Int64) (fs fl : Nat → Int32) (fw : Nat → Int64) (fb fc fn : Nat → Int32) (bu we : Bool) (hwb : we = true → bu = true) (hB : bu = true → btDG w P ho deg op fs fl fw) (hW : we = true → wtDG w P ho deg op tin (tout ||| gone) fw ∧ mh = tin ∧ mn = (tout ||| gone)) (i : Int32) : MK l D cI cJ cZ y_FC_digit c_FC_digit 5 (some FieldType.int) 7 176 [.ref x, .int i] [oFC x g ly sa cnt gone tin tout (bI bu) (bI we) dw dr, oGR g (nI w) ht (nI P) ho op lpl ea eb, oLY ly g ru (nI 64) sz ld wy bk cd nc nz mh mn, oDG ru g deg, aI cI sz (P + 1) fs, aI cI ld (P * 64) fl, aJ cJ wy ((P + 1) * 64) fw, aI cI bk 512 fb, aI cI cd 64 fc, aI cI nc 64 fn] 0 0 (fun v w1 => ∃ (cd2 nc2 : Nat) (nz2 : Int32) (fs2 fl2 : Nat → Int32) (fw2 : Nat → Int64) (fb2 fc2 fn2 : Nat → Int32), v = some (.int (digitF i (ctDG w P ho deg op tin (tout ||| gone)))) ∧ w1 = [oFC x g ly sa cnt gone tin tout (bI true) (bI true) dw dr, oGR g (nI w) ht (nI P) ho op lpl ea eb, oLY ly g ru (nI 64) sz ld wy bk cd2 nc2 nz2 tin (tout ||| gone), oDG ru g deg, aI cI sz (P + 1) fs2, aI cI ld (P * 64) fl2, aJ cJ wy ((P + 1) * 64) fw2, aI cI bk 512 fb2, aI cI cd2 64 fc2, aI cI nc2 64 fn2] ∧ btDG w P ho deg op fs2 fl2 fw2 ∧ wtDG w P ho deg op tin (tout ||| gone) fw2) := by
  refine MC.of (by decide) bigW_good (Nat.le_of_ble_eq_true rfl) (fun κ C Z IN => ?_)
  refine e_aload_n C d_FC_digit_0 rfl rfl ?_
  refine e_callV (As := []) (st := []) (wc := [oFC x g ly sa cnt gone tin tout (bI bu) (bI we) dw dr, oGR g (nI w) ht (nI P) ho op lpl ea eb, oLY ly g ru (nI 64) sz ld wy bk cd nc nz mh mn, oDG ru g deg, aI cI sz (P + 1) fs, aI cI ld (P * 64) fl, aJ cJ wy ((P + 1) * 64) fw, aI cI bk 512 fb, aI cI cd 64 fc, aI cI nc 64 fn]) (wr := []) C (M_FC_count_DG l D cI cJ cZ x g ly sa ru sz ld wy bk cd nc w P hw hw0 hP cnt gone tin tout dw dr ht ho op lpl ea eb deg nz mh mn fs fl fw fb fc fn bu we hwb hB hW) v_FC_count ml_FC_123 0 rfl rfl nwW_ok ⟨Nat.le_of_ble_eq_true rfl, Nat.le_of_ble_eq_true rfl⟩ ⟨Nat.le_of_ble_eq_true rfl, Nat.le_of_ble_eq_true rfl⟩ [0, 1, 2, 3, 4, 5, 6, 7, 8, 9] [] rfl rfl rfl rfl (by decide) (Nat.le_of_ble_eq_true rfl) rfl d_FC_digit_1 (fun v w1 hp => ?_)
  obtain ⟨cd2, nc2, nz2, fs2, fl2, fw2, fb2, fc2, fn2, rfl, rfl, hB2, hW2⟩ := hp
  refine e_perm (st' := [.long (ctDG w P ho deg op tin (tout ||| gone))]) (ws' := [oFC x g ly sa cnt gone tin tout (bI true) (bI true) dw dr, oGR g (nI w) ht (nI P) ho op lpl ea eb, oLY ly g ru (nI 64) sz ld wy bk cd2 nc2 nz2 tin (tout ||| gone), oDG ru g deg, aI cI sz (P + 1) fs2, aI cI ld (P * 64) fl2, aJ cJ wy ((P + 1) * 64) fw2, aI cI bk 512 fb2, aI cI cd2 64 fc2, aI cI nc2 64 fn2]) [0, 1, 2, 3, 4, 5, 6, 7, 8, 9] rfl rfl rfl ?_
  refine e_lstore_n C d_FC_digit_4 rfl (by decide) ?_
  refine e_iconst (v := 0) C d_FC_digit_5 rfl ?_
  refine e_istore C d_FC_digit_6 (by decide) ?_
  have LP : ∀ (fuel : Nat) (a : Nat) (rr : Int64), a ≤ 19 → dgF i (19 - a) a rr = digitF i (ctDG w P ho deg op tin (tout ||| gone)) →  19 - a < fuel → E κ (lu_o [(0, .ref x), (1, .int i), (2, .long rr), (4, .int (nI a))]) [] [oFC x g ly sa cnt gone tin tout (bI true) (bI true) dw dr, oGR g (nI w) ht (nI P) ho op lpl ea eb, oLY ly g ru (nI 64) sz ld wy bk cd2 nc2 nz2 tin (tout ||| gone), oDG ru g deg, aI cI sz (P + 1) fs2, aI cI ld (P * 64) fl2, aJ cJ wy ((P + 1) * 64) fw2, aI cI bk 512 fb2, aI cI cd2 64 fc2, aI cI nc2 64 fn2] 0 0 8 := by
    intro fuel
    induction fuel with
    | zero => intro a rr ha hS hm; exact absurd hm (Nat.not_lt_zero _)
    | succ fuel ihLP =>
      intro a rr ha hS hm
      refine e_iload C d_FC_digit_8 rfl ?_
      refine e_bipush (v := 19) C d_FC_digit_10 (by decide) ?_
      refine e_icmp_ge (tgt := 48) C d_FC_digit_12 (by decide) (fun h12 => ?_) (fun h12 => ?_)
      · -- 48
        refine e_iconst (v := (-1)) C d_FC_digit_48 rfl ?_
        exact e_iret C Z rfl (Nat.le_of_ble_eq_true rfl) (Nat.le_of_ble_eq_true rfl) (⟨cd2, nc2, nz2, fs2, fl2, fw2, fb2, fc2, fn2, by have q := (nI_leI (a := 19) (by omega) (by omega)).mp h12; rw [← hS, show 19 - a = 0 by omega]; rfl, rfl, hB2, hW2⟩) d_FC_digit_49
      · -- 15
        have ha9 : a < 19 := by rcases Nat.lt_or_ge a 19 with q | q; exact q; exact absurd (nI_le (a := 19) q (by omega)) h12
        have hS : (if nI a = i then (rr - rr / 10 * 10).toInt32 else if lg_cmp (rr / 10) 0 = 0 then -1 else dgF i (19 - (a + 1)) (a + 1) (rr / 10)) = digitF i (ctDG w P ho deg op tin (tout ||| gone)) := by rw [← hS, show 19 - a = (19 - (a + 1)) + 1 by omega]; rfl
        refine e_iload C d_FC_digit_15 rfl ?_
        refine e_iload_n C d_FC_digit_17 rfl rfl ?_
        refine e_icmp_ne (tgt := 28) C d_FC_digit_18 (by decide) (fun h18 => ?_) (fun h18 => ?_)
        · -- 28
          refine e_lload_n C d_FC_digit_28 rfl rfl ?_
          refine e_ldc2 C kl_FC_126 d_FC_digit_29 ?_
          refine e_ldiv C d_FC_digit_32 (by decide) ?_
          refine e_lstore_n C d_FC_digit_33 rfl (by decide) ?_
          refine e_lload_n C d_FC_digit_34 rfl rfl ?_
          refine e_lconst (v := 0) C d_FC_digit_35 rfl ?_
          refine e_lcmp C d_FC_digit_36 ?_
          refine e_if_ne (tgt := 42) C d_FC_digit_37 (by decide) (fun h37 => ?_) (fun h37 => ?_)
          · -- 42
            refine e_iinc (v := (nI a) + 1) C d_FC_digit_42 rfl rfl (by decide) ?_
            refine e_goto (tgt := 8) C d_FC_digit_45 (by decide) ?_
            refine e_lv [(0, .ref x), (1, .int i), (2, .long (rr / (10))), (4, .int (nI (a + 1)))] ⟨rfl, rfl, rfl, congrArg (fun z => some (Value.int z)) (nI_1 a), trivial⟩ ?_
            refine e_ws [oFC x g ly sa cnt gone tin tout (bI true) (bI true) dw dr, oGR g (nI w) ht (nI P) ho op lpl ea eb, oLY ly g ru (nI 64) sz ld wy bk cd2 nc2 nz2 tin (tout ||| gone), oDG ru g deg, aI cI sz (P + 1) fs2, aI cI ld (P * 64) fl2, aJ cJ wy ((P + 1) * 64) fw2, aI cI bk 512 fb2, aI cI cd2 64 fc2, aI cI nc2 64 fn2] rfl ?_
            exact ihLP (a + 1) _ (by omega) (by rw [← hS, if_neg h18, if_neg h37]) (by omega)
          · -- 40
            refine e_iconst (v := (-1)) C d_FC_digit_40 rfl ?_
            exact e_iret C Z rfl (Nat.le_of_ble_eq_true rfl) (Nat.le_of_ble_eq_true rfl) (⟨cd2, nc2, nz2, fs2, fl2, fw2, fb2, fc2, fn2, by rw [← hS, if_neg h18, if_pos h37], rfl, hB2, hW2⟩) d_FC_digit_41
        · -- 21
          refine e_lload_n C d_FC_digit_21 rfl rfl ?_
          refine e_ldc2 C kl_FC_126 d_FC_digit_22 ?_
          refine e_lrem C d_FC_digit_25 (by decide) ?_
          refine e_l2i C d_FC_digit_26 ?_
          exact e_iret C Z rfl (Nat.le_of_ble_eq_true rfl) (Nat.le_of_ble_eq_true rfl) (⟨cd2, nc2, nz2, fs2, fl2, fw2, fb2, fc2, fn2, by rw [← hS, if_pos h18], rfl, hB2, hW2⟩) d_FC_digit_27
  refine e_lv [(0, .ref x), (1, .int i), (2, .long (ctDG w P ho deg op tin (tout ||| gone))), (4, .int (nI 0))] ⟨rfl, rfl, rfl, rfl, trivial⟩ ?_
  refine e_ws [oFC x g ly sa cnt gone tin tout (bI true) (bI true) dw dr, oGR g (nI w) ht (nI P) ho op lpl ea eb, oLY ly g ru (nI 64) sz ld wy bk cd2 nc2 nz2 tin (tout ||| gone), oDG ru g deg, aI cI sz (P + 1) fs2, aI cI ld (P * 64) fl2, aJ cJ wy ((P + 1) * 64) fw2, aI cI bk 512 fb2, aI cI cd2 64 fc2, aI cI nc2 64 fn2] rfl ?_
  exact LP _ 0 (ctDG w P ho deg op tin (tout ||| gone)) (Nat.zero_le _) rfl (Nat.lt_succ_self _)

theorem MY_DG (l : Launch) (D : va_G) (cI cJ cZ : ClassId) (ly g ru sz ld wy bk cd nc P : Nat) (hP : P ≤ 25) (ns : Int32) (mh mn : Int64) (wd ht ho : Int32) (op : Int64) (lpl ea eb : Int32) (w : Nat) (deg : Int32) (fs fl : Nat → Int32) (fw : Nat → Int64) (hB : btDG w P ho deg op fs fl fw) (hW : wtDG w P ho deg op mh mn fw) (ix : Int64) : MK l D cI cJ cZ y_LY_wayAt c_LY_wayAt 11 (some FieldType.long) 3 69 [.ref ly, .long ix] [oLY ly g ru (nI 64) sz ld wy bk cd nc ns mh mn, oGR g wd ht (nI P) ho op lpl ea eb, aI cI sz (P + 1) fs, aI cI ld (P * 64) fl, aJ cJ wy ((P + 1) * 64) fw] 0 0 (rJ (wyDG w P ho deg op mh mn ix) [oLY ly g ru (nI 64) sz ld wy bk cd nc ns mh mn, oGR g wd ht (nI P) ho op lpl ea eb, aI cI sz (P + 1) fs, aI cI ld (P * 64) fl, aJ cJ wy ((P + 1) * 64) fw]) := by
  obtain ⟨n, rfl⟩ := i32_nat ns
  have h := M_LY_wayAt l D cI cJ cZ ly g ru sz ld wy bk cd nc P 64 hP (by decide) n mh mn ht ho op wd lpl ea eb fs fl fw (szI (layDG w P ho deg op)) hB.1 (z0DG w P ho deg op) ix
  rw [way_I (plDG w P ho deg op) hB hW (z0DG w P ho deg op) ix] at h
  exact h
set_option maxHeartbeats 4000000 in
set_option maxRecDepth 100000 in
theorem M_FC_draw_DG (l : Launch) (D : va_G) (cI cJ cZ : ClassId) (x g ly sa ru sz ld wy bk cd nc : Nat) (w P : Nat) (hw : w ≤ 5) (hw0 : 0 < w) (hP : P ≤ 25) (cnt : Int32) (gone tin tout : Int64) (dw dr : Int64) (ht ho : Int32) (op : Int64) (lpl ea eb : Int32) (deg : Int32) (nz : Int32) (mh mn : Int64) (fs fl : Nat → Int32) (fw : Nat → Int64) (fb fc fn : Nat → Int32) (bu we : Bool) (hwb : we = true → bu = true) (hB : bu = true → btDG w P ho deg op fs fl fw) (hW : we = true → wtDG w P ho deg op tin (tout ||| gone) fw ∧ mh = tin ∧ mn = (tout ||| gone)) (seed : Int64) : MK l D cI cJ cZ y_FC_draw c_FC_draw 7 (some FieldType.boolean) 7 176 [.ref x, .long seed] [oFC x g ly sa cnt gone tin tout (bI bu) (bI we) dw dr, oGR g (nI w) ht (nI P) ho op lpl ea eb, oLY ly g ru (nI 64) sz ld wy bk cd nc nz mh mn, oDG ru g deg, aI cI sz (P + 1) fs, aI cI ld (P * 64) fl, aJ cJ wy ((P + 1) * 64) fw, aI cI bk 512 fb, aI cI cd 64 fc, aI cI nc 64 fn] 0 0 (fun v w1 => (¬ 0 < lg_cmp (ctDG w P ho deg op tin (tout ||| gone)) 0 ∧ ∃ (cd2 nc2 : Nat) (nz2 : Int32) (fs2 fl2 : Nat → Int32) (fw2 : Nat → Int64) (fb2 fc2 fn2 : Nat → Int32), v = some (.int 0) ∧ w1 = [oFC x g ly sa cnt gone tin tout (bI true) (bI true) dw (-1), oGR g (nI w) ht (nI P) ho op lpl ea eb, oLY ly g ru (nI 64) sz ld wy bk cd2 nc2 nz2 tin (tout ||| gone), oDG ru g deg, aI cI sz (P + 1) fs2, aI cI ld (P * 64) fl2, aJ cJ wy ((P + 1) * 64) fw2, aI cI bk 512 fb2, aI cI cd2 64 fc2, aI cI nc2 64 fn2] ∧ btDG w P ho deg op fs2 fl2 fw2 ∧ wtDG w P ho deg op tin (tout ||| gone) fw2) ∨ (0 < lg_cmp (ctDG w P ho deg op tin (tout ||| gone)) 0 ∧ ∃ (cd2 nc2 : Nat) (nz2 : Int32) (fs2 fl2 : Nat → Int32) (fw2 : Nat → Int64) (fb2 fc2 fn2 : Nat → Int32), v = some (.int 1) ∧ w1 = [oFC x g ly sa cnt gone tin tout (bI true) (bI true) (wyDG w P ho deg op tin (tout ||| gone) (ixF seed (ctDG w P ho deg op tin (tout ||| gone)))) (ixF seed (ctDG w P ho deg op tin (tout ||| gone))), oGR g (nI w) ht (nI P) ho op lpl ea eb, oLY ly g ru (nI 64) sz ld wy bk cd2 nc2 nz2 tin (tout ||| gone), oDG ru g deg, aI cI sz (P + 1) fs2, aI cI ld (P * 64) fl2, aJ cJ wy ((P + 1) * 64) fw2, aI cI bk 512 fb2, aI cI cd2 64 fc2, aI cI nc2 64 fn2] ∧ btDG w P ho deg op fs2 fl2 fw2 ∧ wtDG w P ho deg op tin (tout ||| gone) fw2)) := by
  refine MC.of (by decide) bigW_good (Nat.le_of_ble_eq_true rfl) (fun κ C Z IN => ?_)
  refine e_aload_n C d_FC_draw_0 rfl rfl ?_
  refine e_ldc2 C kl_FC_47 d_FC_draw_1 ?_
  refine e_put C hin_FC ty_FC tyk_FC nm_FC 0 rfl rfl 10 (by decide) fl_FC_49 rfl rfl rfl (Nat.le_of_ble_eq_true rfl) d_FC_draw_4 ?_
  refine e_ws [oFC x g ly sa cnt gone tin tout (bI bu) (bI we) dw (-1), oGR g (nI w) ht (nI P) ho op lpl ea eb, oLY ly g ru (nI 64) sz ld wy bk cd nc nz mh mn, oDG ru g deg, aI cI sz (P + 1) fs, aI cI ld (P * 64) fl, aJ cJ wy ((P + 1) * 64) fw, aI cI bk 512 fb, aI cI cd 64 fc, aI cI nc 64 fn] rfl ?_
  refine e_aload_n C d_FC_draw_7 rfl rfl ?_
  refine e_callV (As := []) (st := []) (wc := [oFC x g ly sa cnt gone tin tout (bI bu) (bI we) dw (-1), oGR g (nI w) ht (nI P) ho op lpl ea eb, oLY ly g ru (nI 64) sz ld wy bk cd nc nz mh mn, oDG ru g deg, aI cI sz (P + 1) fs, aI cI ld (P * 64) fl, aJ cJ wy ((P + 1) * 64) fw, aI cI bk 512 fb, aI cI cd 64 fc, aI cI nc 64 fn]) (wr := []) C (M_FC_count_DG l D cI cJ cZ x g ly sa ru sz ld wy bk cd nc w P hw hw0 hP cnt gone tin tout dw (-1) ht ho op lpl ea eb deg nz mh mn fs fl fw fb fc fn bu we hwb hB hW) v_FC_count ml_FC_123 0 rfl rfl nwW_ok ⟨Nat.le_of_ble_eq_true rfl, Nat.le_of_ble_eq_true rfl⟩ ⟨Nat.le_of_ble_eq_true rfl, Nat.le_of_ble_eq_true rfl⟩ [0, 1, 2, 3, 4, 5, 6, 7, 8, 9] [] rfl rfl rfl rfl (by decide) (Nat.le_of_ble_eq_true rfl) rfl d_FC_draw_8 (fun v w1 hp => ?_)
  obtain ⟨cd2, nc2, nz2, fs2, fl2, fw2, fb2, fc2, fn2, rfl, rfl, hB2, hW2⟩ := hp
  refine e_perm (st' := [.long (ctDG w P ho deg op tin (tout ||| gone))]) (ws' := [oFC x g ly sa cnt gone tin tout (bI true) (bI true) dw (-1), oGR g (nI w) ht (nI P) ho op lpl ea eb, oLY ly g ru (nI 64) sz ld wy bk cd2 nc2 nz2 tin (tout ||| gone), oDG ru g deg, aI cI sz (P + 1) fs2, aI cI ld (P * 64) fl2, aJ cJ wy ((P + 1) * 64) fw2, aI cI bk 512 fb2, aI cI cd2 64 fc2, aI cI nc2 64 fn2]) [0, 1, 2, 3, 4, 5, 6, 7, 8, 9] rfl rfl rfl ?_
  refine e_lstore_n C d_FC_draw_11 rfl (by decide) ?_
  refine e_lload_n C d_FC_draw_12 rfl rfl ?_
  refine e_lconst (v := 0) C d_FC_draw_13 rfl ?_
  refine e_lcmp C d_FC_draw_14 ?_
  refine e_if_gt (tgt := 20) C d_FC_draw_15 (by decide) (fun h15 => ?_) (fun h15 => ?_)
  · -- 20
    have hn0 : ¬ ctDG w P ho deg op tin (tout ||| gone) = 0 := fun z => by rw [z] at h15; exact absurd h15 (by decide)
    refine e_ldc2 C kl_FC_128 d_FC_draw_20 ?_
    refine e_lload_n C d_FC_draw_23 rfl rfl ?_
    refine e_lmul C d_FC_draw_24 ?_
    refine e_ldc2 C kl_FC_130 d_FC_draw_25 ?_
    refine e_ladd C d_FC_draw_28 ?_
    refine e_iconst (v := 1) C d_FC_draw_29 rfl ?_
    refine e_lushr C d_FC_draw_30 ?_
    refine e_lload_n C d_FC_draw_31 rfl rfl ?_
    refine e_lrem C d_FC_draw_32 hn0 ?_
    refine e_st [.long (ixF seed (ctDG w P ho deg op tin (tout ||| gone)))] rfl ?_
    refine e_lstore C d_FC_draw_33 (by decide) ?_
    refine e_aload_n C d_FC_draw_35 rfl rfl ?_
    refine e_aload_n C d_FC_draw_36 rfl rfl ?_
    refine e_get C hin_FC 0 rfl rfl 1 (by decide) fl_FC_35 rfl d_FC_draw_37 ?_
    refine e_lload C d_FC_draw_40 rfl ?_
    refine e_callVN (As := [.long (ixF seed (ctDG w P ho deg op tin (tout ||| gone)))]) (st := [.ref x]) (wc := [oLY ly g ru (nI 64) sz ld wy bk cd2 nc2 nz2 tin (tout ||| gone), oGR g (nI w) ht (nI P) ho op lpl ea eb, aI cI sz (P + 1) fs2, aI cI ld (P * 64) fl2, aJ cJ wy ((P + 1) * 64) fw2]) (wr := [oFC x g ly sa cnt gone tin tout (bI true) (bI true) dw (-1), oDG ru g deg, aI cI bk 512 fb2, aI cI cd2 64 fc2, aI cI nc2 64 fn2]) C (MY_DG l D cI cJ cZ ly g ru sz ld wy bk cd2 nc2 P hP nz2 tin (tout ||| gone) (nI w) ht ho op lpl ea eb w deg fs2 fl2 fw2 hB2 hW2 (ixF seed (ctDG w P ho deg op tin (tout ||| gone)))) v_LY_wayAt mn_FC_132 2 rfl rfl nwW_ok ⟨Nat.le_of_ble_eq_true rfl, Nat.le_of_ble_eq_true rfl⟩ ⟨Nat.le_of_ble_eq_true rfl, Nat.le_of_ble_eq_true rfl⟩ [2, 1, 4, 5, 6] [0, 3, 7, 8, 9] rfl rfl rfl rfl (by decide) (Nat.le_of_ble_eq_true rfl) rfl d_FC_draw_42 (fun v w1 hp => ?_)
    obtain ⟨rfl, rfl⟩ := hp
    refine e_perm (st' := [.long (wyDG w P ho deg op tin (tout ||| gone) (ixF seed (ctDG w P ho deg op tin (tout ||| gone)))), .ref x]) (ws' := [oFC x g ly sa cnt gone tin tout (bI true) (bI true) dw (-1), oGR g (nI w) ht (nI P) ho op lpl ea eb, oLY ly g ru (nI 64) sz ld wy bk cd2 nc2 nz2 tin (tout ||| gone), oDG ru g deg, aI cI sz (P + 1) fs2, aI cI ld (P * 64) fl2, aJ cJ wy ((P + 1) * 64) fw2, aI cI bk 512 fb2, aI cI cd2 64 fc2, aI cI nc2 64 fn2]) [0, 6, 5, 1, 7, 8, 9, 2, 3, 4] rfl rfl rfl ?_
    refine e_put C hin_FC ty_FC tyk_FC nm_FC 0 rfl rfl 9 (by decide) fl_FC_136 rfl rfl rfl (Nat.le_of_ble_eq_true rfl) d_FC_draw_45 ?_
    refine e_ws [oFC x g ly sa cnt gone tin tout (bI true) (bI true) (wyDG w P ho deg op tin (tout ||| gone) (ixF seed (ctDG w P ho deg op tin (tout ||| gone)))) (-1), oGR g (nI w) ht (nI P) ho op lpl ea eb, oLY ly g ru (nI 64) sz ld wy bk cd2 nc2 nz2 tin (tout ||| gone), oDG ru g deg, aI cI sz (P + 1) fs2, aI cI ld (P * 64) fl2, aJ cJ wy ((P + 1) * 64) fw2, aI cI bk 512 fb2, aI cI cd2 64 fc2, aI cI nc2 64 fn2] rfl ?_
    refine e_aload_n C d_FC_draw_48 rfl rfl ?_
    refine e_lload C d_FC_draw_49 rfl ?_
    refine e_put C hin_FC ty_FC tyk_FC nm_FC 0 rfl rfl 10 (by decide) fl_FC_49 rfl rfl rfl (Nat.le_of_ble_eq_true rfl) d_FC_draw_51 ?_
    refine e_ws [oFC x g ly sa cnt gone tin tout (bI true) (bI true) (wyDG w P ho deg op tin (tout ||| gone) (ixF seed (ctDG w P ho deg op tin (tout ||| gone)))) (ixF seed (ctDG w P ho deg op tin (tout ||| gone))), oGR g (nI w) ht (nI P) ho op lpl ea eb, oLY ly g ru (nI 64) sz ld wy bk cd2 nc2 nz2 tin (tout ||| gone), oDG ru g deg, aI cI sz (P + 1) fs2, aI cI ld (P * 64) fl2, aJ cJ wy ((P + 1) * 64) fw2, aI cI bk 512 fb2, aI cI cd2 64 fc2, aI cI nc2 64 fn2] rfl ?_
    refine e_iconst (v := 1) C d_FC_draw_54 rfl ?_
    exact e_iret C Z rfl (Nat.le_of_ble_eq_true rfl) (Nat.le_of_ble_eq_true rfl) (Or.inr ⟨h15, cd2, nc2, nz2, fs2, fl2, fw2, fb2, fc2, fn2, rfl, rfl, hB2, hW2⟩) d_FC_draw_55
  · -- 18
    refine e_iconst (v := 0) C d_FC_draw_18 rfl ?_
    exact e_iret C Z rfl (Nat.le_of_ble_eq_true rfl) (Nat.le_of_ble_eq_true rfl) (Or.inl ⟨h15, cd2, nc2, nz2, fs2, fl2, fw2, fb2, fc2, fn2, rfl, rfl, hB2, hW2⟩) d_FC_draw_19

def layLN (w P : Nat) (lp ea eb : Int32) (op : Int64) : Nat → List Int32 := layF 136 (fun p => cafLK lp ea eb p (p % w)) (fun p => openChoicesF op (nI p)) 0
def pakLN (w P : Nat) (lp ea eb : Int32) (op : Int64) : Nat → List Int32 := pakF 136 (fun p => cafLK lp ea eb p (p % w)) (fun p => openChoicesF op (nI p)) 0
abbrev btLN (w P : Nat) (lp ea eb : Int32) (op : Int64) (fs fl : Nat → Int32) (fw : Nat → Int64) : Prop := Built3 P 136 (layLN w P lp ea eb op) (pakLN w P lp ea eb op) isWayLN fs fl fw
abbrev wtLN (w P : Nat) (lp ea eb : Int32) (op : Int64) (inn out : Int64) (fw : Nat → Int64) : Prop := Weigh3 P 136 (layLN w P lp ea eb op) (pakLN w P lp ea eb op) isWayLN inn out fw
abbrev ctLN (w P : Nat) (lp ea eb : Int32) (op : Int64) (inn out : Int64) : Int64 := cntI P 136 (layLN w P lp ea eb op) (pakLN w P lp ea eb op) isWayLN inn out P 0
abbrev wyLN (w P : Nat) (lp ea eb : Int32) (op : Int64) (inn out ix : Int64) : Int64 := wyI P 136 (layLN w P lp ea eb op) (pakLN w P lp ea eb op) isWayLN inn out ix
theorem plLN (w P : Nat) (lp ea eb : Int32) (op : Int64) : ∀ q, (pakLN w P lp ea eb op q).length = szI (layLN w P lp ea eb op) q := fun q => pak_len q
theorem z0LN (w P : Nat) (lp ea eb : Int32) (op : Int64) : 0 < szI (layLN w P lp ea eb op) 0 := Nat.succ_pos _
theorem MT_LN (l : Launch) (D : va_G) (cI cJ cZ : ClassId) (ly g ru sz ld wy bk cd nc P : Nat) (hP : P ≤ 25) (ns : Int32) (mh mn : Int64) (fw : Nat → Int64) : MK l D cI cJ cZ y_LY_total c_LY_total 1 (some FieldType.long) 0 0 [.ref ly] [oLY ly g ru (nI 136) sz ld wy bk cd nc ns mh mn, aJ cJ wy ((P + 1) * 136) fw] 0 0 (rJ (fw 0) [oLY ly g ru (nI 136) sz ld wy bk cd nc ns mh mn, aJ cJ wy ((P + 1) * 136) fw]) := by
  obtain ⟨n, -, rfl⟩ : ∃ n, n < 2 ^ 32 ∧ ns = nI n := ⟨ns.toBitVec.toNat, ns.toBitVec.isLt, by apply Int32.toBitVec_inj.mp; apply BitVec.eq_of_toNat_eq; rw [pk_tn ns.toBitVec.isLt]⟩
  exact M_LY_total l D cI cJ cZ ly g ru sz ld wy bk cd nc P 136 hP (by decide) n mh mn (by decide) fw
theorem MW_LN (l : Launch) (D : va_G) (cI cJ cZ : ClassId) (ly g ru sz ld wy bk cd nc P : Nat) (hP : P ≤ 25) (ns : Int32) (mh mn : Int64) (wd ht ho : Int32) (op : Int64) (lpl ea eb : Int32) (w : Nat) (lp : Int32) (fs fl : Nat → Int32) (fw : Nat → Int64) (hB : btLN w P lp ea eb op fs fl fw) (inn out : Int64) : MK l D cI cJ cZ y_LY_weigh c_LY_weigh 7 none 4 94 [.ref ly, .long inn, .long out] [oLY ly g ru (nI 136) sz ld wy bk cd nc ns mh mn, oGR g wd ht (nI P) ho op lpl ea eb, aI cI sz (P + 1) fs, aI cI ld (P * 136) fl, aJ cJ wy ((P + 1) * 136) fw] 0 0 (fun v w1 => ∃ fw2 : Nat → Int64, v = none ∧ w1 = [oLY ly g ru (nI 136) sz ld wy bk cd nc ns inn out, oGR g wd ht (nI P) ho op lpl ea eb, aI cI sz (P + 1) fs, aI cI ld (P * 136) fl, aJ cJ wy ((P + 1) * 136) fw2] ∧ btLN w P lp ea eb op fs fl fw2 ∧ wtLN w P lp ea eb op inn out fw2) := by
  obtain ⟨n, -, rfl⟩ : ∃ n, n < 2 ^ 32 ∧ ns = nI n := ⟨ns.toBitVec.toNat, ns.toBitVec.isLt, by apply Int32.toBitVec_inj.mp; apply BitVec.eq_of_toNat_eq; rw [pk_tn ns.toBitVec.isLt]⟩
  refine MC.mono (M_LY_weigh l D cI cJ cZ ly g ru sz ld wy bk cd nc P 136 hP (by decide) n mh mn ht ho op wd lpl ea eb fs fl fw (szI (layLN w P lp ea eb op)) hB.1 inn out) ?_
  rintro v w1 ⟨fw2, h1, h2, h3⟩
  have h4 : wtLN w P lp ea eb op inn out fw2 := fun p hp a ha => by
    rw [h3 p hp a ha]
    exact Wt_I (plLN w P lp ea eb op) hB (P - p) a (by omega) (by rw [show P - (P - p) = p by omega]; exact ha)
  refine ⟨fw2, h1, h2, ⟨hB.1, hB.2.1, fun j x hx => ?_⟩, h4⟩
  have h5 := h3 P (Nat.le_refl _) j (List.getElem?_eq_some_iff.mp hx).1
  rw [Nat.sub_self] at h5
  rw [h5]
  exact hB.2.2 j x hx
set_option maxHeartbeats 4000000 in
set_option maxRecDepth 100000 in
theorem M_FC_count_LN_00 (l : Launch) (D : va_G) (cI cJ cZ : ClassId) (x g ly sa ru sz ld wy bk cd nc : Nat) (w P : Nat) (hw : w ≤ 5) (hw0 : 0 < w) (hP : P ≤ 25) (cnt : Int32) (gone tin tout : Int64) (dw dr : Int64) (ht ho : Int32) (op : Int64) (lpl ea eb : Int32) (lp : Int32) (nz : Nat) (mh mn : Int64) (fs fl : Nat → Int32) (fw : Nat → Int64) (fb fc fn : Nat → Int32) : MK l D cI cJ cZ y_FC_count c_FC_count 1 (some FieldType.long) 6 156 [.ref x] [oFC x g ly sa cnt gone tin tout 0 0 dw dr, oGR g (nI w) ht (nI P) ho op lpl ea eb, oLY ly g ru (nI 136) sz ld wy bk cd nc (nI nz) mh mn, oLN ru g lp, aI cI sz (P + 1) fs, aI cI ld (P * 136) fl, aJ cJ wy ((P + 1) * 136) fw, aI cI bk 512 fb, aI cI cd 136 fc, aI cI nc 136 fn] 0 0 (fun v w1 => ∃ (cd2 nc2 : Nat) (nz2 : Int32) (fs2 fl2 : Nat → Int32) (fw2 : Nat → Int64) (fb2 fc2 fn2 : Nat → Int32), v = some (.long (ctLN w P lp ea eb op tin (tout ||| gone))) ∧ w1 = [oFC x g ly sa cnt gone tin tout (bI true) (bI true) dw dr, oGR g (nI w) ht (nI P) ho op lpl ea eb, oLY ly g ru (nI 136) sz ld wy bk cd2 nc2 nz2 tin (tout ||| gone), oLN ru g lp, aI cI sz (P + 1) fs2, aI cI ld (P * 136) fl2, aJ cJ wy ((P + 1) * 136) fw2, aI cI bk 512 fb2, aI cI cd2 136 fc2, aI cI nc2 136 fn2] ∧ btLN w P lp ea eb op fs2 fl2 fw2 ∧ wtLN w P lp ea eb op tin (tout ||| gone) fw2) := by
  refine MC.of (by decide) bigW_good (Nat.le_of_ble_eq_true rfl) (fun κ C Z IN => ?_)
  refine e_aload_n C d_FC_count_0 rfl rfl ?_
  refine e_get C hin_FC 0 rfl rfl 7 (by decide) fl_FC_69 rfl d_FC_count_1 ?_
  refine e_if_ne (tgt := 19) C d_FC_count_4 (by decide) (fun h4 => ?_) (fun h4 => ?_)
  · exact absurd rfl h4
  · -- 7
    refine e_aload_n C d_FC_count_7 rfl rfl ?_
    refine e_get C hin_FC 0 rfl rfl 1 (by decide) fl_FC_35 rfl d_FC_count_8 ?_
    refine e_callVN (As := []) (st := []) (wc := [oLY ly g ru (nI 136) sz ld wy bk cd nc (nI nz) mh mn, oGR g (nI w) ht (nI P) ho op lpl ea eb, oLN ru g lp, aI cI sz (P + 1) fs, aI cI ld (P * 136) fl, aJ cJ wy ((P + 1) * 136) fw, aI cI bk 512 fb, aI cI cd 136 fc, aI cI nc 136 fn]) (wr := [oFC x g ly sa cnt gone tin tout 0 0 dw dr]) C (M_LY_build_LN l D cI cJ cZ ly g ru sz ld wy bk cd nc P 136 hP (by decide) mh mn lp w hw hw0 (by decide) nz ht ho op lpl ea eb fs fl fb fc fn fw) v_LY_build mn_FC_109 2 rfl rfl nwW_ok ⟨Nat.le_of_ble_eq_true rfl, Nat.le_of_ble_eq_true rfl⟩ ⟨Nat.le_of_ble_eq_true rfl, Nat.le_of_ble_eq_true rfl⟩ [2, 1, 3, 4, 5, 6, 7, 8, 9] [0] rfl rfl rfl rfl (by decide) (Nat.le_of_ble_eq_true rfl) rfl d_FC_count_11 (fun v w1 hp => ?_)
    obtain ⟨cd2, nc2, nz2, fs2, fl2, fw1, fb2, fc2, fn2, rfl, rfl, hA1, hB1, hC1⟩ := hp
    refine e_perm (st' := []) (ws' := [oFC x g ly sa cnt gone tin tout 0 0 dw dr, oGR g (nI w) ht (nI P) ho op lpl ea eb, oLY ly g ru (nI 136) sz ld wy bk cd2 nc2 nz2 mh mn, oLN ru g lp, aI cI sz (P + 1) fs2, aI cI ld (P * 136) fl2, aJ cJ wy ((P + 1) * 136) fw1, aI cI bk 512 fb2, aI cI cd2 136 fc2, aI cI nc2 136 fn2]) [0, 2, 1, 3, 4, 5, 6, 7, 8, 9] rfl rfl rfl ?_
    refine e_aload_n C d_FC_count_14 rfl rfl ?_
    refine e_iconst (v := 1) C d_FC_count_15 rfl ?_
    refine e_put C hin_FC ty_FC tyk_FC nm_FC 0 rfl rfl 7 (by decide) fl_FC_69 rfl rfl rfl (Nat.le_of_ble_eq_true rfl) d_FC_count_16 ?_
    refine e_ws [oFC x g ly sa cnt gone tin tout 1 0 dw dr, oGR g (nI w) ht (nI P) ho op lpl ea eb, oLY ly g ru (nI 136) sz ld wy bk cd2 nc2 nz2 mh mn, oLN ru g lp, aI cI sz (P + 1) fs2, aI cI ld (P * 136) fl2, aJ cJ wy ((P + 1) * 136) fw1, aI cI bk 512 fb2, aI cI cd2 136 fc2, aI cI nc2 136 fn2] rfl ?_
    have hB9 : btLN w P lp ea eb op fs2 fl2 fw1 := ⟨hA1, hB1, hC1⟩
    refine e_aload_n C d_FC_count_19 rfl rfl ?_
    refine e_get C hin_FC 0 rfl rfl 8 (by decide) fl_FC_112 rfl d_FC_count_20 ?_
    refine e_if_ne (tgt := 51) C d_FC_count_23 (by decide) (fun h23 => ?_) (fun h23 => ?_)
    · exact absurd rfl h23
    · -- 26
      refine e_aload_n C d_FC_count_26 rfl rfl ?_
      refine e_get C hin_FC 0 rfl rfl 1 (by decide) fl_FC_35 rfl d_FC_count_27 ?_
      refine e_aload_n C d_FC_count_30 rfl rfl ?_
      refine e_get C hin_FC 0 rfl rfl 5 (by decide) fl_FC_103 rfl d_FC_count_31 ?_
      refine e_aload_n C d_FC_count_34 rfl rfl ?_
      refine e_get C hin_FC 0 rfl rfl 6 (by decide) fl_FC_106 rfl d_FC_count_35 ?_
      refine e_aload_n C d_FC_count_38 rfl rfl ?_
      refine e_get C hin_FC 0 rfl rfl 4 (by decide) fl_FC_66 rfl d_FC_count_39 ?_
      refine e_lor C d_FC_count_42 ?_
      refine e_callVN (As := [.long tin, .long (tout ||| gone)]) (st := []) (wc := [oLY ly g ru (nI 136) sz ld wy bk cd2 nc2 nz2 mh mn, oGR g (nI w) ht (nI P) ho op lpl ea eb, aI cI sz (P + 1) fs2, aI cI ld (P * 136) fl2, aJ cJ wy ((P + 1) * 136) fw1]) (wr := [oFC x g ly sa cnt gone tin tout 1 0 dw dr, oLN ru g lp, aI cI bk 512 fb2, aI cI cd2 136 fc2, aI cI nc2 136 fn2]) C (MW_LN l D cI cJ cZ ly g ru sz ld wy bk cd2 nc2 P hP nz2 mh mn (nI w) ht ho op lpl ea eb w lp fs2 fl2 fw1 hB9 tin (tout ||| gone)) v_LY_weigh mn_FC_115 2 rfl rfl nwW_ok ⟨Nat.le_of_ble_eq_true rfl, Nat.le_of_ble_eq_true rfl⟩ ⟨Nat.le_of_ble_eq_true rfl, Nat.le_of_ble_eq_true rfl⟩ [2, 1, 4, 5, 6] [0, 3, 7, 8, 9] rfl rfl rfl rfl (by decide) (Nat.le_of_ble_eq_true rfl) rfl d_FC_count_43 (fun v w1 hp => ?_)
      obtain ⟨fw9, rfl, rfl, hB10, hW10⟩ := hp
      refine e_perm (st' := []) (ws' := [oFC x g ly sa cnt gone tin tout 1 0 dw dr, oGR g (nI w) ht (nI P) ho op lpl ea eb, oLY ly g ru (nI 136) sz ld wy bk cd2 nc2 nz2 tin (tout ||| gone), oLN ru g lp, aI cI sz (P + 1) fs2, aI cI ld (P * 136) fl2, aJ cJ wy ((P + 1) * 136) fw9, aI cI bk 512 fb2, aI cI cd2 136 fc2, aI cI nc2 136 fn2]) [0, 6, 5, 1, 7, 8, 9, 2, 3, 4] rfl rfl rfl ?_
      refine e_aload_n C d_FC_count_46 rfl rfl ?_
      refine e_iconst (v := 1) C d_FC_count_47 rfl ?_
      refine e_put C hin_FC ty_FC tyk_FC nm_FC 0 rfl rfl 8 (by decide) fl_FC_112 rfl rfl rfl (Nat.le_of_ble_eq_true rfl) d_FC_count_48 ?_
      refine e_ws [oFC x g ly sa cnt gone tin tout 1 1 dw dr, oGR g (nI w) ht (nI P) ho op lpl ea eb, oLY ly g ru (nI 136) sz ld wy bk cd2 nc2 nz2 tin (tout ||| gone), oLN ru g lp, aI cI sz (P + 1) fs2, aI cI ld (P * 136) fl2, aJ cJ wy ((P + 1) * 136) fw9, aI cI bk 512 fb2, aI cI cd2 136 fc2, aI cI nc2 136 fn2] rfl ?_
      refine e_aload_n C d_FC_count_51 rfl rfl ?_
      refine e_get C hin_FC 0 rfl rfl 1 (by decide) fl_FC_35 rfl d_FC_count_52 ?_
      refine e_callVN (As := []) (st := []) (wc := [oLY ly g ru (nI 136) sz ld wy bk cd2 nc2 nz2 tin (tout ||| gone), aJ cJ wy ((P + 1) * 136) fw9]) (wr := [oFC x g ly sa cnt gone tin tout 1 1 dw dr, oGR g (nI w) ht (nI P) ho op lpl ea eb, oLN ru g lp, aI cI sz (P + 1) fs2, aI cI ld (P * 136) fl2, aI cI bk 512 fb2, aI cI cd2 136 fc2, aI cI nc2 136 fn2]) C (MT_LN l D cI cJ cZ ly g ru sz ld wy bk cd2 nc2 P hP nz2 tin (tout ||| gone) fw9) v_LY_total mn_FC_119 2 rfl rfl nwW_ok ⟨Nat.le_of_ble_eq_true rfl, Nat.le_of_ble_eq_true rfl⟩ ⟨Nat.le_of_ble_eq_true rfl, Nat.le_of_ble_eq_true rfl⟩ [2, 6] [0, 1, 3, 4, 5, 7, 8, 9] rfl rfl rfl rfl (by decide) (Nat.le_of_ble_eq_true rfl) rfl d_FC_count_55 (fun v w1 hp => ?_)
      obtain ⟨rfl, rfl⟩ := hp
      refine e_perm (st' := [.long (fw9 0)]) (ws' := [oFC x g ly sa cnt gone tin tout 1 1 dw dr, oGR g (nI w) ht (nI P) ho op lpl ea eb, oLY ly g ru (nI 136) sz ld wy bk cd2 nc2 nz2 tin (tout ||| gone), oLN ru g lp, aI cI sz (P + 1) fs2, aI cI ld (P * 136) fl2, aJ cJ wy ((P + 1) * 136) fw9, aI cI bk 512 fb2, aI cI cd2 136 fc2, aI cI nc2 136 fn2]) [0, 1, 8, 2, 3, 4, 9, 5, 6, 7] rfl rfl rfl ?_
      exact e_lret C Z (Nat.le_of_ble_eq_true rfl) (Nat.le_of_ble_eq_true rfl) (⟨cd2, nc2, nz2, fs2, fl2, fw9, fb2, fc2, fn2, by have q := hW10 0 (Nat.zero_le _) 0 (z0LN w P lp ea eb op); rw [Nat.zero_mul, Nat.zero_add, Nat.sub_zero] at q; rw [q], rfl, hB10, hW10⟩) d_FC_count_58

set_option maxHeartbeats 4000000 in
set_option maxRecDepth 100000 in
theorem M_FC_count_LN_10 (l : Launch) (D : va_G) (cI cJ cZ : ClassId) (x g ly sa ru sz ld wy bk cd nc : Nat) (w P : Nat) (hw : w ≤ 5) (hw0 : 0 < w) (hP : P ≤ 25) (cnt : Int32) (gone tin tout : Int64) (dw dr : Int64) (ht ho : Int32) (op : Int64) (lpl ea eb : Int32) (lp : Int32) (nz : Nat) (mh mn : Int64) (fs fl : Nat → Int32) (fw : Nat → Int64) (fb fc fn : Nat → Int32) (hB : btLN w P lp ea eb op fs fl fw) : MK l D cI cJ cZ y_FC_count c_FC_count 1 (some FieldType.long) 6 156 [.ref x] [oFC x g ly sa cnt gone tin tout 1 0 dw dr, oGR g (nI w) ht (nI P) ho op lpl ea eb, oLY ly g ru (nI 136) sz ld wy bk cd nc (nI nz) mh mn, oLN ru g lp, aI cI sz (P + 1) fs, aI cI ld (P * 136) fl, aJ cJ wy ((P + 1) * 136) fw, aI cI bk 512 fb, aI cI cd 136 fc, aI cI nc 136 fn] 0 0 (fun v w1 => ∃ (cd2 nc2 : Nat) (nz2 : Int32) (fs2 fl2 : Nat → Int32) (fw2 : Nat → Int64) (fb2 fc2 fn2 : Nat → Int32), v = some (.long (ctLN w P lp ea eb op tin (tout ||| gone))) ∧ w1 = [oFC x g ly sa cnt gone tin tout (bI true) (bI true) dw dr, oGR g (nI w) ht (nI P) ho op lpl ea eb, oLY ly g ru (nI 136) sz ld wy bk cd2 nc2 nz2 tin (tout ||| gone), oLN ru g lp, aI cI sz (P + 1) fs2, aI cI ld (P * 136) fl2, aJ cJ wy ((P + 1) * 136) fw2, aI cI bk 512 fb2, aI cI cd2 136 fc2, aI cI nc2 136 fn2] ∧ btLN w P lp ea eb op fs2 fl2 fw2 ∧ wtLN w P lp ea eb op tin (tout ||| gone) fw2) := by
  refine MC.of (by decide) bigW_good (Nat.le_of_ble_eq_true rfl) (fun κ C Z IN => ?_)
  refine e_aload_n C d_FC_count_0 rfl rfl ?_
  refine e_get C hin_FC 0 rfl rfl 7 (by decide) fl_FC_69 rfl d_FC_count_1 ?_
  refine e_if_ne (tgt := 19) C d_FC_count_4 (by decide) (fun h4 => ?_) (fun h4 => ?_)
  · -- 19
    have hB9 := hB
    refine e_aload_n C d_FC_count_19 rfl rfl ?_
    refine e_get C hin_FC 0 rfl rfl 8 (by decide) fl_FC_112 rfl d_FC_count_20 ?_
    refine e_if_ne (tgt := 51) C d_FC_count_23 (by decide) (fun h23 => ?_) (fun h23 => ?_)
    · exact absurd rfl h23
    · -- 26
      refine e_aload_n C d_FC_count_26 rfl rfl ?_
      refine e_get C hin_FC 0 rfl rfl 1 (by decide) fl_FC_35 rfl d_FC_count_27 ?_
      refine e_aload_n C d_FC_count_30 rfl rfl ?_
      refine e_get C hin_FC 0 rfl rfl 5 (by decide) fl_FC_103 rfl d_FC_count_31 ?_
      refine e_aload_n C d_FC_count_34 rfl rfl ?_
      refine e_get C hin_FC 0 rfl rfl 6 (by decide) fl_FC_106 rfl d_FC_count_35 ?_
      refine e_aload_n C d_FC_count_38 rfl rfl ?_
      refine e_get C hin_FC 0 rfl rfl 4 (by decide) fl_FC_66 rfl d_FC_count_39 ?_
      refine e_lor C d_FC_count_42 ?_
      refine e_callVN (As := [.long tin, .long (tout ||| gone)]) (st := []) (wc := [oLY ly g ru (nI 136) sz ld wy bk cd nc (nI nz) mh mn, oGR g (nI w) ht (nI P) ho op lpl ea eb, aI cI sz (P + 1) fs, aI cI ld (P * 136) fl, aJ cJ wy ((P + 1) * 136) fw]) (wr := [oFC x g ly sa cnt gone tin tout 1 0 dw dr, oLN ru g lp, aI cI bk 512 fb, aI cI cd 136 fc, aI cI nc 136 fn]) C (MW_LN l D cI cJ cZ ly g ru sz ld wy bk cd nc P hP (nI nz) mh mn (nI w) ht ho op lpl ea eb w lp fs fl fw hB9 tin (tout ||| gone)) v_LY_weigh mn_FC_115 2 rfl rfl nwW_ok ⟨Nat.le_of_ble_eq_true rfl, Nat.le_of_ble_eq_true rfl⟩ ⟨Nat.le_of_ble_eq_true rfl, Nat.le_of_ble_eq_true rfl⟩ [2, 1, 4, 5, 6] [0, 3, 7, 8, 9] rfl rfl rfl rfl (by decide) (Nat.le_of_ble_eq_true rfl) rfl d_FC_count_43 (fun v w1 hp => ?_)
      obtain ⟨fw9, rfl, rfl, hB10, hW10⟩ := hp
      refine e_perm (st' := []) (ws' := [oFC x g ly sa cnt gone tin tout 1 0 dw dr, oGR g (nI w) ht (nI P) ho op lpl ea eb, oLY ly g ru (nI 136) sz ld wy bk cd nc (nI nz) tin (tout ||| gone), oLN ru g lp, aI cI sz (P + 1) fs, aI cI ld (P * 136) fl, aJ cJ wy ((P + 1) * 136) fw9, aI cI bk 512 fb, aI cI cd 136 fc, aI cI nc 136 fn]) [0, 6, 5, 1, 7, 8, 9, 2, 3, 4] rfl rfl rfl ?_
      refine e_aload_n C d_FC_count_46 rfl rfl ?_
      refine e_iconst (v := 1) C d_FC_count_47 rfl ?_
      refine e_put C hin_FC ty_FC tyk_FC nm_FC 0 rfl rfl 8 (by decide) fl_FC_112 rfl rfl rfl (Nat.le_of_ble_eq_true rfl) d_FC_count_48 ?_
      refine e_ws [oFC x g ly sa cnt gone tin tout 1 1 dw dr, oGR g (nI w) ht (nI P) ho op lpl ea eb, oLY ly g ru (nI 136) sz ld wy bk cd nc (nI nz) tin (tout ||| gone), oLN ru g lp, aI cI sz (P + 1) fs, aI cI ld (P * 136) fl, aJ cJ wy ((P + 1) * 136) fw9, aI cI bk 512 fb, aI cI cd 136 fc, aI cI nc 136 fn] rfl ?_
      refine e_aload_n C d_FC_count_51 rfl rfl ?_
      refine e_get C hin_FC 0 rfl rfl 1 (by decide) fl_FC_35 rfl d_FC_count_52 ?_
      refine e_callVN (As := []) (st := []) (wc := [oLY ly g ru (nI 136) sz ld wy bk cd nc (nI nz) tin (tout ||| gone), aJ cJ wy ((P + 1) * 136) fw9]) (wr := [oFC x g ly sa cnt gone tin tout 1 1 dw dr, oGR g (nI w) ht (nI P) ho op lpl ea eb, oLN ru g lp, aI cI sz (P + 1) fs, aI cI ld (P * 136) fl, aI cI bk 512 fb, aI cI cd 136 fc, aI cI nc 136 fn]) C (MT_LN l D cI cJ cZ ly g ru sz ld wy bk cd nc P hP (nI nz) tin (tout ||| gone) fw9) v_LY_total mn_FC_119 2 rfl rfl nwW_ok ⟨Nat.le_of_ble_eq_true rfl, Nat.le_of_ble_eq_true rfl⟩ ⟨Nat.le_of_ble_eq_true rfl, Nat.le_of_ble_eq_true rfl⟩ [2, 6] [0, 1, 3, 4, 5, 7, 8, 9] rfl rfl rfl rfl (by decide) (Nat.le_of_ble_eq_true rfl) rfl d_FC_count_55 (fun v w1 hp => ?_)
      obtain ⟨rfl, rfl⟩ := hp
      refine e_perm (st' := [.long (fw9 0)]) (ws' := [oFC x g ly sa cnt gone tin tout 1 1 dw dr, oGR g (nI w) ht (nI P) ho op lpl ea eb, oLY ly g ru (nI 136) sz ld wy bk cd nc (nI nz) tin (tout ||| gone), oLN ru g lp, aI cI sz (P + 1) fs, aI cI ld (P * 136) fl, aJ cJ wy ((P + 1) * 136) fw9, aI cI bk 512 fb, aI cI cd 136 fc, aI cI nc 136 fn]) [0, 1, 8, 2, 3, 4, 9, 5, 6, 7] rfl rfl rfl ?_
      exact e_lret C Z (Nat.le_of_ble_eq_true rfl) (Nat.le_of_ble_eq_true rfl) (⟨cd, nc, nI nz, fs, fl, fw9, fb, fc, fn, by have q := hW10 0 (Nat.zero_le _) 0 (z0LN w P lp ea eb op); rw [Nat.zero_mul, Nat.zero_add, Nat.sub_zero] at q; rw [q], rfl, hB10, hW10⟩) d_FC_count_58
  · exact absurd h4 (by decide)

set_option maxHeartbeats 4000000 in
set_option maxRecDepth 100000 in
theorem M_FC_count_LN_11 (l : Launch) (D : va_G) (cI cJ cZ : ClassId) (x g ly sa ru sz ld wy bk cd nc : Nat) (w P : Nat) (hw : w ≤ 5) (hw0 : 0 < w) (hP : P ≤ 25) (cnt : Int32) (gone tin tout : Int64) (dw dr : Int64) (ht ho : Int32) (op : Int64) (lpl ea eb : Int32) (lp : Int32) (nz : Nat) (mh mn : Int64) (fs fl : Nat → Int32) (fw : Nat → Int64) (fb fc fn : Nat → Int32) (hB : btLN w P lp ea eb op fs fl fw) (hW : wtLN w P lp ea eb op tin (tout ||| gone) fw) (hM : mh = tin ∧ mn = (tout ||| gone)) : MK l D cI cJ cZ y_FC_count c_FC_count 1 (some FieldType.long) 6 156 [.ref x] [oFC x g ly sa cnt gone tin tout 1 1 dw dr, oGR g (nI w) ht (nI P) ho op lpl ea eb, oLY ly g ru (nI 136) sz ld wy bk cd nc (nI nz) mh mn, oLN ru g lp, aI cI sz (P + 1) fs, aI cI ld (P * 136) fl, aJ cJ wy ((P + 1) * 136) fw, aI cI bk 512 fb, aI cI cd 136 fc, aI cI nc 136 fn] 0 0 (fun v w1 => ∃ (cd2 nc2 : Nat) (nz2 : Int32) (fs2 fl2 : Nat → Int32) (fw2 : Nat → Int64) (fb2 fc2 fn2 : Nat → Int32), v = some (.long (ctLN w P lp ea eb op tin (tout ||| gone))) ∧ w1 = [oFC x g ly sa cnt gone tin tout (bI true) (bI true) dw dr, oGR g (nI w) ht (nI P) ho op lpl ea eb, oLY ly g ru (nI 136) sz ld wy bk cd2 nc2 nz2 tin (tout ||| gone), oLN ru g lp, aI cI sz (P + 1) fs2, aI cI ld (P * 136) fl2, aJ cJ wy ((P + 1) * 136) fw2, aI cI bk 512 fb2, aI cI cd2 136 fc2, aI cI nc2 136 fn2] ∧ btLN w P lp ea eb op fs2 fl2 fw2 ∧ wtLN w P lp ea eb op tin (tout ||| gone) fw2) := by
  refine MC.of (by decide) bigW_good (Nat.le_of_ble_eq_true rfl) (fun κ C Z IN => ?_)
  refine e_aload_n C d_FC_count_0 rfl rfl ?_
  refine e_get C hin_FC 0 rfl rfl 7 (by decide) fl_FC_69 rfl d_FC_count_1 ?_
  refine e_if_ne (tgt := 19) C d_FC_count_4 (by decide) (fun h4 => ?_) (fun h4 => ?_)
  · -- 19
    have hB9 := hB
    refine e_aload_n C d_FC_count_19 rfl rfl ?_
    refine e_get C hin_FC 0 rfl rfl 8 (by decide) fl_FC_112 rfl d_FC_count_20 ?_
    refine e_if_ne (tgt := 51) C d_FC_count_23 (by decide) (fun h23 => ?_) (fun h23 => ?_)
    · -- 51
      refine e_aload_n C d_FC_count_51 rfl rfl ?_
      refine e_get C hin_FC 0 rfl rfl 1 (by decide) fl_FC_35 rfl d_FC_count_52 ?_
      refine e_callVN (As := []) (st := []) (wc := [oLY ly g ru (nI 136) sz ld wy bk cd nc (nI nz) mh mn, aJ cJ wy ((P + 1) * 136) fw]) (wr := [oFC x g ly sa cnt gone tin tout 1 1 dw dr, oGR g (nI w) ht (nI P) ho op lpl ea eb, oLN ru g lp, aI cI sz (P + 1) fs, aI cI ld (P * 136) fl, aI cI bk 512 fb, aI cI cd 136 fc, aI cI nc 136 fn]) C (MT_LN l D cI cJ cZ ly g ru sz ld wy bk cd nc P hP (nI nz) mh mn fw) v_LY_total mn_FC_119 2 rfl rfl nwW_ok ⟨Nat.le_of_ble_eq_true rfl, Nat.le_of_ble_eq_true rfl⟩ ⟨Nat.le_of_ble_eq_true rfl, Nat.le_of_ble_eq_true rfl⟩ [2, 6] [0, 1, 3, 4, 5, 7, 8, 9] rfl rfl rfl rfl (by decide) (Nat.le_of_ble_eq_true rfl) rfl d_FC_count_55 (fun v w1 hp => ?_)
      obtain ⟨rfl, rfl⟩ := hp
      refine e_perm (st' := [.long (fw 0)]) (ws' := [oFC x g ly sa cnt gone tin tout 1 1 dw dr, oGR g (nI w) ht (nI P) ho op lpl ea eb, oLY ly g ru (nI 136) sz ld wy bk cd nc (nI nz) mh mn, oLN ru g lp, aI cI sz (P + 1) fs, aI cI ld (P * 136) fl, aJ cJ wy ((P + 1) * 136) fw, aI cI bk 512 fb, aI cI cd 136 fc, aI cI nc 136 fn]) [0, 1, 8, 2, 3, 4, 9, 5, 6, 7] rfl rfl rfl ?_
      exact e_lret C Z (Nat.le_of_ble_eq_true rfl) (Nat.le_of_ble_eq_true rfl) (⟨cd, nc, nI nz, fs, fl, fw, fb, fc, fn, by have q := hW 0 (Nat.zero_le _) 0 (z0LN w P lp ea eb op); rw [Nat.zero_mul, Nat.zero_add, Nat.sub_zero] at q; rw [q], (by rw [hM.1, hM.2]; rfl), hB, hW⟩) d_FC_count_58
    · exact absurd h23 (by decide)
  · exact absurd h4 (by decide)

theorem M_FC_count_LN (l : Launch) (D : va_G) (cI cJ cZ : ClassId) (x g ly sa ru sz ld wy bk cd nc : Nat) (w P : Nat) (hw : w ≤ 5) (hw0 : 0 < w) (hP : P ≤ 25) (cnt : Int32) (gone tin tout : Int64) (dw dr : Int64) (ht ho : Int32) (op : Int64) (lpl ea eb : Int32) (lp : Int32) (nz : Int32) (mh mn : Int64) (fs fl : Nat → Int32) (fw : Nat → Int64) (fb fc fn : Nat → Int32) (bu we : Bool) (hwb : we = true → bu = true) (hB : bu = true → btLN w P lp ea eb op fs fl fw) (hW : we = true → wtLN w P lp ea eb op tin (tout ||| gone) fw ∧ mh = tin ∧ mn = (tout ||| gone)) : MK l D cI cJ cZ y_FC_count c_FC_count 1 (some FieldType.long) 6 156 [.ref x] [oFC x g ly sa cnt gone tin tout (bI bu) (bI we) dw dr, oGR g (nI w) ht (nI P) ho op lpl ea eb, oLY ly g ru (nI 136) sz ld wy bk cd nc nz mh mn, oLN ru g lp, aI cI sz (P + 1) fs, aI cI ld (P * 136) fl, aJ cJ wy ((P + 1) * 136) fw, aI cI bk 512 fb, aI cI cd 136 fc, aI cI nc 136 fn] 0 0 (fun v w1 => ∃ (cd2 nc2 : Nat) (nz2 : Int32) (fs2 fl2 : Nat → Int32) (fw2 : Nat → Int64) (fb2 fc2 fn2 : Nat → Int32), v = some (.long (ctLN w P lp ea eb op tin (tout ||| gone))) ∧ w1 = [oFC x g ly sa cnt gone tin tout (bI true) (bI true) dw dr, oGR g (nI w) ht (nI P) ho op lpl ea eb, oLY ly g ru (nI 136) sz ld wy bk cd2 nc2 nz2 tin (tout ||| gone), oLN ru g lp, aI cI sz (P + 1) fs2, aI cI ld (P * 136) fl2, aJ cJ wy ((P + 1) * 136) fw2, aI cI bk 512 fb2, aI cI cd2 136 fc2, aI cI nc2 136 fn2] ∧ btLN w P lp ea eb op fs2 fl2 fw2 ∧ wtLN w P lp ea eb op tin (tout ||| gone) fw2) := by
  obtain ⟨nz, rfl⟩ := i32_nat nz
  cases we with
  | true =>
    obtain rfl : bu = true := hwb rfl
    exact M_FC_count_LN_11 l D cI cJ cZ x g ly sa ru sz ld wy bk cd nc w P hw hw0 hP cnt gone tin tout dw dr ht ho op lpl ea eb lp nz mh mn fs fl fw fb fc fn (hB rfl) (hW rfl).1 (hW rfl).2
  | false =>
    cases bu with
    | true => exact M_FC_count_LN_10 l D cI cJ cZ x g ly sa ru sz ld wy bk cd nc w P hw hw0 hP cnt gone tin tout dw dr ht ho op lpl ea eb lp nz mh mn fs fl fw fb fc fn (hB rfl)
    | false => exact M_FC_count_LN_00 l D cI cJ cZ x g ly sa ru sz ld wy bk cd nc w P hw hw0 hP cnt gone tin tout dw dr ht ho op lpl ea eb lp nz mh mn fs fl fw fb fc fn
set_option maxHeartbeats 4000000 in
set_option maxRecDepth 100000 in
theorem M_FC_digit_LN (l : Launch) (D : va_G) (cI cJ cZ : ClassId) (x g ly sa ru sz ld wy bk cd nc : Nat) (w P : Nat) (hw : w ≤ 5) (hw0 : 0 < w) (hP : P ≤ 25) (cnt : Int32) (gone tin tout : Int64) (dw dr : Int64) (ht ho : Int32) (op : Int64) (lpl ea eb : Int32) (lp : Int32) (nz : Int32) (mh mn : Int64) (fs fl : Nat → Int32) (fw : Nat → Int64) (fb fc fn : Nat → Int32) (bu we : Bool) (hwb : we = true → bu = true) (hB : bu = true → btLN w P lp ea eb op fs fl fw) (hW : we = true → wtLN w P lp ea eb op tin (tout ||| gone) fw ∧ mh = tin ∧ mn = (tout ||| gone)) (i : Int32) : MK l D cI cJ cZ y_FC_digit c_FC_digit 5 (some FieldType.int) 7 176 [.ref x, .int i] [oFC x g ly sa cnt gone tin tout (bI bu) (bI we) dw dr, oGR g (nI w) ht (nI P) ho op lpl ea eb, oLY ly g ru (nI 136) sz ld wy bk cd nc nz mh mn, oLN ru g lp, aI cI sz (P + 1) fs, aI cI ld (P * 136) fl, aJ cJ wy ((P + 1) * 136) fw, aI cI bk 512 fb, aI cI cd 136 fc, aI cI nc 136 fn] 0 0 (fun v w1 => ∃ (cd2 nc2 : Nat) (nz2 : Int32) (fs2 fl2 : Nat → Int32) (fw2 : Nat → Int64) (fb2 fc2 fn2 : Nat → Int32), v = some (.int (digitF i (ctLN w P lp ea eb op tin (tout ||| gone)))) ∧ w1 = [oFC x g ly sa cnt gone tin tout (bI true) (bI true) dw dr, oGR g (nI w) ht (nI P) ho op lpl ea eb, oLY ly g ru (nI 136) sz ld wy bk cd2 nc2 nz2 tin (tout ||| gone), oLN ru g lp, aI cI sz (P + 1) fs2, aI cI ld (P * 136) fl2, aJ cJ wy ((P + 1) * 136) fw2, aI cI bk 512 fb2, aI cI cd2 136 fc2, aI cI nc2 136 fn2] ∧ btLN w P lp ea eb op fs2 fl2 fw2 ∧ wtLN w P lp ea eb op tin (tout ||| gone) fw2) := by
  refine MC.of (by decide) bigW_good (Nat.le_of_ble_eq_true rfl) (fun κ C Z IN => ?_)
  refine e_aload_n C d_FC_digit_0 rfl rfl ?_
  refine e_callV (As := []) (st := []) (wc := [oFC x g ly sa cnt gone tin tout (bI bu) (bI we) dw dr, oGR g (nI w) ht (nI P) ho op lpl ea eb, oLY ly g ru (nI 136) sz ld wy bk cd nc nz mh mn, oLN ru g lp, aI cI sz (P + 1) fs, aI cI ld (P * 136) fl, aJ cJ wy ((P + 1) * 136) fw, aI cI bk 512 fb, aI cI cd 136 fc, aI cI nc 136 fn]) (wr := []) C (M_FC_count_LN l D cI cJ cZ x g ly sa ru sz ld wy bk cd nc w P hw hw0 hP cnt gone tin tout dw dr ht ho op lpl ea eb lp nz mh mn fs fl fw fb fc fn bu we hwb hB hW) v_FC_count ml_FC_123 0 rfl rfl nwW_ok ⟨Nat.le_of_ble_eq_true rfl, Nat.le_of_ble_eq_true rfl⟩ ⟨Nat.le_of_ble_eq_true rfl, Nat.le_of_ble_eq_true rfl⟩ [0, 1, 2, 3, 4, 5, 6, 7, 8, 9] [] rfl rfl rfl rfl (by decide) (Nat.le_of_ble_eq_true rfl) rfl d_FC_digit_1 (fun v w1 hp => ?_)
  obtain ⟨cd2, nc2, nz2, fs2, fl2, fw2, fb2, fc2, fn2, rfl, rfl, hB2, hW2⟩ := hp
  refine e_perm (st' := [.long (ctLN w P lp ea eb op tin (tout ||| gone))]) (ws' := [oFC x g ly sa cnt gone tin tout (bI true) (bI true) dw dr, oGR g (nI w) ht (nI P) ho op lpl ea eb, oLY ly g ru (nI 136) sz ld wy bk cd2 nc2 nz2 tin (tout ||| gone), oLN ru g lp, aI cI sz (P + 1) fs2, aI cI ld (P * 136) fl2, aJ cJ wy ((P + 1) * 136) fw2, aI cI bk 512 fb2, aI cI cd2 136 fc2, aI cI nc2 136 fn2]) [0, 1, 2, 3, 4, 5, 6, 7, 8, 9] rfl rfl rfl ?_
  refine e_lstore_n C d_FC_digit_4 rfl (by decide) ?_
  refine e_iconst (v := 0) C d_FC_digit_5 rfl ?_
  refine e_istore C d_FC_digit_6 (by decide) ?_
  have LP : ∀ (fuel : Nat) (a : Nat) (rr : Int64), a ≤ 19 → dgF i (19 - a) a rr = digitF i (ctLN w P lp ea eb op tin (tout ||| gone)) →  19 - a < fuel → E κ (lu_o [(0, .ref x), (1, .int i), (2, .long rr), (4, .int (nI a))]) [] [oFC x g ly sa cnt gone tin tout (bI true) (bI true) dw dr, oGR g (nI w) ht (nI P) ho op lpl ea eb, oLY ly g ru (nI 136) sz ld wy bk cd2 nc2 nz2 tin (tout ||| gone), oLN ru g lp, aI cI sz (P + 1) fs2, aI cI ld (P * 136) fl2, aJ cJ wy ((P + 1) * 136) fw2, aI cI bk 512 fb2, aI cI cd2 136 fc2, aI cI nc2 136 fn2] 0 0 8 := by
    intro fuel
    induction fuel with
    | zero => intro a rr ha hS hm; exact absurd hm (Nat.not_lt_zero _)
    | succ fuel ihLP =>
      intro a rr ha hS hm
      refine e_iload C d_FC_digit_8 rfl ?_
      refine e_bipush (v := 19) C d_FC_digit_10 (by decide) ?_
      refine e_icmp_ge (tgt := 48) C d_FC_digit_12 (by decide) (fun h12 => ?_) (fun h12 => ?_)
      · -- 48
        refine e_iconst (v := (-1)) C d_FC_digit_48 rfl ?_
        exact e_iret C Z rfl (Nat.le_of_ble_eq_true rfl) (Nat.le_of_ble_eq_true rfl) (⟨cd2, nc2, nz2, fs2, fl2, fw2, fb2, fc2, fn2, by have q := (nI_leI (a := 19) (by omega) (by omega)).mp h12; rw [← hS, show 19 - a = 0 by omega]; rfl, rfl, hB2, hW2⟩) d_FC_digit_49
      · -- 15
        have ha9 : a < 19 := by rcases Nat.lt_or_ge a 19 with q | q; exact q; exact absurd (nI_le (a := 19) q (by omega)) h12
        have hS : (if nI a = i then (rr - rr / 10 * 10).toInt32 else if lg_cmp (rr / 10) 0 = 0 then -1 else dgF i (19 - (a + 1)) (a + 1) (rr / 10)) = digitF i (ctLN w P lp ea eb op tin (tout ||| gone)) := by rw [← hS, show 19 - a = (19 - (a + 1)) + 1 by omega]; rfl
        refine e_iload C d_FC_digit_15 rfl ?_
        refine e_iload_n C d_FC_digit_17 rfl rfl ?_
        refine e_icmp_ne (tgt := 28) C d_FC_digit_18 (by decide) (fun h18 => ?_) (fun h18 => ?_)
        · -- 28
          refine e_lload_n C d_FC_digit_28 rfl rfl ?_
          refine e_ldc2 C kl_FC_126 d_FC_digit_29 ?_
          refine e_ldiv C d_FC_digit_32 (by decide) ?_
          refine e_lstore_n C d_FC_digit_33 rfl (by decide) ?_
          refine e_lload_n C d_FC_digit_34 rfl rfl ?_
          refine e_lconst (v := 0) C d_FC_digit_35 rfl ?_
          refine e_lcmp C d_FC_digit_36 ?_
          refine e_if_ne (tgt := 42) C d_FC_digit_37 (by decide) (fun h37 => ?_) (fun h37 => ?_)
          · -- 42
            refine e_iinc (v := (nI a) + 1) C d_FC_digit_42 rfl rfl (by decide) ?_
            refine e_goto (tgt := 8) C d_FC_digit_45 (by decide) ?_
            refine e_lv [(0, .ref x), (1, .int i), (2, .long (rr / (10))), (4, .int (nI (a + 1)))] ⟨rfl, rfl, rfl, congrArg (fun z => some (Value.int z)) (nI_1 a), trivial⟩ ?_
            refine e_ws [oFC x g ly sa cnt gone tin tout (bI true) (bI true) dw dr, oGR g (nI w) ht (nI P) ho op lpl ea eb, oLY ly g ru (nI 136) sz ld wy bk cd2 nc2 nz2 tin (tout ||| gone), oLN ru g lp, aI cI sz (P + 1) fs2, aI cI ld (P * 136) fl2, aJ cJ wy ((P + 1) * 136) fw2, aI cI bk 512 fb2, aI cI cd2 136 fc2, aI cI nc2 136 fn2] rfl ?_
            exact ihLP (a + 1) _ (by omega) (by rw [← hS, if_neg h18, if_neg h37]) (by omega)
          · -- 40
            refine e_iconst (v := (-1)) C d_FC_digit_40 rfl ?_
            exact e_iret C Z rfl (Nat.le_of_ble_eq_true rfl) (Nat.le_of_ble_eq_true rfl) (⟨cd2, nc2, nz2, fs2, fl2, fw2, fb2, fc2, fn2, by rw [← hS, if_neg h18, if_pos h37], rfl, hB2, hW2⟩) d_FC_digit_41
        · -- 21
          refine e_lload_n C d_FC_digit_21 rfl rfl ?_
          refine e_ldc2 C kl_FC_126 d_FC_digit_22 ?_
          refine e_lrem C d_FC_digit_25 (by decide) ?_
          refine e_l2i C d_FC_digit_26 ?_
          exact e_iret C Z rfl (Nat.le_of_ble_eq_true rfl) (Nat.le_of_ble_eq_true rfl) (⟨cd2, nc2, nz2, fs2, fl2, fw2, fb2, fc2, fn2, by rw [← hS, if_pos h18], rfl, hB2, hW2⟩) d_FC_digit_27
  refine e_lv [(0, .ref x), (1, .int i), (2, .long (ctLN w P lp ea eb op tin (tout ||| gone))), (4, .int (nI 0))] ⟨rfl, rfl, rfl, rfl, trivial⟩ ?_
  refine e_ws [oFC x g ly sa cnt gone tin tout (bI true) (bI true) dw dr, oGR g (nI w) ht (nI P) ho op lpl ea eb, oLY ly g ru (nI 136) sz ld wy bk cd2 nc2 nz2 tin (tout ||| gone), oLN ru g lp, aI cI sz (P + 1) fs2, aI cI ld (P * 136) fl2, aJ cJ wy ((P + 1) * 136) fw2, aI cI bk 512 fb2, aI cI cd2 136 fc2, aI cI nc2 136 fn2] rfl ?_
  exact LP _ 0 (ctLN w P lp ea eb op tin (tout ||| gone)) (Nat.zero_le _) rfl (Nat.lt_succ_self _)

theorem MY_LN (l : Launch) (D : va_G) (cI cJ cZ : ClassId) (ly g ru sz ld wy bk cd nc P : Nat) (hP : P ≤ 25) (ns : Int32) (mh mn : Int64) (wd ht ho : Int32) (op : Int64) (lpl ea eb : Int32) (w : Nat) (lp : Int32) (fs fl : Nat → Int32) (fw : Nat → Int64) (hB : btLN w P lp ea eb op fs fl fw) (hW : wtLN w P lp ea eb op mh mn fw) (ix : Int64) : MK l D cI cJ cZ y_LY_wayAt c_LY_wayAt 11 (some FieldType.long) 3 69 [.ref ly, .long ix] [oLY ly g ru (nI 136) sz ld wy bk cd nc ns mh mn, oGR g wd ht (nI P) ho op lpl ea eb, aI cI sz (P + 1) fs, aI cI ld (P * 136) fl, aJ cJ wy ((P + 1) * 136) fw] 0 0 (rJ (wyLN w P lp ea eb op mh mn ix) [oLY ly g ru (nI 136) sz ld wy bk cd nc ns mh mn, oGR g wd ht (nI P) ho op lpl ea eb, aI cI sz (P + 1) fs, aI cI ld (P * 136) fl, aJ cJ wy ((P + 1) * 136) fw]) := by
  obtain ⟨n, rfl⟩ := i32_nat ns
  have h := M_LY_wayAt l D cI cJ cZ ly g ru sz ld wy bk cd nc P 136 hP (by decide) n mh mn ht ho op wd lpl ea eb fs fl fw (szI (layLN w P lp ea eb op)) hB.1 (z0LN w P lp ea eb op) ix
  rw [way_I (plLN w P lp ea eb op) hB hW (z0LN w P lp ea eb op) ix] at h
  exact h
set_option maxHeartbeats 4000000 in
set_option maxRecDepth 100000 in
theorem M_FC_draw_LN (l : Launch) (D : va_G) (cI cJ cZ : ClassId) (x g ly sa ru sz ld wy bk cd nc : Nat) (w P : Nat) (hw : w ≤ 5) (hw0 : 0 < w) (hP : P ≤ 25) (cnt : Int32) (gone tin tout : Int64) (dw dr : Int64) (ht ho : Int32) (op : Int64) (lpl ea eb : Int32) (lp : Int32) (nz : Int32) (mh mn : Int64) (fs fl : Nat → Int32) (fw : Nat → Int64) (fb fc fn : Nat → Int32) (bu we : Bool) (hwb : we = true → bu = true) (hB : bu = true → btLN w P lp ea eb op fs fl fw) (hW : we = true → wtLN w P lp ea eb op tin (tout ||| gone) fw ∧ mh = tin ∧ mn = (tout ||| gone)) (seed : Int64) : MK l D cI cJ cZ y_FC_draw c_FC_draw 7 (some FieldType.boolean) 7 176 [.ref x, .long seed] [oFC x g ly sa cnt gone tin tout (bI bu) (bI we) dw dr, oGR g (nI w) ht (nI P) ho op lpl ea eb, oLY ly g ru (nI 136) sz ld wy bk cd nc nz mh mn, oLN ru g lp, aI cI sz (P + 1) fs, aI cI ld (P * 136) fl, aJ cJ wy ((P + 1) * 136) fw, aI cI bk 512 fb, aI cI cd 136 fc, aI cI nc 136 fn] 0 0 (fun v w1 => (¬ 0 < lg_cmp (ctLN w P lp ea eb op tin (tout ||| gone)) 0 ∧ ∃ (cd2 nc2 : Nat) (nz2 : Int32) (fs2 fl2 : Nat → Int32) (fw2 : Nat → Int64) (fb2 fc2 fn2 : Nat → Int32), v = some (.int 0) ∧ w1 = [oFC x g ly sa cnt gone tin tout (bI true) (bI true) dw (-1), oGR g (nI w) ht (nI P) ho op lpl ea eb, oLY ly g ru (nI 136) sz ld wy bk cd2 nc2 nz2 tin (tout ||| gone), oLN ru g lp, aI cI sz (P + 1) fs2, aI cI ld (P * 136) fl2, aJ cJ wy ((P + 1) * 136) fw2, aI cI bk 512 fb2, aI cI cd2 136 fc2, aI cI nc2 136 fn2] ∧ btLN w P lp ea eb op fs2 fl2 fw2 ∧ wtLN w P lp ea eb op tin (tout ||| gone) fw2) ∨ (0 < lg_cmp (ctLN w P lp ea eb op tin (tout ||| gone)) 0 ∧ ∃ (cd2 nc2 : Nat) (nz2 : Int32) (fs2 fl2 : Nat → Int32) (fw2 : Nat → Int64) (fb2 fc2 fn2 : Nat → Int32), v = some (.int 1) ∧ w1 = [oFC x g ly sa cnt gone tin tout (bI true) (bI true) (wyLN w P lp ea eb op tin (tout ||| gone) (ixF seed (ctLN w P lp ea eb op tin (tout ||| gone)))) (ixF seed (ctLN w P lp ea eb op tin (tout ||| gone))), oGR g (nI w) ht (nI P) ho op lpl ea eb, oLY ly g ru (nI 136) sz ld wy bk cd2 nc2 nz2 tin (tout ||| gone), oLN ru g lp, aI cI sz (P + 1) fs2, aI cI ld (P * 136) fl2, aJ cJ wy ((P + 1) * 136) fw2, aI cI bk 512 fb2, aI cI cd2 136 fc2, aI cI nc2 136 fn2] ∧ btLN w P lp ea eb op fs2 fl2 fw2 ∧ wtLN w P lp ea eb op tin (tout ||| gone) fw2)) := by
  refine MC.of (by decide) bigW_good (Nat.le_of_ble_eq_true rfl) (fun κ C Z IN => ?_)
  refine e_aload_n C d_FC_draw_0 rfl rfl ?_
  refine e_ldc2 C kl_FC_47 d_FC_draw_1 ?_
  refine e_put C hin_FC ty_FC tyk_FC nm_FC 0 rfl rfl 10 (by decide) fl_FC_49 rfl rfl rfl (Nat.le_of_ble_eq_true rfl) d_FC_draw_4 ?_
  refine e_ws [oFC x g ly sa cnt gone tin tout (bI bu) (bI we) dw (-1), oGR g (nI w) ht (nI P) ho op lpl ea eb, oLY ly g ru (nI 136) sz ld wy bk cd nc nz mh mn, oLN ru g lp, aI cI sz (P + 1) fs, aI cI ld (P * 136) fl, aJ cJ wy ((P + 1) * 136) fw, aI cI bk 512 fb, aI cI cd 136 fc, aI cI nc 136 fn] rfl ?_
  refine e_aload_n C d_FC_draw_7 rfl rfl ?_
  refine e_callV (As := []) (st := []) (wc := [oFC x g ly sa cnt gone tin tout (bI bu) (bI we) dw (-1), oGR g (nI w) ht (nI P) ho op lpl ea eb, oLY ly g ru (nI 136) sz ld wy bk cd nc nz mh mn, oLN ru g lp, aI cI sz (P + 1) fs, aI cI ld (P * 136) fl, aJ cJ wy ((P + 1) * 136) fw, aI cI bk 512 fb, aI cI cd 136 fc, aI cI nc 136 fn]) (wr := []) C (M_FC_count_LN l D cI cJ cZ x g ly sa ru sz ld wy bk cd nc w P hw hw0 hP cnt gone tin tout dw (-1) ht ho op lpl ea eb lp nz mh mn fs fl fw fb fc fn bu we hwb hB hW) v_FC_count ml_FC_123 0 rfl rfl nwW_ok ⟨Nat.le_of_ble_eq_true rfl, Nat.le_of_ble_eq_true rfl⟩ ⟨Nat.le_of_ble_eq_true rfl, Nat.le_of_ble_eq_true rfl⟩ [0, 1, 2, 3, 4, 5, 6, 7, 8, 9] [] rfl rfl rfl rfl (by decide) (Nat.le_of_ble_eq_true rfl) rfl d_FC_draw_8 (fun v w1 hp => ?_)
  obtain ⟨cd2, nc2, nz2, fs2, fl2, fw2, fb2, fc2, fn2, rfl, rfl, hB2, hW2⟩ := hp
  refine e_perm (st' := [.long (ctLN w P lp ea eb op tin (tout ||| gone))]) (ws' := [oFC x g ly sa cnt gone tin tout (bI true) (bI true) dw (-1), oGR g (nI w) ht (nI P) ho op lpl ea eb, oLY ly g ru (nI 136) sz ld wy bk cd2 nc2 nz2 tin (tout ||| gone), oLN ru g lp, aI cI sz (P + 1) fs2, aI cI ld (P * 136) fl2, aJ cJ wy ((P + 1) * 136) fw2, aI cI bk 512 fb2, aI cI cd2 136 fc2, aI cI nc2 136 fn2]) [0, 1, 2, 3, 4, 5, 6, 7, 8, 9] rfl rfl rfl ?_
  refine e_lstore_n C d_FC_draw_11 rfl (by decide) ?_
  refine e_lload_n C d_FC_draw_12 rfl rfl ?_
  refine e_lconst (v := 0) C d_FC_draw_13 rfl ?_
  refine e_lcmp C d_FC_draw_14 ?_
  refine e_if_gt (tgt := 20) C d_FC_draw_15 (by decide) (fun h15 => ?_) (fun h15 => ?_)
  · -- 20
    have hn0 : ¬ ctLN w P lp ea eb op tin (tout ||| gone) = 0 := fun z => by rw [z] at h15; exact absurd h15 (by decide)
    refine e_ldc2 C kl_FC_128 d_FC_draw_20 ?_
    refine e_lload_n C d_FC_draw_23 rfl rfl ?_
    refine e_lmul C d_FC_draw_24 ?_
    refine e_ldc2 C kl_FC_130 d_FC_draw_25 ?_
    refine e_ladd C d_FC_draw_28 ?_
    refine e_iconst (v := 1) C d_FC_draw_29 rfl ?_
    refine e_lushr C d_FC_draw_30 ?_
    refine e_lload_n C d_FC_draw_31 rfl rfl ?_
    refine e_lrem C d_FC_draw_32 hn0 ?_
    refine e_st [.long (ixF seed (ctLN w P lp ea eb op tin (tout ||| gone)))] rfl ?_
    refine e_lstore C d_FC_draw_33 (by decide) ?_
    refine e_aload_n C d_FC_draw_35 rfl rfl ?_
    refine e_aload_n C d_FC_draw_36 rfl rfl ?_
    refine e_get C hin_FC 0 rfl rfl 1 (by decide) fl_FC_35 rfl d_FC_draw_37 ?_
    refine e_lload C d_FC_draw_40 rfl ?_
    refine e_callVN (As := [.long (ixF seed (ctLN w P lp ea eb op tin (tout ||| gone)))]) (st := [.ref x]) (wc := [oLY ly g ru (nI 136) sz ld wy bk cd2 nc2 nz2 tin (tout ||| gone), oGR g (nI w) ht (nI P) ho op lpl ea eb, aI cI sz (P + 1) fs2, aI cI ld (P * 136) fl2, aJ cJ wy ((P + 1) * 136) fw2]) (wr := [oFC x g ly sa cnt gone tin tout (bI true) (bI true) dw (-1), oLN ru g lp, aI cI bk 512 fb2, aI cI cd2 136 fc2, aI cI nc2 136 fn2]) C (MY_LN l D cI cJ cZ ly g ru sz ld wy bk cd2 nc2 P hP nz2 tin (tout ||| gone) (nI w) ht ho op lpl ea eb w lp fs2 fl2 fw2 hB2 hW2 (ixF seed (ctLN w P lp ea eb op tin (tout ||| gone)))) v_LY_wayAt mn_FC_132 2 rfl rfl nwW_ok ⟨Nat.le_of_ble_eq_true rfl, Nat.le_of_ble_eq_true rfl⟩ ⟨Nat.le_of_ble_eq_true rfl, Nat.le_of_ble_eq_true rfl⟩ [2, 1, 4, 5, 6] [0, 3, 7, 8, 9] rfl rfl rfl rfl (by decide) (Nat.le_of_ble_eq_true rfl) rfl d_FC_draw_42 (fun v w1 hp => ?_)
    obtain ⟨rfl, rfl⟩ := hp
    refine e_perm (st' := [.long (wyLN w P lp ea eb op tin (tout ||| gone) (ixF seed (ctLN w P lp ea eb op tin (tout ||| gone)))), .ref x]) (ws' := [oFC x g ly sa cnt gone tin tout (bI true) (bI true) dw (-1), oGR g (nI w) ht (nI P) ho op lpl ea eb, oLY ly g ru (nI 136) sz ld wy bk cd2 nc2 nz2 tin (tout ||| gone), oLN ru g lp, aI cI sz (P + 1) fs2, aI cI ld (P * 136) fl2, aJ cJ wy ((P + 1) * 136) fw2, aI cI bk 512 fb2, aI cI cd2 136 fc2, aI cI nc2 136 fn2]) [0, 6, 5, 1, 7, 8, 9, 2, 3, 4] rfl rfl rfl ?_
    refine e_put C hin_FC ty_FC tyk_FC nm_FC 0 rfl rfl 9 (by decide) fl_FC_136 rfl rfl rfl (Nat.le_of_ble_eq_true rfl) d_FC_draw_45 ?_
    refine e_ws [oFC x g ly sa cnt gone tin tout (bI true) (bI true) (wyLN w P lp ea eb op tin (tout ||| gone) (ixF seed (ctLN w P lp ea eb op tin (tout ||| gone)))) (-1), oGR g (nI w) ht (nI P) ho op lpl ea eb, oLY ly g ru (nI 136) sz ld wy bk cd2 nc2 nz2 tin (tout ||| gone), oLN ru g lp, aI cI sz (P + 1) fs2, aI cI ld (P * 136) fl2, aJ cJ wy ((P + 1) * 136) fw2, aI cI bk 512 fb2, aI cI cd2 136 fc2, aI cI nc2 136 fn2] rfl ?_
    refine e_aload_n C d_FC_draw_48 rfl rfl ?_
    refine e_lload C d_FC_draw_49 rfl ?_
    refine e_put C hin_FC ty_FC tyk_FC nm_FC 0 rfl rfl 10 (by decide) fl_FC_49 rfl rfl rfl (Nat.le_of_ble_eq_true rfl) d_FC_draw_51 ?_
    refine e_ws [oFC x g ly sa cnt gone tin tout (bI true) (bI true) (wyLN w P lp ea eb op tin (tout ||| gone) (ixF seed (ctLN w P lp ea eb op tin (tout ||| gone)))) (ixF seed (ctLN w P lp ea eb op tin (tout ||| gone))), oGR g (nI w) ht (nI P) ho op lpl ea eb, oLY ly g ru (nI 136) sz ld wy bk cd2 nc2 nz2 tin (tout ||| gone), oLN ru g lp, aI cI sz (P + 1) fs2, aI cI ld (P * 136) fl2, aJ cJ wy ((P + 1) * 136) fw2, aI cI bk 512 fb2, aI cI cd2 136 fc2, aI cI nc2 136 fn2] rfl ?_
    refine e_iconst (v := 1) C d_FC_draw_54 rfl ?_
    exact e_iret C Z rfl (Nat.le_of_ble_eq_true rfl) (Nat.le_of_ble_eq_true rfl) (Or.inr ⟨h15, cd2, nc2, nz2, fs2, fl2, fw2, fb2, fc2, fn2, rfl, rfl, hB2, hW2⟩) d_FC_draw_55
  · -- 18
    refine e_iconst (v := 0) C d_FC_draw_18 rfl ?_
    exact e_iret C Z rfl (Nat.le_of_ble_eq_true rfl) (Nat.le_of_ble_eq_true rfl) (Or.inl ⟨h15, cd2, nc2, nz2, fs2, fl2, fw2, fb2, fc2, fn2, rfl, rfl, hB2, hW2⟩) d_FC_draw_19

def layTR (w P : Nat) (ho lpl : Int32) (op : Int64) : Nat → List Int32 := layF 42 (fun p => cafTK w (nI P) ho lpl p (p % w)) (fun p => openChoicesF op (nI p)) (codeF (fstT w (nI P) ho) w)
def pakTR (w P : Nat) (ho lpl : Int32) (op : Int64) : Nat → List Int32 := pakF 42 (fun p => cafTK w (nI P) ho lpl p (p % w)) (fun p => openChoicesF op (nI p)) (codeF (fstT w (nI P) ho) w)
abbrev btTR (w P : Nat) (ho lpl : Int32) (op : Int64) (fs fl : Nat → Int32) (fw : Nat → Int64) : Prop := Built3 P 42 (layTR w P ho lpl op) (pakTR w P ho lpl op) isWayTR fs fl fw
abbrev wtTR (w P : Nat) (ho lpl : Int32) (op : Int64) (inn out : Int64) (fw : Nat → Int64) : Prop := Weigh3 P 42 (layTR w P ho lpl op) (pakTR w P ho lpl op) isWayTR inn out fw
abbrev ctTR (w P : Nat) (ho lpl : Int32) (op : Int64) (inn out : Int64) : Int64 := cntI P 42 (layTR w P ho lpl op) (pakTR w P ho lpl op) isWayTR inn out P 0
abbrev wyTR (w P : Nat) (ho lpl : Int32) (op : Int64) (inn out ix : Int64) : Int64 := wyI P 42 (layTR w P ho lpl op) (pakTR w P ho lpl op) isWayTR inn out ix
theorem plTR (w P : Nat) (ho lpl : Int32) (op : Int64) : ∀ q, (pakTR w P ho lpl op q).length = szI (layTR w P ho lpl op) q := fun q => pak_len q
theorem z0TR (w P : Nat) (ho lpl : Int32) (op : Int64) : 0 < szI (layTR w P ho lpl op) 0 := Nat.succ_pos _
theorem MT_TR (l : Launch) (D : va_G) (cI cJ cZ : ClassId) (ly g ru sz ld wy bk cd nc P : Nat) (hP : P ≤ 25) (ns : Int32) (mh mn : Int64) (fw : Nat → Int64) : MK l D cI cJ cZ y_LY_total c_LY_total 1 (some FieldType.long) 0 0 [.ref ly] [oLY ly g ru (nI 42) sz ld wy bk cd nc ns mh mn, aJ cJ wy ((P + 1) * 42) fw] 0 0 (rJ (fw 0) [oLY ly g ru (nI 42) sz ld wy bk cd nc ns mh mn, aJ cJ wy ((P + 1) * 42) fw]) := by
  obtain ⟨n, -, rfl⟩ : ∃ n, n < 2 ^ 32 ∧ ns = nI n := ⟨ns.toBitVec.toNat, ns.toBitVec.isLt, by apply Int32.toBitVec_inj.mp; apply BitVec.eq_of_toNat_eq; rw [pk_tn ns.toBitVec.isLt]⟩
  exact M_LY_total l D cI cJ cZ ly g ru sz ld wy bk cd nc P 42 hP (by decide) n mh mn (by decide) fw
theorem MW_TR (l : Launch) (D : va_G) (cI cJ cZ : ClassId) (ly g ru sz ld wy bk cd nc P : Nat) (hP : P ≤ 25) (ns : Int32) (mh mn : Int64) (wd ht ho : Int32) (op : Int64) (lpl ea eb : Int32) (w : Nat) (fs fl : Nat → Int32) (fw : Nat → Int64) (hB : btTR w P ho lpl op fs fl fw) (inn out : Int64) : MK l D cI cJ cZ y_LY_weigh c_LY_weigh 7 none 4 94 [.ref ly, .long inn, .long out] [oLY ly g ru (nI 42) sz ld wy bk cd nc ns mh mn, oGR g wd ht (nI P) ho op lpl ea eb, aI cI sz (P + 1) fs, aI cI ld (P * 42) fl, aJ cJ wy ((P + 1) * 42) fw] 0 0 (fun v w1 => ∃ fw2 : Nat → Int64, v = none ∧ w1 = [oLY ly g ru (nI 42) sz ld wy bk cd nc ns inn out, oGR g wd ht (nI P) ho op lpl ea eb, aI cI sz (P + 1) fs, aI cI ld (P * 42) fl, aJ cJ wy ((P + 1) * 42) fw2] ∧ btTR w P ho lpl op fs fl fw2 ∧ wtTR w P ho lpl op inn out fw2) := by
  obtain ⟨n, -, rfl⟩ : ∃ n, n < 2 ^ 32 ∧ ns = nI n := ⟨ns.toBitVec.toNat, ns.toBitVec.isLt, by apply Int32.toBitVec_inj.mp; apply BitVec.eq_of_toNat_eq; rw [pk_tn ns.toBitVec.isLt]⟩
  refine MC.mono (M_LY_weigh l D cI cJ cZ ly g ru sz ld wy bk cd nc P 42 hP (by decide) n mh mn ht ho op wd lpl ea eb fs fl fw (szI (layTR w P ho lpl op)) hB.1 inn out) ?_
  rintro v w1 ⟨fw2, h1, h2, h3⟩
  have h4 : wtTR w P ho lpl op inn out fw2 := fun p hp a ha => by
    rw [h3 p hp a ha]
    exact Wt_I (plTR w P ho lpl op) hB (P - p) a (by omega) (by rw [show P - (P - p) = p by omega]; exact ha)
  refine ⟨fw2, h1, h2, ⟨hB.1, hB.2.1, fun j x hx => ?_⟩, h4⟩
  have h5 := h3 P (Nat.le_refl _) j (List.getElem?_eq_some_iff.mp hx).1
  rw [Nat.sub_self] at h5
  rw [h5]
  exact hB.2.2 j x hx
set_option maxHeartbeats 4000000 in
set_option maxRecDepth 100000 in
theorem M_FC_count_TR_00 (l : Launch) (D : va_G) (cI cJ cZ : ClassId) (x g ly sa ru sz ld wy bk cd nc : Nat) (w P : Nat) (hw : w ≤ 5) (hw0 : 0 < w) (hP : P ≤ 25) (cnt : Int32) (gone tin tout : Int64) (dw dr : Int64) (ht ho : Int32) (op : Int64) (lpl ea eb : Int32) (pcs : Nat) (nz : Nat) (mh mn : Int64) (fs fl : Nat → Int32) (fw : Nat → Int64) (fb fc fn pf : Nat → Int32) : MK l D cI cJ cZ y_FC_count c_FC_count 1 (some FieldType.long) 6 156 [.ref x] [oFC x g ly sa cnt gone tin tout 0 0 dw dr, oGR g (nI w) ht (nI P) ho op lpl ea eb, oLY ly g ru (nI 42) sz ld wy bk cd nc (nI nz) mh mn, oTR ru g pcs, aI cI pcs w pf, aI cI sz (P + 1) fs, aI cI ld (P * 42) fl, aJ cJ wy ((P + 1) * 42) fw, aI cI bk 512 fb, aI cI cd 42 fc, aI cI nc 42 fn] 0 0 (fun v w1 => ∃ (cd2 nc2 : Nat) (nz2 : Int32) (fs2 fl2 : Nat → Int32) (fw2 : Nat → Int64) (fb2 fc2 fn2 pf2 : Nat → Int32), v = some (.long (ctTR w P ho lpl op tin (tout ||| gone))) ∧ w1 = [oFC x g ly sa cnt gone tin tout (bI true) (bI true) dw dr, oGR g (nI w) ht (nI P) ho op lpl ea eb, oLY ly g ru (nI 42) sz ld wy bk cd2 nc2 nz2 tin (tout ||| gone), oTR ru g pcs, aI cI pcs w pf2, aI cI sz (P + 1) fs2, aI cI ld (P * 42) fl2, aJ cJ wy ((P + 1) * 42) fw2, aI cI bk 512 fb2, aI cI cd2 42 fc2, aI cI nc2 42 fn2] ∧ btTR w P ho lpl op fs2 fl2 fw2 ∧ wtTR w P ho lpl op tin (tout ||| gone) fw2) := by
  refine MC.of (by decide) bigW_good (Nat.le_of_ble_eq_true rfl) (fun κ C Z IN => ?_)
  refine e_aload_n C d_FC_count_0 rfl rfl ?_
  refine e_get C hin_FC 0 rfl rfl 7 (by decide) fl_FC_69 rfl d_FC_count_1 ?_
  refine e_if_ne (tgt := 19) C d_FC_count_4 (by decide) (fun h4 => ?_) (fun h4 => ?_)
  · exact absurd rfl h4
  · -- 7
    refine e_aload_n C d_FC_count_7 rfl rfl ?_
    refine e_get C hin_FC 0 rfl rfl 1 (by decide) fl_FC_35 rfl d_FC_count_8 ?_
    refine e_callVN (As := []) (st := []) (wc := [oLY ly g ru (nI 42) sz ld wy bk cd nc (nI nz) mh mn, oGR g (nI w) ht (nI P) ho op lpl ea eb, oTR ru g pcs, aI cI pcs w pf, aI cI sz (P + 1) fs, aI cI ld (P * 42) fl, aJ cJ wy ((P + 1) * 42) fw, aI cI bk 512 fb, aI cI cd 42 fc, aI cI nc 42 fn]) (wr := [oFC x g ly sa cnt gone tin tout 0 0 dw dr]) C (M_LY_build_TR l D cI cJ cZ ly g ru sz ld wy bk cd nc P 42 hP (by decide) mh mn pcs w hw hw0 (by decide) nz ht ho op lpl ea eb fs fl fb fc fn pf fw) v_LY_build mn_FC_109 2 rfl rfl nwW_ok ⟨Nat.le_of_ble_eq_true rfl, Nat.le_of_ble_eq_true rfl⟩ ⟨Nat.le_of_ble_eq_true rfl, Nat.le_of_ble_eq_true rfl⟩ [2, 1, 3, 4, 5, 6, 7, 8, 9, 10] [0] rfl rfl rfl rfl (by decide) (Nat.le_of_ble_eq_true rfl) rfl d_FC_count_11 (fun v w1 hp => ?_)
    obtain ⟨cd2, nc2, nz2, fs2, fl2, fw1, fb2, fc2, fn2, pf2, rfl, rfl, hA1, hB1, hC1⟩ := hp
    refine e_perm (st' := []) (ws' := [oFC x g ly sa cnt gone tin tout 0 0 dw dr, oGR g (nI w) ht (nI P) ho op lpl ea eb, oLY ly g ru (nI 42) sz ld wy bk cd2 nc2 nz2 mh mn, oTR ru g pcs, aI cI pcs w pf2, aI cI sz (P + 1) fs2, aI cI ld (P * 42) fl2, aJ cJ wy ((P + 1) * 42) fw1, aI cI bk 512 fb2, aI cI cd2 42 fc2, aI cI nc2 42 fn2]) [0, 2, 1, 3, 4, 5, 6, 7, 8, 9, 10] rfl rfl rfl ?_
    refine e_aload_n C d_FC_count_14 rfl rfl ?_
    refine e_iconst (v := 1) C d_FC_count_15 rfl ?_
    refine e_put C hin_FC ty_FC tyk_FC nm_FC 0 rfl rfl 7 (by decide) fl_FC_69 rfl rfl rfl (Nat.le_of_ble_eq_true rfl) d_FC_count_16 ?_
    refine e_ws [oFC x g ly sa cnt gone tin tout 1 0 dw dr, oGR g (nI w) ht (nI P) ho op lpl ea eb, oLY ly g ru (nI 42) sz ld wy bk cd2 nc2 nz2 mh mn, oTR ru g pcs, aI cI pcs w pf2, aI cI sz (P + 1) fs2, aI cI ld (P * 42) fl2, aJ cJ wy ((P + 1) * 42) fw1, aI cI bk 512 fb2, aI cI cd2 42 fc2, aI cI nc2 42 fn2] rfl ?_
    have hB9 : btTR w P ho lpl op fs2 fl2 fw1 := ⟨hA1, hB1, hC1⟩
    refine e_aload_n C d_FC_count_19 rfl rfl ?_
    refine e_get C hin_FC 0 rfl rfl 8 (by decide) fl_FC_112 rfl d_FC_count_20 ?_
    refine e_if_ne (tgt := 51) C d_FC_count_23 (by decide) (fun h23 => ?_) (fun h23 => ?_)
    · exact absurd rfl h23
    · -- 26
      refine e_aload_n C d_FC_count_26 rfl rfl ?_
      refine e_get C hin_FC 0 rfl rfl 1 (by decide) fl_FC_35 rfl d_FC_count_27 ?_
      refine e_aload_n C d_FC_count_30 rfl rfl ?_
      refine e_get C hin_FC 0 rfl rfl 5 (by decide) fl_FC_103 rfl d_FC_count_31 ?_
      refine e_aload_n C d_FC_count_34 rfl rfl ?_
      refine e_get C hin_FC 0 rfl rfl 6 (by decide) fl_FC_106 rfl d_FC_count_35 ?_
      refine e_aload_n C d_FC_count_38 rfl rfl ?_
      refine e_get C hin_FC 0 rfl rfl 4 (by decide) fl_FC_66 rfl d_FC_count_39 ?_
      refine e_lor C d_FC_count_42 ?_
      refine e_callVN (As := [.long tin, .long (tout ||| gone)]) (st := []) (wc := [oLY ly g ru (nI 42) sz ld wy bk cd2 nc2 nz2 mh mn, oGR g (nI w) ht (nI P) ho op lpl ea eb, aI cI sz (P + 1) fs2, aI cI ld (P * 42) fl2, aJ cJ wy ((P + 1) * 42) fw1]) (wr := [oFC x g ly sa cnt gone tin tout 1 0 dw dr, oTR ru g pcs, aI cI pcs w pf2, aI cI bk 512 fb2, aI cI cd2 42 fc2, aI cI nc2 42 fn2]) C (MW_TR l D cI cJ cZ ly g ru sz ld wy bk cd2 nc2 P hP nz2 mh mn (nI w) ht ho op lpl ea eb w fs2 fl2 fw1 hB9 tin (tout ||| gone)) v_LY_weigh mn_FC_115 2 rfl rfl nwW_ok ⟨Nat.le_of_ble_eq_true rfl, Nat.le_of_ble_eq_true rfl⟩ ⟨Nat.le_of_ble_eq_true rfl, Nat.le_of_ble_eq_true rfl⟩ [2, 1, 5, 6, 7] [0, 3, 4, 8, 9, 10] rfl rfl rfl rfl (by decide) (Nat.le_of_ble_eq_true rfl) rfl d_FC_count_43 (fun v w1 hp => ?_)
      obtain ⟨fw9, rfl, rfl, hB10, hW10⟩ := hp
      refine e_perm (st' := []) (ws' := [oFC x g ly sa cnt gone tin tout 1 0 dw dr, oGR g (nI w) ht (nI P) ho op lpl ea eb, oLY ly g ru (nI 42) sz ld wy bk cd2 nc2 nz2 tin (tout ||| gone), oTR ru g pcs, aI cI pcs w pf2, aI cI sz (P + 1) fs2, aI cI ld (P * 42) fl2, aJ cJ wy ((P + 1) * 42) fw9, aI cI bk 512 fb2, aI cI cd2 42 fc2, aI cI nc2 42 fn2]) [0, 7, 6, 1, 2, 8, 9, 10, 3, 4, 5] rfl rfl rfl ?_
      refine e_aload_n C d_FC_count_46 rfl rfl ?_
      refine e_iconst (v := 1) C d_FC_count_47 rfl ?_
      refine e_put C hin_FC ty_FC tyk_FC nm_FC 0 rfl rfl 8 (by decide) fl_FC_112 rfl rfl rfl (Nat.le_of_ble_eq_true rfl) d_FC_count_48 ?_
      refine e_ws [oFC x g ly sa cnt gone tin tout 1 1 dw dr, oGR g (nI w) ht (nI P) ho op lpl ea eb, oLY ly g ru (nI 42) sz ld wy bk cd2 nc2 nz2 tin (tout ||| gone), oTR ru g pcs, aI cI pcs w pf2, aI cI sz (P + 1) fs2, aI cI ld (P * 42) fl2, aJ cJ wy ((P + 1) * 42) fw9, aI cI bk 512 fb2, aI cI cd2 42 fc2, aI cI nc2 42 fn2] rfl ?_
      refine e_aload_n C d_FC_count_51 rfl rfl ?_
      refine e_get C hin_FC 0 rfl rfl 1 (by decide) fl_FC_35 rfl d_FC_count_52 ?_
      refine e_callVN (As := []) (st := []) (wc := [oLY ly g ru (nI 42) sz ld wy bk cd2 nc2 nz2 tin (tout ||| gone), aJ cJ wy ((P + 1) * 42) fw9]) (wr := [oFC x g ly sa cnt gone tin tout 1 1 dw dr, oGR g (nI w) ht (nI P) ho op lpl ea eb, oTR ru g pcs, aI cI pcs w pf2, aI cI sz (P + 1) fs2, aI cI ld (P * 42) fl2, aI cI bk 512 fb2, aI cI cd2 42 fc2, aI cI nc2 42 fn2]) C (MT_TR l D cI cJ cZ ly g ru sz ld wy bk cd2 nc2 P hP nz2 tin (tout ||| gone) fw9) v_LY_total mn_FC_119 2 rfl rfl nwW_ok ⟨Nat.le_of_ble_eq_true rfl, Nat.le_of_ble_eq_true rfl⟩ ⟨Nat.le_of_ble_eq_true rfl, Nat.le_of_ble_eq_true rfl⟩ [2, 7] [0, 1, 3, 4, 5, 6, 8, 9, 10] rfl rfl rfl rfl (by decide) (Nat.le_of_ble_eq_true rfl) rfl d_FC_count_55 (fun v w1 hp => ?_)
      obtain ⟨rfl, rfl⟩ := hp
      refine e_perm (st' := [.long (fw9 0)]) (ws' := [oFC x g ly sa cnt gone tin tout 1 1 dw dr, oGR g (nI w) ht (nI P) ho op lpl ea eb, oLY ly g ru (nI 42) sz ld wy bk cd2 nc2 nz2 tin (tout ||| gone), oTR ru g pcs, aI cI pcs w pf2, aI cI sz (P + 1) fs2, aI cI ld (P * 42) fl2, aJ cJ wy ((P + 1) * 42) fw9, aI cI bk 512 fb2, aI cI cd2 42 fc2, aI cI nc2 42 fn2]) [0, 1, 9, 2, 3, 4, 5, 10, 6, 7, 8] rfl rfl rfl ?_
      exact e_lret C Z (Nat.le_of_ble_eq_true rfl) (Nat.le_of_ble_eq_true rfl) (⟨cd2, nc2, nz2, fs2, fl2, fw9, fb2, fc2, fn2, pf2, by have q := hW10 0 (Nat.zero_le _) 0 (z0TR w P ho lpl op); rw [Nat.zero_mul, Nat.zero_add, Nat.sub_zero] at q; rw [q], rfl, hB10, hW10⟩) d_FC_count_58

set_option maxHeartbeats 4000000 in
set_option maxRecDepth 100000 in
theorem M_FC_count_TR_10 (l : Launch) (D : va_G) (cI cJ cZ : ClassId) (x g ly sa ru sz ld wy bk cd nc : Nat) (w P : Nat) (hw : w ≤ 5) (hw0 : 0 < w) (hP : P ≤ 25) (cnt : Int32) (gone tin tout : Int64) (dw dr : Int64) (ht ho : Int32) (op : Int64) (lpl ea eb : Int32) (pcs : Nat) (nz : Nat) (mh mn : Int64) (fs fl : Nat → Int32) (fw : Nat → Int64) (fb fc fn pf : Nat → Int32) (hB : btTR w P ho lpl op fs fl fw) : MK l D cI cJ cZ y_FC_count c_FC_count 1 (some FieldType.long) 6 156 [.ref x] [oFC x g ly sa cnt gone tin tout 1 0 dw dr, oGR g (nI w) ht (nI P) ho op lpl ea eb, oLY ly g ru (nI 42) sz ld wy bk cd nc (nI nz) mh mn, oTR ru g pcs, aI cI pcs w pf, aI cI sz (P + 1) fs, aI cI ld (P * 42) fl, aJ cJ wy ((P + 1) * 42) fw, aI cI bk 512 fb, aI cI cd 42 fc, aI cI nc 42 fn] 0 0 (fun v w1 => ∃ (cd2 nc2 : Nat) (nz2 : Int32) (fs2 fl2 : Nat → Int32) (fw2 : Nat → Int64) (fb2 fc2 fn2 pf2 : Nat → Int32), v = some (.long (ctTR w P ho lpl op tin (tout ||| gone))) ∧ w1 = [oFC x g ly sa cnt gone tin tout (bI true) (bI true) dw dr, oGR g (nI w) ht (nI P) ho op lpl ea eb, oLY ly g ru (nI 42) sz ld wy bk cd2 nc2 nz2 tin (tout ||| gone), oTR ru g pcs, aI cI pcs w pf2, aI cI sz (P + 1) fs2, aI cI ld (P * 42) fl2, aJ cJ wy ((P + 1) * 42) fw2, aI cI bk 512 fb2, aI cI cd2 42 fc2, aI cI nc2 42 fn2] ∧ btTR w P ho lpl op fs2 fl2 fw2 ∧ wtTR w P ho lpl op tin (tout ||| gone) fw2) := by
  refine MC.of (by decide) bigW_good (Nat.le_of_ble_eq_true rfl) (fun κ C Z IN => ?_)
  refine e_aload_n C d_FC_count_0 rfl rfl ?_
  refine e_get C hin_FC 0 rfl rfl 7 (by decide) fl_FC_69 rfl d_FC_count_1 ?_
  refine e_if_ne (tgt := 19) C d_FC_count_4 (by decide) (fun h4 => ?_) (fun h4 => ?_)
  · -- 19
    have hB9 := hB
    refine e_aload_n C d_FC_count_19 rfl rfl ?_
    refine e_get C hin_FC 0 rfl rfl 8 (by decide) fl_FC_112 rfl d_FC_count_20 ?_
    refine e_if_ne (tgt := 51) C d_FC_count_23 (by decide) (fun h23 => ?_) (fun h23 => ?_)
    · exact absurd rfl h23
    · -- 26
      refine e_aload_n C d_FC_count_26 rfl rfl ?_
      refine e_get C hin_FC 0 rfl rfl 1 (by decide) fl_FC_35 rfl d_FC_count_27 ?_
      refine e_aload_n C d_FC_count_30 rfl rfl ?_
      refine e_get C hin_FC 0 rfl rfl 5 (by decide) fl_FC_103 rfl d_FC_count_31 ?_
      refine e_aload_n C d_FC_count_34 rfl rfl ?_
      refine e_get C hin_FC 0 rfl rfl 6 (by decide) fl_FC_106 rfl d_FC_count_35 ?_
      refine e_aload_n C d_FC_count_38 rfl rfl ?_
      refine e_get C hin_FC 0 rfl rfl 4 (by decide) fl_FC_66 rfl d_FC_count_39 ?_
      refine e_lor C d_FC_count_42 ?_
      refine e_callVN (As := [.long tin, .long (tout ||| gone)]) (st := []) (wc := [oLY ly g ru (nI 42) sz ld wy bk cd nc (nI nz) mh mn, oGR g (nI w) ht (nI P) ho op lpl ea eb, aI cI sz (P + 1) fs, aI cI ld (P * 42) fl, aJ cJ wy ((P + 1) * 42) fw]) (wr := [oFC x g ly sa cnt gone tin tout 1 0 dw dr, oTR ru g pcs, aI cI pcs w pf, aI cI bk 512 fb, aI cI cd 42 fc, aI cI nc 42 fn]) C (MW_TR l D cI cJ cZ ly g ru sz ld wy bk cd nc P hP (nI nz) mh mn (nI w) ht ho op lpl ea eb w fs fl fw hB9 tin (tout ||| gone)) v_LY_weigh mn_FC_115 2 rfl rfl nwW_ok ⟨Nat.le_of_ble_eq_true rfl, Nat.le_of_ble_eq_true rfl⟩ ⟨Nat.le_of_ble_eq_true rfl, Nat.le_of_ble_eq_true rfl⟩ [2, 1, 5, 6, 7] [0, 3, 4, 8, 9, 10] rfl rfl rfl rfl (by decide) (Nat.le_of_ble_eq_true rfl) rfl d_FC_count_43 (fun v w1 hp => ?_)
      obtain ⟨fw9, rfl, rfl, hB10, hW10⟩ := hp
      refine e_perm (st' := []) (ws' := [oFC x g ly sa cnt gone tin tout 1 0 dw dr, oGR g (nI w) ht (nI P) ho op lpl ea eb, oLY ly g ru (nI 42) sz ld wy bk cd nc (nI nz) tin (tout ||| gone), oTR ru g pcs, aI cI pcs w pf, aI cI sz (P + 1) fs, aI cI ld (P * 42) fl, aJ cJ wy ((P + 1) * 42) fw9, aI cI bk 512 fb, aI cI cd 42 fc, aI cI nc 42 fn]) [0, 7, 6, 1, 2, 8, 9, 10, 3, 4, 5] rfl rfl rfl ?_
      refine e_aload_n C d_FC_count_46 rfl rfl ?_
      refine e_iconst (v := 1) C d_FC_count_47 rfl ?_
      refine e_put C hin_FC ty_FC tyk_FC nm_FC 0 rfl rfl 8 (by decide) fl_FC_112 rfl rfl rfl (Nat.le_of_ble_eq_true rfl) d_FC_count_48 ?_
      refine e_ws [oFC x g ly sa cnt gone tin tout 1 1 dw dr, oGR g (nI w) ht (nI P) ho op lpl ea eb, oLY ly g ru (nI 42) sz ld wy bk cd nc (nI nz) tin (tout ||| gone), oTR ru g pcs, aI cI pcs w pf, aI cI sz (P + 1) fs, aI cI ld (P * 42) fl, aJ cJ wy ((P + 1) * 42) fw9, aI cI bk 512 fb, aI cI cd 42 fc, aI cI nc 42 fn] rfl ?_
      refine e_aload_n C d_FC_count_51 rfl rfl ?_
      refine e_get C hin_FC 0 rfl rfl 1 (by decide) fl_FC_35 rfl d_FC_count_52 ?_
      refine e_callVN (As := []) (st := []) (wc := [oLY ly g ru (nI 42) sz ld wy bk cd nc (nI nz) tin (tout ||| gone), aJ cJ wy ((P + 1) * 42) fw9]) (wr := [oFC x g ly sa cnt gone tin tout 1 1 dw dr, oGR g (nI w) ht (nI P) ho op lpl ea eb, oTR ru g pcs, aI cI pcs w pf, aI cI sz (P + 1) fs, aI cI ld (P * 42) fl, aI cI bk 512 fb, aI cI cd 42 fc, aI cI nc 42 fn]) C (MT_TR l D cI cJ cZ ly g ru sz ld wy bk cd nc P hP (nI nz) tin (tout ||| gone) fw9) v_LY_total mn_FC_119 2 rfl rfl nwW_ok ⟨Nat.le_of_ble_eq_true rfl, Nat.le_of_ble_eq_true rfl⟩ ⟨Nat.le_of_ble_eq_true rfl, Nat.le_of_ble_eq_true rfl⟩ [2, 7] [0, 1, 3, 4, 5, 6, 8, 9, 10] rfl rfl rfl rfl (by decide) (Nat.le_of_ble_eq_true rfl) rfl d_FC_count_55 (fun v w1 hp => ?_)
      obtain ⟨rfl, rfl⟩ := hp
      refine e_perm (st' := [.long (fw9 0)]) (ws' := [oFC x g ly sa cnt gone tin tout 1 1 dw dr, oGR g (nI w) ht (nI P) ho op lpl ea eb, oLY ly g ru (nI 42) sz ld wy bk cd nc (nI nz) tin (tout ||| gone), oTR ru g pcs, aI cI pcs w pf, aI cI sz (P + 1) fs, aI cI ld (P * 42) fl, aJ cJ wy ((P + 1) * 42) fw9, aI cI bk 512 fb, aI cI cd 42 fc, aI cI nc 42 fn]) [0, 1, 9, 2, 3, 4, 5, 10, 6, 7, 8] rfl rfl rfl ?_
      exact e_lret C Z (Nat.le_of_ble_eq_true rfl) (Nat.le_of_ble_eq_true rfl) (⟨cd, nc, nI nz, fs, fl, fw9, fb, fc, fn, pf, by have q := hW10 0 (Nat.zero_le _) 0 (z0TR w P ho lpl op); rw [Nat.zero_mul, Nat.zero_add, Nat.sub_zero] at q; rw [q], rfl, hB10, hW10⟩) d_FC_count_58
  · exact absurd h4 (by decide)

set_option maxHeartbeats 4000000 in
set_option maxRecDepth 100000 in
theorem M_FC_count_TR_11 (l : Launch) (D : va_G) (cI cJ cZ : ClassId) (x g ly sa ru sz ld wy bk cd nc : Nat) (w P : Nat) (hw : w ≤ 5) (hw0 : 0 < w) (hP : P ≤ 25) (cnt : Int32) (gone tin tout : Int64) (dw dr : Int64) (ht ho : Int32) (op : Int64) (lpl ea eb : Int32) (pcs : Nat) (nz : Nat) (mh mn : Int64) (fs fl : Nat → Int32) (fw : Nat → Int64) (fb fc fn pf : Nat → Int32) (hB : btTR w P ho lpl op fs fl fw) (hW : wtTR w P ho lpl op tin (tout ||| gone) fw) (hM : mh = tin ∧ mn = (tout ||| gone)) : MK l D cI cJ cZ y_FC_count c_FC_count 1 (some FieldType.long) 6 156 [.ref x] [oFC x g ly sa cnt gone tin tout 1 1 dw dr, oGR g (nI w) ht (nI P) ho op lpl ea eb, oLY ly g ru (nI 42) sz ld wy bk cd nc (nI nz) mh mn, oTR ru g pcs, aI cI pcs w pf, aI cI sz (P + 1) fs, aI cI ld (P * 42) fl, aJ cJ wy ((P + 1) * 42) fw, aI cI bk 512 fb, aI cI cd 42 fc, aI cI nc 42 fn] 0 0 (fun v w1 => ∃ (cd2 nc2 : Nat) (nz2 : Int32) (fs2 fl2 : Nat → Int32) (fw2 : Nat → Int64) (fb2 fc2 fn2 pf2 : Nat → Int32), v = some (.long (ctTR w P ho lpl op tin (tout ||| gone))) ∧ w1 = [oFC x g ly sa cnt gone tin tout (bI true) (bI true) dw dr, oGR g (nI w) ht (nI P) ho op lpl ea eb, oLY ly g ru (nI 42) sz ld wy bk cd2 nc2 nz2 tin (tout ||| gone), oTR ru g pcs, aI cI pcs w pf2, aI cI sz (P + 1) fs2, aI cI ld (P * 42) fl2, aJ cJ wy ((P + 1) * 42) fw2, aI cI bk 512 fb2, aI cI cd2 42 fc2, aI cI nc2 42 fn2] ∧ btTR w P ho lpl op fs2 fl2 fw2 ∧ wtTR w P ho lpl op tin (tout ||| gone) fw2) := by
  refine MC.of (by decide) bigW_good (Nat.le_of_ble_eq_true rfl) (fun κ C Z IN => ?_)
  refine e_aload_n C d_FC_count_0 rfl rfl ?_
  refine e_get C hin_FC 0 rfl rfl 7 (by decide) fl_FC_69 rfl d_FC_count_1 ?_
  refine e_if_ne (tgt := 19) C d_FC_count_4 (by decide) (fun h4 => ?_) (fun h4 => ?_)
  · -- 19
    have hB9 := hB
    refine e_aload_n C d_FC_count_19 rfl rfl ?_
    refine e_get C hin_FC 0 rfl rfl 8 (by decide) fl_FC_112 rfl d_FC_count_20 ?_
    refine e_if_ne (tgt := 51) C d_FC_count_23 (by decide) (fun h23 => ?_) (fun h23 => ?_)
    · -- 51
      refine e_aload_n C d_FC_count_51 rfl rfl ?_
      refine e_get C hin_FC 0 rfl rfl 1 (by decide) fl_FC_35 rfl d_FC_count_52 ?_
      refine e_callVN (As := []) (st := []) (wc := [oLY ly g ru (nI 42) sz ld wy bk cd nc (nI nz) mh mn, aJ cJ wy ((P + 1) * 42) fw]) (wr := [oFC x g ly sa cnt gone tin tout 1 1 dw dr, oGR g (nI w) ht (nI P) ho op lpl ea eb, oTR ru g pcs, aI cI pcs w pf, aI cI sz (P + 1) fs, aI cI ld (P * 42) fl, aI cI bk 512 fb, aI cI cd 42 fc, aI cI nc 42 fn]) C (MT_TR l D cI cJ cZ ly g ru sz ld wy bk cd nc P hP (nI nz) mh mn fw) v_LY_total mn_FC_119 2 rfl rfl nwW_ok ⟨Nat.le_of_ble_eq_true rfl, Nat.le_of_ble_eq_true rfl⟩ ⟨Nat.le_of_ble_eq_true rfl, Nat.le_of_ble_eq_true rfl⟩ [2, 7] [0, 1, 3, 4, 5, 6, 8, 9, 10] rfl rfl rfl rfl (by decide) (Nat.le_of_ble_eq_true rfl) rfl d_FC_count_55 (fun v w1 hp => ?_)
      obtain ⟨rfl, rfl⟩ := hp
      refine e_perm (st' := [.long (fw 0)]) (ws' := [oFC x g ly sa cnt gone tin tout 1 1 dw dr, oGR g (nI w) ht (nI P) ho op lpl ea eb, oLY ly g ru (nI 42) sz ld wy bk cd nc (nI nz) mh mn, oTR ru g pcs, aI cI pcs w pf, aI cI sz (P + 1) fs, aI cI ld (P * 42) fl, aJ cJ wy ((P + 1) * 42) fw, aI cI bk 512 fb, aI cI cd 42 fc, aI cI nc 42 fn]) [0, 1, 9, 2, 3, 4, 5, 10, 6, 7, 8] rfl rfl rfl ?_
      exact e_lret C Z (Nat.le_of_ble_eq_true rfl) (Nat.le_of_ble_eq_true rfl) (⟨cd, nc, nI nz, fs, fl, fw, fb, fc, fn, pf, by have q := hW 0 (Nat.zero_le _) 0 (z0TR w P ho lpl op); rw [Nat.zero_mul, Nat.zero_add, Nat.sub_zero] at q; rw [q], (by rw [hM.1, hM.2]; rfl), hB, hW⟩) d_FC_count_58
    · exact absurd h23 (by decide)
  · exact absurd h4 (by decide)

theorem M_FC_count_TR (l : Launch) (D : va_G) (cI cJ cZ : ClassId) (x g ly sa ru sz ld wy bk cd nc : Nat) (w P : Nat) (hw : w ≤ 5) (hw0 : 0 < w) (hP : P ≤ 25) (cnt : Int32) (gone tin tout : Int64) (dw dr : Int64) (ht ho : Int32) (op : Int64) (lpl ea eb : Int32) (pcs : Nat) (nz : Int32) (mh mn : Int64) (fs fl : Nat → Int32) (fw : Nat → Int64) (fb fc fn pf : Nat → Int32) (bu we : Bool) (hwb : we = true → bu = true) (hB : bu = true → btTR w P ho lpl op fs fl fw) (hW : we = true → wtTR w P ho lpl op tin (tout ||| gone) fw ∧ mh = tin ∧ mn = (tout ||| gone)) : MK l D cI cJ cZ y_FC_count c_FC_count 1 (some FieldType.long) 6 156 [.ref x] [oFC x g ly sa cnt gone tin tout (bI bu) (bI we) dw dr, oGR g (nI w) ht (nI P) ho op lpl ea eb, oLY ly g ru (nI 42) sz ld wy bk cd nc nz mh mn, oTR ru g pcs, aI cI pcs w pf, aI cI sz (P + 1) fs, aI cI ld (P * 42) fl, aJ cJ wy ((P + 1) * 42) fw, aI cI bk 512 fb, aI cI cd 42 fc, aI cI nc 42 fn] 0 0 (fun v w1 => ∃ (cd2 nc2 : Nat) (nz2 : Int32) (fs2 fl2 : Nat → Int32) (fw2 : Nat → Int64) (fb2 fc2 fn2 pf2 : Nat → Int32), v = some (.long (ctTR w P ho lpl op tin (tout ||| gone))) ∧ w1 = [oFC x g ly sa cnt gone tin tout (bI true) (bI true) dw dr, oGR g (nI w) ht (nI P) ho op lpl ea eb, oLY ly g ru (nI 42) sz ld wy bk cd2 nc2 nz2 tin (tout ||| gone), oTR ru g pcs, aI cI pcs w pf2, aI cI sz (P + 1) fs2, aI cI ld (P * 42) fl2, aJ cJ wy ((P + 1) * 42) fw2, aI cI bk 512 fb2, aI cI cd2 42 fc2, aI cI nc2 42 fn2] ∧ btTR w P ho lpl op fs2 fl2 fw2 ∧ wtTR w P ho lpl op tin (tout ||| gone) fw2) := by
  obtain ⟨nz, rfl⟩ := i32_nat nz
  cases we with
  | true =>
    obtain rfl : bu = true := hwb rfl
    exact M_FC_count_TR_11 l D cI cJ cZ x g ly sa ru sz ld wy bk cd nc w P hw hw0 hP cnt gone tin tout dw dr ht ho op lpl ea eb pcs nz mh mn fs fl fw fb fc fn pf (hB rfl) (hW rfl).1 (hW rfl).2
  | false =>
    cases bu with
    | true => exact M_FC_count_TR_10 l D cI cJ cZ x g ly sa ru sz ld wy bk cd nc w P hw hw0 hP cnt gone tin tout dw dr ht ho op lpl ea eb pcs nz mh mn fs fl fw fb fc fn pf (hB rfl)
    | false => exact M_FC_count_TR_00 l D cI cJ cZ x g ly sa ru sz ld wy bk cd nc w P hw hw0 hP cnt gone tin tout dw dr ht ho op lpl ea eb pcs nz mh mn fs fl fw fb fc fn pf
set_option maxHeartbeats 4000000 in
set_option maxRecDepth 100000 in
theorem M_FC_digit_TR (l : Launch) (D : va_G) (cI cJ cZ : ClassId) (x g ly sa ru sz ld wy bk cd nc : Nat) (w P : Nat) (hw : w ≤ 5) (hw0 : 0 < w) (hP : P ≤ 25) (cnt : Int32) (gone tin tout : Int64) (dw dr : Int64) (ht ho : Int32) (op : Int64) (lpl ea eb : Int32) (pcs : Nat) (nz : Int32) (mh mn : Int64) (fs fl : Nat → Int32) (fw : Nat → Int64) (fb fc fn pf : Nat → Int32) (bu we : Bool) (hwb : we = true → bu = true) (hB : bu = true → btTR w P ho lpl op fs fl fw) (hW : we = true → wtTR w P ho lpl op tin (tout ||| gone) fw ∧ mh = tin ∧ mn = (tout ||| gone)) (i : Int32) : MK l D cI cJ cZ y_FC_digit c_FC_digit 5 (some FieldType.int) 7 176 [.ref x, .int i] [oFC x g ly sa cnt gone tin tout (bI bu) (bI we) dw dr, oGR g (nI w) ht (nI P) ho op lpl ea eb, oLY ly g ru (nI 42) sz ld wy bk cd nc nz mh mn, oTR ru g pcs, aI cI pcs w pf, aI cI sz (P + 1) fs, aI cI ld (P * 42) fl, aJ cJ wy ((P + 1) * 42) fw, aI cI bk 512 fb, aI cI cd 42 fc, aI cI nc 42 fn] 0 0 (fun v w1 => ∃ (cd2 nc2 : Nat) (nz2 : Int32) (fs2 fl2 : Nat → Int32) (fw2 : Nat → Int64) (fb2 fc2 fn2 pf2 : Nat → Int32), v = some (.int (digitF i (ctTR w P ho lpl op tin (tout ||| gone)))) ∧ w1 = [oFC x g ly sa cnt gone tin tout (bI true) (bI true) dw dr, oGR g (nI w) ht (nI P) ho op lpl ea eb, oLY ly g ru (nI 42) sz ld wy bk cd2 nc2 nz2 tin (tout ||| gone), oTR ru g pcs, aI cI pcs w pf2, aI cI sz (P + 1) fs2, aI cI ld (P * 42) fl2, aJ cJ wy ((P + 1) * 42) fw2, aI cI bk 512 fb2, aI cI cd2 42 fc2, aI cI nc2 42 fn2] ∧ btTR w P ho lpl op fs2 fl2 fw2 ∧ wtTR w P ho lpl op tin (tout ||| gone) fw2) := by
  refine MC.of (by decide) bigW_good (Nat.le_of_ble_eq_true rfl) (fun κ C Z IN => ?_)
  refine e_aload_n C d_FC_digit_0 rfl rfl ?_
  refine e_callV (As := []) (st := []) (wc := [oFC x g ly sa cnt gone tin tout (bI bu) (bI we) dw dr, oGR g (nI w) ht (nI P) ho op lpl ea eb, oLY ly g ru (nI 42) sz ld wy bk cd nc nz mh mn, oTR ru g pcs, aI cI pcs w pf, aI cI sz (P + 1) fs, aI cI ld (P * 42) fl, aJ cJ wy ((P + 1) * 42) fw, aI cI bk 512 fb, aI cI cd 42 fc, aI cI nc 42 fn]) (wr := []) C (M_FC_count_TR l D cI cJ cZ x g ly sa ru sz ld wy bk cd nc w P hw hw0 hP cnt gone tin tout dw dr ht ho op lpl ea eb pcs nz mh mn fs fl fw fb fc fn pf bu we hwb hB hW) v_FC_count ml_FC_123 0 rfl rfl nwW_ok ⟨Nat.le_of_ble_eq_true rfl, Nat.le_of_ble_eq_true rfl⟩ ⟨Nat.le_of_ble_eq_true rfl, Nat.le_of_ble_eq_true rfl⟩ [0, 1, 2, 3, 4, 5, 6, 7, 8, 9, 10] [] rfl rfl rfl rfl (by decide) (Nat.le_of_ble_eq_true rfl) rfl d_FC_digit_1 (fun v w1 hp => ?_)
  obtain ⟨cd2, nc2, nz2, fs2, fl2, fw2, fb2, fc2, fn2, pf2, rfl, rfl, hB2, hW2⟩ := hp
  refine e_perm (st' := [.long (ctTR w P ho lpl op tin (tout ||| gone))]) (ws' := [oFC x g ly sa cnt gone tin tout (bI true) (bI true) dw dr, oGR g (nI w) ht (nI P) ho op lpl ea eb, oLY ly g ru (nI 42) sz ld wy bk cd2 nc2 nz2 tin (tout ||| gone), oTR ru g pcs, aI cI pcs w pf2, aI cI sz (P + 1) fs2, aI cI ld (P * 42) fl2, aJ cJ wy ((P + 1) * 42) fw2, aI cI bk 512 fb2, aI cI cd2 42 fc2, aI cI nc2 42 fn2]) [0, 1, 2, 3, 4, 5, 6, 7, 8, 9, 10] rfl rfl rfl ?_
  refine e_lstore_n C d_FC_digit_4 rfl (by decide) ?_
  refine e_iconst (v := 0) C d_FC_digit_5 rfl ?_
  refine e_istore C d_FC_digit_6 (by decide) ?_
  have LP : ∀ (fuel : Nat) (a : Nat) (rr : Int64), a ≤ 19 → dgF i (19 - a) a rr = digitF i (ctTR w P ho lpl op tin (tout ||| gone)) →  19 - a < fuel → E κ (lu_o [(0, .ref x), (1, .int i), (2, .long rr), (4, .int (nI a))]) [] [oFC x g ly sa cnt gone tin tout (bI true) (bI true) dw dr, oGR g (nI w) ht (nI P) ho op lpl ea eb, oLY ly g ru (nI 42) sz ld wy bk cd2 nc2 nz2 tin (tout ||| gone), oTR ru g pcs, aI cI pcs w pf2, aI cI sz (P + 1) fs2, aI cI ld (P * 42) fl2, aJ cJ wy ((P + 1) * 42) fw2, aI cI bk 512 fb2, aI cI cd2 42 fc2, aI cI nc2 42 fn2] 0 0 8 := by
    intro fuel
    induction fuel with
    | zero => intro a rr ha hS hm; exact absurd hm (Nat.not_lt_zero _)
    | succ fuel ihLP =>
      intro a rr ha hS hm
      refine e_iload C d_FC_digit_8 rfl ?_
      refine e_bipush (v := 19) C d_FC_digit_10 (by decide) ?_
      refine e_icmp_ge (tgt := 48) C d_FC_digit_12 (by decide) (fun h12 => ?_) (fun h12 => ?_)
      · -- 48
        refine e_iconst (v := (-1)) C d_FC_digit_48 rfl ?_
        exact e_iret C Z rfl (Nat.le_of_ble_eq_true rfl) (Nat.le_of_ble_eq_true rfl) (⟨cd2, nc2, nz2, fs2, fl2, fw2, fb2, fc2, fn2, pf2, by have q := (nI_leI (a := 19) (by omega) (by omega)).mp h12; rw [← hS, show 19 - a = 0 by omega]; rfl, rfl, hB2, hW2⟩) d_FC_digit_49
      · -- 15
        have ha9 : a < 19 := by rcases Nat.lt_or_ge a 19 with q | q; exact q; exact absurd (nI_le (a := 19) q (by omega)) h12
        have hS : (if nI a = i then (rr - rr / 10 * 10).toInt32 else if lg_cmp (rr / 10) 0 = 0 then -1 else dgF i (19 - (a + 1)) (a + 1) (rr / 10)) = digitF i (ctTR w P ho lpl op tin (tout ||| gone)) := by rw [← hS, show 19 - a = (19 - (a + 1)) + 1 by omega]; rfl
        refine e_iload C d_FC_digit_15 rfl ?_
        refine e_iload_n C d_FC_digit_17 rfl rfl ?_
        refine e_icmp_ne (tgt := 28) C d_FC_digit_18 (by decide) (fun h18 => ?_) (fun h18 => ?_)
        · -- 28
          refine e_lload_n C d_FC_digit_28 rfl rfl ?_
          refine e_ldc2 C kl_FC_126 d_FC_digit_29 ?_
          refine e_ldiv C d_FC_digit_32 (by decide) ?_
          refine e_lstore_n C d_FC_digit_33 rfl (by decide) ?_
          refine e_lload_n C d_FC_digit_34 rfl rfl ?_
          refine e_lconst (v := 0) C d_FC_digit_35 rfl ?_
          refine e_lcmp C d_FC_digit_36 ?_
          refine e_if_ne (tgt := 42) C d_FC_digit_37 (by decide) (fun h37 => ?_) (fun h37 => ?_)
          · -- 42
            refine e_iinc (v := (nI a) + 1) C d_FC_digit_42 rfl rfl (by decide) ?_
            refine e_goto (tgt := 8) C d_FC_digit_45 (by decide) ?_
            refine e_lv [(0, .ref x), (1, .int i), (2, .long (rr / (10))), (4, .int (nI (a + 1)))] ⟨rfl, rfl, rfl, congrArg (fun z => some (Value.int z)) (nI_1 a), trivial⟩ ?_
            refine e_ws [oFC x g ly sa cnt gone tin tout (bI true) (bI true) dw dr, oGR g (nI w) ht (nI P) ho op lpl ea eb, oLY ly g ru (nI 42) sz ld wy bk cd2 nc2 nz2 tin (tout ||| gone), oTR ru g pcs, aI cI pcs w pf2, aI cI sz (P + 1) fs2, aI cI ld (P * 42) fl2, aJ cJ wy ((P + 1) * 42) fw2, aI cI bk 512 fb2, aI cI cd2 42 fc2, aI cI nc2 42 fn2] rfl ?_
            exact ihLP (a + 1) _ (by omega) (by rw [← hS, if_neg h18, if_neg h37]) (by omega)
          · -- 40
            refine e_iconst (v := (-1)) C d_FC_digit_40 rfl ?_
            exact e_iret C Z rfl (Nat.le_of_ble_eq_true rfl) (Nat.le_of_ble_eq_true rfl) (⟨cd2, nc2, nz2, fs2, fl2, fw2, fb2, fc2, fn2, pf2, by rw [← hS, if_neg h18, if_pos h37], rfl, hB2, hW2⟩) d_FC_digit_41
        · -- 21
          refine e_lload_n C d_FC_digit_21 rfl rfl ?_
          refine e_ldc2 C kl_FC_126 d_FC_digit_22 ?_
          refine e_lrem C d_FC_digit_25 (by decide) ?_
          refine e_l2i C d_FC_digit_26 ?_
          exact e_iret C Z rfl (Nat.le_of_ble_eq_true rfl) (Nat.le_of_ble_eq_true rfl) (⟨cd2, nc2, nz2, fs2, fl2, fw2, fb2, fc2, fn2, pf2, by rw [← hS, if_pos h18], rfl, hB2, hW2⟩) d_FC_digit_27
  refine e_lv [(0, .ref x), (1, .int i), (2, .long (ctTR w P ho lpl op tin (tout ||| gone))), (4, .int (nI 0))] ⟨rfl, rfl, rfl, rfl, trivial⟩ ?_
  refine e_ws [oFC x g ly sa cnt gone tin tout (bI true) (bI true) dw dr, oGR g (nI w) ht (nI P) ho op lpl ea eb, oLY ly g ru (nI 42) sz ld wy bk cd2 nc2 nz2 tin (tout ||| gone), oTR ru g pcs, aI cI pcs w pf2, aI cI sz (P + 1) fs2, aI cI ld (P * 42) fl2, aJ cJ wy ((P + 1) * 42) fw2, aI cI bk 512 fb2, aI cI cd2 42 fc2, aI cI nc2 42 fn2] rfl ?_
  exact LP _ 0 (ctTR w P ho lpl op tin (tout ||| gone)) (Nat.zero_le _) rfl (Nat.lt_succ_self _)

theorem MY_TR (l : Launch) (D : va_G) (cI cJ cZ : ClassId) (ly g ru sz ld wy bk cd nc P : Nat) (hP : P ≤ 25) (ns : Int32) (mh mn : Int64) (wd ht ho : Int32) (op : Int64) (lpl ea eb : Int32) (w : Nat) (fs fl : Nat → Int32) (fw : Nat → Int64) (hB : btTR w P ho lpl op fs fl fw) (hW : wtTR w P ho lpl op mh mn fw) (ix : Int64) : MK l D cI cJ cZ y_LY_wayAt c_LY_wayAt 11 (some FieldType.long) 3 69 [.ref ly, .long ix] [oLY ly g ru (nI 42) sz ld wy bk cd nc ns mh mn, oGR g wd ht (nI P) ho op lpl ea eb, aI cI sz (P + 1) fs, aI cI ld (P * 42) fl, aJ cJ wy ((P + 1) * 42) fw] 0 0 (rJ (wyTR w P ho lpl op mh mn ix) [oLY ly g ru (nI 42) sz ld wy bk cd nc ns mh mn, oGR g wd ht (nI P) ho op lpl ea eb, aI cI sz (P + 1) fs, aI cI ld (P * 42) fl, aJ cJ wy ((P + 1) * 42) fw]) := by
  obtain ⟨n, rfl⟩ := i32_nat ns
  have h := M_LY_wayAt l D cI cJ cZ ly g ru sz ld wy bk cd nc P 42 hP (by decide) n mh mn ht ho op wd lpl ea eb fs fl fw (szI (layTR w P ho lpl op)) hB.1 (z0TR w P ho lpl op) ix
  rw [way_I (plTR w P ho lpl op) hB hW (z0TR w P ho lpl op) ix] at h
  exact h
set_option maxHeartbeats 4000000 in
set_option maxRecDepth 100000 in
theorem M_FC_draw_TR (l : Launch) (D : va_G) (cI cJ cZ : ClassId) (x g ly sa ru sz ld wy bk cd nc : Nat) (w P : Nat) (hw : w ≤ 5) (hw0 : 0 < w) (hP : P ≤ 25) (cnt : Int32) (gone tin tout : Int64) (dw dr : Int64) (ht ho : Int32) (op : Int64) (lpl ea eb : Int32) (pcs : Nat) (nz : Int32) (mh mn : Int64) (fs fl : Nat → Int32) (fw : Nat → Int64) (fb fc fn pf : Nat → Int32) (bu we : Bool) (hwb : we = true → bu = true) (hB : bu = true → btTR w P ho lpl op fs fl fw) (hW : we = true → wtTR w P ho lpl op tin (tout ||| gone) fw ∧ mh = tin ∧ mn = (tout ||| gone)) (seed : Int64) : MK l D cI cJ cZ y_FC_draw c_FC_draw 7 (some FieldType.boolean) 7 176 [.ref x, .long seed] [oFC x g ly sa cnt gone tin tout (bI bu) (bI we) dw dr, oGR g (nI w) ht (nI P) ho op lpl ea eb, oLY ly g ru (nI 42) sz ld wy bk cd nc nz mh mn, oTR ru g pcs, aI cI pcs w pf, aI cI sz (P + 1) fs, aI cI ld (P * 42) fl, aJ cJ wy ((P + 1) * 42) fw, aI cI bk 512 fb, aI cI cd 42 fc, aI cI nc 42 fn] 0 0 (fun v w1 => (¬ 0 < lg_cmp (ctTR w P ho lpl op tin (tout ||| gone)) 0 ∧ ∃ (cd2 nc2 : Nat) (nz2 : Int32) (fs2 fl2 : Nat → Int32) (fw2 : Nat → Int64) (fb2 fc2 fn2 pf2 : Nat → Int32), v = some (.int 0) ∧ w1 = [oFC x g ly sa cnt gone tin tout (bI true) (bI true) dw (-1), oGR g (nI w) ht (nI P) ho op lpl ea eb, oLY ly g ru (nI 42) sz ld wy bk cd2 nc2 nz2 tin (tout ||| gone), oTR ru g pcs, aI cI pcs w pf2, aI cI sz (P + 1) fs2, aI cI ld (P * 42) fl2, aJ cJ wy ((P + 1) * 42) fw2, aI cI bk 512 fb2, aI cI cd2 42 fc2, aI cI nc2 42 fn2] ∧ btTR w P ho lpl op fs2 fl2 fw2 ∧ wtTR w P ho lpl op tin (tout ||| gone) fw2) ∨ (0 < lg_cmp (ctTR w P ho lpl op tin (tout ||| gone)) 0 ∧ ∃ (cd2 nc2 : Nat) (nz2 : Int32) (fs2 fl2 : Nat → Int32) (fw2 : Nat → Int64) (fb2 fc2 fn2 pf2 : Nat → Int32), v = some (.int 1) ∧ w1 = [oFC x g ly sa cnt gone tin tout (bI true) (bI true) (wyTR w P ho lpl op tin (tout ||| gone) (ixF seed (ctTR w P ho lpl op tin (tout ||| gone)))) (ixF seed (ctTR w P ho lpl op tin (tout ||| gone))), oGR g (nI w) ht (nI P) ho op lpl ea eb, oLY ly g ru (nI 42) sz ld wy bk cd2 nc2 nz2 tin (tout ||| gone), oTR ru g pcs, aI cI pcs w pf2, aI cI sz (P + 1) fs2, aI cI ld (P * 42) fl2, aJ cJ wy ((P + 1) * 42) fw2, aI cI bk 512 fb2, aI cI cd2 42 fc2, aI cI nc2 42 fn2] ∧ btTR w P ho lpl op fs2 fl2 fw2 ∧ wtTR w P ho lpl op tin (tout ||| gone) fw2)) := by
  refine MC.of (by decide) bigW_good (Nat.le_of_ble_eq_true rfl) (fun κ C Z IN => ?_)
  refine e_aload_n C d_FC_draw_0 rfl rfl ?_
  refine e_ldc2 C kl_FC_47 d_FC_draw_1 ?_
  refine e_put C hin_FC ty_FC tyk_FC nm_FC 0 rfl rfl 10 (by decide) fl_FC_49 rfl rfl rfl (Nat.le_of_ble_eq_true rfl) d_FC_draw_4 ?_
  refine e_ws [oFC x g ly sa cnt gone tin tout (bI bu) (bI we) dw (-1), oGR g (nI w) ht (nI P) ho op lpl ea eb, oLY ly g ru (nI 42) sz ld wy bk cd nc nz mh mn, oTR ru g pcs, aI cI pcs w pf, aI cI sz (P + 1) fs, aI cI ld (P * 42) fl, aJ cJ wy ((P + 1) * 42) fw, aI cI bk 512 fb, aI cI cd 42 fc, aI cI nc 42 fn] rfl ?_
  refine e_aload_n C d_FC_draw_7 rfl rfl ?_
  refine e_callV (As := []) (st := []) (wc := [oFC x g ly sa cnt gone tin tout (bI bu) (bI we) dw (-1), oGR g (nI w) ht (nI P) ho op lpl ea eb, oLY ly g ru (nI 42) sz ld wy bk cd nc nz mh mn, oTR ru g pcs, aI cI pcs w pf, aI cI sz (P + 1) fs, aI cI ld (P * 42) fl, aJ cJ wy ((P + 1) * 42) fw, aI cI bk 512 fb, aI cI cd 42 fc, aI cI nc 42 fn]) (wr := []) C (M_FC_count_TR l D cI cJ cZ x g ly sa ru sz ld wy bk cd nc w P hw hw0 hP cnt gone tin tout dw (-1) ht ho op lpl ea eb pcs nz mh mn fs fl fw fb fc fn pf bu we hwb hB hW) v_FC_count ml_FC_123 0 rfl rfl nwW_ok ⟨Nat.le_of_ble_eq_true rfl, Nat.le_of_ble_eq_true rfl⟩ ⟨Nat.le_of_ble_eq_true rfl, Nat.le_of_ble_eq_true rfl⟩ [0, 1, 2, 3, 4, 5, 6, 7, 8, 9, 10] [] rfl rfl rfl rfl (by decide) (Nat.le_of_ble_eq_true rfl) rfl d_FC_draw_8 (fun v w1 hp => ?_)
  obtain ⟨cd2, nc2, nz2, fs2, fl2, fw2, fb2, fc2, fn2, pf2, rfl, rfl, hB2, hW2⟩ := hp
  refine e_perm (st' := [.long (ctTR w P ho lpl op tin (tout ||| gone))]) (ws' := [oFC x g ly sa cnt gone tin tout (bI true) (bI true) dw (-1), oGR g (nI w) ht (nI P) ho op lpl ea eb, oLY ly g ru (nI 42) sz ld wy bk cd2 nc2 nz2 tin (tout ||| gone), oTR ru g pcs, aI cI pcs w pf2, aI cI sz (P + 1) fs2, aI cI ld (P * 42) fl2, aJ cJ wy ((P + 1) * 42) fw2, aI cI bk 512 fb2, aI cI cd2 42 fc2, aI cI nc2 42 fn2]) [0, 1, 2, 3, 4, 5, 6, 7, 8, 9, 10] rfl rfl rfl ?_
  refine e_lstore_n C d_FC_draw_11 rfl (by decide) ?_
  refine e_lload_n C d_FC_draw_12 rfl rfl ?_
  refine e_lconst (v := 0) C d_FC_draw_13 rfl ?_
  refine e_lcmp C d_FC_draw_14 ?_
  refine e_if_gt (tgt := 20) C d_FC_draw_15 (by decide) (fun h15 => ?_) (fun h15 => ?_)
  · -- 20
    have hn0 : ¬ ctTR w P ho lpl op tin (tout ||| gone) = 0 := fun z => by rw [z] at h15; exact absurd h15 (by decide)
    refine e_ldc2 C kl_FC_128 d_FC_draw_20 ?_
    refine e_lload_n C d_FC_draw_23 rfl rfl ?_
    refine e_lmul C d_FC_draw_24 ?_
    refine e_ldc2 C kl_FC_130 d_FC_draw_25 ?_
    refine e_ladd C d_FC_draw_28 ?_
    refine e_iconst (v := 1) C d_FC_draw_29 rfl ?_
    refine e_lushr C d_FC_draw_30 ?_
    refine e_lload_n C d_FC_draw_31 rfl rfl ?_
    refine e_lrem C d_FC_draw_32 hn0 ?_
    refine e_st [.long (ixF seed (ctTR w P ho lpl op tin (tout ||| gone)))] rfl ?_
    refine e_lstore C d_FC_draw_33 (by decide) ?_
    refine e_aload_n C d_FC_draw_35 rfl rfl ?_
    refine e_aload_n C d_FC_draw_36 rfl rfl ?_
    refine e_get C hin_FC 0 rfl rfl 1 (by decide) fl_FC_35 rfl d_FC_draw_37 ?_
    refine e_lload C d_FC_draw_40 rfl ?_
    refine e_callVN (As := [.long (ixF seed (ctTR w P ho lpl op tin (tout ||| gone)))]) (st := [.ref x]) (wc := [oLY ly g ru (nI 42) sz ld wy bk cd2 nc2 nz2 tin (tout ||| gone), oGR g (nI w) ht (nI P) ho op lpl ea eb, aI cI sz (P + 1) fs2, aI cI ld (P * 42) fl2, aJ cJ wy ((P + 1) * 42) fw2]) (wr := [oFC x g ly sa cnt gone tin tout (bI true) (bI true) dw (-1), oTR ru g pcs, aI cI pcs w pf2, aI cI bk 512 fb2, aI cI cd2 42 fc2, aI cI nc2 42 fn2]) C (MY_TR l D cI cJ cZ ly g ru sz ld wy bk cd2 nc2 P hP nz2 tin (tout ||| gone) (nI w) ht ho op lpl ea eb w fs2 fl2 fw2 hB2 hW2 (ixF seed (ctTR w P ho lpl op tin (tout ||| gone)))) v_LY_wayAt mn_FC_132 2 rfl rfl nwW_ok ⟨Nat.le_of_ble_eq_true rfl, Nat.le_of_ble_eq_true rfl⟩ ⟨Nat.le_of_ble_eq_true rfl, Nat.le_of_ble_eq_true rfl⟩ [2, 1, 5, 6, 7] [0, 3, 4, 8, 9, 10] rfl rfl rfl rfl (by decide) (Nat.le_of_ble_eq_true rfl) rfl d_FC_draw_42 (fun v w1 hp => ?_)
    obtain ⟨rfl, rfl⟩ := hp
    refine e_perm (st' := [.long (wyTR w P ho lpl op tin (tout ||| gone) (ixF seed (ctTR w P ho lpl op tin (tout ||| gone)))), .ref x]) (ws' := [oFC x g ly sa cnt gone tin tout (bI true) (bI true) dw (-1), oGR g (nI w) ht (nI P) ho op lpl ea eb, oLY ly g ru (nI 42) sz ld wy bk cd2 nc2 nz2 tin (tout ||| gone), oTR ru g pcs, aI cI pcs w pf2, aI cI sz (P + 1) fs2, aI cI ld (P * 42) fl2, aJ cJ wy ((P + 1) * 42) fw2, aI cI bk 512 fb2, aI cI cd2 42 fc2, aI cI nc2 42 fn2]) [0, 7, 6, 1, 2, 8, 9, 10, 3, 4, 5] rfl rfl rfl ?_
    refine e_put C hin_FC ty_FC tyk_FC nm_FC 0 rfl rfl 9 (by decide) fl_FC_136 rfl rfl rfl (Nat.le_of_ble_eq_true rfl) d_FC_draw_45 ?_
    refine e_ws [oFC x g ly sa cnt gone tin tout (bI true) (bI true) (wyTR w P ho lpl op tin (tout ||| gone) (ixF seed (ctTR w P ho lpl op tin (tout ||| gone)))) (-1), oGR g (nI w) ht (nI P) ho op lpl ea eb, oLY ly g ru (nI 42) sz ld wy bk cd2 nc2 nz2 tin (tout ||| gone), oTR ru g pcs, aI cI pcs w pf2, aI cI sz (P + 1) fs2, aI cI ld (P * 42) fl2, aJ cJ wy ((P + 1) * 42) fw2, aI cI bk 512 fb2, aI cI cd2 42 fc2, aI cI nc2 42 fn2] rfl ?_
    refine e_aload_n C d_FC_draw_48 rfl rfl ?_
    refine e_lload C d_FC_draw_49 rfl ?_
    refine e_put C hin_FC ty_FC tyk_FC nm_FC 0 rfl rfl 10 (by decide) fl_FC_49 rfl rfl rfl (Nat.le_of_ble_eq_true rfl) d_FC_draw_51 ?_
    refine e_ws [oFC x g ly sa cnt gone tin tout (bI true) (bI true) (wyTR w P ho lpl op tin (tout ||| gone) (ixF seed (ctTR w P ho lpl op tin (tout ||| gone)))) (ixF seed (ctTR w P ho lpl op tin (tout ||| gone))), oGR g (nI w) ht (nI P) ho op lpl ea eb, oLY ly g ru (nI 42) sz ld wy bk cd2 nc2 nz2 tin (tout ||| gone), oTR ru g pcs, aI cI pcs w pf2, aI cI sz (P + 1) fs2, aI cI ld (P * 42) fl2, aJ cJ wy ((P + 1) * 42) fw2, aI cI bk 512 fb2, aI cI cd2 42 fc2, aI cI nc2 42 fn2] rfl ?_
    refine e_iconst (v := 1) C d_FC_draw_54 rfl ?_
    exact e_iret C Z rfl (Nat.le_of_ble_eq_true rfl) (Nat.le_of_ble_eq_true rfl) (Or.inr ⟨h15, cd2, nc2, nz2, fs2, fl2, fw2, fb2, fc2, fn2, pf2, rfl, rfl, hB2, hW2⟩) d_FC_draw_55
  · -- 18
    refine e_iconst (v := 0) C d_FC_draw_18 rfl ?_
    exact e_iret C Z rfl (Nat.le_of_ble_eq_true rfl) (Nat.le_of_ble_eq_true rfl) (Or.inl ⟨h15, cd2, nc2, nz2, fs2, fl2, fw2, fb2, fc2, fn2, pf2, rfl, rfl, hB2, hW2⟩) d_FC_draw_19
