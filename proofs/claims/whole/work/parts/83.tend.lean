/-! TREES: drawing, and the whole of the kind TREE -/
theorem filt_app {R : Int64 → Int64 → Prop} {p q r : Int64 → Bool} (h : ∀ S, (p S = true ↔ q S = true ∨ r S = true) ∧ ¬(q S = true ∧ r S = true)) (hd : ∀ x y, q x = true → r y = true → ¬R y x) : ∀ {L : List Int64}, L.Pairwise R → L.filter p = L.filter q ++ L.filter r
  | [], _ => rfl
  | S :: L, hL => by
    rw [List.pairwise_cons] at hL
    have ih := filt_app h hd hL.2
    have := h S
    rw [List.filter_cons, List.filter_cons, List.filter_cons]
    rcases Bool.eq_false_or_eq_true (q S) with a | a <;> rcases Bool.eq_false_or_eq_true (r S) with b | b
    · exact absurd ⟨a, b⟩ this.2
    · rw [if_pos (this.1.mpr (Or.inl a)), if_pos a, if_neg (by rw [b]; decide), ih]; rfl
    · have hno : L.filter q = [] := by
        rw [List.filter_eq_nil_iff]
        intro x hx hq
        exact hd x S hq b (hL.1 x hx)
      rw [if_pos (this.1.mpr (Or.inr b)), if_neg (by rw [a]; decide), if_pos b, ih, hno]; rfl
    · rw [if_neg (fun z => by rcases this.1.mp z with u | u; (rw [a] at u; exact absurd u (by decide)); (rw [b] at u; exact absurd u (by decide))), if_neg (by rw [a]; decide), if_neg (by rw [b]; decide), ih]
theorem al_b {f : Nat → Int32} {S : Int64} {n : Nat} (hn : n ≤ 40) : alAll f S n = true ↔ ∀ i, i < n → (f i = 1 → gB S i = true) ∧ (f i = 2 → gB S i = false) := by
  rw [al_iff]
  exact ⟨fun H i hi => (al_one (by omega)).mp (H i hi), fun H i hi => (al_one (by omega)).mpr (H i hi)⟩
def F012 (n : Nat) (f : Nat → Int32) : Prop := ∀ i, i < n → f i = 0 ∨ f i = 1 ∨ f i = 2
theorem F012_u {n e : Nat} {f : Nat → Int32} {v : Int32} (h : F012 n f) (hv : v = 1 ∨ v = 2) : F012 n (upd f e v) := fun i hi => by
  by_cases z : i = e
  · rw [z, upd_s]; exact Or.inr hv
  · rw [upd_n z]; exact h i hi
theorem dt_ok {w h : Nat} {el : List (Nat × Nat)} {hb : Nat → Bool} {L : List Int64} (h40 : el.length ≤ 40) (hEq : ∀ f, F012 el.length f → treesF w h el hb f = TNf L el.length f) (hL : L.Pairwise (fun a b => leS a b = true)) (hhi : ∀ S, S ∈ L → hiS el S) : ∀ (k e left : Nat) (way : Int64) (f : Nat → Int32), e + k = el.length → F012 el.length f → (∀ i, i < e → f i ≠ 0) → (∀ i, gB way i = true ↔ i < e ∧ f i = 1) → left < TNf L el.length f → (L.filter (fun S => alAll f S el.length))[left]? = some (dtF w h el hb k e left way f)
  | 0, e, left, way, f, hk, h012, hdec, hway, hlt => by
    show _ = some way
    rw [List.getElem?_eq_getElem hlt]
    congr 1
    have hm := List.mem_filter.mp (List.getElem_mem hlt)
    have hal := (al_b h40).mp hm.2
    refine gB_ext (fun i _ => ?_)
    rcases Nat.lt_or_ge i el.length with y | y
    · rw [Bool.eq_iff_iff, hway i]
      rcases h012 i y with u | u | u
      · exact absurd u (hdec i (by omega))
      · exact ⟨fun _ => ⟨by omega, u⟩, fun _ => (hal i y).1 u⟩
      · rw [(hal i y).2 u]
        exact ⟨fun q => absurd q (by decide), fun q => by rw [u] at q; exact absurd q.2 (by decide)⟩
    · rw [hhi _ hm.1 i y]
      rcases Bool.eq_false_or_eq_true (gB way i) with u | u
      · have := (hway i).mp u; omega
      · exact u.symm
  | k + 1, e, left, way, f, hk, h012, hdec, hway, hlt => by
    have he : e < el.length := by omega
    show _ = some (if f e = 1 then dtF w h el hb k (e + 1) left (way ||| bitL e) f else if f e = 0 then (if left < treesF w h el hb (upd f e 2) then dtF w h el hb k (e + 1) left way (upd f e 2) else dtF w h el hb k (e + 1) (left - treesF w h el hb (upd f e 2)) (way ||| bitL e) (upd f e 1)) else dtF w h el hb k (e + 1) left way f)
    by_cases z1 : f e = 1
    · rw [if_pos z1]
      refine dt_ok h40 hEq hL hhi k (e + 1) left _ f (by omega) h012 (fun i hi => ?_) (fun i => ?_) hlt
      · by_cases y : i = e
        · rw [y, z1]; decide
        · exact hdec i (by omega)
      · rw [gB_add (by omega), Bool.or_eq_true, decide_eq_true_iff, hway i]
        constructor
        · rintro (q | q)
          · exact ⟨by omega, q.2⟩
          · rw [q]; exact ⟨Nat.lt_succ_self e, z1⟩
        · intro q
          by_cases y : i = e
          · exact Or.inr y
          · exact Or.inl ⟨by omega, q.2⟩
    · rw [if_neg z1]
      by_cases z0 : f e = 0
      · rw [if_pos z0, hEq _ (F012_u h012 (Or.inr rfl))]
        have hsp := TN_split (T := L) (f := f) h40 he z0
        have happ : L.filter (fun S => alAll f S el.length) = L.filter (fun S => alAll (upd f e 2) S el.length) ++ L.filter (fun S => alAll (upd f e 1) S el.length) := by
          refine filt_app (R := fun a b => leS a b = true) (fun S => ?_) (fun x y hx hy hR => ?_) hL
          · rw [al_b h40, al_b h40, al_b h40]
            constructor
            · constructor
              · intro H
                rcases Bool.eq_false_or_eq_true (gB S e) with y | y
                · right
                  intro i hi
                  by_cases z : i = e
                  · rw [z, upd_s]; exact ⟨fun _ => y, fun q => absurd q (by decide)⟩
                  · rw [upd_n z]; exact H i hi
                · left
                  intro i hi
                  by_cases z : i = e
                  · rw [z, upd_s]; exact ⟨fun q => absurd q (by decide), fun _ => y⟩
                  · rw [upd_n z]; exact H i hi
              · rintro (H | H) <;> intro i hi <;> by_cases z : i = e
                · rw [z, z0]; exact ⟨fun q => absurd q (by decide), fun q => absurd q (by decide)⟩
                · have := H i hi; rw [upd_n z] at this; exact this
                · rw [z, z0]; exact ⟨fun q => absurd q (by decide), fun q => absurd q (by decide)⟩
                · have := H i hi; rw [upd_n z] at this; exact this
            · rintro ⟨H1, H2⟩
              have h1 := (H1 e he).2 upd_s
              have h2 := (H2 e he).1 upd_s
              rw [h1] at h2; exact absurd h2 (by decide)
          · rw [al_b h40] at hx hy
            have hml : mLess x y = true := mLess_iff.mpr ⟨e, by omega, (hx e he).2 upd_s, (hy e he).1 upd_s, fun j hj => by
              have a1 := hx j (by omega)
              have a2 := hy j (by omega)
              rw [upd_n (by omega)] at a1 a2
              rcases h012 j (by omega) with u | u | u
              · exact absurd u (hdec j hj)
              · rw [a1.1 u, a2.1 u]
              · rw [a1.2 u, a2.2 u]⟩
            have : leS y x = true := hR
            unfold leS at this
            rw [hml] at this; exact absurd this (by decide)
        rw [happ]
        by_cases y : left < TNf L el.length (upd f e 2)
        · rw [if_pos y, List.getElem?_append_left y]
          refine dt_ok h40 hEq hL hhi k (e + 1) left _ _ (by omega) (F012_u h012 (Or.inr rfl)) (fun i hi => ?_) (fun i => ?_) y
          · by_cases u : i = e
            · rw [u, upd_s]; decide
            · rw [upd_n u]; exact hdec i (by omega)
          · rw [hway i]
            by_cases u : i = e
            · rw [u, upd_s]; exact ⟨fun q => by omega, fun q => absurd q.2 (by decide)⟩
            · rw [upd_n u]; exact ⟨fun q => ⟨by omega, q.2⟩, fun q => ⟨by omega, q.2⟩⟩
        · rw [if_neg y, List.getElem?_append_right (Nat.le_of_not_lt y)]
          refine dt_ok h40 hEq hL hhi k (e + 1) _ _ _ (by omega) (F012_u h012 (Or.inl rfl)) (fun i hi => ?_) (fun i => ?_) (show left - TNf L el.length (upd f e 2) < TNf L el.length (upd f e 1) by omega)
          · by_cases u : i = e
            · rw [u, upd_s]; decide
            · rw [upd_n u]; exact hdec i (by omega)
          · rw [gB_add (by omega), Bool.or_eq_true, decide_eq_true_iff, hway i]
            by_cases u : i = e
            · rw [u, upd_s]; exact ⟨fun _ => ⟨Nat.lt_succ_self e, rfl⟩, fun _ => Or.inr rfl⟩
            · rw [upd_n u]; exact ⟨fun q => by rcases q with v | v; (exact ⟨by omega, v.2⟩); (exact absurd v u), fun q => Or.inl ⟨by omega, q.2⟩⟩
      · rw [if_neg z0]
        refine dt_ok h40 hEq hL hhi k (e + 1) left _ f (by omega) h012 (fun i hi => ?_) (fun i => ?_) hlt
        · by_cases y : i = e
          · rw [y]; exact z0
          · exact hdec i (by omega)
        · rw [hway i]
          constructor
          · exact fun q => ⟨by omega, q.2⟩
          · intro q
            refine ⟨?_, q.2⟩
            rcases Nat.lt_or_ge i e with u | u
            · exact u
            · have : i = e := by omega
              rw [this] at q; exact absurd q.2 z1
/-- the sets with a property, listed -/
theorem ex_list (el : List (Nat × Nat)) (G : Int64 → Prop) : ∃ T : List Int64, T.Nodup ∧ ∀ S, S ∈ T ↔ hiS el S ∧ G S := by
  have hdec : ∀ S : Int64, Decidable (hiS el S ∧ G S) := fun S => Classical.propDecidable _
  have hAll : ∃ A : List Int64, A.Nodup ∧ ∀ S, S ∈ A := by
    refine ⟨(List.range (2 ^ 64)).map (fun k => Int64.ofBitVec (BitVec.ofNat 64 k)), ?_, fun S => ?_⟩
    · unfold List.Nodup
      rw [List.pairwise_map]
      have hn : (List.range (2 ^ 64)).Nodup := List.nodup_range
      refine List.Pairwise.imp_of_mem ?_ hn
      intro a b ha hb hne heq
      rw [List.mem_range] at ha hb
      have h1 : (Int64.ofBitVec (BitVec.ofNat 64 a)).toBitVec = (Int64.ofBitVec (BitVec.ofNat 64 b)).toBitVec := congrArg Int64.toBitVec heq
      rw [Int64.toBitVec_ofBitVec, Int64.toBitVec_ofBitVec] at h1
      have h2 := congrArg BitVec.toNat h1
      rw [BitVec.toNat_ofNat, BitVec.toNat_ofNat, Nat.mod_eq_of_lt ha, Nat.mod_eq_of_lt hb] at h2
      exact hne h2
    · rw [List.mem_map]
      refine ⟨S.toBitVec.toNat, List.mem_range.mpr S.toBitVec.isLt, ?_⟩
      rw [BitVec.ofNat_toNat, BitVec.setWidth_eq]
      exact Int64.ofBitVec_toBitVec S
  obtain ⟨A, hA1, hA2⟩ := hAll
  refine ⟨A.filter (fun S => @decide _ (hdec S)), hA1.filter _, fun S => ?_⟩
  rw [List.mem_filter]
  constructor
  · rintro ⟨_, h2⟩; exact @of_decide_eq_true _ (hdec S) h2
  · intro h2; exact ⟨hA2 S, @decide_eq_true _ (hdec S) h2⟩
/-- labels by slots and labels by edges -/
theorem SL_pre {ef : Nat → Bool} {p : Nat} : ∀ {P : Nat}, p ≤ P → ∃ t, SL ef P = SL ef p ++ t
  | 0, h => ⟨[], by rw [show p = 0 by omega, List.append_nil]⟩
  | P + 1, h => by
    by_cases z : p = P + 1
    · exact ⟨[], by rw [z, List.append_nil]⟩
    · obtain ⟨t, ht⟩ := SL_pre (ef := ef) (p := p) (P := P) (by omega)
      exact ⟨t ++ SLp ef P, by show SL ef P ++ SLp ef P = _; rw [ht, List.append_assoc]⟩
theorem pr_one {w P : Nat} {ef : Nat → Bool} {S : Int64} {m s : Nat} (h : (SL ef P)[m]? = some s) : prAll ((SL ef P).map (enS w)) (fS S) (m + 1) = (prAll ((SL ef P).map (enS w)) (fS S) m).bind (mSl w (xOf (SL ef P) S) s) := by
  show (prAll _ (fS S) m).bind (prS _ (fS S) m) = _
  congr 1
  funext pa
  have hel : ((SL ef P).map (enS w))[m]? = some (enS w s) := by rw [List.getElem?_map, h]; rfl
  unfold prS mSl
  rw [xOf_at h, hel]
  unfold fS
  by_cases y : gB S m = true
  · rw [if_pos y, if_pos (show (1 : Int32) = 1 from rfl), if_pos y]
    rfl
  · rw [if_neg y, if_neg (show ¬(2 : Int32) = 1 by decide), if_neg y]
theorem pX_pr {w P : Nat} {ef : Nat → Bool} {S : Int64} : ∀ {p : Nat}, p ≤ P → prAll ((SL ef P).map (enS w)) (fS S) (SL ef p).length = pX w (xOf (SL ef P) S) p
  | 0, _ => rfl
  | p + 1, hp => by
    have ih := pX_pr (w := w) (P := P) (ef := ef) (S := S) (p := p) (by omega)
    obtain ⟨t, ht⟩ := SL_pre (ef := ef) hp
    have e0 : SL ef (p + 1) = SL ef p ++ SLp ef p := rfl
    have hX : ∀ s, ef s = false → mSl w (xOf (SL ef P) S) s = some := fun s hs => by
      funext pa
      unfold mSl
      rw [if_neg]
      intro q
      rw [(xOf_ef q).2] at hs; exact absurd hs (by decide)
    have hb : ∀ o : Option (Nat → Nat), o.bind some = o := fun o => by cases o <;> rfl
    show _ = ((pX w (xOf (SL ef P) S) p).bind (mSl w (xOf (SL ef P) S) (2 * p + 1))).bind (mSl w (xOf (SL ef P) S) (2 * p))
    rw [← ih]
    have hget : ∀ j s, (SLp ef p)[j]? = some s → (SL ef P)[(SL ef p).length + j]? = some s := fun j s hj => by
      have hjl := (List.getElem?_eq_some_iff.mp hj).1
      rw [ht, e0, List.append_assoc, List.getElem?_append_right (Nat.le_add_right _ _), Nat.add_sub_cancel_left, List.getElem?_append_left hjl]
      exact hj
    rcases Bool.eq_false_or_eq_true (ef (2 * p + 1)) with a | a <;> rcases Bool.eq_false_or_eq_true (ef (2 * p)) with b | b
    · have hs : SLp ef p = [2 * p + 1, 2 * p] := by unfold SLp; rw [a, b]; rfl
      rw [e0, List.length_append, hs]
      show prAll _ _ ((SL ef p).length + 1 + 1) = _
      rw [pr_one (hget 1 (2 * p) (by rw [hs]; rfl)), pr_one (hget 0 (2 * p + 1) (by rw [hs]; rfl))]
      rfl
    · have hs : SLp ef p = [2 * p + 1] := by unfold SLp; rw [a, b]; rfl
      rw [e0, List.length_append, hs]
      show prAll _ _ ((SL ef p).length + 1) = _
      rw [pr_one (m := (SL ef p).length) (hget 0 (2 * p + 1) (by rw [hs]; rfl)), hX _ b, hb]
    · have hs : SLp ef p = [2 * p] := by unfold SLp; rw [a, b]; rfl
      rw [e0, List.length_append, hs]
      show prAll _ _ ((SL ef p).length + 1) = _
      rw [pr_one (m := (SL ef p).length) (hget 0 (2 * p) (by rw [hs]; rfl)), hX _ a, hb]
    · have hs : SLp ef p = [] := by unfold SLp; rw [a, b]; rfl
      rw [e0, List.length_append, hs, hX _ a, hX _ b, hb, hb]
      rfl
theorem perm_one {T : List Int64} (hN : T.Nodup) (hz : ∀ S, S ∈ T ↔ S = 0) : T = [0] := by
  match T, hN, hz with
  | [], _, hz => exact absurd ((hz 0).mpr rfl) List.not_mem_nil
  | [x], _, hz => rw [(hz x).mp List.mem_cons_self]
  | x :: y :: l, hN, hz =>
    exfalso
    rw [List.nodup_cons] at hN
    have h1 := (hz x).mp List.mem_cons_self
    have h2 := (hz y).mp (List.mem_cons_of_mem _ List.mem_cons_self)
    exact hN.1 (by rw [h1, ← h2]; exact List.mem_cons_self)
theorem tree_fin {w h : Nat} {ho : Int32} {op gone tin tout : Int64} {fto : Nat → Int32} {hb : Nat → Bool} (g : GrB w h ho op) (hhb : ∀ p, p < w * h → hb p = !plB (w * h) ho p) (hT : ToldR (SL (efB op gone) (w * h)) tin tout fto) (h012 : F012 (elG w (w * h) op gone).length fto) :
    cntI (w * h) 42 (layF 42 (fun p => cafTK w (nI (w * h)) ho (lpB (plB (w * h) ho) (w * h)) p (p % w)) (fun p => openChoicesF op (nI p)) (codeF (fstT w (nI (w * h)) ho) w)) (pakF 42 (fun p => cafTK w (nI (w * h)) ho (lpB (plB (w * h) ho) (w * h)) p (p % w)) (fun p => openChoicesF op (nI p)) (codeF (fstT w (nI (w * h)) ho) w)) isWayTR tin (tout ||| gone) (w * h) 0 = lN (treesF w h (elG w (w * h) op gone) hb fto) ∧
    ∀ r, r < treesF w h (elG w (w * h) op gone) hb fto → ∀ (e s : Nat), (SL (efB op gone) (w * h))[e]? = some s → gB (wyI (w * h) 42 (layF 42 (fun p => cafTK w (nI (w * h)) ho (lpB (plB (w * h) ho) (w * h)) p (p % w)) (fun p => openChoicesF op (nI p)) (codeF (fstT w (nI (w * h)) ho) w)) (pakF 42 (fun p => cafTK w (nI (w * h)) ho (lpB (plB (w * h) ho) (w * h)) p (p % w)) (fun p => openChoicesF op (nI p)) (codeF (fstT w (nI (w * h)) ho) w)) isWayTR tin (tout ||| gone) (lN r)) s = gB (dtF w h (elG w (w * h) op gone) hb (elG w (w * h) op gone).length 0 r 0 fto) e := by
  have hP := g.P
  have hE : El25 (elG w (w * h) op gone) := g.E25
  have hC := capT g
  have hopP : ∀ s, s < 64 → gB op s = true → s / 2 < w * h := fun s hs q => plB_lt (g.opP hs q).1
  have hplE : ∀ q, plH (w * h) hb q = plB (w * h) ho q := fun q => by
    rcases Nat.lt_or_ge q (w * h) with y | y
    · unfold plH
      rw [decide_eq_true y, Bool.true_and, hhb q y, Bool.not_not]
    · rw [plB_hi y]; unfold plH; rw [decide_eq_false (by omega), Bool.false_and]
  have hpl : ∀ (i a b : Nat), (elG w (w * h) op gone)[i]? = some (a, b) → plH (w * h) hb a = true ∧ plH (w * h) hb b = true := fun i a b q => by
    rw [hplE, hplE]; exact g.elp q
  obtain ⟨T, hN, hMem⟩ := ex_list (elG w (w * h) op gone) (fun S => GoodT w (w * h) (plB (w * h) ho) (xOf (SL (efB op gone) (w * h)) S))
  have hTL : TLs (elG w (w * h) op gone) (plH (w * h) hb) T := by
    refine ⟨hN, fun S => ?_⟩
    rw [hMem S]
    refine and_congr_right (fun _ => ?_)
    have := pX_pr (w := w) (ef := efB op gone) (S := S) (Nat.le_refl (w * h))
    unfold GoodT
    rw [← this, List.length_map]
    simp only [hplE]
  have hR : ∀ S, S ∈ T ↔ (∀ i, (SL (efB op gone) (w * h)).length ≤ i → i < 64 → gB S i = false) ∧ GoodT w (w * h) (plB (w * h) ho) (xOf (SL (efB op gone) (w * h)) S) := fun S => by rw [hMem S, hi_iff]
  obtain ⟨n0, hn0, hTI0⟩ := first_T g
  have hA : ∀ (tin out : Int64) (X : Nat → Bool), RO (nxTr w (w * h) ho op) isWayTR (alF tin out) (sqX X 0 (w * h)) 0 (codeF (fstT w (nI (w * h)) ho) w) ↔ (∀ q, q < w * h → okX op tin out X q) ∧ GoodT w (w * h) (plB (w * h) ho) X := fun tin out X => by
    rw [hn0]
    refine Iff.trans (runT (inn := tin) (out := out) (X := X) g (w * h) 0 n0 _ (by omega) rfl hTI0) ?_
    exact and_congr_left (fun _ => ⟨fun H q hq => H q (Nat.zero_le _) hq, fun H q _ hq => H q hq⟩)
  have hlenT : T.length < 2147483647 := by
    rw [fin_len hC hP hopP hN hR (hA _ _)]
    exact len_TA g
  have hfin := fin_list hC hP hopP hT hN hR (hA _ _)
  have hllen : (elG w (w * h) op gone).length = (SL (efB op gone) (w * h)).length := List.length_map _
  -- the reference's number
  have hEqT : ∀ f, F012 (elG w (w * h) op gone).length f → treesF w h (elG w (w * h) op gone) hb f = TNf T (elG w (w * h) op gone).length f := by
    intro f hf
    by_cases hq : ∃ q0, plH (w * h) hb q0 = true
    · obtain ⟨q0, hq0⟩ := hq
      exact trees_TN hE hP hpl hTL hlenT hq0 hf
    · have hno : ∀ q, plH (w * h) hb q = false := fun q => by
        rcases Bool.eq_false_or_eq_true (plH (w * h) hb q) with y | y
        · exact absurd ⟨q, y⟩ hq
        · exact y
      have hcp : cpF hb (w * h) = 0 := cp_0.mpr (fun q hq2 => by
        have := hno q
        unfold plH at this
        rw [decide_eq_true hq2, Bool.true_and, Bool.not_eq_false'] at this
        exact this)
      have hel0 : (elG w (w * h) op gone).length = 0 := by
        rcases Nat.eq_zero_or_pos (elG w (w * h) op gone).length with y | y
        · exact y
        · have := (hpl 0 _ _ (List.getElem?_eq_getElem y)).1
          rw [hno] at this; exact absurd this (by decide)
      have h1 : treesF w h (elG w (w * h) op gone) hb f = 1 := by unfold treesF; rw [if_pos hcp]
      rw [h1]
      have hz : ∀ S, S ∈ T ↔ S = 0 := by
        intro S
        rw [hTL.2 S]
        constructor
        · rintro ⟨h2, _⟩
          exact gB_ext (fun i _ => by rw [h2 i (by omega), gB_0])
        · intro h2
          refine ⟨fun i _ => by rw [h2, gB_0], (fun p => p), by rw [hel0]; rfl, fun q q' h3 => by rw [hno] at h3; exact absurd h3 (by decide)⟩
      have hT1 : T = [0] := by
        have hp := perm_one hN hz
        exact hp
      rw [hT1]
      unfold TNf
      rw [hel0]
      rfl
  have hcnt : treesF w h (elG w (w * h) op gone) hb fto = (T.filter (fun S => alAll fto S (SL (efB op gone) (w * h)).length)).length := by
    rw [hEqT fto h012]; unfold TNf; rw [hllen]
  refine ⟨by rw [hcnt]; exact hfin.1, fun r hr e s hs => ?_⟩
  have hsort : ∃ L : List Int64, L.Perm T ∧ L.Pairwise (fun a b => leS a b = true) := ⟨T.mergeSort leS, List.mergeSort_perm T leS, List.pairwise_mergeSort leS_tr leS_tot T⟩
  obtain ⟨L, hp, hpw⟩ := hsort
  have hEqL : ∀ f, F012 (elG w (w * h) op gone).length f → treesF w h (elG w (w * h) op gone) hb f = TNf L (elG w (w * h) op gone).length f := fun f hf => by
    rw [hEqT f hf]
    unfold TNf
    exact ((hp.filter _).length_eq).symm
  have hdt := dt_ok (w := w) (h := h) (hb := hb) hE.2.1 hEqL hpw (fun S hS => ((hTL.2 S).mp (hp.mem_iff.mp hS)).1) (elG w (w * h) op gone).length 0 r 0 fto (by omega) h012 (fun i hi => absurd hi (Nat.not_lt_zero _)) (fun i => by rw [gB_0]; exact ⟨fun q => absurd q (by decide), fun q => absurd q.1 (Nat.not_lt_zero _)⟩) (by rw [← hEqL fto h012]; exact hr)
  rw [hllen] at hdt ⊢
  exact hfin.2 r _ L hp hpw hdt e s hs
