/-! THE LAW: the class's cells that hang on the kind, and counting, for all kinds alike -/
def KI (cI cJ : ClassId) (kd : Int32) (w P g ly : Nat) (ho : Int32) (op : Int64) (lpl ea eb : Int32) (tin out : Int64) (bu we : Bool) (K : va_W) : Prop := (we = true → bu = true) ∧
  ((∃ (deg : Int32) (ru sz ld wy bk cd nc : Nat) (nz : Int32) (mh mn : Int64) (fs fl : Nat → Int32) (fw : Nat → Int64) (fb fc fn : Nat → Int32), ((kd = 0 ∧ deg = 1) ∨ (kd = 4 ∧ deg = 2)) ∧ K = [oLY ly g ru (nI 64) sz ld wy bk cd nc nz mh mn, oDG ru g deg, aI cI sz (P + 1) fs, aI cI ld (P * 64) fl, aJ cJ wy ((P + 1) * 64) fw, aI cI bk 512 fb, aI cI cd 64 fc, aI cI nc 64 fn] ∧ (bu = true → btDG w P ho deg op fs fl fw) ∧ (we = true → wtDG w P ho deg op tin out fw ∧ mh = tin ∧ mn = out)) ∨
   (∃ (lp : Int32) (ru sz ld wy bk cd nc : Nat) (nz : Int32) (mh mn : Int64) (fs fl : Nat → Int32) (fw : Nat → Int64) (fb fc fn : Nat → Int32), ((kd = 1 ∧ lp = 0) ∨ (kd = 2 ∧ lp = 1)) ∧ K = [oLY ly g ru (nI 136) sz ld wy bk cd nc nz mh mn, oLN ru g lp, aI cI sz (P + 1) fs, aI cI ld (P * 136) fl, aJ cJ wy ((P + 1) * 136) fw, aI cI bk 512 fb, aI cI cd 136 fc, aI cI nc 136 fn] ∧ (bu = true → btLN w P lp ea eb op fs fl fw) ∧ (we = true → wtLN w P lp ea eb op tin out fw ∧ mh = tin ∧ mn = out)) ∨
   (∃ (pcs ru sz ld wy bk cd nc : Nat) (nz : Int32) (mh mn : Int64) (fs fl : Nat → Int32) (fw : Nat → Int64) (fb fc fn pf : Nat → Int32), kd = 3 ∧ K = [oLY ly g ru (nI 42) sz ld wy bk cd nc nz mh mn, oTR ru g pcs, aI cI pcs w pf, aI cI sz (P + 1) fs, aI cI ld (P * 42) fl, aJ cJ wy ((P + 1) * 42) fw, aI cI bk 512 fb, aI cI cd 42 fc, aI cI nc 42 fn] ∧ (bu = true → btTR w P ho lpl op fs fl fw) ∧ (we = true → wtTR w P ho lpl op tin out fw ∧ mh = tin ∧ mn = out)))
/-- how many cells a kind has -/
def kN (kd : Int32) : Nat := if kd = 3 then 9 else 8
theorem KI.len {cI cJ : ClassId} {kd : Int32} {w P g ly : Nat} {ho : Int32} {op : Int64} {lpl ea eb : Int32} {tin out : Int64} {bu we : Bool} {K : va_W} (h : KI cI cJ kd w P g ly ho op lpl ea eb tin out bu we K) : K.length = kN kd := by
  unfold kN
  rcases h.2 with ⟨deg, ru, sz, ld, wy, bk, cd, nc, nz, mh, mn, fs, fl, fw, fb, fc, fn, hk, rfl, _⟩ | ⟨lp, ru, sz, ld, wy, bk, cd, nc, nz, mh, mn, fs, fl, fw, fb, fc, fn, hk, rfl, _⟩ | ⟨pcs, ru, sz, ld, wy, bk, cd, nc, nz, mh, mn, fs, fl, fw, fb, fc, fn, pf, hk, rfl, _⟩
  · rcases hk with q | q <;> rw [q.1] <;> rfl
  · rcases hk with q | q <;> rw [q.1] <;> rfl
  · rw [hk]; rfl
/-- when the table is forgotten; when only what is told is -/
theorem KI.drop {cI cJ : ClassId} {kd : Int32} {w P g ly : Nat} {ho ho' : Int32} {op op' : Int64} {lpl ea eb lpl' ea' eb' : Int32} {tin out tin' out' : Int64} {bu we : Bool} {K : va_W} (h : KI cI cJ kd w P g ly ho op lpl ea eb tin out bu we K) : KI cI cJ kd w P g ly ho' op' lpl' ea' eb' tin' out' false false K := by
  refine ⟨fun q => absurd q (by decide), ?_⟩
  rcases h.2 with ⟨deg, ru, sz, ld, wy, bk, cd, nc, nz, mh, mn, fs, fl, fw, fb, fc, fn, hk, hK, _⟩ | ⟨lp, ru, sz, ld, wy, bk, cd, nc, nz, mh, mn, fs, fl, fw, fb, fc, fn, hk, hK, _⟩ | ⟨pcs, ru, sz, ld, wy, bk, cd, nc, nz, mh, mn, fs, fl, fw, fb, fc, fn, pf, hk, hK, _⟩
  · exact Or.inl ⟨deg, ru, sz, ld, wy, bk, cd, nc, nz, mh, mn, fs, fl, fw, fb, fc, fn, hk, hK, fun q => absurd q (by decide), fun q => absurd q (by decide)⟩
  · exact Or.inr (Or.inl ⟨lp, ru, sz, ld, wy, bk, cd, nc, nz, mh, mn, fs, fl, fw, fb, fc, fn, hk, hK, fun q => absurd q (by decide), fun q => absurd q (by decide)⟩)
  · exact Or.inr (Or.inr ⟨pcs, ru, sz, ld, wy, bk, cd, nc, nz, mh, mn, fs, fl, fw, fb, fc, fn, pf, hk, hK, fun q => absurd q (by decide), fun q => absurd q (by decide)⟩)
theorem KI.told {cI cJ : ClassId} {kd : Int32} {w P g ly : Nat} {ho : Int32} {op : Int64} {lpl ea eb : Int32} {tin out tin' out' : Int64} {bu we : Bool} {K : va_W} (h : KI cI cJ kd w P g ly ho op lpl ea eb tin out bu we K) : KI cI cJ kd w P g ly ho op lpl ea eb tin' out' bu false K := by
  refine ⟨fun q => absurd q (by decide), ?_⟩
  rcases h.2 with ⟨deg, ru, sz, ld, wy, bk, cd, nc, nz, mh, mn, fs, fl, fw, fb, fc, fn, hk, hK, hb, _⟩ | ⟨lp, ru, sz, ld, wy, bk, cd, nc, nz, mh, mn, fs, fl, fw, fb, fc, fn, hk, hK, hb, _⟩ | ⟨pcs, ru, sz, ld, wy, bk, cd, nc, nz, mh, mn, fs, fl, fw, fb, fc, fn, pf, hk, hK, hb, _⟩
  · exact Or.inl ⟨deg, ru, sz, ld, wy, bk, cd, nc, nz, mh, mn, fs, fl, fw, fb, fc, fn, hk, hK, hb, fun q => absurd q (by decide)⟩
  · exact Or.inr (Or.inl ⟨lp, ru, sz, ld, wy, bk, cd, nc, nz, mh, mn, fs, fl, fw, fb, fc, fn, hk, hK, hb, fun q => absurd q (by decide)⟩)
  · exact Or.inr (Or.inr ⟨pcs, ru, sz, ld, wy, bk, cd, nc, nz, mh, mn, fs, fl, fw, fb, fc, fn, pf, hk, hK, hb, fun q => absurd q (by decide)⟩)
abbrev ctR (w h : Nat) (kd : Int32) (ea eb : Int32) (op gone : Int64) (hb : Nat → Bool) (fto : Nat → Int32) : Nat := cntM w h kd ea eb (elG w (w * h) op gone) hb fto
set_option maxHeartbeats 4000000 in
theorem K_count (l : Launch) (D : va_G) (cI cJ cZ : ClassId) (x g ly sa : Nat) (w h : Nat) (cnt : Int32) (gone tin tout dw dr : Int64) (ht ho : Int32) (op : Int64) (lpl ea eb kd : Int32) (bu we : Bool) (K : va_W) (hb aw : Nat → Bool) (fto : Nat → Int32) (j : JS w h ho op gone tin tout ea eb hb aw fto) (hlp : lpl = lpB (plB (w * h) ho) (w * h)) (hK : KI cI cJ kd w (w * h) g ly ho op lpl ea eb tin (tout ||| gone) bu we K) : MK l D cI cJ cZ y_FC_count c_FC_count 1 (some FieldType.long) 6 156 [.ref x] ([oFC x g ly sa cnt gone tin tout (bI bu) (bI we) dw dr, oGR g (nI w) ht (nI (w * h)) ho op lpl ea eb] ++ K) 0 0 (fun v w1 => ∃ K2 : va_W, v = some (.long (lN (ctR w h kd ea eb op gone hb fto))) ∧ w1 = [oFC x g ly sa cnt gone tin tout (bI true) (bI true) dw dr, oGR g (nI w) ht (nI (w * h)) ho op lpl ea eb] ++ K2 ∧ KI cI cJ kd w (w * h) g ly ho op lpl ea eb tin (tout ||| gone) true true K2) := by
  have hP := j.1.1.P
  have hw := j.1.1.1
  obtain ⟨hwb, hK⟩ := hK
  rcases hK with ⟨deg, ru, sz, ld, wy, bk, cd, nc, nz, mh, mn, fs, fl, fw, fb, fc, fn, hk, rfl, hB, hW⟩ | ⟨lp, ru, sz, ld, wy, bk, cd, nc, nz, mh, mn, fs, fl, fw, fb, fc, fn, hk, rfl, hB, hW⟩ | ⟨pcs, ru, sz, ld, wy, bk, cd, nc, nz, mh, mn, fs, fl, fw, fb, fc, fn, pf, hk, rfl, hB, hW⟩
  · have hct : ctDG w (w * h) ho deg op tin (tout ||| gone) = lN (ctR w h kd ea eb op gone hb fto) := by
      rcases hk with ⟨rfl, rfl⟩ | ⟨rfl, rfl⟩
      · exact (kr_0 j).2.1
      · exact (kr_4 j).2.1
    refine MC.mono (M_FC_count_DG l D cI cJ cZ x g ly sa ru sz ld wy bk cd nc w (w * h) hw.2 hw.1 hP cnt gone tin tout dw dr ht ho op lpl ea eb deg nz mh mn fs fl fw fb fc fn bu we hwb hB hW) ?_
    rintro v w1 ⟨cd2, nc2, nz2, fs2, fl2, fw2, fb2, fc2, fn2, h1, h2, h3, h4⟩
    exact ⟨_, by rw [h1, hct], h2, fun _ => rfl, Or.inl ⟨deg, ru, sz, ld, wy, bk, cd2, nc2, nz2, tin, tout ||| gone, fs2, fl2, fw2, fb2, fc2, fn2, hk, rfl, fun _ => h3, fun _ => ⟨h4, rfl, rfl⟩⟩⟩
  · have hct : ctLN w (w * h) lp ea eb op tin (tout ||| gone) = lN (ctR w h kd ea eb op gone hb fto) := by
      rcases hk with ⟨rfl, rfl⟩ | ⟨rfl, rfl⟩
      · exact (kr_1 j).2.1
      · exact (kr_2 j).2.1
    refine MC.mono (M_FC_count_LN l D cI cJ cZ x g ly sa ru sz ld wy bk cd nc w (w * h) hw.2 hw.1 hP cnt gone tin tout dw dr ht ho op lpl ea eb lp nz mh mn fs fl fw fb fc fn bu we hwb hB hW) ?_
    rintro v w1 ⟨cd2, nc2, nz2, fs2, fl2, fw2, fb2, fc2, fn2, h1, h2, h3, h4⟩
    exact ⟨_, by rw [h1, hct], h2, fun _ => rfl, Or.inr (Or.inl ⟨lp, ru, sz, ld, wy, bk, cd2, nc2, nz2, tin, tout ||| gone, fs2, fl2, fw2, fb2, fc2, fn2, hk, rfl, fun _ => h3, fun _ => ⟨h4, rfl, rfl⟩⟩)⟩
  · subst hk
    have hct : ctTR w (w * h) ho lpl op tin (tout ||| gone) = lN (ctR w h 3 ea eb op gone hb fto) := (kr_3 j hlp).2.1
    refine MC.mono (M_FC_count_TR l D cI cJ cZ x g ly sa ru sz ld wy bk cd nc w (w * h) hw.2 hw.1 hP cnt gone tin tout dw dr ht ho op lpl ea eb pcs nz mh mn fs fl fw fb fc fn pf bu we hwb hB hW) ?_
    rintro v w1 ⟨cd2, nc2, nz2, fs2, fl2, fw2, fb2, fc2, fn2, pf2, h1, h2, h3, h4⟩
    exact ⟨_, by rw [h1, hct], h2, fun _ => rfl, Or.inr (Or.inr ⟨pcs, ru, sz, ld, wy, bk, cd2, nc2, nz2, tin, tout ||| gone, fs2, fl2, fw2, fb2, fc2, fn2, pf2, rfl, rfl, fun _ => h3, fun _ => ⟨h4, rfl, rfl⟩⟩)⟩
