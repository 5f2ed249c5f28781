/-! THE LAW: digit and draw, for all kinds alike -/
set_option maxHeartbeats 4000000 in
theorem K_digit (l : Launch) (D : va_G) (cI cJ cZ : ClassId) (x g ly sa : Nat) (w h : Nat) (cnt : Int32) (gone tin tout dw dr : Int64) (ht ho : Int32) (op : Int64) (lpl ea eb kd : Int32) (bu we : Bool) (K : va_W) (hb aw : Nat → Bool) (fto : Nat → Int32) (j : JS w h ho op gone tin tout ea eb hb aw fto) (hlp : lpl = lpB (plB (w * h) ho) (w * h)) (hK : KI cI cJ kd w (w * h) g ly ho op lpl ea eb tin (tout ||| gone) bu we K) (i : Int32) : MK l D cI cJ cZ y_FC_digit c_FC_digit 5 (some FieldType.int) 7 176 [.ref x, .int i] ([oFC x g ly sa cnt gone tin tout (bI bu) (bI we) dw dr, oGR g (nI w) ht (nI (w * h)) ho op lpl ea eb] ++ K) 0 0 (fun v w1 => ∃ K2 : va_W, v = some (.int (mDig (ctR w h kd ea eb op gone hb fto) i)) ∧ w1 = [oFC x g ly sa cnt gone tin tout (bI true) (bI true) dw dr, oGR g (nI w) ht (nI (w * h)) ho op lpl ea eb] ++ K2 ∧ KI cI cJ kd w (w * h) g ly ho op lpl ea eb tin (tout ||| gone) true true K2) := by
  have hP := j.1.1.P
  have hw := j.1.1.1
  obtain ⟨hwb, hK⟩ := hK
  rcases hK with ⟨deg, ru, sz, ld, wy, bk, cd, nc, nz, mh, mn, fs, fl, fw, fb, fc, fn, hk, rfl, hB, hW⟩ | ⟨lp, ru, sz, ld, wy, bk, cd, nc, nz, mh, mn, fs, fl, fw, fb, fc, fn, hk, rfl, hB, hW⟩ | ⟨pcs, ru, sz, ld, wy, bk, cd, nc, nz, mh, mn, fs, fl, fw, fb, fc, fn, pf, hk, rfl, hB, hW⟩
  · have hkr : KR w h kd ho op gone tin tout ea eb hb fto (ctDG w (w * h) ho deg op tin (tout ||| gone)) (wyDG w (w * h) ho deg op tin (tout ||| gone)) := by
      rcases hk with ⟨rfl, rfl⟩ | ⟨rfl, rfl⟩
      · exact kr_0 j
      · exact kr_4 j
    refine MC.mono (M_FC_digit_DG l D cI cJ cZ x g ly sa ru sz ld wy bk cd nc w (w * h) hw.2 hw.1 hP cnt gone tin tout dw dr ht ho op lpl ea eb deg nz mh mn fs fl fw fb fc fn bu we hwb hB hW i) ?_
    rintro v w1 ⟨cd2, nc2, nz2, fs2, fl2, fw2, fb2, fc2, fn2, h1, h2, h3, h4⟩
    exact ⟨_, by rw [h1, hkr.2.1, digit_J hkr.2.2.1], h2, ⟨fun _ => rfl, Or.inl ⟨deg, ru, sz, ld, wy, bk, cd2, nc2, nz2, tin, tout ||| gone, fs2, fl2, fw2, fb2, fc2, fn2, hk, rfl, fun _ => h3, fun _ => ⟨h4, rfl, rfl⟩⟩⟩⟩
  · have hkr : KR w h kd ho op gone tin tout ea eb hb fto (ctLN w (w * h) lp ea eb op tin (tout ||| gone)) (wyLN w (w * h) lp ea eb op tin (tout ||| gone)) := by
      rcases hk with ⟨rfl, rfl⟩ | ⟨rfl, rfl⟩
      · exact kr_1 j
      · exact kr_2 j
    refine MC.mono (M_FC_digit_LN l D cI cJ cZ x g ly sa ru sz ld wy bk cd nc w (w * h) hw.2 hw.1 hP cnt gone tin tout dw dr ht ho op lpl ea eb lp nz mh mn fs fl fw fb fc fn bu we hwb hB hW i) ?_
    rintro v w1 ⟨cd2, nc2, nz2, fs2, fl2, fw2, fb2, fc2, fn2, h1, h2, h3, h4⟩
    exact ⟨_, by rw [h1, hkr.2.1, digit_J hkr.2.2.1], h2, ⟨fun _ => rfl, Or.inr (Or.inl ⟨lp, ru, sz, ld, wy, bk, cd2, nc2, nz2, tin, tout ||| gone, fs2, fl2, fw2, fb2, fc2, fn2, hk, rfl, fun _ => h3, fun _ => ⟨h4, rfl, rfl⟩⟩)⟩⟩
  · subst hk
    have hkr : KR w h 3 ho op gone tin tout ea eb hb fto (ctTR w (w * h) ho lpl op tin (tout ||| gone)) (wyTR w (w * h) ho lpl op tin (tout ||| gone)) := kr_3 j hlp
    refine MC.mono (M_FC_digit_TR l D cI cJ cZ x g ly sa ru sz ld wy bk cd nc w (w * h) hw.2 hw.1 hP cnt gone tin tout dw dr ht ho op lpl ea eb pcs nz mh mn fs fl fw fb fc fn pf bu we hwb hB hW i) ?_
    rintro v w1 ⟨cd2, nc2, nz2, fs2, fl2, fw2, fb2, fc2, fn2, pf2, h1, h2, h3, h4⟩
    exact ⟨_, by rw [h1, hkr.2.1, digit_J hkr.2.2.1], h2, ⟨fun _ => rfl, Or.inr (Or.inr ⟨pcs, ru, sz, ld, wy, bk, cd2, nc2, nz2, tin, tout ||| gone, fs2, fl2, fw2, fb2, fc2, fn2, pf2, rfl, rfl, fun _ => h3, fun _ => ⟨h4, rfl, rfl⟩⟩)⟩⟩
set_option maxHeartbeats 4000000 in
theorem K_draw (l : Launch) (D : va_G) (cI cJ cZ : ClassId) (x g ly sa : Nat) (w h : Nat) (cnt : Int32) (gone tin tout dw dr : Int64) (ht ho : Int32) (op : Int64) (lpl ea eb kd : Int32) (bu we : Bool) (K : va_W) (hb aw : Nat → Bool) (fto : Nat → Int32) (j : JS w h ho op gone tin tout ea eb hb aw fto) (hlp : lpl = lpB (plB (w * h) ho) (w * h)) (hK : KI cI cJ kd w (w * h) g ly ho op lpl ea eb tin (tout ||| gone) bu we K) (seed : Int64) : MK l D cI cJ cZ y_FC_draw c_FC_draw 7 (some FieldType.boolean) 7 176 [.ref x, .long seed] ([oFC x g ly sa cnt gone tin tout (bI bu) (bI we) dw dr, oGR g (nI w) ht (nI (w * h)) ho op lpl ea eb] ++ K) 0 0 (fun v w1 => ∃ K2 : va_W, KI cI cJ kd w (w * h) g ly ho op lpl ea eb tin (tout ||| gone) true true K2 ∧ ((ctR w h kd ea eb op gone hb fto = 0 ∧ v = some (.int 0) ∧ w1 = [oFC x g ly sa cnt gone tin tout (bI true) (bI true) dw (-1), oGR g (nI w) ht (nI (w * h)) ho op lpl ea eb] ++ K2) ∨ (¬ctR w h kd ea eb op gone hb fto = 0 ∧ v = some (.int 1) ∧ ∃ dw2 : Int64, w1 = [oFC x g ly sa cnt gone tin tout (bI true) (bI true) dw2 (ixF seed (lN (ctR w h kd ea eb op gone hb fto))), oGR g (nI w) ht (nI (w * h)) ho op lpl ea eb] ++ K2 ∧ ∀ (r : Nat) (W : Int64), r < ctR w h kd ea eb op gone hb fto → ixF seed (lN (ctR w h kd ea eb op gone hb fto)) = lN r → DrW w h kd ea eb (elG w (w * h) op gone) hb fto r W → ∀ (e s : Nat), (SL (efB op gone) (w * h))[e]? = some s → gB dw2 s = gB W e))) := by
  have hP := j.1.1.P
  have hw := j.1.1.1
  obtain ⟨hwb, hK⟩ := hK
  rcases hK with ⟨deg, ru, sz, ld, wy, bk, cd, nc, nz, mh, mn, fs, fl, fw, fb, fc, fn, hk, rfl, hB, hW⟩ | ⟨lp, ru, sz, ld, wy, bk, cd, nc, nz, mh, mn, fs, fl, fw, fb, fc, fn, hk, rfl, hB, hW⟩ | ⟨pcs, ru, sz, ld, wy, bk, cd, nc, nz, mh, mn, fs, fl, fw, fb, fc, fn, pf, hk, rfl, hB, hW⟩
  · have hkr : KR w h kd ho op gone tin tout ea eb hb fto (ctDG w (w * h) ho deg op tin (tout ||| gone)) (wyDG w (w * h) ho deg op tin (tout ||| gone)) := by
      rcases hk with ⟨rfl, rfl⟩ | ⟨rfl, rfl⟩
      · exact kr_0 j
      · exact kr_4 j
    refine MC.mono (M_FC_draw_DG l D cI cJ cZ x g ly sa ru sz ld wy bk cd nc w (w * h) hw.2 hw.1 hP cnt gone tin tout dw dr ht ho op lpl ea eb deg nz mh mn fs fl fw fb fc fn bu we hwb hB hW seed) ?_
    rintro v w1 (⟨h0, cd2, nc2, nz2, fs2, fl2, fw2, fb2, fc2, fn2, h1, h2, h3, h4⟩ | ⟨h0, cd2, nc2, nz2, fs2, fl2, fw2, fb2, fc2, fn2, h1, h2, h3, h4⟩)
    · rw [hkr.2.1, lg_p0 hkr.2.2.1] at h0
      exact ⟨_, ⟨fun _ => rfl, Or.inl ⟨deg, ru, sz, ld, wy, bk, cd2, nc2, nz2, tin, tout ||| gone, fs2, fl2, fw2, fb2, fc2, fn2, hk, rfl, fun _ => h3, fun _ => ⟨h4, rfl, rfl⟩⟩⟩, Or.inl ⟨Classical.not_not.mp h0, h1, h2⟩⟩
    · rw [hkr.2.1, lg_p0 hkr.2.2.1] at h0
      rw [hkr.2.1] at h2
      exact ⟨_, ⟨fun _ => rfl, Or.inl ⟨deg, ru, sz, ld, wy, bk, cd2, nc2, nz2, tin, tout ||| gone, fs2, fl2, fw2, fb2, fc2, fn2, hk, rfl, fun _ => h3, fun _ => ⟨h4, rfl, rfl⟩⟩⟩, Or.inr ⟨h0, h1, _, h2, fun r W hr hix hD e s hs => by rw [hix]; exact hkr.2.2.2 r W hr hD e s hs⟩⟩
  · have hkr : KR w h kd ho op gone tin tout ea eb hb fto (ctLN w (w * h) lp ea eb op tin (tout ||| gone)) (wyLN w (w * h) lp ea eb op tin (tout ||| gone)) := by
      rcases hk with ⟨rfl, rfl⟩ | ⟨rfl, rfl⟩
      · exact kr_1 j
      · exact kr_2 j
    refine MC.mono (M_FC_draw_LN l D cI cJ cZ x g ly sa ru sz ld wy bk cd nc w (w * h) hw.2 hw.1 hP cnt gone tin tout dw dr ht ho op lpl ea eb lp nz mh mn fs fl fw fb fc fn bu we hwb hB hW seed) ?_
    rintro v w1 (⟨h0, cd2, nc2, nz2, fs2, fl2, fw2, fb2, fc2, fn2, h1, h2, h3, h4⟩ | ⟨h0, cd2, nc2, nz2, fs2, fl2, fw2, fb2, fc2, fn2, h1, h2, h3, h4⟩)
    · rw [hkr.2.1, lg_p0 hkr.2.2.1] at h0
      exact ⟨_, ⟨fun _ => rfl, Or.inr (Or.inl ⟨lp, ru, sz, ld, wy, bk, cd2, nc2, nz2, tin, tout ||| gone, fs2, fl2, fw2, fb2, fc2, fn2, hk, rfl, fun _ => h3, fun _ => ⟨h4, rfl, rfl⟩⟩)⟩, Or.inl ⟨Classical.not_not.mp h0, h1, h2⟩⟩
    · rw [hkr.2.1, lg_p0 hkr.2.2.1] at h0
      rw [hkr.2.1] at h2
      exact ⟨_, ⟨fun _ => rfl, Or.inr (Or.inl ⟨lp, ru, sz, ld, wy, bk, cd2, nc2, nz2, tin, tout ||| gone, fs2, fl2, fw2, fb2, fc2, fn2, hk, rfl, fun _ => h3, fun _ => ⟨h4, rfl, rfl⟩⟩)⟩, Or.inr ⟨h0, h1, _, h2, fun r W hr hix hD e s hs => by rw [hix]; exact hkr.2.2.2 r W hr hD e s hs⟩⟩
  · subst hk
    have hkr : KR w h 3 ho op gone tin tout ea eb hb fto (ctTR w (w * h) ho lpl op tin (tout ||| gone)) (wyTR w (w * h) ho lpl op tin (tout ||| gone)) := kr_3 j hlp
    refine MC.mono (M_FC_draw_TR l D cI cJ cZ x g ly sa ru sz ld wy bk cd nc w (w * h) hw.2 hw.1 hP cnt gone tin tout dw dr ht ho op lpl ea eb pcs nz mh mn fs fl fw fb fc fn pf bu we hwb hB hW seed) ?_
    rintro v w1 (⟨h0, cd2, nc2, nz2, fs2, fl2, fw2, fb2, fc2, fn2, pf2, h1, h2, h3, h4⟩ | ⟨h0, cd2, nc2, nz2, fs2, fl2, fw2, fb2, fc2, fn2, pf2, h1, h2, h3, h4⟩)
    · rw [hkr.2.1, lg_p0 hkr.2.2.1] at h0
      exact ⟨_, ⟨fun _ => rfl, Or.inr (Or.inr ⟨pcs, ru, sz, ld, wy, bk, cd2, nc2, nz2, tin, tout ||| gone, fs2, fl2, fw2, fb2, fc2, fn2, pf2, rfl, rfl, fun _ => h3, fun _ => ⟨h4, rfl, rfl⟩⟩)⟩, Or.inl ⟨Classical.not_not.mp h0, h1, h2⟩⟩
    · rw [hkr.2.1, lg_p0 hkr.2.2.1] at h0
      rw [hkr.2.1] at h2
      exact ⟨_, ⟨fun _ => rfl, Or.inr (Or.inr ⟨pcs, ru, sz, ld, wy, bk, cd2, nc2, nz2, tin, tout ||| gone, fs2, fl2, fw2, fb2, fc2, fn2, pf2, rfl, rfl, fun _ => h3, fun _ => ⟨h4, rfl, rfl⟩⟩)⟩, Or.inr ⟨h0, h1, _, h2, fun r W hr hix hD e s hs => by rw [hix]; exact hkr.2.2.2 r W hr hD e s hs⟩⟩
