/-! CLASS AND REFERENCE: one grid, one set of edges -/
def JG (w h : Nat) (ho : Int32) (op gone : Int64) (hb aw : Nat → Bool) : Prop := GrB w h ho op ∧ (∀ p, p < w * h → hb p = gI ho p) ∧ ∀ s, s / 2 < w * h → gB op s = true → gB gone s = awS aw s
theorem JG.el {w h : Nat} {ho : Int32} {op gone : Int64} {hb aw : Nat → Bool} (j : JG w h ho op gone hb aw) : mNum w h hb aw = elG w (w * h) op gone := by
  rw [mNum_SL]
  congr 1
  exact SL_congr (ef_eq j.1.1.1 j.1.P j.1.2.2 j.2.1 j.2.2)
theorem JG.hh {w h : Nat} {ho : Int32} {op gone : Int64} {hb aw : Nat → Bool} (j : JG w h ho op gone hb aw) : ∀ p, p < w * h → hb p = !plB (w * h) ho p := fun p hp => by
  unfold plB
  rw [decide_eq_true hp, Bool.true_and, Bool.not_not]; exact j.2.1 p hp
theorem gI_1k : ∀ k, k < 25 → ∀ i, i < 25 → gI (1 <<< (nI k &&& 31)) i = decide (i = k) := by decide +kernel
theorem gB_1k : ∀ k, k < 50 → ∀ i, i < 64 → gB (1 <<< ((nI k).toInt64 &&& 63)) i = decide (i = k) := fun k hk i _ => gB_bitL (e := k) (by omega)
theorem hole_J {w h : Nat} {ho : Int32} {op gone : Int64} {hb aw aw2 : Nat → Bool} {u v : Int32} (j : JG w h ho op gone hb aw) (hok : holeOK w h u v = true) (haw : ∀ q, q < 50 → aw2 q = false) : JG w h (holF w ho u v) (fosF w h (nI (w * h)) (holF w ho u v)).1 0 (upB hb (mpos w u v) (!hb (mpos w u v))) aw2 ∧ (fosF w h (nI (w * h)) (holF w ho u v)).2 = lpB (plB (w * h) (holF w ho u v)) (w * h) := by
  obtain ⟨g, j1, j2⟩ := j
  have hP := g.P
  have hf := fos_ok (ho := holF w ho u v) g.1.1 g.1.2 hP
  obtain ⟨a, b, ha, hb', rfl, rfl⟩ := mHole_nI g.1.2 g.2.1.2 hok
  have hab : w * b + a < w * h := by
    have : w * (b + 1) ≤ w * h := Nat.mul_le_mul_left w hb'
    rw [Nat.mul_succ] at this; omega
  have hpos : mpos w (nI a) (nI b) = w * b + a := by
    unfold mpos
    rw [pk_mul, nI_add, nI_clamp (by omega)]
  refine ⟨⟨⟨g.1, g.2.1, hf.1⟩, fun p hp => ?_, fun s hs _ => ?_⟩, hf.2⟩
  · rw [hpos]
    unfold holF upB
    rw [pk_mul, nI_add, gI_xor, gI_1k _ (by omega) _ (by omega), ← j1 p hp]
    by_cases z : p = w * b + a
    · rw [if_pos z, decide_eq_true (by omega), ← z, Bool.xor_true]
    · rw [if_neg z, decide_eq_false (by omega), Bool.xor_false]
  · rw [gB_0]
    unfold awS
    by_cases z : s % 2 = 1
    · rw [if_pos z, haw _ (by omega)]
    · rw [if_neg z, haw _ (by omega)]
/-- the slot between two places, or none -/
theorem slot_J {w h : Nat} {ho : Int32} {op gone : Int64} {hb aw : Nat → Bool} {i k : Nat} (j : JG w h ho op gone hb aw) (hi : i < w * h) (hk : k < w * h) :
    (sbF (nI w) op (nI (mLo i k)) (nI (mHi i k - mLo i k)) = -1 ∧ (!hb i && !hb k && (mRt w i k || decide (mHi i k = mLo i k + w))) = false) ∨
    (∃ s, s < 50 ∧ s / 2 < w * h ∧ sbF (nI w) op (nI (mLo i k)) (nI (mHi i k - mLo i k)) = nI s ∧ gB op s = true ∧ (!hb i && !hb k && (mRt w i k || decide (mHi i k = mLo i k + w))) = true ∧ mAt w i k = if s % 2 = 1 then 2 * (s / 2) else 2 * (s / 2) + 1) := by
  obtain ⟨g, j1, j2⟩ := j
  have hP := g.P
  have hw := g.1.1
  have hw5 := g.1.2
  have hbb : (!hb i && !hb k) = (plB (w * h) ho (mLo i k) && plB (w * h) ho (mHi i k)) := by
    have p1 : ∀ x, x < w * h → plB (w * h) ho x = !hb x := fun x hx => by unfold plB; rw [decide_eq_true hx, j1 x hx]; rfl
    unfold mLo mHi
    by_cases z : i < k
    · rw [if_pos z, if_pos z, p1 i hi, p1 k hk]
    · rw [if_neg z, if_neg z, p1 i hi, p1 k hk, Bool.and_comm]
  have hlo : mLo i k < w * h := by unfold mLo; by_cases z : i < k; (rw [if_pos z]; exact hi); (rw [if_neg z]; exact hk)
  have hhi : mHi i k < w * h := by unfold mHi; by_cases z : i < k; (rw [if_pos z]; exact hk); (rw [if_neg z]; exact hi)
  have hle : mLo i k ≤ mHi i k := by unfold mLo mHi; by_cases z : i < k; (rw [if_pos z, if_pos z]; omega); (rw [if_neg z, if_neg z]; omega)
  unfold mAt mRt
  rw [hbb]
  generalize mLo i k = lo at *
  generalize mHi i k = hi' at *
  have e1 : (2 : Int32) * nI lo + 1 = nI (2 * lo + 1) := by rw [show (2 : Int32) = nI 2 from rfl, pk_mul]; exact nI_add _ 1
  have e0 : (2 : Int32) * nI lo = nI (2 * lo) := by rw [show (2 : Int32) = nI 2 from rfl, pk_mul]
  have a1 : (nI (hi' - lo) = 1) ↔ hi' = lo + 1 := by rw [show (1 : Int32) = nI 1 from rfl, nI_eq (by omega) (by omega)]; omega
  have aw' : (nI (hi' - lo) = nI w) ↔ hi' = lo + w := by rw [nI_eq (by omega) (by omega)]; omega
  have o1 : hasF op (nI (2 * lo + 1)) = (plB (w * h) ho lo && decide (lo % w + 1 < w) && plB (w * h) ho (lo + 1)) := by
    rw [hasF_gB (by omega), g.2.2 _ (by omega)]; unfold opB
    rw [if_pos (by omega), show (2 * lo + 1) / 2 = lo by omega]
  have o0 : hasF op (nI (2 * lo)) = (plB (w * h) ho lo && plB (w * h) ho (lo + w)) := by
    rw [hasF_gB (by omega), g.2.2 _ (by omega)]; unfold opB
    rw [if_neg (by omega), show 2 * lo / 2 = lo by omega]
  have hmod : 0 < (lo + 1) % w ↔ lo % w + 1 < w := by
    have := mod_succ (p := lo) hw
    have := Nat.mod_lt lo hw
    by_cases z : lo % w + 1 = w
    · rw [if_pos z] at *; omega
    · rw [if_neg z] at *; omega
  have down : hi' = lo + w → ¬(hi' = lo + 1 ∧ lo % w + 1 < w) → (sbF (nI w) op (nI lo) (nI (hi' - lo)) = if hasF op (nI (2 * lo)) = true then nI (2 * lo) else -1) := by
    intro h1 h2
    unfold sbF
    rw [e1, e0]
    by_cases z : nI (hi' - lo) = 1
    · have z' := a1.mp z
      have c1 : ¬hasF op (nI (2 * lo + 1)) = true := by
        rw [o1, decide_eq_false (fun q => h2 ⟨z', q⟩), Bool.and_false, Bool.false_and]; decide
      rw [if_pos z, if_neg c1, if_pos (aw'.mpr h1)]
    · rw [if_neg z, if_pos (aw'.mpr h1)]
  by_cases hr : hi' = lo + 1 ∧ lo % w + 1 < w
  · have hsb : sbF (nI w) op (nI lo) (nI (hi' - lo)) = if hasF op (nI (2 * lo + 1)) = true then nI (2 * lo + 1) else -1 := by
      unfold sbF
      rw [e1, e0, if_pos (a1.mpr hr.1)]
      by_cases y : hasF op (nI (2 * lo + 1)) = true
      · rw [if_pos y, if_pos y]
      · rw [if_neg y, if_neg y, if_neg (fun q => by have := aw'.mp q; omega)]
    have hm : (decide (hi' = lo + 1) && decide (0 < hi' % w)) = true := by
      rw [decide_eq_true hr.1, Bool.true_and, hr.1]; exact decide_eq_true (hmod.mpr hr.2)
    rw [hm, Bool.true_or, Bool.and_true, if_pos rfl, hsb, o1, decide_eq_true hr.2, Bool.and_true, ← hr.1]
    by_cases y : (plB (w * h) ho lo && plB (w * h) ho hi') = true
    · right
      refine ⟨2 * lo + 1, by omega, by omega, by rw [if_pos y], ?_, y, ?_⟩
      · have := o1
        rw [hasF_gB (by omega), decide_eq_true hr.2, Bool.and_true, ← hr.1] at this
        rw [this]; exact y
      · rw [if_pos (by omega)]; omega
    · left
      rw [if_neg y]; rw [Bool.not_eq_true] at y; exact ⟨rfl, y⟩
  · have hm : (decide (hi' = lo + 1) && decide (0 < hi' % w)) = false := by
      by_cases q : hi' = lo + 1
      · rw [decide_eq_true q, Bool.true_and, q]; exact decide_eq_false (fun u => hr ⟨q, hmod.mp u⟩)
      · rw [decide_eq_false q, Bool.false_and]
    rw [hm, Bool.false_or, if_neg (by decide)]
    by_cases hd : hi' = lo + w
    · rw [down hd hr, o0, decide_eq_true hd, Bool.and_true, ← hd]
      by_cases y : (plB (w * h) ho lo && plB (w * h) ho hi') = true
      · right
        refine ⟨2 * lo, by omega, by omega, by rw [if_pos y], ?_, y, ?_⟩
        · have := o0
          rw [hasF_gB (by omega), ← hd] at this
          rw [this]; exact y
        · rw [if_neg (by omega)]; omega
      · left
        rw [if_neg y]; rw [Bool.not_eq_true] at y; exact ⟨rfl, y⟩
    · left
      rw [decide_eq_false hd, Bool.and_false]
      refine ⟨?_, rfl⟩
      unfold sbF
      rw [e1, e0]
      by_cases z : nI (hi' - lo) = 1
      · have z' := a1.mp z
        rw [if_pos z, if_neg (show ¬hasF op (nI (2 * lo + 1)) = true by
          rw [o1, decide_eq_false (fun q => hr ⟨z', q⟩), Bool.and_false, Bool.false_and]; decide), if_neg (fun q => hd (aw'.mp q))]
      · rw [if_neg z, if_neg (fun q => hd (aw'.mp q))]
theorem edge_J {w h : Nat} {ho : Int32} {op gone : Int64} {hb aw : Nat → Bool} {a b : Int32} {on : Bool} (j : JG w h ho op gone hb aw) : edgeOK (nI w) (w * h) op gone a b on = mEdgeOK w (w * h) hb aw a b on ∧ (edgeOK (nI w) (w * h) op gone a b on = true → JG w h ho op (goneF (nI w) (w * h) op gone a b) hb (upB aw (mAt w a.toNatClampNeg b.toNatClampNeg) (!on))) := by
  have hP := j.1.P
  have hw5 := j.1.1.2
  by_cases ia : mPlace (w * h) a = true
  · by_cases ib : mPlace (w * h) b = true
    · obtain ⟨i, hi, rfl⟩ := mPlace_nI (by omega) ia
      obtain ⟨k, hk, rfl⟩ := mPlace_nI (by omega) ib
      have hsl : edgeS (nI w) (w * h) op (nI i) (nI k) = sbF (nI w) op (nI (mLo i k)) (nI (mHi i k - mLo i k)) := by
        unfold edgeS slotBetweenF
        rw [show insideF (nI (w * h)) (nI i) = mPlace (w * h) (nI i) from rfl, ia, if_pos rfl, show insideF (nI (w * h)) (nI k) = mPlace (w * h) (nI k) from rfl, ib, if_pos rfl]
        have c1 : (if nI k < nI i then nI k else nI i) = nI (mLo i k) := by
          unfold mLo
          by_cases z : i < k
          · rw [if_pos z, if_neg (nI_nlt (by omega) (by omega))]
          · rw [if_neg z]
            by_cases y : k < i
            · rw [if_pos (nI_lt y (by omega))]
            · rw [if_neg (nI_nlt (by omega) (by omega)), show i = k by omega]
        have c2 : (if nI i < nI k then nI k else nI i) = nI (mHi i k) := by
          unfold mHi
          by_cases z : i < k
          · rw [if_pos z, if_pos (nI_lt z (by omega))]
          · rw [if_neg z, if_neg (nI_nlt (by omega) (by omega))]
        have hle : mLo i k ≤ mHi i k := by unfold mLo mHi; by_cases z : i < k; (rw [if_pos z, if_pos z]; omega); (rw [if_neg z, if_neg z]; omega)
        rw [c1, c2, pk_sub hle]
      have hM : mEdgeOK w (w * h) hb aw (nI i) (nI k) on = ((!hb i && !hb k && (mRt w i k || decide (mHi i k = mLo i k + w))) && decide (aw (mAt w i k) = on)) := by
        unfold mEdgeOK
        rw [ia, ib, nI_clamp (by omega), nI_clamp (by omega), Bool.true_and, Bool.true_and]
      rw [nI_clamp (show i < 2 ^ 31 by omega), nI_clamp (show k < 2 ^ 31 by omega), hM]
      unfold edgeOK goneF
      rw [hsl]
      rcases slot_J j hi hk with ⟨h1, h2⟩ | ⟨s, s50, sP, h1, h2, h3, h4⟩
      · rw [h1, h2, decide_eq_true rfl, Bool.not_true, Bool.false_and, Bool.false_and]
        exact ⟨rfl, fun q => absurd q (by decide)⟩
      · have haws := j.2.2 s sP h2
        have hat : aw (mAt w i k) = gB gone s := by
          rw [haws, h4]; unfold awS
          by_cases z : s % 2 = 1
          · rw [if_pos z, if_pos z]
          · rw [if_neg z, if_neg z]
        rw [h1, h3, decide_eq_false (nI_n1 (by omega)), Bool.not_false, Bool.true_and, Bool.true_and, hasF_gB (by omega), hat]
        refine ⟨rfl, fun q => ⟨j.1, j.2.1, fun t ht hop => ?_⟩⟩
        have q' : gB gone s = on := of_decide_eq_true q
        rw [gB_xor, gB_1k _ s50 _ (by have := hP; omega), j.2.2 t ht hop]
        unfold awS upB
        rw [h4]
        have hts : ∀ x y : Nat, (if x % 2 = 1 then 2 * (x / 2) else 2 * (x / 2) + 1) = (if y % 2 = 1 then 2 * (y / 2) else 2 * (y / 2) + 1) → x = y := by
          intro x y hxy
          by_cases c1 : x % 2 = 1 <;> by_cases c2 : y % 2 = 1
          · rw [if_pos c1, if_pos c2] at hxy; omega
          · rw [if_pos c1, if_neg c2] at hxy; omega
          · rw [if_neg c1, if_pos c2] at hxy; omega
          · rw [if_neg c1, if_neg c2] at hxy; omega
        by_cases e : t = s
        · subst e
          rw [decide_eq_true rfl, Bool.xor_true]
          unfold awS at haws
          by_cases z : t % 2 = 1
          · rw [if_pos z, if_pos z, if_pos z, if_pos rfl]
            rw [if_pos z, q'] at haws; rw [← haws]
          · rw [if_neg z, if_neg z, if_neg z, if_pos rfl]
            rw [if_neg z, q'] at haws; rw [← haws]
        · rw [decide_eq_false e, Bool.xor_false]
          by_cases z : t % 2 = 1
          · rw [if_pos z, if_pos z, if_neg (fun u => e (hts t s (by rw [if_pos z]; exact u)))]
          · rw [if_neg z, if_neg z, if_neg (fun u => e (hts t s (by rw [if_neg z]; exact u)))]
    · have e1 : edgeS (nI w) (w * h) op a b = -1 := by
        unfold edgeS slotBetweenF
        rw [show insideF (nI (w * h)) b = mPlace (w * h) b from rfl, if_neg ib]
        by_cases z : insideF (nI (w * h)) a = true
        · rw [if_pos z]
        · rw [if_neg z]
      unfold edgeOK mEdgeOK
      rw [e1, decide_eq_true rfl, Bool.not_true, Bool.false_and]
      rw [Bool.not_eq_true] at ib
      rw [ib, Bool.and_false, Bool.false_and, Bool.false_and, Bool.false_and, Bool.false_and]
      exact ⟨rfl, fun q => absurd q (by decide)⟩
  · have e1 : edgeS (nI w) (w * h) op a b = -1 := by
      unfold edgeS slotBetweenF
      rw [show insideF (nI (w * h)) a = mPlace (w * h) a from rfl, if_neg ia]
    unfold edgeOK mEdgeOK
    rw [e1, decide_eq_true rfl, Bool.not_true, Bool.false_and]
    rw [Bool.not_eq_true] at ia
    rw [ia, Bool.false_and, Bool.false_and, Bool.false_and, Bool.false_and, Bool.false_and]
    exact ⟨rfl, fun q => absurd q (by decide)⟩
