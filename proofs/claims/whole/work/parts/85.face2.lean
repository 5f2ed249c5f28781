/-! CLASS AND REFERENCE: the answers that need no counting, and the numbers -/
theorem isE_mP {n m : Nat} {e : Int32} (h : n ≤ m) (hm : m < 2 ^ 31) : isEdgeF n m e = mPlace n e := by
  unfold isEdgeF mPlace
  rcases pk_ix e (n := n) (by omega) with z | z | ⟨j, hj, rfl⟩
  · simp only [decide_eq_true z, Bool.not_true, Bool.false_and]
  · simp only [decide_eq_true z, Bool.not_true, Bool.and_false, Bool.false_and]
  · rw [decide_eq_false (fun q => absurd ((nI_leI hm (by omega)).mp q) (by omega)), Bool.not_false, Bool.and_true]
theorem ends_J (P : Nat) (a b : Int32) : endsOK P a b = mEndsOK P a b := rfl
theorem end_J {w h : Nat} {ho : Int32} {op gone : Int64} {e : Int32} {other : Bool} (g : GrB w h ho op) : endF (SL (efB op gone) (w * h)) (w * h) (nI w) e other = mEndF (elG w (w * h) op gone) e other := by
  have hP := g.P
  have hw5 := g.1.2
  have hl := SL_len (efB op gone) (w * h)
  have hll : (elG w (w * h) op gone).length = (SL (efB op gone) (w * h)).length := List.length_map _
  unfold endF mEndF
  rw [isE_mP hl (by omega), hll]
  by_cases z : mPlace (SL (efB op gone) (w * h)).length e = true
  · rw [if_pos z, if_pos z]
    obtain ⟨j, hj, rfl⟩ := mPlace_nI (by omega) z
    have hs := List.getElem?_eq_getElem hj
    have hel : (elG w (w * h) op gone)[j]? = some (enS w ((SL (efB op gone) (w * h))[j])) := by rw [List.getElem?_map, hs]; rfl
    rw [nI_clamp (by omega), hel, slotAt_nI (by omega) hs]
    have hm := mem_SL.mp (List.getElem_mem hj)
    generalize (SL (efB op gone) (w * h))[j] = s at hm
    have hsh : nI s >>> ((1 : Int32) &&& 31) = nI (s / 2) := by
      rw [pk_shrN (show s < 2 ^ 31 by omega) _ 1 (by decide)]
    dsimp only
    cases other
    · rw [if_neg (by decide), if_neg (by decide), hsh]; rfl
    · rw [if_pos rfl, if_pos rfl]
      unfold farEndF enS
      rw [hsh]
      dsimp only
      have e1 : (2 : Int32) * nI (s / 2) + 1 = nI (2 * (s / 2) + 1) := by rw [show (2 : Int32) = nI 2 from rfl, pk_mul]; exact nI_add _ 1
      rw [e1]
      by_cases y : s % 2 = 1
      · rw [if_pos y, if_pos ((nI_eq (by omega) (by omega)).mpr (by omega))]; exact nI_add _ 1
      · rw [if_neg y, if_neg (fun q => y (by have := (nI_eq (by omega) (by omega)).mp q; omega))]; exact nI_add _ _
  · rw [if_neg z, if_neg z]
theorem gB_m1 {i : Nat} (h : i < 64) : gB (-1) i = true := by
  unfold gB
  rw [show (-1 : Int64).toBitVec = BitVec.allOnes 64 from by decide]
  exact BitVec.getLsbD_allOnes ▸ decide_eq_true h
theorem force_J {w h : Nat} {ho : Int32} {op gone tin tout : Int64} {fto : Nat → Int32} {e how : Int32} (g : GrB w h ho op) (hT : ToldR (SL (efB op gone) (w * h)) tin tout fto) (h012 : F012 (elG w (w * h) op gone).length fto) : forceOK (SL (efB op gone) (w * h)) (w * h) e how = mForceOK (elG w (w * h) op gone).length e how ∧ (forceOK (SL (efB op gone) (w * h)) (w * h) e how = true → ToldR (SL (efB op gone) (w * h)) (tinF tin (slotAt (SL (efB op gone) (w * h)) e) how) (toutF tout (slotAt (SL (efB op gone) (w * h)) e) how) (upd fto e.toNatClampNeg how) ∧ F012 (elG w (w * h) op gone).length (upd fto e.toNatClampNeg how)) := by
  have hP := g.P
  have hl := SL_len (efB op gone) (w * h)
  have hll : (elG w (w * h) op gone).length = (SL (efB op gone) (w * h)).length := List.length_map _
  have h1 : forceOK (SL (efB op gone) (w * h)) (w * h) e how = mForceOK (elG w (w * h) op gone).length e how := by
    unfold forceOK mForceOK
    rw [isE_mP hl (by omega), hll]
  refine ⟨h1, fun hok => ?_⟩
  rw [h1] at hok
  unfold mForceOK at hok
  rw [Bool.and_eq_true, Bool.and_eq_true, Bool.not_eq_true', decide_eq_false_iff_not, decide_eq_true_iff, hll] at hok
  obtain ⟨j, hj, rfl⟩ := mPlace_nI (by omega) hok.1.1
  obtain ⟨k, hk2, rfl⟩ := nI_of2 (M := 2) (n := 2) (by decide) hok.1.2 hok.2
  have hs := List.getElem?_eq_getElem hj
  rw [nI_clamp (by omega), slotAt_nI (by omega) hs]
  have hm := mem_SL.mp (List.getElem_mem hj)
  have hmm := List.getElem_mem hj
  generalize hsj : (SL (efB op gone) (w * h))[j] = s at hm hs hmm
  have hs64 : s < 64 := by omega
  have bt : ∀ t, gB (bitL s) t = decide (t = s) := fun t => gB_bitL hs64
  have htin : ∀ t, t < 64 → gB (tinF tin s (nI k)) t = if t = s then decide (k = 1) else gB tin t := fun t ht => by
    unfold tinF
    have hk1 : (nI k = 1) ↔ k = 1 := by rw [show (1 : Int32) = nI 1 from rfl, nI_eq (by omega) (by omega)]
    by_cases z : k = 1
    · rw [if_pos (hk1.mpr z), gB_or, bt]
      by_cases y : t = s
      · rw [if_pos y, decide_eq_true y, Bool.or_true, decide_eq_true z]
      · rw [if_neg y, decide_eq_false y, Bool.or_false]
    · rw [if_neg (fun q => z (hk1.mp q)), gB_and, gB_xor, bt, gB_m1 ht]
      by_cases y : t = s
      · rw [if_pos y, decide_eq_true y, Bool.true_xor, Bool.not_true, Bool.and_false, decide_eq_false z]
      · rw [if_neg y, decide_eq_false y, Bool.false_xor, Bool.and_true]
  have htout : ∀ t, t < 64 → gB (toutF tout s (nI k)) t = if t = s then decide (k = 2) else gB tout t := fun t ht => by
    unfold toutF
    have hk1 : (nI k = 2) ↔ k = 2 := by rw [show (2 : Int32) = nI 2 from rfl, nI_eq (by omega) (by omega)]
    by_cases z : k = 2
    · rw [if_pos (hk1.mpr z), gB_or, bt]
      by_cases y : t = s
      · rw [if_pos y, decide_eq_true y, Bool.or_true, decide_eq_true z]
      · rw [if_neg y, decide_eq_false y, Bool.or_false]
    · rw [if_neg (fun q => z (hk1.mp q)), gB_and, gB_xor, bt, gB_m1 ht]
      by_cases y : t = s
      · rw [if_pos y, decide_eq_true y, Bool.true_xor, Bool.not_true, Bool.and_false, decide_eq_false z]
      · rw [if_neg y, decide_eq_false y, Bool.false_xor, Bool.and_true]
  refine ⟨⟨fun i t hi => ?_, fun t ht hq => ?_⟩, fun i hi => ?_⟩
  · have hmt := mem_SL.mp (List.mem_of_getElem? hi)
    rw [htin t (by omega), htout t (by omega)]
    by_cases z : i = j
    · subst z
      rw [hs] at hi
      have : s = t := Option.some.inj hi
      rw [if_pos this.symm, if_pos this.symm, upd_s]
      constructor
      · congr 1
        rw [show (1 : Int32) = nI 1 from rfl, nI_eq (by omega) (by omega)]
      · congr 1
        rw [show (2 : Int32) = nI 2 from rfl, nI_eq (by omega) (by omega)]
    · have hts : t ≠ s := fun q => z (SL_inj hi (by rw [q]; exact hs))
      rw [if_neg hts, if_neg hts, upd_n z]
      exact hT.1 i t hi
  · rw [htin t ht] at hq
    by_cases z : t = s
    · rw [z]; exact hmm
    · rw [if_neg z] at hq; exact hT.2 t ht hq
  · by_cases z : i = j
    · rw [z, upd_s]
      rcases (by omega : k = 0 ∨ k = 1 ∨ k = 2) with u | u | u <;> rw [u]
      · exact Or.inl rfl
      · exact Or.inr (Or.inl rfl)
      · exact Or.inr (Or.inr rfl)
    · rw [upd_n z]; exact h012 i hi
/-- what was drawn, by class and reference -/
def JD (sl : List Nat) (dw dr : Int64) (drn : Bool) (wyv rkv : Int64) : Prop := (drn = false ∧ dr = -1) ∨ (drn = true ∧ rkv = dr ∧ lg_cmp dr (-1) ≠ 0 ∧ ∀ (e s : Nat), sl[e]? = some s → gB dw s = gB wyv e)
theorem rank_J {sl : List Nat} {dw dr : Int64} {drn : Bool} {wyv rkv : Int64} (h : JD sl dw dr drn wyv rkv) : mRank drn rkv = dr := by
  unfold mRank
  rcases h with ⟨h1, h2⟩ | ⟨h1, h2, _⟩
  · rw [h1, if_neg (by decide), h2]
  · rw [h1, if_pos rfl, h2]
theorem drawn_J {w h : Nat} {ho : Int32} {op gone : Int64} {dw dr : Int64} {drn : Bool} {wyv rkv : Int64} {e : Int32} (g : GrB w h ho op) (hd : JD (SL (efB op gone) (w * h)) dw dr drn wyv rkv) : drawnF (SL (efB op gone) (w * h)) (w * h) dw dr e = mDrawn drn (elG w (w * h) op gone).length wyv e := by
  have hP := g.P
  have hl := SL_len (efB op gone) (w * h)
  have h40 := g.len (gone := gone)
  have hll : (elG w (w * h) op gone).length = (SL (efB op gone) (w * h)).length := List.length_map _
  unfold drawnF mDrawn
  rw [isE_mP hl (by omega), hll]
  rcases hd with ⟨h1, h2⟩ | ⟨h1, _, h3, h4⟩
  · rw [h1, h2, if_pos (by decide), Bool.false_and, Bool.false_and]
  · rw [h1, if_neg h3, Bool.true_and]
    by_cases z : mPlace (SL (efB op gone) (w * h)).length e = true
    · rw [if_pos z, z, Bool.true_and]
      obtain ⟨j, hj, rfl⟩ := mPlace_nI (by omega) z
      have hs := List.getElem?_eq_getElem hj
      have hm := mem_SL.mp (List.getElem_mem hj)
      rw [slotAt_nI (by omega) hs, mBit_gB (by omega), hasF_gB (by omega)]
      exact h4 j _ hs
    · rw [if_neg z]
      rw [Bool.not_eq_true] at z
      rw [z, Bool.false_and]
theorem held_J (v : Int32) (lo hi : Int32) (h : (lo = 0 ∧ hi = 4) ∨ (lo = 1 ∧ hi = 5)) : heldF v lo hi = mheldF v lo hi := by
  unfold heldF mheldF
  rcases h with ⟨rfl, rfl⟩ | ⟨rfl, rfl⟩
  · by_cases a : v < 4
    · rw [if_pos a]
      by_cases b : (0 : Int32) < v
      · rw [if_pos b, if_pos (Int32.le_of_lt b), if_pos (Int32.le_of_lt a)]
      · rw [if_neg b]
        by_cases c : (0 : Int32) ≤ v
        · rw [if_pos c, if_pos (Int32.le_of_lt a)]
          exact Int32.le_antisymm c (Int32.not_lt.mp b)
        · rw [if_neg c]
    · rw [if_neg a, if_pos (by decide)]
      have h4 : (4 : Int32) ≤ v := Int32.not_lt.mp a
      rw [if_pos (Int32.le_trans (by decide) h4)]
      by_cases c : v ≤ 4
      · rw [if_pos c]; exact Int32.le_antisymm h4 c
      · rw [if_neg c]
  · by_cases a : v < 5
    · rw [if_pos a]
      by_cases b : (1 : Int32) < v
      · rw [if_pos b, if_pos (Int32.le_of_lt b), if_pos (Int32.le_of_lt a)]
      · rw [if_neg b]
        by_cases c : (1 : Int32) ≤ v
        · rw [if_pos c, if_pos (Int32.le_of_lt a)]
          exact Int32.le_antisymm c (Int32.not_lt.mp b)
        · rw [if_neg c]
    · rw [if_neg a, if_pos (by decide)]
      have h4 : (5 : Int32) ≤ v := Int32.not_lt.mp a
      rw [if_pos (Int32.le_trans (by decide) h4)]
      by_cases c : v ≤ 5
      · rw [if_pos c]; exact Int32.le_antisymm h4 c
      · rw [if_neg c]
/-- digits -/
theorem digR_big : ∀ {j n : Nat}, n < 10 ^ (j + 1) → digR (j + 1) n = -1
  | 0, n, h => by
    show (if n / 10 = 0 then (-1 : Int32) else _) = -1
    rw [if_pos (by rw [Nat.zero_add, Nat.pow_one] at h; omega)]
  | j + 1, n, h => by
    show (if n / 10 = 0 then (-1 : Int32) else digR (j + 1) (n / 10)) = -1
    by_cases z : n / 10 = 0
    · rw [if_pos z]
    · rw [if_neg z]
      exact digR_big (by rw [Nat.pow_succ] at h; omega)
theorem ldiv_N10 {n : Nat} (hn : n < 2 ^ 63) : lN n / 10 = lN (n / 10) := pk_lDiv (a := n) (b := 10) hn (by decide) (by decide)
theorem dgF_s {i : Int32} {f a n : Nat} (hn : n < 2 ^ 62) : dgF i (f + 1) a (lN n) = if nI a = i then nI (n % 10) else if n / 10 = 0 then -1 else dgF i f (a + 1) (lN (n / 10)) := by
  show (if nI a = i then (lN n - lN n / 10 * 10).toInt32 else if lg_cmp (lN n / 10) 0 = 0 then -1 else dgF i f (a + 1) (lN n / 10)) = _
  have e1 : lN n - lN n / 10 * 10 = lN (n % 10) := lrem_N (a := n) (b := 10) (by omega) (by decide) (by decide) rfl rfl
  have e2 : lN n / 10 = lN (n / 10) := ldiv_N10 (by omega)
  rw [e1, lN_i, e2]
  have e3 : (lg_cmp (lN (n / 10)) 0 = 0) ↔ n / 10 = 0 := by
    rw [show (0 : Int64) = lN 0 from rfl, lg_lN (by omega) (by decide)]
    by_cases z : n / 10 = 0
    · rw [z]; decide
    · rw [if_pos (by omega)]; exact ⟨fun q => absurd q (by decide), fun q => absurd q z⟩
  by_cases y : nI a = i
  · rw [if_pos y, if_pos y]
  · rw [if_neg y, if_neg y]
    by_cases z : n / 10 = 0
    · rw [if_pos (e3.mpr z), if_pos z]
    · rw [if_neg (fun q => z (e3.mp q)), if_neg z]
theorem dgF_no {i : Int32} (h : ∀ a, a < 19 → nI a ≠ i) : ∀ (f a n : Nat), a + f ≤ 19 → n < 2 ^ 62 → dgF i f a (lN n) = -1
  | 0, a, n, _, _ => rfl
  | f + 1, a, n, haf, hn => by
    rw [dgF_s hn, if_neg (h a (by omega))]
    by_cases z : n / 10 = 0
    · rw [if_pos z]
    · rw [if_neg z]; exact dgF_no h f (a + 1) (n / 10) (by omega) (by omega)
theorem dgF_k {k : Nat} (hk : k < 19) : ∀ (f a n : Nat), a + f = 19 → a ≤ k → n < 2 ^ 62 → dgF (nI k) f a (lN n) = digR (k - a) n
  | 0, a, n, haf, hak, _ => by omega
  | f + 1, a, n, haf, hak, hn => by
    rw [dgF_s hn]
    by_cases z : a = k
    · rw [if_pos (by rw [z]), z, Nat.sub_self]; rfl
    · rw [if_neg (fun q => z ((nI_eq (by omega) (by omega)).mp q)), show k - a = (k - (a + 1)) + 1 by omega]
      show _ = (if n / 10 = 0 then (-1 : Int32) else digR (k - (a + 1)) (n / 10))
      by_cases y : n / 10 = 0
      · rw [if_pos y, if_pos y]
      · rw [if_neg y, if_neg y]; exact dgF_k hk f (a + 1) (n / 10) (by omega) (by omega) (by omega)
theorem digit_J {i : Int32} {n : Nat} (hn : n < 2 ^ 62) : digitF i (lN n) = mDig n i := by
  unfold digitF mDig
  by_cases z : i < 0
  · rw [if_pos z]
    exact dgF_no (fun a ha q => by rw [← q] at z; exact nI_pos (by omega) z) 19 0 n (by omega) hn
  · rw [if_neg z]
    obtain ⟨k, hk, rfl⟩ := nI_of z
    rw [nI_clamp hk]
    by_cases y : k < 19
    · exact dgF_k y 19 0 n (by omega) (Nat.zero_le _) hn
    · rw [dgF_no (fun a ha q => by have := (nI_eq (show a < 2 ^ 31 by omega) hk).mp q; omega) 19 0 n (by omega) hn]
      obtain ⟨j, rfl⟩ : ∃ j, k = j + 1 := ⟨k - 1, by omega⟩
      refine (digR_big ?_).symm
      refine Nat.lt_of_lt_of_le (Nat.lt_of_lt_of_le hn (show 2 ^ 62 ≤ 10 ^ 19 by decide)) (Nat.pow_le_pow_right (by decide) (by omega))
