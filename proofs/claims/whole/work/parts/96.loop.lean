/-! THE LAW: the loop -/
set_option maxHeartbeats 4000000 in
set_option maxRecDepth 100000 in
theorem law_loop {κ : eT} {l : Launch} {D : va_G} {cI cJ cZ : ClassId} {b L x mm w h k n : Nat} {kd : Int32} {xs : Nat → Int32} (C : Cb κ c_LW_law 4 "FrontierCountsLaw" bigW room_1 l D vwCl (tyL cI cJ cZ) nwW) (X : Xk κ b L xs) (hL : L ≤ 2051) (hk : k ≤ 599000) (hn : n ≤ 7302000) (hEnd : ∀ lv ws, E κ lv [] ws k n 473) : ∀ (f i : Nat) (ws : va_W), L + 1 ≤ i + f → i ≤ 2051 + 4 → LwI cI cJ cZ kd w h x mm ws → E κ (lu_o [(0, .ref b), (1, .ref x), (2, .ref mm), (3, .int (nI i))]) [] ws k n 48
  | f, i, ws, hf, hi, hI => by
    refine e_iload_n C d_LW_law_48 rfl rfl ?_
    refine e_aload_n C d_LW_law_49 rfl rfl ?_
    refine e_slen C X d_LW_law_50 ?_
    refine e_iconst (v := nI 4) C d_LW_law_51 rfl ?_
    refine e_isub C d_LW_law_52 ?_
    refine e_icmp_gt (tgt := 473) C d_LW_law_53 (by decide) (fun _ => hEnd _ _) (fun hng => ?_)
    have hi4 : i + 4 ≤ L := by
      rcases Nat.lt_or_ge L 4 with q | q
      · exact absurd (Int32.lt_of_lt_of_le (pk_sneg (by decide) q) (nI_pos' (by omega))) hng
      · rw [pk_sub q] at hng
        rcases Nat.lt_or_ge L (i + 4) with u | u
        · exact absurd (nI_lt (show L - 4 < i by omega) (by omega)) hng
        · exact u
    match f, hf with
    | 0, hf => exact absurd hf (by omega)
    | f + 1, hf =>
      have back : ∀ ws, LwI cI cJ cZ kd w h x mm ws → E κ (lu_o [(0, .ref b), (1, .ref x), (2, .ref mm), (3, .int (nI i))]) [] ws k n 467 := fun ws hI2 => by
        refine e_iinc (x := nI i) (v := nI (i + 4)) C d_LW_law_467 rfl (nI_add i 4) (by decide) ?_
        refine e_goto (tgt := 48) C d_LW_law_470 (by decide) ?_
        refine e_lv [(0, .ref b), (1, .ref x), (2, .ref mm), (3, .int (nI (i + 4)))] ⟨rfl, rfl, rfl, rfl, trivial⟩ ?_
        exact law_loop C X hL hk hn hEnd f (i + 4) ws (by omega) (by omega) hI2
      refine e_aload_n C d_LW_law_56 rfl rfl ?_
      refine e_iload_n C d_LW_law_57 rfl rfl ?_
      refine e_sld C X (vp_in_nI (show i < L by omega) (by omega)) d_LW_law_58 ?_
      refine e_bipush (v := 15) C d_LW_law_59 rfl ?_
      refine e_iand C d_LW_law_61 ?_
      obtain ⟨j, hj, he⟩ := pk_andE (xs (nI i).toNatClampNeg) (m := 15) 4 (by decide)
      rw [he]
      have hjI : (nI j).toInt = (j : Int) := nI_toInt (by omega)
      by_cases z : j ≤ 10
      · rcases (by omega : j = 0 ∨ j = 1 ∨ j = 2 ∨ j = 3 ∨ j = 4 ∨ j = 5 ∨ j = 6 ∨ j = 7 ∨ j = 8 ∨ j = 9 ∨ j = 10) with y | y | y | y | y | y | y | y | y | y | y <;> subst y
        · exact e_tabIn (tgt := 120) C d_LW_law_62 (by decide) (by decide) rfl (by decide) (L_hole C X hL hi4 hk hn hI back)
        · exact e_tabIn (tgt := 153) C d_LW_law_62 (by decide) (by decide) rfl (by decide) (L_edge C X hL hi4 hk hn hI back)
        · exact e_tabIn (tgt := 212) C d_LW_law_62 (by decide) (by decide) rfl (by decide) (L_ends C X hL hi4 hk hn hI back)
        · exact e_tabIn (tgt := 245) C d_LW_law_62 (by decide) (by decide) rfl (by decide) (L_edges C X hL hi4 hk hn hI back)
        · exact e_tabIn (tgt := 258) C d_LW_law_62 (by decide) (by decide) rfl (by decide) (L_end C X hL hi4 hk hn hI back)
        · exact e_tabIn (tgt := 307) C d_LW_law_62 (by decide) (by decide) rfl (by decide) (L_force C X hL hi4 hk hn hI back)
        · exact e_tabIn (tgt := 340) C d_LW_law_62 (by decide) (by decide) rfl (by decide) (L_count C X hL hi4 hk hn hI back)
        · exact e_tabIn (tgt := 354) C d_LW_law_62 (by decide) (by decide) rfl (by decide) (L_digit C X hL hi4 hk hn hI back)
        · exact e_tabIn (tgt := 377) C d_LW_law_62 (by decide) (by decide) rfl (by decide) (L_draw C X hL hi4 hk hn hI back)
        · exact e_tabIn (tgt := 430) C d_LW_law_62 (by decide) (by decide) rfl (by decide) (L_drawn C X hL hi4 hk hn hI back)
        · exact e_tabIn (tgt := 453) C d_LW_law_62 (by decide) (by decide) rfl (by decide) (L_rank C X hL hi4 hk hn hI back)
      · exact e_tabOut (tgt := 467) C d_LW_law_62 (by rw [hjI]; omega) (by decide) (back ws hI)
