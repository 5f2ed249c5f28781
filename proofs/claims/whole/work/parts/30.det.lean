/-! THE REFERENCE'S determinant -/
def SqR (M : Nat → Nat → Nat) (f : Nat → Int64) : Prop := ∀ i k, i < 25 → k < 25 → f (25 * i + k) = lN (M i k)
def upM (M : Nat → Nat → Nat) (i k v : Nat) : Nat → Nat → Nat := fun a b => if a = i ∧ b = k then v else M a b
theorem SqR_upd {M : Nat → Nat → Nat} {f : Nat → Int64} {i k v : Nat} (h : SqR M f) (hk : k < 25) : SqR (upM M i k v) (vp_updL f (25 * i + k) (lN v)) := by
  intro a b ha hb
  unfold upM
  by_cases z : a = i ∧ b = k
  · rw [if_pos z, z.1, z.2, pk_uLs]
  · rw [if_neg z, pk_uLn (by omega)]
    exact h a b ha hb
theorem SqR_congr {M N : Nat → Nat → Nat} {f : Nat → Int64} (h : SqR M f) (he : ∀ a b, a < 25 → b < 25 → M a b = N a b) : SqR N f := fun a b ha hb => by rw [← he a b ha hb]; exact h a b ha hb
def pvF (M : Nat → Nat → Nat) (c : Nat) : Nat → Nat → Nat
  | 0, r => r
  | k + 1, r => if M r c = 0 then pvF M c k (r + 1) else r
def swM (M : Nat → Nat → Nat) (r c : Nat) : Nat → Nat → Nat := fun a b => if a = c then M r b else if a = r then M c b else M a b
def elM (M : Nat → Nat → Nat) (c inv : Nat) : Nat → Nat → Nat := fun a b => if c < a ∧ c ≤ b then (M a b + (2147483647 - M a c * inv % 2147483647) * M c b) % 2147483647 else M a b
def invF (x : Nat) : Nat := pwF 2147483645 1 x 2147483645
def gaussF : Nat → Nat → Nat → (Nat → Nat → Nat) → Nat
  | 0, _, pr, _ => pr % 2147483647
  | k + 1, c, pr, M => if pvF M c (k + 1) c = 25 then 0 else gaussF k (c + 1) ((if pvF M c (k + 1) c = c then pr else 2147483647 - pr) * swM M (pvF M c (k + 1) c) c c c % 2147483647) (elM (swM M (pvF M c (k + 1) c) c) c (invF (swM M (pvF M c (k + 1) c) c c c)))
theorem swM_lt {M : Nat → Nat → Nat} {r c : Nat} (h : ∀ a b, M a b < 2147483647) : ∀ a b, swM M r c a b < 2147483647 := by
  intro a b
  unfold swM
  by_cases z : a = c
  · rw [if_pos z]; exact h _ _
  · rw [if_neg z]
    by_cases y : a = r
    · rw [if_pos y]; exact h _ _
    · rw [if_neg y]; exact h _ _
theorem elM_lt {M : Nat → Nat → Nat} {c inv : Nat} (h : ∀ a b, M a b < 2147483647) : ∀ a b, elM M c inv a b < 2147483647 := by
  intro a b
  unfold elM
  by_cases z : c < a ∧ c ≤ b
  · rw [if_pos z]; exact Nat.mod_lt _ (by decide)
  · rw [if_neg z]; exact h _ _
theorem swM_self {M : Nat → Nat → Nat} {c : Nat} (a b : Nat) : swM M c c a b = M a b := by
  unfold swM
  by_cases z : a = c
  · rw [if_pos z, z]
  · rw [if_neg z, if_neg z]
theorem mul_lt63 {a b : Nat} (ha : a ≤ 2147483647) (hb : b < 2147483647) : a * b < 2 ^ 62 := Nat.lt_of_le_of_lt (Nat.mul_le_mul ha (Nat.le_of_lt hb)) (by decide)
theorem pwF_lt : ∀ (f r b n : Nat), r < 2147483647 → pwF f r b n < 2147483647
  | 0, r, b, n, h => h
  | f + 1, r, b, n, h => by
    unfold pwF
    by_cases z : n = 0
    · rw [if_pos z]; exact h
    · rw [if_neg z]
      by_cases y : n % 2 = 1
      · rw [if_pos y]; exact pwF_lt f _ _ _ (Nat.mod_lt _ (by decide))
      · rw [if_neg y]; exact pwF_lt f _ _ _ h
theorem elM_0 {M : Nat → Nat → Nat} {c inv a b : Nat} (h : ∀ a b, M a b < 2147483647) (hz : M a c * inv % 2147483647 = 0) : elM M c inv a b = M a b := by
  unfold elM
  by_cases z : c < a ∧ c ≤ b
  · rw [if_pos z, hz, Nat.sub_zero, Nat.add_mul_mod_self_left, Nat.mod_eq_of_lt (h a b)]
  · rw [if_neg z]
theorem cond_lt {P : Prop} [Decidable P] {A B : Nat} {k : Nat} (hA : A < k) (hB : B < k) : (if P then A else B) < k := by
  by_cases z : P
  · rw [if_pos z]; exact hA
  · rw [if_neg z]; exact hB
set_option maxHeartbeats 4000000 in
set_option maxRecDepth 100000 in
theorem M_MD_determinant (l : Launch) (D : va_G) (cI cJ cZ : ClassId) (m aho aaw aen ato awa aot awk atr ase ade ala ach apa asq : Nat) (w h : Nat) (hw : w ≤ 5) (hh : h ≤ 5) (hw1 : 1 ≤ w) (hh1 : 1 ≤ h) (th kd fi sc : Int32) (el : List (Nat × Nat)) (li : Bool) (mny : Nat) (drn : Bool) (wyv rkv : Int64) (S : Nat → Nat) (hSl : ∀ k, S k < 2 ^ 63) (fsq : Nat → Int64) (hS : ∀ k, k < 625 → fsq k = lN (S k)) (RES : Nat) (hRES : gaussF 25 0 1 (fun a b => S (25 * a + b) % 2147483647) = RES) : MK l D cI cJ cZ y_MD_determinant c_MD_determinant 11 (some FieldType.long) 1 29 [.ref m] [oMD m th kd (nI w) (nI h) aho aaw fi sc (nI el.length) aen ato (bI li) (nI mny) awa aot (bI drn) wyv rkv awk atr ase ade ala ach apa asq, aJ cJ asq 625 fsq] 0 0 (fun v w1 => ∃ fsq2 : Nat → Int64, v = some (.long (lN RES)) ∧ w1 = [oMD m th kd (nI w) (nI h) aho aaw fi sc (nI el.length) aen ato (bI li) (nI mny) awa aot (bI drn) wyv rkv awk atr ase ade ala ach apa asq, aJ cJ asq 625 fsq2]) := by
  refine MC.of (by decide) bigW_good (Nat.le_of_ble_eq_true rfl) (fun κ C Z IN => ?_)
  have hP : w * h ≤ 25 := Nat.mul_le_mul hw hh
  refine e_lconst (v := 1) C d_MD_determinant_0 rfl ?_
  refine e_st [.long (lN 1)] rfl ?_
  refine e_lstore_n C d_MD_determinant_1 rfl (by decide) ?_
  refine e_iconst (v := 0) C d_MD_determinant_2 rfl ?_
  refine e_istore_n C d_MD_determinant_3 rfl (by decide) ?_
  have LZ : ∀ (fuel : Nat) (t : Nat) (fsq : Nat → Int64), t ≤ 625 → (∀ k, k < 625 → fsq k = lN (if k < t then S k % 2147483647 else S k)) →  625 - t < fuel → E κ (lu_o [(0, .ref m), (1, .long (lN 1)), (3, .int (nI t))]) [] [oMD m th kd (nI w) (nI h) aho aaw fi sc (nI el.length) aen ato (bI li) (nI mny) awa aot (bI drn) wyv rkv awk atr ase ade ala ach apa asq, aJ cJ asq 625 fsq] 0 0 4 := by
    intro fuel
    induction fuel with
    | zero => intro t fsq ht hz hm; exact absurd hm (Nat.not_lt_zero _)
    | succ fuel ihLZ =>
      intro t fsq ht hz hm
      refine e_iload_n C d_MD_determinant_4 rfl rfl ?_
      refine e_sipush (v := 625) C d_MD_determinant_5 (by decide) ?_
      refine e_icmp_ge (tgt := 29) C d_MD_determinant_8 (by decide) (fun h8 => ?_) (fun h8 => ?_)
      · -- 29
        have ht6 : 625 ≤ t := (nI_leI (a := 625) (by decide) (by omega)).mp h8
        refine e_iconst (v := 0) C d_MD_determinant_29 rfl ?_
        refine e_istore_n C d_MD_determinant_30 rfl (by decide) ?_
        have LC : ∀ (fuel : Nat) (c pr : Nat) (M : Nat → Nat → Nat) (fsq : Nat → Int64), c ≤ 25 → pr < 2147483647 → (∀ a b, M a b < 2147483647) → SqR M fsq → gaussF (25 - c) c pr M = RES →  25 - c < fuel → E κ (lu_o [(0, .ref m), (1, .long (lN pr)), (3, .int (nI c))]) [] [oMD m th kd (nI w) (nI h) aho aaw fi sc (nI el.length) aen ato (bI li) (nI mny) awa aot (bI drn) wyv rkv awk atr ase ade ala ach apa asq, aJ cJ asq 625 fsq] 0 0 31 := by
          intro fuel
          induction fuel with
          | zero => intro c pr M fsq hc hpr hM hR hG hm; exact absurd hm (Nat.not_lt_zero _)
          | succ fuel ihLC =>
            intro c pr M fsq hc hpr hM hR hG hm
            refine e_iload_n C d_MD_determinant_31 rfl rfl ?_
            refine e_bipush (v := 25) C d_MD_determinant_32 (by decide) ?_
            refine e_icmp_ge (tgt := 322) C d_MD_determinant_34 (by decide) (fun h34 => ?_) (fun h34 => ?_)
            · -- 322
              have hc25 : c = 25 := by have q := (nI_leI (a := 25) (by decide) (by omega)).mp h34; omega
              have hR1 : pr % 2147483647 = RES := by rw [← hG, hc25]; rfl
              refine e_lload_n C d_MD_determinant_322 rfl rfl ?_
              refine e_ldc2 C kl_MD_140 d_MD_determinant_323 ?_
              refine e_lrem C d_MD_determinant_326 (by decide) ?_
              refine e_st [.long (lN (pr % 2147483647))] (by exact congrArg (fun z => Value.long z :: _) (lrem_N (a := pr) (b := 2147483647) (by omega) (by decide) (by decide) rfl rfl)) ?_
              exact e_lret C Z (Nat.le_of_ble_eq_true rfl) (Nat.le_of_ble_eq_true rfl) (⟨fsq, by rw [hR1], rfl⟩) d_MD_determinant_327
            · -- 37
              refine e_iload_n C d_MD_determinant_37 rfl rfl ?_
              refine e_istore C d_MD_determinant_38 (by decide) ?_
              have hc25 : c < 25 := by rcases Nat.lt_or_ge (c) 25 with q | q; exact q; exact absurd (nI_le (b := c) q (by omega)) h34
              obtain ⟨k0, hk0⟩ : ∃ k, 25 - c = k + 1 := ⟨24 - c, by omega⟩
              rw [hk0] at hG
              have LR : ∀ (fuel : Nat) (r : Nat), c ≤ r → r ≤ 25 → pvF M c (25 - r) r = pvF M c (k0 + 1) c →  25 - r < fuel → E κ (lu_o [(0, .ref m), (1, .long (lN pr)), (3, .int (nI c)), (4, .int (nI r))]) [] [oMD m th kd (nI w) (nI h) aho aaw fi sc (nI el.length) aen ato (bI li) (nI mny) awa aot (bI drn) wyv rkv awk atr ase ade ala ach apa asq, aJ cJ asq 625 fsq] 0 0 40 := by
                intro fuel
                induction fuel with
                | zero => intro r hcr hr25 hpv hm; exact absurd hm (Nat.not_lt_zero _)
                | succ fuel ihLR =>
                  intro r hcr hr25 hpv hm
                  refine e_iload C d_MD_determinant_40 rfl ?_
                  refine e_bipush (v := 25) C d_MD_determinant_42 (by decide) ?_
                  refine e_icmp_ge (tgt := 70) C d_MD_determinant_44 (by decide) (fun h44 => ?_) (fun h44 => ?_)
                  · -- 70
                    have hr : r = 25 := by have q := (nI_leI (a := 25) (by decide) (by omega)).mp h44; omega
                    have hpe : pvF M c (k0 + 1) c = 25 := by rw [← hpv, hr]; rfl
                    refine e_iload C d_MD_determinant_70 rfl ?_
                    refine e_bipush (v := 25) C d_MD_determinant_72 (by decide) ?_
                    refine e_icmp_ne (tgt := 79) C d_MD_determinant_74 (by decide) (fun h74 => ?_) (fun h74 => ?_)
                    · -- 79
                      exact absurd (by rw [hr]; rfl) h74
                    · -- 77
                      have hR0 : RES = 0 := by rw [← hG]; unfold gaussF; rw [if_pos hpe]
                      refine e_lconst (v := 0) C d_MD_determinant_77 rfl ?_
                      exact e_lret C Z (Nat.le_of_ble_eq_true rfl) (Nat.le_of_ble_eq_true rfl) (⟨fsq, by rw [hR0]; rfl, rfl⟩) d_MD_determinant_78
                  · -- 47
                    have hrlt : r < 25 := by rcases Nat.lt_or_ge (r) 25 with q | q; exact q; exact absurd (nI_le (b := r) q (by omega)) h44
                    refine e_aload_n C d_MD_determinant_47 rfl rfl ?_
                    refine e_get C hin_MD 0 rfl rfl 25 (by decide) fl_MD_59 rfl d_MD_determinant_48 ?_
                    refine e_bipush (v := 25) C d_MD_determinant_51 (by decide) ?_
                    refine e_iload C d_MD_determinant_53 rfl ?_
                    refine e_imul C d_MD_determinant_55 ?_
                    refine e_iload_n C d_MD_determinant_56 rfl rfl ?_
                    refine e_iadd C d_MD_determinant_57 ?_
                    refine e_st [.int (nI (25 * r + c)), .ref asq] (by rw [show (25 : Int32) * nI r = nI (25 * r) from pk_mul 25 r, nI_add]) ?_
                    refine e_lald C 1 1 rfl rfl (vp_in_nI (by omega) (by omega)) d_MD_determinant_58 ?_
                    refine e_st [.long (fsq (25 * r + c))] (by rw [nI_clamp (by omega)]) ?_
                    refine e_st [.long (lN (M r c))] (by rw [hR r c (by omega) (by omega)]) ?_
                    refine e_lconst (v := 0) C d_MD_determinant_59 rfl ?_
                    refine e_lcmp C d_MD_determinant_60 ?_
                    refine e_if_ne (tgt := 70) C d_MD_determinant_61 (by decide) (fun h61 => ?_) (fun h61 => ?_)
                    · -- 70
                      have hM0 : M r c ≠ 0 := fun z => h61 (by rw [z]; exact lg0.mpr rfl)
                      have hpe : pvF M c (k0 + 1) c = r := by rw [← hpv, show 25 - r = (25 - (r + 1)) + 1 by omega]; unfold pvF; rw [if_neg hM0]
                      refine e_iload C d_MD_determinant_70 rfl ?_
                      refine e_bipush (v := 25) C d_MD_determinant_72 (by decide) ?_
                      refine e_icmp_ne (tgt := 79) C d_MD_determinant_74 (by decide) (fun h74 => ?_) (fun h74 => ?_)
                      · -- 79
                        have hG2 : gaussF k0 (c + 1) ((if r = c then pr else 2147483647 - pr) * swM M r c c c % 2147483647) (elM (swM M r c) c (invF (swM M r c c c))) = RES := by rw [← hG]; conv => rhs; unfold gaussF; rw [hpe, if_neg (show ¬ r = 25 by omega)]
                        have hM1 := swM_lt (r := r) (c := c) hM
                        obtain ⟨M1, hM1e⟩ : ∃ M1, M1 = swM M r c := ⟨_, rfl⟩
                        rw [← hM1e] at hG2 hM1
                        refine e_lv [(0, .ref m), (1, .long (lN pr)), (3, .int (nI c)), (4, .int (nI r))] ⟨rfl, rfl, rfl, rfl, trivial⟩ ?_
                        have J155 : ∀ (f155 : Nat → Int64), SqR M1 f155 → E κ (lu_o [(0, .ref m), (1, .long (lN pr)), (3, .int (nI c)), (4, .int (nI r))]) [] [oMD m th kd (nI w) (nI h) aho aaw fi sc (nI el.length) aen ato (bI li) (nI mny) awa aot (bI drn) wyv rkv awk atr ase ade ala ach apa asq, aJ cJ asq 625 f155] 0 0 155 := by
                          intro f155 hR5
                          refine e_iload C d_MD_determinant_155 rfl ?_
                          refine e_iload_n C d_MD_determinant_157 rfl rfl ?_
                          have J167 : ∀ (y1 : Int64), y1 = lN (if r = c then pr else 2147483647 - pr) → E κ (lu_o [(0, .ref m), (1, .long y1), (3, .int (nI c)), (4, .int (nI r))]) [] [oMD m th kd (nI w) (nI h) aho aaw fi sc (nI el.length) aen ato (bI li) (nI mny) awa aot (bI drn) wyv rkv awk atr ase ade ala ach apa asq, aJ cJ asq 625 f155] 0 0 167 := by
                            intro y1 ey1
                            subst ey1
                            refine e_lload_n C d_MD_determinant_167 rfl rfl ?_
                            refine e_st [.long (lN (if r = c then pr else 2147483647 - pr))] rfl ?_
                            refine e_lv [(0, .ref m), (1, .long (lN (if r = c then pr else 2147483647 - pr))), (3, .int (nI c)), (4, .int (nI r))] ⟨rfl, rfl, rfl, rfl, trivial⟩ ?_
                            refine e_aload_n C d_MD_determinant_168 rfl rfl ?_
                            refine e_get C hin_MD 0 rfl rfl 25 (by decide) fl_MD_59 rfl d_MD_determinant_169 ?_
                            refine e_bipush (v := 25) C d_MD_determinant_172 (by decide) ?_
                            refine e_iload_n C d_MD_determinant_174 rfl rfl ?_
                            refine e_imul C d_MD_determinant_175 ?_
                            refine e_iload_n C d_MD_determinant_176 rfl rfl ?_
                            refine e_iadd C d_MD_determinant_177 ?_
                            refine e_st [.int (nI (25 * c + c)), .ref asq, .long (lN (if r = c then pr else 2147483647 - pr))] (by rw [show (25 : Int32) * nI c = nI (25 * c) from pk_mul 25 c, nI_add]) ?_
                            refine e_lald C 1 1 rfl rfl (vp_in_nI (by omega) (by omega)) d_MD_determinant_178 ?_
                            refine e_st [.long (f155 (25 * c + c)), .long (lN (if r = c then pr else 2147483647 - pr))] (by rw [nI_clamp (by omega)]) ?_
                            refine e_st [.long (lN (M1 c c)), .long (lN (if r = c then pr else 2147483647 - pr))] (by rw [hR5 c c (by omega) (by omega)]) ?_
                            refine e_lmul C d_MD_determinant_179 ?_
                            refine e_ldc2 C kl_MD_140 d_MD_determinant_180 ?_
                            refine e_lrem C d_MD_determinant_183 (by decide) ?_
                            have hprb : (if r = c then pr else 2147483647 - pr) ≤ 2147483647 := by by_cases z : r = c; (rw [if_pos z]; omega); (rw [if_neg z]; omega)
                            refine e_st [.long (lN ((if r = c then pr else 2147483647 - pr) * M1 c c % 2147483647))] (by exact congrArg (fun z => Value.long z :: _) (lrem_N (a := (if r = c then pr else 2147483647 - pr) * M1 c c) (b := 2147483647) (Nat.lt_trans (mul_lt63 hprb (hM1 c c)) (by decide)) (by decide) (by decide) (lN_mul _ _) rfl)) ?_
                            obtain ⟨pr2, hpr2⟩ : ∃ q, q = (if r = c then pr else 2147483647 - pr) * M1 c c % 2147483647 := ⟨_, rfl⟩
                            rw [← hpr2]
                            have hpr2l : pr2 < 2147483647 := by rw [hpr2]; exact Nat.mod_lt _ (by decide)
                            rw [← hpr2] at hG2
                            refine e_lstore_n C d_MD_determinant_184 rfl (by decide) ?_
                            refine e_aload_n C d_MD_determinant_185 rfl rfl ?_
                            refine e_get C hin_MD 0 rfl rfl 25 (by decide) fl_MD_59 rfl d_MD_determinant_186 ?_
                            refine e_bipush (v := 25) C d_MD_determinant_189 (by decide) ?_
                            refine e_iload_n C d_MD_determinant_191 rfl rfl ?_
                            refine e_imul C d_MD_determinant_192 ?_
                            refine e_iload_n C d_MD_determinant_193 rfl rfl ?_
                            refine e_iadd C d_MD_determinant_194 ?_
                            refine e_st [.int (nI (25 * c + c)), .ref asq] (by rw [show (25 : Int32) * nI c = nI (25 * c) from pk_mul 25 c, nI_add]) ?_
                            refine e_lald C 1 1 rfl rfl (vp_in_nI (by omega) (by omega)) d_MD_determinant_195 ?_
                            refine e_st [.long (f155 (25 * c + c))] (by rw [nI_clamp (by omega)]) ?_
                            refine e_st [.long (lN (M1 c c))] (by rw [hR5 c c (by omega) (by omega)]) ?_
                            refine e_ldc2 C kl_MD_151 d_MD_determinant_196 ?_
                            refine e_st [.long (lN 2147483645), .long (lN (M1 c c))] rfl ?_
                            refine e_callS (As := [.long (lN (M1 c c)), .long (lN 2147483645)]) (st := []) (wc := []) (wr := [oMD m th kd (nI w) (nI h) aho aaw fi sc (nI el.length) aen ato (bI li) (nI mny) awa aot (bI drn) wyv rkv awk atr ase ade ala ach apa asq, aJ cJ asq 625 f155]) C (M_MD_power l D cI cJ cZ (M1 c c) 2147483645 (hM1 c c) (by decide)) s_MD_power ml_MD_153 nwW_ok ⟨Nat.le_of_ble_eq_true rfl, Nat.le_of_ble_eq_true rfl⟩ ⟨Nat.le_of_ble_eq_true rfl, Nat.le_of_ble_eq_true rfl⟩ [] [0, 1] rfl rfl rfl rfl (by decide) (Nat.le_of_ble_eq_true rfl) rfl d_MD_determinant_199 (fun v w1 hp => ?_)
                            obtain ⟨rfl, rfl⟩ := hp
                            refine e_perm (st' := [.long (lN (pwF 2147483645 1 (M1 c c) 2147483645))]) (ws' := [oMD m th kd (nI w) (nI h) aho aaw fi sc (nI el.length) aen ato (bI li) (nI mny) awa aot (bI drn) wyv rkv awk atr ase ade ala ach apa asq, aJ cJ asq 625 f155]) [0, 1] rfl rfl rfl ?_
                            obtain ⟨inv, hinv⟩ : ∃ q, q = pwF 2147483645 1 (M1 c c) 2147483645 := ⟨_, rfl⟩
                            rw [← hinv]
                            have hinvl : inv < 2147483647 := by rw [hinv]; exact pwF_lt _ _ _ _ (by decide)
                            rw [show invF (M1 c c) = inv from hinv.symm] at hG2
                            refine e_lstore C d_MD_determinant_202 (by decide) ?_
                            refine e_iload_n C d_MD_determinant_204 rfl rfl ?_
                            refine e_iconst (v := 1) C d_MD_determinant_205 rfl ?_
                            refine e_iadd C d_MD_determinant_206 ?_
                            refine e_st [.int (nI (c + 1))] (by rw [nI_1]) ?_
                            refine e_istore C d_MD_determinant_207 (by decide) ?_
                            have LI : ∀ (fuel : Nat) (i : Nat) (fsq : Nat → Int64), c < i → i ≤ 25 → SqR (fun a b => if a < i then elM M1 c inv a b else M1 a b) fsq →  25 - i < fuel → E κ (lu_o [(0, .ref m), (1, .long (lN pr2)), (3, .int (nI c)), (5, .long (lN inv)), (7, .int (nI i))]) [] [oMD m th kd (nI w) (nI h) aho aaw fi sc (nI el.length) aen ato (bI li) (nI mny) awa aot (bI drn) wyv rkv awk atr ase ade ala ach apa asq, aJ cJ asq 625 fsq] 0 0 209 := by
                              intro fuel
                              induction fuel with
                              | zero => intro i fsq hci hi hRi hm; exact absurd hm (Nat.not_lt_zero _)
                              | succ fuel ihLI =>
                                intro i fsq hci hi hRi hm
                                refine e_iload C d_MD_determinant_209 rfl ?_
                                refine e_bipush (v := 25) C d_MD_determinant_211 (by decide) ?_
                                refine e_icmp_ge (tgt := 316) C d_MD_determinant_213 (by decide) (fun h213 => ?_) (fun h213 => ?_)
                                · -- 316
                                  have hi25 : 25 ≤ i := (nI_leI (a := 25) (by decide) (by omega)).mp h213
                                  refine e_iinc (v := (nI c) + 1) C d_MD_determinant_316 rfl rfl (by decide) ?_
                                  refine e_goto (tgt := 31) C d_MD_determinant_319 (by decide) ?_
                                  refine e_lv [(0, .ref m), (1, .long (lN pr2)), (3, .int (nI (c + 1)))] ⟨rfl, rfl, congrArg (fun z => some (Value.int z)) (nI_1 c), trivial⟩ ?_
                                  refine e_ws [oMD m th kd (nI w) (nI h) aho aaw fi sc (nI el.length) aen ato (bI li) (nI mny) awa aot (bI drn) wyv rkv awk atr ase ade ala ach apa asq, aJ cJ asq 625 fsq] rfl ?_
                                  exact ihLC (c + 1) pr2 (elM M1 c inv) _ (by omega) hpr2l (elM_lt hM1) (SqR_congr hRi (fun a b ha hb => by rw [if_pos (by omega)])) (by rw [← hG2, show 25 - (c + 1) = k0 by omega]) (by omega)
                                · -- 216
                                  have hi25 : i < 25 := by rcases Nat.lt_or_ge (i) 25 with q | q; exact q; exact absurd (nI_le (b := i) q (by omega)) h213
                                  have vi0 : fsq (25 * i + c) = lN (M1 i c) := by have q := hRi i c hi25 (by omega); dsimp only at q; rw [if_neg (Nat.lt_irrefl i)] at q; exact q
                                  refine e_aload_n C d_MD_determinant_216 rfl rfl ?_
                                  refine e_get C hin_MD 0 rfl rfl 25 (by decide) fl_MD_59 rfl d_MD_determinant_217 ?_
                                  refine e_bipush (v := 25) C d_MD_determinant_220 (by decide) ?_
                                  refine e_iload C d_MD_determinant_222 rfl ?_
                                  refine e_imul C d_MD_determinant_224 ?_
                                  refine e_iload_n C d_MD_determinant_225 rfl rfl ?_
                                  refine e_iadd C d_MD_determinant_226 ?_
                                  refine e_st [.int (nI (25 * i + c)), .ref asq] (by rw [show (25 : Int32) * nI i = nI (25 * i) from pk_mul 25 i, nI_add]) ?_
                                  refine e_lald C 1 1 rfl rfl (vp_in_nI (by omega) (by omega)) d_MD_determinant_227 ?_
                                  refine e_st [.long (fsq (25 * i + c))] (by rw [nI_clamp (by omega)]) ?_
                                  refine e_st [.long (lN (M1 i c))] (by rw [vi0]) ?_
                                  refine e_lload C d_MD_determinant_228 rfl ?_
                                  refine e_lmul C d_MD_determinant_230 ?_
                                  refine e_ldc2 C kl_MD_140 d_MD_determinant_231 ?_
                                  refine e_lrem C d_MD_determinant_234 (by decide) ?_
                                  refine e_st [.long (lN (M1 i c * inv % 2147483647))] (by exact congrArg (fun z => Value.long z :: _) (lrem_N (a := M1 i c * inv) (b := 2147483647) (Nat.lt_trans (mul_lt63 (Nat.le_of_lt (hM1 i c)) hinvl) (by decide)) (by decide) (by decide) (lN_mul _ _) rfl)) ?_
                                  obtain ⟨by_, hby⟩ : ∃ q, q = M1 i c * inv % 2147483647 := ⟨_, rfl⟩
                                  rw [← hby]
                                  have hbyl : by_ < 2147483647 := by rw [hby]; exact Nat.mod_lt _ (by decide)
                                  refine e_lstore C d_MD_determinant_235 (by decide) ?_
                                  refine e_iload_n C d_MD_determinant_237 rfl rfl ?_
                                  refine e_istore C d_MD_determinant_238 (by decide) ?_
                                  refine e_lv [(0, .ref m), (1, .long (lN pr2)), (3, .int (nI c)), (5, .long (lN inv)), (7, .int (nI i)), (8, .long (lN by_)), (10, .int (nI c))] ⟨rfl, rfl, rfl, rfl, rfl, rfl, rfl, trivial⟩ ?_
                                  have J310 : ∀ (f310 : Nat → Int64), SqR (fun a b => if a < i + 1 then elM M1 c inv a b else M1 a b) f310 → E κ (lu_o [(0, .ref m), (1, .long (lN pr2)), (3, .int (nI c)), (5, .long (lN inv)), (7, .int (nI i))]) [] [oMD m th kd (nI w) (nI h) aho aaw fi sc (nI el.length) aen ato (bI li) (nI mny) awa aot (bI drn) wyv rkv awk atr ase ade ala ach apa asq, aJ cJ asq 625 f310] 0 0 310 := by
                                    intro f310 hR3
                                    refine e_iinc (v := (nI i) + 1) C d_MD_determinant_310 rfl rfl (by decide) ?_
                                    refine e_goto (tgt := 209) C d_MD_determinant_313 (by decide) ?_
                                    refine e_lv [(0, .ref m), (1, .long (lN pr2)), (3, .int (nI c)), (5, .long (lN inv)), (7, .int (nI (i + 1)))] ⟨rfl, rfl, rfl, rfl, congrArg (fun z => some (Value.int z)) (nI_1 i), trivial⟩ ?_
                                    refine e_ws [oMD m th kd (nI w) (nI h) aho aaw fi sc (nI el.length) aen ato (bI li) (nI mny) awa aot (bI drn) wyv rkv awk atr ase ade ala ach apa asq, aJ cJ asq 625 f310] rfl ?_
                                    exact ihLI (i + 1) _ (by omega) (by omega) hR3 (by omega)
                                  have LJ : ∀ (fuel : Nat) (k : Nat) (fsq : Nat → Int64), c ≤ k → k ≤ 25 → SqR (fun a b => if a < i then elM M1 c inv a b else if a = i ∧ b < k then elM M1 c inv a b else M1 a b) fsq →  25 - k < fuel → E κ (lu_o [(0, .ref m), (1, .long (lN pr2)), (3, .int (nI c)), (5, .long (lN inv)), (7, .int (nI i)), (8, .long (lN by_)), (10, .int (nI k))]) [] [oMD m th kd (nI w) (nI h) aho aaw fi sc (nI el.length) aen ato (bI li) (nI mny) awa aot (bI drn) wyv rkv awk atr ase ade ala ach apa asq, aJ cJ asq 625 fsq] 0 0 240 := by
                                    intro fuel
                                    induction fuel with
                                    | zero => intro k fsq hck hk hRj hm; exact absurd hm (Nat.not_lt_zero _)
                                    | succ fuel ihLJ =>
                                      intro k fsq hck hk hRj hm
                                      refine e_iload C d_MD_determinant_240 rfl ?_
                                      refine e_bipush (v := 25) C d_MD_determinant_242 (by decide) ?_
                                      refine e_icmp_ge (tgt := 310) C d_MD_determinant_244 (by decide) (fun h244 => ?_) (fun h244 => ?_)
                                      · -- 310
                                        refine e_lv [(0, .ref m), (1, .long (lN pr2)), (3, .int (nI c)), (5, .long (lN inv)), (7, .int (nI i))] ⟨rfl, rfl, rfl, rfl, rfl, trivial⟩ ?_
                                        exact J310 fsq (SqR_congr hRj (fun a b ha hb => by have q : 25 ≤ k := (nI_leI (a := 25) (by decide) (by omega)).mp h244; by_cases z : a < i; (rw [if_pos z, if_pos (by omega)]); (rw [if_neg z]; by_cases y : a = i; (rw [if_pos ⟨y, by omega⟩, if_pos (by omega)]); (rw [if_neg (by omega), if_neg (by omega)]))))
                                      · -- 247
                                        refine e_lload C d_MD_determinant_247 rfl ?_
                                        refine e_lconst (v := 0) C d_MD_determinant_249 rfl ?_
                                        refine e_lcmp C d_MD_determinant_250 ?_
                                        refine e_if_eq (tgt := 310) C d_MD_determinant_251 (by decide) (fun h251 => ?_) (fun h251 => ?_)
                                        · -- 310
                                          refine e_lv [(0, .ref m), (1, .long (lN pr2)), (3, .int (nI c)), (5, .long (lN inv)), (7, .int (nI i))] ⟨rfl, rfl, rfl, rfl, rfl, trivial⟩ ?_
                                          exact J310 fsq (SqR_congr hRj (fun a b ha hb => by have y0 : M1 i c * inv % 2147483647 = 0 := (by rw [← hby]; rw [show (0 : Int64) = lN 0 from rfl, lg0] at h251; exact (pk_lEQ (by omega) (by decide)).mp h251); by_cases z : a < i; (rw [if_pos z, if_pos (by omega)]); (rw [if_neg z]; by_cases y : a = i; (rw [if_pos (show a < i + 1 by omega), y, elM_0 hM1 y0]; by_cases x : i = i ∧ b < k; (rw [if_pos x]); (rw [if_neg x])); (rw [if_neg (by omega), if_neg (by omega)]))))
                                        · -- 254
                                          have hk25 : k < 25 := by rcases Nat.lt_or_ge (k) 25 with q | q; exact q; exact absurd (nI_le (b := k) q (by omega)) h244
                                          have vi : fsq (25 * i + k) = lN (M1 i k) := by have q := hRj i k hi25 hk25; dsimp only at q; rw [if_neg (Nat.lt_irrefl i), if_neg (fun z => absurd z.2 (Nat.lt_irrefl k))] at q; exact q
                                          have vc : fsq (25 * c + k) = lN (M1 c k) := by have q := hRj c k (by omega) hk25; dsimp only at q; rw [if_pos hci] at q; unfold elM at q; rw [if_neg (by omega)] at q; exact q
                                          refine e_aload_n C d_MD_determinant_254 rfl rfl ?_
                                          refine e_get C hin_MD 0 rfl rfl 25 (by decide) fl_MD_59 rfl d_MD_determinant_255 ?_
                                          refine e_bipush (v := 25) C d_MD_determinant_258 (by decide) ?_
                                          refine e_iload C d_MD_determinant_260 rfl ?_
                                          refine e_imul C d_MD_determinant_262 ?_
                                          refine e_iload C d_MD_determinant_263 rfl ?_
                                          refine e_iadd C d_MD_determinant_265 ?_
                                          refine e_st [.int (nI (25 * i + k)), .ref asq] (by rw [show (25 : Int32) * nI i = nI (25 * i) from pk_mul 25 i, nI_add]) ?_
                                          refine e_aload_n C d_MD_determinant_266 rfl rfl ?_
                                          refine e_get C hin_MD 0 rfl rfl 25 (by decide) fl_MD_59 rfl d_MD_determinant_267 ?_
                                          refine e_bipush (v := 25) C d_MD_determinant_270 (by decide) ?_
                                          refine e_iload C d_MD_determinant_272 rfl ?_
                                          refine e_imul C d_MD_determinant_274 ?_
                                          refine e_iload C d_MD_determinant_275 rfl ?_
                                          refine e_iadd C d_MD_determinant_277 ?_
                                          refine e_st [.int (nI (25 * i + k)), .ref asq, .int (nI (25 * i + k)), .ref asq] (by rw [show (25 : Int32) * nI i = nI (25 * i) from pk_mul 25 i, nI_add]) ?_
                                          refine e_lald C 1 1 rfl rfl (vp_in_nI (by omega) (by omega)) d_MD_determinant_278 ?_
                                          refine e_st [.long (fsq (25 * i + k)), .int (nI (25 * i + k)), .ref asq] (by rw [nI_clamp (by omega)]) ?_
                                          refine e_st [.long (lN (M1 i k)), .int (nI (25 * i + k)), .ref asq] (by rw [vi]) ?_
                                          refine e_ldc2 C kl_MD_140 d_MD_determinant_279 ?_
                                          refine e_lload C d_MD_determinant_282 rfl ?_
                                          refine e_lsub C d_MD_determinant_284 ?_
                                          refine e_st [.long (lN (2147483647 - by_)), .long (lN (M1 i k)), .int (nI (25 * i + k)), .ref asq] (by rw [show (2147483647 : Int64) = lN 2147483647 from rfl, lN_sub (Nat.le_of_lt hbyl)]) ?_
                                          refine e_aload_n C d_MD_determinant_285 rfl rfl ?_
                                          refine e_get C hin_MD 0 rfl rfl 25 (by decide) fl_MD_59 rfl d_MD_determinant_286 ?_
                                          refine e_bipush (v := 25) C d_MD_determinant_289 (by decide) ?_
                                          refine e_iload_n C d_MD_determinant_291 rfl rfl ?_
                                          refine e_imul C d_MD_determinant_292 ?_
                                          refine e_iload C d_MD_determinant_293 rfl ?_
                                          refine e_iadd C d_MD_determinant_295 ?_
                                          refine e_st [.int (nI (25 * c + k)), .ref asq, .long (lN (2147483647 - by_)), .long (lN (M1 i k)), .int (nI (25 * i + k)), .ref asq] (by rw [show (25 : Int32) * nI c = nI (25 * c) from pk_mul 25 c, nI_add]) ?_
                                          refine e_lald C 1 1 rfl rfl (vp_in_nI (by omega) (by omega)) d_MD_determinant_296 ?_
                                          refine e_st [.long (fsq (25 * c + k)), .long (lN (2147483647 - by_)), .long (lN (M1 i k)), .int (nI (25 * i + k)), .ref asq] (by rw [nI_clamp (by omega)]) ?_
                                          refine e_st [.long (lN (M1 c k)), .long (lN (2147483647 - by_)), .long (lN (M1 i k)), .int (nI (25 * i + k)), .ref asq] (by rw [vc]) ?_
                                          refine e_lmul C d_MD_determinant_297 ?_
                                          refine e_ladd C d_MD_determinant_298 ?_
                                          refine e_ldc2 C kl_MD_140 d_MD_determinant_299 ?_
                                          refine e_lrem C d_MD_determinant_302 (by decide) ?_
                                          refine e_st [.long (lN ((M1 i k + (2147483647 - by_) * M1 c k) % 2147483647)), .int (nI (25 * i + k)), .ref asq] (by exact congrArg (fun z => Value.long z :: _) (lrem_N (a := (M1 i k + (2147483647 - by_) * M1 c k)) (b := 2147483647) (by have q1 := mul_lt63 (show 2147483647 - by_ ≤ 2147483647 by omega) (hM1 c k); have q2 := hM1 i k; omega) (by decide) (by decide) (by rw [lN_mul, lN_add]) rfl)) ?_
                                          refine e_last C 1 1 rfl rfl (vp_in_nI (by omega) (by omega)) d_MD_determinant_303 ?_
                                          refine e_ws [oMD m th kd (nI w) (nI h) aho aaw fi sc (nI el.length) aen ato (bI li) (nI mny) awa aot (bI drn) wyv rkv awk atr ase ade ala ach apa asq, aJ cJ asq 625 (vp_updL fsq (25 * i + k) (lN ((M1 i k + (2147483647 - by_) * M1 c k) % 2147483647)))] (by rw [nI_clamp (by omega)]; rfl) ?_
                                          refine e_iinc (v := (nI k) + 1) C d_MD_determinant_304 rfl rfl (by decide) ?_
                                          refine e_goto (tgt := 240) C d_MD_determinant_307 (by decide) ?_
                                          refine e_lv [(0, .ref m), (1, .long (lN pr2)), (3, .int (nI c)), (5, .long (lN inv)), (7, .int (nI i)), (8, .long (lN by_)), (10, .int (nI (k + 1)))] ⟨rfl, rfl, rfl, rfl, rfl, rfl, congrArg (fun z => some (Value.int z)) (nI_1 k), trivial⟩ ?_
                                          refine e_ws [oMD m th kd (nI w) (nI h) aho aaw fi sc (nI el.length) aen ato (bI li) (nI mny) awa aot (bI drn) wyv rkv awk atr ase ade ala ach apa asq, aJ cJ asq 625 (vp_updL fsq (25 * i + k) (lN ((M1 i k + (2147483647 - by_) * M1 c k) % 2147483647)))] rfl ?_
                                          exact ihLJ (k + 1) _ (by omega) (by omega) (SqR_congr (SqR_upd hRj hk25) (fun a b ha hb => by
                                            unfold upM; dsimp only
                                            by_cases z : a = i ∧ b = k
                                            · rw [if_pos z, if_neg (by omega), if_pos (by omega), z.1, z.2]; unfold elM; rw [if_pos ⟨hci, hck⟩, hby]
                                            · rw [if_neg z]
                                              by_cases y : a < i
                                              · rw [if_pos y, if_pos y]
                                              · rw [if_neg y, if_neg y]
                                                by_cases x : a = i ∧ b < k
                                                · rw [if_pos x, if_pos ⟨x.1, by omega⟩]
                                                · rw [if_neg x, if_neg (by omega)])) (by omega)
                                  refine e_lv [(0, .ref m), (1, .long (lN pr2)), (3, .int (nI c)), (5, .long (lN inv)), (7, .int (nI i)), (8, .long (lN by_)), (10, .int (nI c))] ⟨rfl, rfl, rfl, rfl, rfl, rfl, rfl, trivial⟩ ?_
                                  refine e_ws [oMD m th kd (nI w) (nI h) aho aaw fi sc (nI el.length) aen ato (bI li) (nI mny) awa aot (bI drn) wyv rkv awk atr ase ade ala ach apa asq, aJ cJ asq 625 fsq] rfl ?_
                                  exact LJ _ c fsq (Nat.le_refl _) (by omega) (SqR_congr hRi (fun a b ha hb => by by_cases z : a < i; (rw [if_pos z, if_pos z]); (rw [if_neg z, if_neg z]; by_cases y : a = i ∧ b < c; (rw [if_pos y]; unfold elM; rw [if_neg (by omega)]); (rw [if_neg y])))) (Nat.lt_succ_self _)
                            refine e_lv [(0, .ref m), (1, .long (lN pr2)), (3, .int (nI c)), (5, .long (lN inv)), (7, .int (nI (c + 1)))] ⟨rfl, rfl, rfl, rfl, rfl, trivial⟩ ?_
                            refine e_ws [oMD m th kd (nI w) (nI h) aho aaw fi sc (nI el.length) aen ato (bI li) (nI mny) awa aot (bI drn) wyv rkv awk atr ase ade ala ach apa asq, aJ cJ asq 625 f155] rfl ?_
                            exact LI _ (c + 1) f155 (by omega) (by omega) (SqR_congr hR5 (fun a b ha hb => by by_cases z : a < c + 1; (rw [if_pos z]; unfold elM; rw [if_neg (by omega)]); (rw [if_neg z]))) (Nat.lt_succ_self _)
                          refine e_icmp_eq (tgt := 167) C d_MD_determinant_158 (by decide) (fun h158 => ?_) (fun h158 => ?_)
                          · -- 167
                            refine e_lv [(0, .ref m), (1, .long (lN pr)), (3, .int (nI c)), (4, .int (nI r))] ⟨rfl, rfl, rfl, rfl, trivial⟩ ?_
                            exact J167 (lN pr) (by rw [if_pos ((nI_eq (by omega) (by omega)).mp h158)])
                          · -- 161
                            refine e_ldc2 C kl_MD_140 d_MD_determinant_161 ?_
                            refine e_lload_n C d_MD_determinant_164 rfl rfl ?_
                            refine e_lsub C d_MD_determinant_165 ?_
                            refine e_lstore_n C d_MD_determinant_166 rfl (by decide) ?_
                            refine e_lv [(0, .ref m), (1, .long ((2147483647) - (lN pr))), (3, .int (nI c)), (4, .int (nI r))] ⟨rfl, rfl, rfl, rfl, trivial⟩ ?_
                            exact J167 ((2147483647) - (lN pr)) (by rw [if_neg (fun z => h158 (by rw [z])), show (2147483647 : Int64) = lN 2147483647 from rfl, lN_sub (Nat.le_of_lt hpr)])
                        refine e_iconst (v := 0) C d_MD_determinant_79 rfl ?_
                        refine e_istore C d_MD_determinant_80 (by decide) ?_
                        have LW : ∀ (fuel : Nat) (k : Nat) (fsq : Nat → Int64), k ≤ 25 → SqR (fun a b => if b < k then swM M r c a b else M a b) fsq →  25 - k < fuel → E κ (lu_o [(0, .ref m), (1, .long (lN pr)), (3, .int (nI c)), (4, .int (nI r)), (5, .int (nI k))]) [] [oMD m th kd (nI w) (nI h) aho aaw fi sc (nI el.length) aen ato (bI li) (nI mny) awa aot (bI drn) wyv rkv awk atr ase ade ala ach apa asq, aJ cJ asq 625 fsq] 0 0 82 := by
                          intro fuel
                          induction fuel with
                          | zero => intro k fsq hk hRk hm; exact absurd hm (Nat.not_lt_zero _)
                          | succ fuel ihLW =>
                            intro k fsq hk hRk hm
                            refine e_iload C d_MD_determinant_82 rfl ?_
                            refine e_bipush (v := 25) C d_MD_determinant_84 (by decide) ?_
                            refine e_icmp_ge (tgt := 155) C d_MD_determinant_86 (by decide) (fun h86 => ?_) (fun h86 => ?_)
                            · -- 155
                              refine e_lv [(0, .ref m), (1, .long (lN pr)), (3, .int (nI c)), (4, .int (nI r))] ⟨rfl, rfl, rfl, rfl, trivial⟩ ?_
                              exact J155 fsq (by have q : 25 ≤ k := (nI_leI (a := 25) (by decide) (by omega)).mp h86; exact SqR_congr hRk (fun a b ha hb => by rw [if_pos (by omega), hM1e]))
                            · -- 89
                              refine e_iload C d_MD_determinant_89 rfl ?_
                              refine e_iload_n C d_MD_determinant_91 rfl rfl ?_
                              refine e_icmp_eq (tgt := 155) C d_MD_determinant_92 (by decide) (fun h92 => ?_) (fun h92 => ?_)
                              · -- 155
                                refine e_lv [(0, .ref m), (1, .long (lN pr)), (3, .int (nI c)), (4, .int (nI r))] ⟨rfl, rfl, rfl, rfl, trivial⟩ ?_
                                exact J155 fsq (by have q : r = c := (nI_eq (by omega) (by omega)).mp h92; exact SqR_congr hRk (fun a b ha hb => by rw [hM1e, q, swM_self]; by_cases z : b < k; (rw [if_pos z]); (rw [if_neg z])))
                              · -- 95
                                have hk25 : k < 25 := by rcases Nat.lt_or_ge (k) 25 with q | q; exact q; exact absurd (nI_le (b := k) q (by omega)) h86
                                have hrc : r ≠ c := fun z => h92 (by rw [z])
                                have vr : fsq (25 * r + k) = lN (M r k) := by have q := hRk r k (by omega) hk25; dsimp only at q; rw [if_neg (Nat.lt_irrefl k)] at q; exact q
                                have vc : fsq (25 * c + k) = lN (M c k) := by have q := hRk c k (by omega) hk25; dsimp only at q; rw [if_neg (Nat.lt_irrefl k)] at q; exact q
                                refine e_aload_n C d_MD_determinant_95 rfl rfl ?_
                                refine e_get C hin_MD 0 rfl rfl 25 (by decide) fl_MD_59 rfl d_MD_determinant_96 ?_
                                refine e_bipush (v := 25) C d_MD_determinant_99 (by decide) ?_
                                refine e_iload C d_MD_determinant_101 rfl ?_
                                refine e_imul C d_MD_determinant_103 ?_
                                refine e_iload C d_MD_determinant_104 rfl ?_
                                refine e_iadd C d_MD_determinant_106 ?_
                                refine e_st [.int (nI (25 * r + k)), .ref asq] (by rw [show (25 : Int32) * nI r = nI (25 * r) from pk_mul 25 r, nI_add]) ?_
                                refine e_lald C 1 1 rfl rfl (vp_in_nI (by omega) (by omega)) d_MD_determinant_107 ?_
                                refine e_st [.long (fsq (25 * r + k))] (by rw [nI_clamp (by omega)]) ?_
                                refine e_st [.long (lN (M r k))] (by rw [vr]) ?_
                                refine e_lstore C d_MD_determinant_108 (by decide) ?_
                                refine e_aload_n C d_MD_determinant_110 rfl rfl ?_
                                refine e_get C hin_MD 0 rfl rfl 25 (by decide) fl_MD_59 rfl d_MD_determinant_111 ?_
                                refine e_bipush (v := 25) C d_MD_determinant_114 (by decide) ?_
                                refine e_iload C d_MD_determinant_116 rfl ?_
                                refine e_imul C d_MD_determinant_118 ?_
                                refine e_iload C d_MD_determinant_119 rfl ?_
                                refine e_iadd C d_MD_determinant_121 ?_
                                refine e_st [.int (nI (25 * r + k)), .ref asq] (by rw [show (25 : Int32) * nI r = nI (25 * r) from pk_mul 25 r, nI_add]) ?_
                                refine e_aload_n C d_MD_determinant_122 rfl rfl ?_
                                refine e_get C hin_MD 0 rfl rfl 25 (by decide) fl_MD_59 rfl d_MD_determinant_123 ?_
                                refine e_bipush (v := 25) C d_MD_determinant_126 (by decide) ?_
                                refine e_iload_n C d_MD_determinant_128 rfl rfl ?_
                                refine e_imul C d_MD_determinant_129 ?_
                                refine e_iload C d_MD_determinant_130 rfl ?_
                                refine e_iadd C d_MD_determinant_132 ?_
                                refine e_st [.int (nI (25 * c + k)), .ref asq, .int (nI (25 * r + k)), .ref asq] (by rw [show (25 : Int32) * nI c = nI (25 * c) from pk_mul 25 c, nI_add]) ?_
                                refine e_lald C 1 1 rfl rfl (vp_in_nI (by omega) (by omega)) d_MD_determinant_133 ?_
                                refine e_st [.long (fsq (25 * c + k)), .int (nI (25 * r + k)), .ref asq] (by rw [nI_clamp (by omega)]) ?_
                                refine e_st [.long (lN (M c k)), .int (nI (25 * r + k)), .ref asq] (by rw [vc]) ?_
                                refine e_last C 1 1 rfl rfl (vp_in_nI (by omega) (by omega)) d_MD_determinant_134 ?_
                                refine e_ws [oMD m th kd (nI w) (nI h) aho aaw fi sc (nI el.length) aen ato (bI li) (nI mny) awa aot (bI drn) wyv rkv awk atr ase ade ala ach apa asq, aJ cJ asq 625 (vp_updL fsq (25 * r + k) (lN (M c k)))] (by rw [nI_clamp (by omega)]; rfl) ?_
                                refine e_aload_n C d_MD_determinant_135 rfl rfl ?_
                                refine e_get C hin_MD 0 rfl rfl 25 (by decide) fl_MD_59 rfl d_MD_determinant_136 ?_
                                refine e_bipush (v := 25) C d_MD_determinant_139 (by decide) ?_
                                refine e_iload_n C d_MD_determinant_141 rfl rfl ?_
                                refine e_imul C d_MD_determinant_142 ?_
                                refine e_iload C d_MD_determinant_143 rfl ?_
                                refine e_iadd C d_MD_determinant_145 ?_
                                refine e_st [.int (nI (25 * c + k)), .ref asq] (by rw [show (25 : Int32) * nI c = nI (25 * c) from pk_mul 25 c, nI_add]) ?_
                                refine e_lload C d_MD_determinant_146 rfl ?_
                                refine e_last C 1 1 rfl rfl (vp_in_nI (by omega) (by omega)) d_MD_determinant_148 ?_
                                refine e_ws [oMD m th kd (nI w) (nI h) aho aaw fi sc (nI el.length) aen ato (bI li) (nI mny) awa aot (bI drn) wyv rkv awk atr ase ade ala ach apa asq, aJ cJ asq 625 (vp_updL (vp_updL fsq (25 * r + k) (lN (M c k))) (25 * c + k) (lN (M r k)))] (by rw [nI_clamp (by omega)]; rfl) ?_
                                refine e_iinc (v := (nI k) + 1) C d_MD_determinant_149 rfl rfl (by decide) ?_
                                refine e_goto (tgt := 82) C d_MD_determinant_152 (by decide) ?_
                                refine e_lv [(0, .ref m), (1, .long (lN pr)), (3, .int (nI c)), (4, .int (nI r)), (5, .int (nI (k + 1)))] ⟨rfl, rfl, rfl, rfl, congrArg (fun z => some (Value.int z)) (nI_1 k), trivial⟩ ?_
                                refine e_ws [oMD m th kd (nI w) (nI h) aho aaw fi sc (nI el.length) aen ato (bI li) (nI mny) awa aot (bI drn) wyv rkv awk atr ase ade ala ach apa asq, aJ cJ asq 625 (vp_updL (vp_updL fsq (25 * r + k) (lN (M c k))) (25 * c + k) (lN (M r k)))] rfl ?_
                                exact ihLW (k + 1) _ (by omega) (SqR_congr (SqR_upd (SqR_upd hRk hk25) hk25) (fun a b ha hb => by
                                  unfold upM swM; dsimp only
                                  by_cases z : b = k
                                  · by_cases y : a = c
                                    · rw [if_pos ⟨y, z⟩, if_pos (by omega), if_pos y, z]
                                    · rw [if_neg (fun q => y q.1)]
                                      by_cases x : a = r
                                      · rw [if_pos ⟨x, z⟩, if_pos (by omega), if_neg y, if_pos x, z]
                                      · rw [if_neg (fun q => x q.1), if_neg (by omega), if_pos (by omega), if_neg y, if_neg x]
                                  · rw [if_neg (fun q => z q.2), if_neg (fun q => z q.2)]
                                    by_cases y : b < k
                                    · rw [if_pos y, if_pos (show b < k + 1 by omega)]
                                    · rw [if_neg y, if_neg (show ¬ b < k + 1 by omega)])) (by omega)
                        refine e_lv [(0, .ref m), (1, .long (lN pr)), (3, .int (nI c)), (4, .int (nI r)), (5, .int (nI 0))] ⟨rfl, rfl, rfl, rfl, rfl, trivial⟩ ?_
                        refine e_ws [oMD m th kd (nI w) (nI h) aho aaw fi sc (nI el.length) aen ato (bI li) (nI mny) awa aot (bI drn) wyv rkv awk atr ase ade ala ach apa asq, aJ cJ asq 625 fsq] rfl ?_
                        exact LW _ 0 fsq (Nat.zero_le _) (SqR_congr hR (fun a b ha hb => by rw [if_neg (Nat.not_lt_zero _)])) (Nat.lt_succ_self _)
                      · -- 77
                        exact absurd ((nI_eq (b := 25) (by omega) (by decide)).mp h74) (by omega)
                    · -- 64
                      refine e_iinc (v := (nI r) + 1) C d_MD_determinant_64 rfl rfl (by decide) ?_
                      refine e_goto (tgt := 40) C d_MD_determinant_67 (by decide) ?_
                      have hM0 : M r c = 0 := by rw [show (0 : Int64) = lN 0 from rfl, lg0] at h61; exact (pk_lEQ (by have := hM r c; omega) (by decide)).mp h61
                      refine e_lv [(0, .ref m), (1, .long (lN pr)), (3, .int (nI c)), (4, .int (nI (r + 1)))] ⟨rfl, rfl, rfl, congrArg (fun z => some (Value.int z)) (nI_1 r), trivial⟩ ?_
                      refine e_ws [oMD m th kd (nI w) (nI h) aho aaw fi sc (nI el.length) aen ato (bI li) (nI mny) awa aot (bI drn) wyv rkv awk atr ase ade ala ach apa asq, aJ cJ asq 625 fsq] rfl ?_
                      exact ihLR (r + 1) (by omega) (by omega) (by rw [← hpv, show 25 - r = (25 - (r + 1)) + 1 by omega]; conv => rhs; unfold pvF; rw [if_pos hM0]) (by omega)
              refine e_lv [(0, .ref m), (1, .long (lN pr)), (3, .int (nI c)), (4, .int (nI c))] ⟨rfl, rfl, rfl, rfl, trivial⟩ ?_
              refine e_ws [oMD m th kd (nI w) (nI h) aho aaw fi sc (nI el.length) aen ato (bI li) (nI mny) awa aot (bI drn) wyv rkv awk atr ase ade ala ach apa asq, aJ cJ asq 625 fsq] rfl ?_
              exact LR _ c (Nat.le_refl _) (by omega) (by rw [hk0]) (Nat.lt_succ_self _)
        refine e_lv [(0, .ref m), (1, .long (lN 1)), (3, .int (nI 0))] ⟨rfl, rfl, rfl, trivial⟩ ?_
        refine e_ws [oMD m th kd (nI w) (nI h) aho aaw fi sc (nI el.length) aen ato (bI li) (nI mny) awa aot (bI drn) wyv rkv awk atr ase ade ala ach apa asq, aJ cJ asq 625 fsq] rfl ?_
        exact LC _ 0 1 (fun a b => S (25 * a + b) % 2147483647) fsq (Nat.zero_le _) (by decide) (fun a b => Nat.mod_lt _ (by decide)) (fun a b ha hb => by rw [hz _ (by omega), if_pos (by omega)]) hRES (Nat.lt_succ_self _)
      · -- 11
        have ht6 : t < 625 := by rcases Nat.lt_or_ge (t) 625 with q | q; exact q; exact absurd (nI_le (b := t) q (by omega)) h8
        refine e_aload_n C d_MD_determinant_11 rfl rfl ?_
        refine e_get C hin_MD 0 rfl rfl 25 (by decide) fl_MD_59 rfl d_MD_determinant_12 ?_
        refine e_iload_n C d_MD_determinant_15 rfl rfl ?_
        refine e_dup2_11 C d_MD_determinant_16 rfl rfl ?_
        refine e_lald C 1 1 rfl rfl (vp_in_nI (by omega) (by omega)) d_MD_determinant_17 ?_
        refine e_st [.long (fsq t), .int (nI t), .ref asq] (by rw [nI_clamp (by omega)]) ?_
        refine e_st [.long (lN (S t)), .int (nI t), .ref asq] (by rw [hz t (by omega), if_neg (Nat.lt_irrefl t)]) ?_
        refine e_ldc2 C kl_MD_140 d_MD_determinant_18 ?_
        refine e_lrem C d_MD_determinant_21 (by decide) ?_
        refine e_st [.long (lN (S t % 2147483647)), .int (nI t), .ref asq] (by exact congrArg (fun z => Value.long z :: _) (lrem_N (a := S t) (b := 2147483647) (hSl t) (by decide) (by decide) rfl rfl)) ?_
        refine e_last C 1 1 rfl rfl (vp_in_nI (by omega) (by omega)) d_MD_determinant_22 ?_
        refine e_ws [oMD m th kd (nI w) (nI h) aho aaw fi sc (nI el.length) aen ato (bI li) (nI mny) awa aot (bI drn) wyv rkv awk atr ase ade ala ach apa asq, aJ cJ asq 625 (vp_updL fsq t (lN (S t % 2147483647)))] (by rw [nI_clamp (by omega)]; rfl) ?_
        refine e_iinc (v := (nI t) + 1) C d_MD_determinant_23 rfl rfl (by decide) ?_
        refine e_goto (tgt := 4) C d_MD_determinant_26 (by decide) ?_
        refine e_lv [(0, .ref m), (1, .long (lN 1)), (3, .int (nI (t + 1)))] ⟨rfl, rfl, congrArg (fun z => some (Value.int z)) (nI_1 t), trivial⟩ ?_
        refine e_ws [oMD m th kd (nI w) (nI h) aho aaw fi sc (nI el.length) aen ato (bI li) (nI mny) awa aot (bI drn) wyv rkv awk atr ase ade ala ach apa asq, aJ cJ asq 625 (vp_updL fsq t (lN (S t % 2147483647)))] rfl ?_
        exact ihLZ (t + 1) _ (by omega) (fun k hk => by by_cases z : k = t; (rw [z, pk_uLs, if_pos (Nat.lt_succ_self t)]); (rw [pk_uLn z, hz k hk]; by_cases y : k < t; (rw [if_pos y, if_pos (by omega)]); (rw [if_neg y, if_neg (by omega)]))) (by omega)
  refine e_lv [(0, .ref m), (1, .long (lN 1)), (3, .int (nI 0))] ⟨rfl, rfl, rfl, trivial⟩ ?_
  refine e_ws [oMD m th kd (nI w) (nI h) aho aaw fi sc (nI el.length) aen ato (bI li) (nI mny) awa aot (bI drn) wyv rkv awk atr ase ade ala ach apa asq, aJ cJ asq 625 fsq] rfl ?_
  exact LZ _ 0 fsq (Nat.zero_le _) (fun k hk => by rw [if_neg (Nat.not_lt_zero _)]; exact hS k hk) (Nat.lt_succ_self _)
