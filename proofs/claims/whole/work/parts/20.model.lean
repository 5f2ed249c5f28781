/-! THE REFERENCE: what its small methods answer and do -/
def bF (hb : Nat → Bool) : Nat → Int32 := fun i => bI (hb i)
def upB (hb : Nat → Bool) (k : Nat) (b : Bool) : Nat → Bool := fun i => if i = k then b else hb i
theorem bF_upd {hb : Nat → Bool} {k : Nat} {b : Bool} : upd (bF hb) k (vp_nar .boolean (bI b)) = bF (upB hb k b) := by
  funext i
  unfold upd bF upB
  by_cases e : i = k
  · rw [if_pos e, if_pos e]; cases b <;> rfl
  · rw [if_neg e, if_neg e]
theorem bF_upd0 {hb : Nat → Bool} {k : Nat} : upd (bF hb) k (vp_nar .boolean 0) = bF (upB hb k false) := bF_upd (b := false)
theorem bF_upd1 {hb : Nat → Bool} {k : Nat} : upd (bF hb) k (vp_nar .boolean 1) = bF (upB hb k true) := bF_upd (b := true)
def mheldF (v lo hi : Int32) : Int32 := if lo ≤ v then (if v ≤ hi then v else hi) else lo
def enR (el : List (Nat × Nat)) (fen : Nat → Int32) : Prop := ∀ (i a b : Nat), el[i]? = some (a, b) → fen (2 * i) = nI a ∧ fen (2 * i + 1) = nI b
def mAdd (hb aw : Nat → Bool) (el : List (Nat × Nat)) (a b t : Nat) : List (Nat × Nat) := if hb a = true then el else if hb b = true then el else if aw t = true then el else el ++ [(a, b)]
theorem enR_app {el : List (Nat × Nat)} {fen : Nat → Int32} {a b : Nat} (h : enR el fen) : enR (el ++ [(a, b)]) (upd (upd fen (2 * el.length) (nI a)) (2 * el.length + 1) (nI b)) := by
  intro i x y hy
  rcases Nat.lt_trichotomy i el.length with q | q | q
  · rw [List.getElem?_append_left q] at hy
    rw [pk_un (by omega), pk_un (by omega), pk_un (by omega), pk_un (by omega)]
    exact h i x y hy
  · subst q
    rw [List.getElem?_append_right (Nat.le_refl _), Nat.sub_self] at hy
    have e : (a, b) = (x, y) := Option.some.inj hy
    cases e
    rw [pk_un (by omega), pk_us, pk_us]
    exact ⟨rfl, rfl⟩
  · rw [List.getElem?_append_right (by omega)] at hy
    have := (List.getElem?_eq_some_iff.mp hy).1
    simp at this
    omega
set_option maxHeartbeats 4000000 in
set_option maxRecDepth 100000 in
theorem M_MD_held (l : Launch) (D : va_G) (cI cJ cZ : ClassId) (v a b : Int32) : MK l D cI cJ cZ y_MD_held c_MD_held 3 (some FieldType.int) 0 0 [.int v, .int a, .int b] [] 0 0 (rI (mheldF v a b) []) := by
  refine MC.of (by decide) bigW_good (Nat.le_of_ble_eq_true rfl) (fun κ C Z IN => ?_)
  refine e_iload_n C d_MD_held_0 rfl rfl ?_
  refine e_iload_n C d_MD_held_1 rfl rfl ?_
  refine e_icmp_ge (tgt := 9) C d_MD_held_2 (by decide) (fun h2 => ?_) (fun h2 => ?_)
  · -- 9
    refine e_iload_n C d_MD_held_9 rfl rfl ?_
    refine e_iload_n C d_MD_held_10 rfl rfl ?_
    refine e_icmp_le (tgt := 18) C d_MD_held_11 (by decide) (fun h11 => ?_) (fun h11 => ?_)
    · -- 18
      refine e_iload_n C d_MD_held_18 rfl rfl ?_
      exact e_iret C Z rfl (Nat.le_of_ble_eq_true rfl) (Nat.le_of_ble_eq_true rfl) (⟨by (try simp only [bI_eq0, Bool.not_eq_false] at h2 h11); unfold mheldF; (first | rw [if_pos h2] | rw [if_neg h2] | rw [if_neg (Bool.eq_false_iff.mp h2)] | skip); (first | rw [if_pos h11] | rw [if_neg h11] | rw [if_neg (Bool.eq_false_iff.mp h11)] | skip), rfl⟩) d_MD_held_19
    · -- 14
      refine e_iload_n C d_MD_held_14 rfl rfl ?_
      refine e_goto (tgt := 19) C d_MD_held_15 (by decide) ?_
      exact e_iret C Z rfl (Nat.le_of_ble_eq_true rfl) (Nat.le_of_ble_eq_true rfl) (⟨by (try simp only [bI_eq0, Bool.not_eq_false] at h2 h11); unfold mheldF; (first | rw [if_pos h2] | rw [if_neg h2] | rw [if_neg (Bool.eq_false_iff.mp h2)] | skip); (first | rw [if_pos h11] | rw [if_neg h11] | rw [if_neg (Bool.eq_false_iff.mp h11)] | skip), rfl⟩) d_MD_held_19
  · -- 5
    refine e_iload_n C d_MD_held_5 rfl rfl ?_
    refine e_goto (tgt := 19) C d_MD_held_6 (by decide) ?_
    exact e_iret C Z rfl (Nat.le_of_ble_eq_true rfl) (Nat.le_of_ble_eq_true rfl) (⟨by (try simp only [bI_eq0, Bool.not_eq_false] at h2); unfold mheldF; (first | rw [if_pos h2] | rw [if_neg h2] | rw [if_neg (Bool.eq_false_iff.mp h2)] | skip), rfl⟩) d_MD_held_19

set_option maxHeartbeats 4000000 in
set_option maxRecDepth 100000 in
theorem M_MD_places (l : Launch) (D : va_G) (cI cJ cZ : ClassId) (m aho aaw aen ato awa aot awk atr ase ade ala ach apa asq : Nat) (w h : Nat) (hw : w ≤ 5) (hh : h ≤ 5) (hw1 : 1 ≤ w) (hh1 : 1 ≤ h) (th kd fi sc : Int32) (el : List (Nat × Nat)) (li : Bool) (mny : Nat) (drn : Bool) (wyv rkv : Int64) : MK l D cI cJ cZ y_MD_places c_MD_places 1 (some FieldType.int) 0 0 [.ref m] [oMD m th kd (nI w) (nI h) aho aaw fi sc (nI el.length) aen ato (bI li) (nI mny) awa aot (bI drn) wyv rkv awk atr ase ade ala ach apa asq] 0 0 (rI (nI (w * h)) [oMD m th kd (nI w) (nI h) aho aaw fi sc (nI el.length) aen ato (bI li) (nI mny) awa aot (bI drn) wyv rkv awk atr ase ade ala ach apa asq]) := by
  refine MC.of (by decide) bigW_good (Nat.le_of_ble_eq_true rfl) (fun κ C Z IN => ?_)
  have hP : w * h ≤ 25 := Nat.mul_le_mul hw hh
  refine e_aload_n C d_MD_places_0 rfl rfl ?_
  refine e_get C hin_MD 0 rfl rfl 2 (by decide) fl_MD_69 rfl d_MD_places_1 ?_
  refine e_aload_n C d_MD_places_4 rfl rfl ?_
  refine e_get C hin_MD 0 rfl rfl 3 (by decide) fl_MD_72 rfl d_MD_places_5 ?_
  refine e_imul C d_MD_places_8 ?_
  refine e_st [.int (nI (w * h))] (by rw [pk_mul]) ?_
  exact e_iret C Z rfl (Nat.le_of_ble_eq_true rfl) (Nat.le_of_ble_eq_true rfl) (⟨rfl, rfl⟩) d_MD_places_9

def mPlace (n : Nat) (p : Int32) : Bool := !decide (p < 0) && !decide (nI n ≤ p)
theorem mPlace_nI {n : Nat} {p : Int32} (hn : n < 2 ^ 31) (h : mPlace n p = true) : ∃ j : Nat, j < n ∧ p = nI j := by
  unfold mPlace at h
  simp only [Bool.and_eq_true, Bool.not_eq_true', decide_eq_false_iff_not] at h
  rcases pk_ix p (n := n) hn with z | z | z
  · exact absurd z h.1
  · exact absurd z h.2
  · exact z
set_option maxHeartbeats 4000000 in
set_option maxRecDepth 100000 in
theorem M_MD_isPlace (l : Launch) (D : va_G) (cI cJ cZ : ClassId) (m aho aaw aen ato awa aot awk atr ase ade ala ach apa asq : Nat) (w h : Nat) (hw : w ≤ 5) (hh : h ≤ 5) (hw1 : 1 ≤ w) (hh1 : 1 ≤ h) (th kd fi sc : Int32) (el : List (Nat × Nat)) (li : Bool) (mny : Nat) (drn : Bool) (wyv rkv : Int64) (p : Int32) : MK l D cI cJ cZ y_MD_isPlace c_MD_isPlace 2 (some FieldType.boolean) 1 20 [.ref m, .int p] [oMD m th kd (nI w) (nI h) aho aaw fi sc (nI el.length) aen ato (bI li) (nI mny) awa aot (bI drn) wyv rkv awk atr ase ade ala ach apa asq] 0 0 (rI (bI (mPlace (w * h) p)) [oMD m th kd (nI w) (nI h) aho aaw fi sc (nI el.length) aen ato (bI li) (nI mny) awa aot (bI drn) wyv rkv awk atr ase ade ala ach apa asq]) := by
  refine MC.of (by decide) bigW_good (Nat.le_of_ble_eq_true rfl) (fun κ C Z IN => ?_)
  have hP : w * h ≤ 25 := Nat.mul_le_mul hw hh
  refine e_iload_n C d_MD_isPlace_0 rfl rfl ?_
  refine e_if_lt (tgt := 16) C d_MD_isPlace_1 (by decide) (fun h1 => ?_) (fun h1 => ?_)
  · -- 16
    refine e_iconst (v := 0) C d_MD_isPlace_16 rfl ?_
    exact e_iret C Z rfl (Nat.le_of_ble_eq_true rfl) (Nat.le_of_ble_eq_true rfl) (⟨by (try simp only [bI_eq0, Bool.not_eq_false] at h1); simp [mPlace, bI, h1], rfl⟩) d_MD_isPlace_17
  · -- 4
    refine e_iload_n C d_MD_isPlace_4 rfl rfl ?_
    refine e_aload_n C d_MD_isPlace_5 rfl rfl ?_
    refine e_callV (As := []) (st := [.int p]) (wc := [oMD m th kd (nI w) (nI h) aho aaw fi sc (nI el.length) aen ato (bI li) (nI mny) awa aot (bI drn) wyv rkv awk atr ase ade ala ach apa asq]) (wr := []) C (M_MD_places l D cI cJ cZ m aho aaw aen ato awa aot awk atr ase ade ala ach apa asq w h hw hh hw1 hh1 th kd fi sc el li mny drn wyv rkv) v_MD_places ml_MD_81 0 rfl rfl nwW_ok ⟨Nat.le_of_ble_eq_true rfl, Nat.le_of_ble_eq_true rfl⟩ ⟨Nat.le_of_ble_eq_true rfl, Nat.le_of_ble_eq_true rfl⟩ [0] [] rfl rfl rfl rfl (by decide) (Nat.le_of_ble_eq_true rfl) rfl d_MD_isPlace_6 (fun v w1 hp => ?_)
    obtain ⟨rfl, rfl⟩ := hp
    refine e_perm (st' := [.int (nI (w * h)), .int p]) (ws' := [oMD m th kd (nI w) (nI h) aho aaw fi sc (nI el.length) aen ato (bI li) (nI mny) awa aot (bI drn) wyv rkv awk atr ase ade ala ach apa asq]) [0] rfl rfl rfl ?_
    refine e_icmp_ge (tgt := 16) C d_MD_isPlace_9 (by decide) (fun h9 => ?_) (fun h9 => ?_)
    · -- 16
      refine e_iconst (v := 0) C d_MD_isPlace_16 rfl ?_
      exact e_iret C Z rfl (Nat.le_of_ble_eq_true rfl) (Nat.le_of_ble_eq_true rfl) (⟨by (try simp only [bI_eq0, Bool.not_eq_false] at h1 h9); simp [mPlace, bI, h1, h9], rfl⟩) d_MD_isPlace_17
    · -- 12
      refine e_iconst (v := 1) C d_MD_isPlace_12 rfl ?_
      refine e_goto (tgt := 17) C d_MD_isPlace_13 (by decide) ?_
      exact e_iret C Z rfl (Nat.le_of_ble_eq_true rfl) (Nat.le_of_ble_eq_true rfl) (⟨by (try simp only [bI_eq0, Bool.not_eq_false] at h1 h9); simp [mPlace, bI, h1, h9], rfl⟩) d_MD_isPlace_17

set_option maxHeartbeats 4000000 in
set_option maxRecDepth 100000 in
theorem M_MD_isEdge (l : Launch) (D : va_G) (cI cJ cZ : ClassId) (m aho aaw aen ato awa aot awk atr ase ade ala ach apa asq : Nat) (w h : Nat) (hw : w ≤ 5) (hh : h ≤ 5) (hw1 : 1 ≤ w) (hh1 : 1 ≤ h) (th kd fi sc : Int32) (el : List (Nat × Nat)) (li : Bool) (mny : Nat) (drn : Bool) (wyv rkv : Int64) (e : Int32) : MK l D cI cJ cZ y_MD_isEdge c_MD_isEdge 2 (some FieldType.boolean) 0 0 [.ref m, .int e] [oMD m th kd (nI w) (nI h) aho aaw fi sc (nI el.length) aen ato (bI li) (nI mny) awa aot (bI drn) wyv rkv awk atr ase ade ala ach apa asq] 0 0 (rI (bI (mPlace el.length e)) [oMD m th kd (nI w) (nI h) aho aaw fi sc (nI el.length) aen ato (bI li) (nI mny) awa aot (bI drn) wyv rkv awk atr ase ade ala ach apa asq]) := by
  refine MC.of (by decide) bigW_good (Nat.le_of_ble_eq_true rfl) (fun κ C Z IN => ?_)
  have hP : w * h ≤ 25 := Nat.mul_le_mul hw hh
  refine e_iload_n C d_MD_isEdge_0 rfl rfl ?_
  refine e_if_lt (tgt := 16) C d_MD_isEdge_1 (by decide) (fun h1 => ?_) (fun h1 => ?_)
  · -- 16
    refine e_iconst (v := 0) C d_MD_isEdge_16 rfl ?_
    exact e_iret C Z rfl (Nat.le_of_ble_eq_true rfl) (Nat.le_of_ble_eq_true rfl) (⟨by (try simp only [bI_eq0, Bool.not_eq_false] at h1); simp [mPlace, bI, h1], rfl⟩) d_MD_isEdge_17
  · -- 4
    refine e_iload_n C d_MD_isEdge_4 rfl rfl ?_
    refine e_aload_n C d_MD_isEdge_5 rfl rfl ?_
    refine e_get C hin_MD 0 rfl rfl 8 (by decide) fl_MD_85 rfl d_MD_isEdge_6 ?_
    refine e_icmp_ge (tgt := 16) C d_MD_isEdge_9 (by decide) (fun h9 => ?_) (fun h9 => ?_)
    · -- 16
      refine e_iconst (v := 0) C d_MD_isEdge_16 rfl ?_
      exact e_iret C Z rfl (Nat.le_of_ble_eq_true rfl) (Nat.le_of_ble_eq_true rfl) (⟨by (try simp only [bI_eq0, Bool.not_eq_false] at h1 h9); simp [mPlace, bI, h1, h9], rfl⟩) d_MD_isEdge_17
    · -- 12
      refine e_iconst (v := 1) C d_MD_isEdge_12 rfl ?_
      refine e_goto (tgt := 17) C d_MD_isEdge_13 (by decide) ?_
      exact e_iret C Z rfl (Nat.le_of_ble_eq_true rfl) (Nat.le_of_ble_eq_true rfl) (⟨by (try simp only [bI_eq0, Bool.not_eq_false] at h1 h9); simp [mPlace, bI, h1, h9], rfl⟩) d_MD_isEdge_17

set_option maxHeartbeats 4000000 in
set_option maxRecDepth 100000 in
theorem M_MD_edges (l : Launch) (D : va_G) (cI cJ cZ : ClassId) (m aho aaw aen ato awa aot awk atr ase ade ala ach apa asq : Nat) (w h : Nat) (hw : w ≤ 5) (hh : h ≤ 5) (hw1 : 1 ≤ w) (hh1 : 1 ≤ h) (th kd fi sc : Int32) (el : List (Nat × Nat)) (li : Bool) (mny : Nat) (drn : Bool) (wyv rkv : Int64) : MK l D cI cJ cZ y_MD_edges c_MD_edges 1 (some FieldType.int) 0 0 [.ref m] [oMD m th kd (nI w) (nI h) aho aaw fi sc (nI el.length) aen ato (bI li) (nI mny) awa aot (bI drn) wyv rkv awk atr ase ade ala ach apa asq] 0 0 (rI (nI el.length) [oMD m 0 kd (nI w) (nI h) aho aaw fi sc (nI el.length) aen ato (bI li) (nI mny) awa aot (bI drn) wyv rkv awk atr ase ade ala ach apa asq]) := by
  refine MC.of (by decide) bigW_good (Nat.le_of_ble_eq_true rfl) (fun κ C Z IN => ?_)
  have hP : w * h ≤ 25 := Nat.mul_le_mul hw hh
  refine e_aload_n C d_MD_edges_0 rfl rfl ?_
  refine e_iconst (v := 0) C d_MD_edges_1 rfl ?_
  refine e_put C hin_MD ty_MD tyk_MD nm_MD 0 rfl rfl 0 (by decide) fl_MD_78 rfl rfl rfl (Nat.le_of_ble_eq_true rfl) d_MD_edges_2 ?_
  refine e_ws [oMD m 0 kd (nI w) (nI h) aho aaw fi sc (nI el.length) aen ato (bI li) (nI mny) awa aot (bI drn) wyv rkv awk atr ase ade ala ach apa asq] rfl ?_
  refine e_aload_n C d_MD_edges_5 rfl rfl ?_
  refine e_get C hin_MD 0 rfl rfl 8 (by decide) fl_MD_85 rfl d_MD_edges_6 ?_
  exact e_iret C Z rfl (Nat.le_of_ble_eq_true rfl) (Nat.le_of_ble_eq_true rfl) (⟨rfl, rfl⟩) d_MD_edges_9

def mRank (drn : Bool) (rkv : Int64) : Int64 := if drn = true then rkv else -1
set_option maxHeartbeats 4000000 in
set_option maxRecDepth 100000 in
theorem M_MD_rank (l : Launch) (D : va_G) (cI cJ cZ : ClassId) (m aho aaw aen ato awa aot awk atr ase ade ala ach apa asq : Nat) (w h : Nat) (hw : w ≤ 5) (hh : h ≤ 5) (hw1 : 1 ≤ w) (hh1 : 1 ≤ h) (th kd fi sc : Int32) (el : List (Nat × Nat)) (li : Bool) (mny : Nat) (drn : Bool) (wyv rkv : Int64) : MK l D cI cJ cZ y_MD_rank c_MD_rank 1 (some FieldType.long) 0 0 [.ref m] [oMD m th kd (nI w) (nI h) aho aaw fi sc (nI el.length) aen ato (bI li) (nI mny) awa aot (bI drn) wyv rkv awk atr ase ade ala ach apa asq] 0 0 (rJ (mRank drn rkv) [oMD m 0 kd (nI w) (nI h) aho aaw fi sc (nI el.length) aen ato (bI li) (nI mny) awa aot (bI drn) wyv rkv awk atr ase ade ala ach apa asq]) := by
  refine MC.of (by decide) bigW_good (Nat.le_of_ble_eq_true rfl) (fun κ C Z IN => ?_)
  have hP : w * h ≤ 25 := Nat.mul_le_mul hw hh
  refine e_aload_n C d_MD_rank_0 rfl rfl ?_
  refine e_iconst (v := 0) C d_MD_rank_1 rfl ?_
  refine e_put C hin_MD ty_MD tyk_MD nm_MD 0 rfl rfl 0 (by decide) fl_MD_78 rfl rfl rfl (Nat.le_of_ble_eq_true rfl) d_MD_rank_2 ?_
  refine e_ws [oMD m 0 kd (nI w) (nI h) aho aaw fi sc (nI el.length) aen ato (bI li) (nI mny) awa aot (bI drn) wyv rkv awk atr ase ade ala ach apa asq] rfl ?_
  refine e_aload_n C d_MD_rank_5 rfl rfl ?_
  refine e_get C hin_MD 0 rfl rfl 15 (by decide) fl_MD_96 rfl d_MD_rank_6 ?_
  refine e_if_eq (tgt := 19) C d_MD_rank_9 (by decide) (fun h9 => ?_) (fun h9 => ?_)
  · -- 19
    refine e_ldc2 C kl_MD_121 d_MD_rank_19 ?_
    exact e_lret C Z (Nat.le_of_ble_eq_true rfl) (Nat.le_of_ble_eq_true rfl) (⟨by (try simp only [bI_eq0, Bool.not_eq_false] at h9); unfold mRank; (first | rw [if_pos h9] | rw [if_neg h9] | rw [if_neg (Bool.eq_false_iff.mp h9)] | skip), rfl⟩) d_MD_rank_22
  · -- 12
    refine e_aload_n C d_MD_rank_12 rfl rfl ?_
    refine e_get C hin_MD 0 rfl rfl 17 (by decide) fl_MD_180 rfl d_MD_rank_13 ?_
    refine e_goto (tgt := 22) C d_MD_rank_16 (by decide) ?_
    exact e_lret C Z (Nat.le_of_ble_eq_true rfl) (Nat.le_of_ble_eq_true rfl) (⟨by (try simp only [bI_eq0, Bool.not_eq_false] at h9); unfold mRank; (first | rw [if_pos h9] | rw [if_neg h9] | rw [if_neg (Bool.eq_false_iff.mp h9)] | skip), rfl⟩) d_MD_rank_22

set_option maxHeartbeats 4000000 in
set_option maxRecDepth 100000 in
theorem M_MD_addEdge (l : Launch) (D : va_G) (cI cJ cZ : ClassId) (m aho aaw aen ato awa aot awk atr ase ade ala ach apa asq : Nat) (w h : Nat) (hw : w ≤ 5) (hh : h ≤ 5) (hw1 : 1 ≤ w) (hh1 : 1 ≤ h) (th kd fi sc : Int32) (el : List (Nat × Nat)) (li : Bool) (mny : Nat) (drn : Bool) (wyv rkv : Int64) (hb aw : Nat → Bool) (fen : Nat → Int32) (a b t : Nat) (ha : a < 25) (hb2 : b < 25) (htt : t < 50) (hen : enR el fen) (hel : el.length < 40) : MK l D cI cJ cZ y_MD_addEdge c_MD_addEdge 4 none 0 0 [.ref m, .int (nI a), .int (nI b), .int (nI t)] [oMD m th kd (nI w) (nI h) aho aaw fi sc (nI el.length) aen ato (bI li) (nI mny) awa aot (bI drn) wyv rkv awk atr ase ade ala ach apa asq, aZ cZ aho 25 (bF hb), aZ cZ aaw 50 (bF aw), aI cI aen 80 fen] 0 0 (fun v w1 => ∃ fe2 : Nat → Int32, v = none ∧ w1 = [oMD m th kd (nI w) (nI h) aho aaw fi sc (nI (mAdd hb aw el a b t).length) aen ato (bI li) (nI mny) awa aot (bI drn) wyv rkv awk atr ase ade ala ach apa asq, aZ cZ aho 25 (bF hb), aZ cZ aaw 50 (bF aw), aI cI aen 80 fe2] ∧ enR (mAdd hb aw el a b t) fe2) := by
  refine MC.of (by decide) bigW_good (Nat.le_of_ble_eq_true rfl) (fun κ C Z IN => ?_)
  have hP : w * h ≤ 25 := Nat.mul_le_mul hw hh
  refine e_aload_n C d_MD_addEdge_0 rfl rfl ?_
  refine e_get C hin_MD 0 rfl rfl 4 (by decide) fl_MD_7 rfl d_MD_addEdge_1 ?_
  refine e_iload_n C d_MD_addEdge_4 rfl rfl ?_
  refine e_zald C 1 2 rfl rfl (vp_in_nI (by omega) (by omega)) d_MD_addEdge_5 ?_
  refine e_st [.int (bI (hb a))] (by rw [nI_clamp (by omega)]; rfl) ?_
  refine e_if_ne (tgt := 27) C d_MD_addEdge_6 (by decide) (fun h6 => ?_) (fun h6 => ?_)
  · -- 27
    exact e_vret C Z (Nat.le_of_ble_eq_true rfl) (Nat.le_of_ble_eq_true rfl) (⟨fen, rfl, by rw [show (mAdd hb aw el a b t) = el from (by (try simp only [bI_eq0, Bool.not_eq_false] at h6); unfold mAdd; (first | rw [if_pos h6] | rw [if_neg h6] | rw [if_neg (Bool.eq_false_iff.mp h6)] | skip))], by rw [show (mAdd hb aw el a b t) = el from (by (try simp only [bI_eq0, Bool.not_eq_false] at h6); unfold mAdd; (first | rw [if_pos h6] | rw [if_neg h6] | rw [if_neg (Bool.eq_false_iff.mp h6)] | skip))]; exact hen⟩) d_MD_addEdge_27
  · -- 9
    refine e_aload_n C d_MD_addEdge_9 rfl rfl ?_
    refine e_get C hin_MD 0 rfl rfl 4 (by decide) fl_MD_7 rfl d_MD_addEdge_10 ?_
    refine e_iload_n C d_MD_addEdge_13 rfl rfl ?_
    refine e_zald C 1 2 rfl rfl (vp_in_nI (by omega) (by omega)) d_MD_addEdge_14 ?_
    refine e_st [.int (bI (hb b))] (by rw [nI_clamp (by omega)]; rfl) ?_
    refine e_if_ne (tgt := 27) C d_MD_addEdge_15 (by decide) (fun h15 => ?_) (fun h15 => ?_)
    · -- 27
      exact e_vret C Z (Nat.le_of_ble_eq_true rfl) (Nat.le_of_ble_eq_true rfl) (⟨fen, rfl, by rw [show (mAdd hb aw el a b t) = el from (by (try simp only [bI_eq0, Bool.not_eq_false] at h6 h15); unfold mAdd; (first | rw [if_pos h6] | rw [if_neg h6] | rw [if_neg (Bool.eq_false_iff.mp h6)] | skip); (first | rw [if_pos h15] | rw [if_neg h15] | rw [if_neg (Bool.eq_false_iff.mp h15)] | skip))], by rw [show (mAdd hb aw el a b t) = el from (by (try simp only [bI_eq0, Bool.not_eq_false] at h6 h15); unfold mAdd; (first | rw [if_pos h6] | rw [if_neg h6] | rw [if_neg (Bool.eq_false_iff.mp h6)] | skip); (first | rw [if_pos h15] | rw [if_neg h15] | rw [if_neg (Bool.eq_false_iff.mp h15)] | skip))]; exact hen⟩) d_MD_addEdge_27
    · -- 18
      refine e_aload_n C d_MD_addEdge_18 rfl rfl ?_
      refine e_get C hin_MD 0 rfl rfl 5 (by decide) fl_MD_13 rfl d_MD_addEdge_19 ?_
      refine e_iload_n C d_MD_addEdge_22 rfl rfl ?_
      refine e_zald C 2 2 rfl rfl (vp_in_nI (by omega) (by omega)) d_MD_addEdge_23 ?_
      refine e_st [.int (bI (aw t))] (by rw [nI_clamp (by omega)]; rfl) ?_
      refine e_if_eq (tgt := 28) C d_MD_addEdge_24 (by decide) (fun h24 => ?_) (fun h24 => ?_)
      · -- 28
        refine e_aload_n C d_MD_addEdge_28 rfl rfl ?_
        refine e_get C hin_MD 0 rfl rfl 9 (by decide) fl_MD_23 rfl d_MD_addEdge_29 ?_
        refine e_iconst (v := 2) C d_MD_addEdge_32 rfl ?_
        refine e_aload_n C d_MD_addEdge_33 rfl rfl ?_
        refine e_get C hin_MD 0 rfl rfl 8 (by decide) fl_MD_85 rfl d_MD_addEdge_34 ?_
        refine e_imul C d_MD_addEdge_37 ?_
        refine e_st [.int (nI (2 * el.length)), .ref aen] (by rw [show (2 : Int32) * nI el.length = nI (2 * el.length) from pk_mul 2 _]) ?_
        refine e_iload_n C d_MD_addEdge_38 rfl rfl ?_
        refine e_iast C 3 0 rfl rfl (vp_in_nI (by omega) (by omega)) d_MD_addEdge_39 ?_
        refine e_ws [oMD m th kd (nI w) (nI h) aho aaw fi sc (nI el.length) aen ato (bI li) (nI mny) awa aot (bI drn) wyv rkv awk atr ase ade ala ach apa asq, aZ cZ aho 25 (bF hb), aZ cZ aaw 50 (bF aw), aI cI aen 80 (upd fen (2 * el.length) (nI a))] (by rw [nI_clamp (by omega)]; rfl) ?_
        refine e_aload_n C d_MD_addEdge_40 rfl rfl ?_
        refine e_get C hin_MD 0 rfl rfl 9 (by decide) fl_MD_23 rfl d_MD_addEdge_41 ?_
        refine e_iconst (v := 2) C d_MD_addEdge_44 rfl ?_
        refine e_aload_n C d_MD_addEdge_45 rfl rfl ?_
        refine e_get C hin_MD 0 rfl rfl 8 (by decide) fl_MD_85 rfl d_MD_addEdge_46 ?_
        refine e_imul C d_MD_addEdge_49 ?_
        refine e_iconst (v := 1) C d_MD_addEdge_50 rfl ?_
        refine e_iadd C d_MD_addEdge_51 ?_
        refine e_st [.int (nI (2 * el.length + 1)), .ref aen] (by rw [show (2 : Int32) * nI el.length = nI (2 * el.length) from pk_mul 2 _, nI_1]) ?_
        refine e_iload_n C d_MD_addEdge_52 rfl rfl ?_
        refine e_iast C 3 0 rfl rfl (vp_in_nI (by omega) (by omega)) d_MD_addEdge_53 ?_
        refine e_ws [oMD m th kd (nI w) (nI h) aho aaw fi sc (nI el.length) aen ato (bI li) (nI mny) awa aot (bI drn) wyv rkv awk atr ase ade ala ach apa asq, aZ cZ aho 25 (bF hb), aZ cZ aaw 50 (bF aw), aI cI aen 80 (upd (upd fen (2 * el.length) (nI a)) (2 * el.length + 1) (nI b))] (by rw [nI_clamp (by omega)]; rfl) ?_
        refine e_aload_n C d_MD_addEdge_54 rfl rfl ?_
        refine e_dup C d_MD_addEdge_55 rfl ?_
        refine e_get C hin_MD 0 rfl rfl 8 (by decide) fl_MD_85 rfl d_MD_addEdge_56 ?_
        refine e_iconst (v := 1) C d_MD_addEdge_59 rfl ?_
        refine e_iadd C d_MD_addEdge_60 ?_
        refine e_put C hin_MD ty_MD tyk_MD nm_MD 0 rfl rfl 8 (by decide) fl_MD_85 rfl rfl rfl (Nat.le_of_ble_eq_true rfl) d_MD_addEdge_61 ?_
        refine e_ws [oMD m th kd (nI w) (nI h) aho aaw fi sc ((nI el.length) + 1) aen ato (bI li) (nI mny) awa aot (bI drn) wyv rkv awk atr ase ade ala ach apa asq, aZ cZ aho 25 (bF hb), aZ cZ aaw 50 (bF aw), aI cI aen 80 (upd (upd fen (2 * el.length) (nI a)) (2 * el.length + 1) (nI b))] rfl ?_
        exact e_vret C Z (Nat.le_of_ble_eq_true rfl) (Nat.le_of_ble_eq_true rfl) (⟨_, rfl, by rw [show (mAdd hb aw el a b t) = el ++ [(a, b)] from (by (try simp only [bI_eq0, Bool.not_eq_false] at h6 h15 h24); unfold mAdd; (first | rw [if_pos h6] | rw [if_neg h6] | rw [if_neg (Bool.eq_false_iff.mp h6)] | skip); (first | rw [if_pos h15] | rw [if_neg h15] | rw [if_neg (Bool.eq_false_iff.mp h15)] | skip); (first | rw [if_pos h24] | rw [if_neg h24] | rw [if_neg (Bool.eq_false_iff.mp h24)] | skip)), List.length_append, nI_1]; rfl, by rw [show (mAdd hb aw el a b t) = el ++ [(a, b)] from (by (try simp only [bI_eq0, Bool.not_eq_false] at h6 h15 h24); unfold mAdd; (first | rw [if_pos h6] | rw [if_neg h6] | rw [if_neg (Bool.eq_false_iff.mp h6)] | skip); (first | rw [if_pos h15] | rw [if_neg h15] | rw [if_neg (Bool.eq_false_iff.mp h15)] | skip); (first | rw [if_pos h24] | rw [if_neg h24] | rw [if_neg (Bool.eq_false_iff.mp h24)] | skip))]; exact enR_app hen⟩) d_MD_addEdge_64
      · -- 27
        exact e_vret C Z (Nat.le_of_ble_eq_true rfl) (Nat.le_of_ble_eq_true rfl) (⟨fen, rfl, by rw [show (mAdd hb aw el a b t) = el from (by (try simp only [bI_eq0, Bool.not_eq_false] at h6 h15 h24); unfold mAdd; (first | rw [if_pos h6] | rw [if_neg h6] | rw [if_neg (Bool.eq_false_iff.mp h6)] | skip); (first | rw [if_pos h15] | rw [if_neg h15] | rw [if_neg (Bool.eq_false_iff.mp h15)] | skip); (first | rw [if_pos h24] | rw [if_neg h24] | rw [if_neg (Bool.eq_false_iff.mp h24)] | skip))], by rw [show (mAdd hb aw el a b t) = el from (by (try simp only [bI_eq0, Bool.not_eq_false] at h6 h15 h24); unfold mAdd; (first | rw [if_pos h6] | rw [if_neg h6] | rw [if_neg (Bool.eq_false_iff.mp h6)] | skip); (first | rw [if_pos h15] | rw [if_neg h15] | rw [if_neg (Bool.eq_false_iff.mp h15)] | skip); (first | rw [if_pos h24] | rw [if_neg h24] | rw [if_neg (Bool.eq_false_iff.mp h24)] | skip))]; exact hen⟩) d_MD_addEdge_27

def mNumS (w h : Nat) (hb aw : Nat → Bool) (p : Nat) (el : List (Nat × Nat)) : List (Nat × Nat) :=
  if p / w < h - 1 then mAdd hb aw (if p % w < w - 1 then mAdd hb aw el p (p + 1) (2 * p) else el) p (p + w) (2 * p + 1) else (if p % w < w - 1 then mAdd hb aw el p (p + 1) (2 * p) else el)
def mNum (w h : Nat) (hb aw : Nat → Bool) : List (Nat × Nat) := itn (mNumS w h hb aw) (w * h) []
def cntE (w h : Nat) : Nat → Nat
  | 0 => 0
  | p + 1 => cntE w h p + (if p % w < w - 1 then 1 else 0) + (if p / w < h - 1 then 1 else 0)
theorem cntE_le : ∀ w, w < 6 → ∀ h, h < 6 → ∀ p, p < 26 → p ≤ w * h → 1 ≤ w → 1 ≤ h → cntE w h p ≤ 40 := by
  have key : ((List.range 6).all (fun w => (List.range 6).all (fun h => (List.range 26).all (fun p => decide (p ≤ w * h → 1 ≤ w → 1 ≤ h → cntE w h p ≤ 40))))) = true := by decide +kernel
  intro w hw h hh p hp
  have k1 := List.all_eq_true.mp (List.all_eq_true.mp (List.all_eq_true.mp key w (List.mem_range.mpr hw)) h (List.mem_range.mpr hh)) p (List.mem_range.mpr hp)
  exact of_decide_eq_true k1
theorem mAdd_len {hb aw : Nat → Bool} {el : List (Nat × Nat)} {a b t : Nat} : (mAdd hb aw el a b t).length ≤ el.length + 1 := by
  unfold mAdd
  by_cases h1 : hb a = true
  · rw [if_pos h1]; omega
  · rw [if_neg h1]
    by_cases h2 : hb b = true
    · rw [if_pos h2]; omega
    · rw [if_neg h2]
      by_cases h3 : aw t = true
      · rw [if_pos h3]; omega
      · rw [if_neg h3, List.length_append]; exact Nat.le_refl _
theorem mNumS_len {w h : Nat} {hb aw : Nat → Bool} {p : Nat} {el : List (Nat × Nat)} {c : Nat} (hc : el.length ≤ c) : (mNumS w h hb aw p el).length ≤ c + (if p % w < w - 1 then 1 else 0) + (if p / w < h - 1 then 1 else 0) := by
  have h1 : (if p % w < w - 1 then mAdd hb aw el p (p + 1) (2 * p) else el).length ≤ c + (if p % w < w - 1 then 1 else 0) := by
    by_cases q : p % w < w - 1
    · rw [if_pos q, if_pos q]; exact Nat.le_trans mAdd_len (by omega)
    · rw [if_neg q, if_neg q]; omega
  unfold mNumS
  by_cases q : p / w < h - 1
  · rw [if_pos q, if_pos q]; exact Nat.le_trans mAdd_len (by omega)
  · rw [if_neg q, if_neg q]; omega
theorem grid_right {w h p : Nat} (hp : p < w * h) (hc : p % w < w - 1) : p + 1 < w * h := by
  have h1 := Nat.div_add_mod p w
  have h2 : p / w < h := (Nat.div_lt_iff_lt_mul (by omega)).mpr (by rw [Nat.mul_comm]; exact hp)
  have h3 : w * (p / w) + w ≤ w * h := by
    have := Nat.mul_le_mul_left w h2
    rw [Nat.mul_succ] at this
    exact this
  omega
theorem grid_below {w h p : Nat} (hw : 1 ≤ w) (hc : p / w < h - 1) : p + w < w * h := by
  have h1 := Nat.div_add_mod p w
  have h4 := Nat.mod_lt p (show 0 < w by omega)
  generalize p / w = d at hc h1
  have h3 := Nat.mul_le_mul_left w (show d + 2 ≤ h by omega)
  rw [Nat.mul_add] at h3
  omega
set_option maxHeartbeats 4000000 in
set_option maxRecDepth 100000 in
theorem M_MD_number (l : Launch) (D : va_G) (cI cJ cZ : ClassId) (m aho aaw aen ato awa aot awk atr ase ade ala ach apa asq : Nat) (w h : Nat) (hw : w ≤ 5) (hh : h ≤ 5) (hw1 : 1 ≤ w) (hh1 : 1 ≤ h) (th kd fi sc : Int32) (edv : Int32) (li : Bool) (mny : Nat) (drn : Bool) (wyv rkv : Int64) (hb aw : Nat → Bool) (fen fto : Nat → Int32) : MK l D cI cJ cZ y_MD_number c_MD_number 2 none 1 23 [.ref m] [oMD m th kd (nI w) (nI h) aho aaw fi sc edv aen ato (bI li) (nI mny) awa aot (bI drn) wyv rkv awk atr ase ade ala ach apa asq, aZ cZ aho 25 (bF hb), aZ cZ aaw 50 (bF aw), aI cI aen 80 fen, aI cI ato 40 fto] 0 0 (fun v w1 => ∃ fe2 ft2 : Nat → Int32, v = none ∧ w1 = [oMD m th kd (nI w) (nI h) aho aaw fi sc (nI (mNum w h hb aw).length) aen ato (bI false) (nI mny) awa aot (bI false) wyv rkv awk atr ase ade ala ach apa asq, aZ cZ aho 25 (bF hb), aZ cZ aaw 50 (bF aw), aI cI aen 80 fe2, aI cI ato 40 ft2] ∧ enR (mNum w h hb aw) fe2 ∧ (∀ i, i < 40 → ft2 i = 0)) := by
  refine MC.of (by decide) bigW_good (Nat.le_of_ble_eq_true rfl) (fun κ C Z IN => ?_)
  have hP : w * h ≤ 25 := Nat.mul_le_mul hw hh
  refine e_aload_n C d_MD_number_0 rfl rfl ?_
  refine e_iconst (v := 0) C d_MD_number_1 rfl ?_
  refine e_put C hin_MD ty_MD tyk_MD nm_MD 0 rfl rfl 8 (by decide) fl_MD_85 rfl rfl rfl (Nat.le_of_ble_eq_true rfl) d_MD_number_2 ?_
  refine e_ws [oMD m th kd (nI w) (nI h) aho aaw fi sc 0 aen ato (bI li) (nI mny) awa aot (bI drn) wyv rkv awk atr ase ade ala ach apa asq, aZ cZ aho 25 (bF hb), aZ cZ aaw 50 (bF aw), aI cI aen 80 fen, aI cI ato 40 fto] rfl ?_
  refine e_iconst (v := 0) C d_MD_number_5 rfl ?_
  refine e_istore_n C d_MD_number_6 rfl (by decide) ?_
  have LP : ∀ (fuel : Nat) (p : Nat) (e0 : List (Nat × Nat)) (f0 : Nat → Int32), p ≤ w * h → itn (mNumS w h hb aw) p [] = e0 → enR e0 f0 → e0.length ≤ cntE w h p →  w * h - p < fuel → E κ (lu_o [(0, .ref m), (1, .int (nI p))]) [] [oMD m th kd (nI w) (nI h) aho aaw fi sc (nI e0.length) aen ato (bI li) (nI mny) awa aot (bI drn) wyv rkv awk atr ase ade ala ach apa asq, aZ cZ aho 25 (bF hb), aZ cZ aaw 50 (bF aw), aI cI aen 80 f0, aI cI ato 40 fto] 0 0 7 := by
    intro fuel
    induction fuel with
    | zero => intro p e0 f0 hp hS hR hcl hm; exact absurd hm (Nat.not_lt_zero _)
    | succ fuel ihLP =>
      intro p e0 f0 hp hS hR hcl hm
      refine e_iload_n C d_MD_number_7 rfl rfl ?_
      refine e_aload_n C d_MD_number_8 rfl rfl ?_
      refine e_callV (As := []) (st := [.int (nI p)]) (wc := [oMD m th kd (nI w) (nI h) aho aaw fi sc (nI e0.length) aen ato (bI li) (nI mny) awa aot (bI drn) wyv rkv awk atr ase ade ala ach apa asq]) (wr := [aZ cZ aho 25 (bF hb), aZ cZ aaw 50 (bF aw), aI cI aen 80 f0, aI cI ato 40 fto]) C (M_MD_places l D cI cJ cZ m aho aaw aen ato awa aot awk atr ase ade ala ach apa asq w h hw hh hw1 hh1 th kd fi sc e0 li mny drn wyv rkv) v_MD_places ml_MD_81 0 rfl rfl nwW_ok ⟨Nat.le_of_ble_eq_true rfl, Nat.le_of_ble_eq_true rfl⟩ ⟨Nat.le_of_ble_eq_true rfl, Nat.le_of_ble_eq_true rfl⟩ [0] [1, 2, 3, 4] rfl rfl rfl rfl (by decide) (Nat.le_of_ble_eq_true rfl) rfl d_MD_number_9 (fun v w1 hp => ?_)
      obtain ⟨rfl, rfl⟩ := hp
      refine e_perm (st' := [.int (nI (w * h)), .int (nI p)]) (ws' := [oMD m th kd (nI w) (nI h) aho aaw fi sc (nI e0.length) aen ato (bI li) (nI mny) awa aot (bI drn) wyv rkv awk atr ase ade ala ach apa asq, aZ cZ aho 25 (bF hb), aZ cZ aaw 50 (bF aw), aI cI aen 80 f0, aI cI ato 40 fto]) [4, 0, 1, 2, 3] rfl rfl rfl ?_
      refine e_icmp_ge (tgt := 78) C d_MD_number_12 (by decide) (fun h12 => ?_) (fun h12 => ?_)
      · -- 78
        have hpP : w * h = p := by have q := (nI_leI (by omega) (by omega)).mp h12; omega
        subst hpP
        refine e_iconst (v := 0) C d_MD_number_78 rfl ?_
        refine e_istore_n C d_MD_number_79 rfl (by decide) ?_
        have LT : ∀ (fuel : Nat) (i : Nat), i ≤ 40 →  40 - i < fuel → E κ (lu_o [(0, .ref m), (1, .int (nI i))]) [] [oMD m th kd (nI w) (nI h) aho aaw fi sc (nI e0.length) aen ato (bI li) (nI mny) awa aot (bI drn) wyv rkv awk atr ase ade ala ach apa asq, aZ cZ aho 25 (bF hb), aZ cZ aaw 50 (bF aw), aI cI aen 80 f0, aI cI ato 40 (fun q => if q < i then 0 else fto q)] 0 0 80 := by
          intro fuel
          induction fuel with
          | zero => intro i hi hm; exact absurd hm (Nat.not_lt_zero _)
          | succ fuel ihLT =>
            intro i hi hm
            refine e_iload_n C d_MD_number_80 rfl rfl ?_
            refine e_bipush (v := 40) C d_MD_number_81 (by decide) ?_
            refine e_icmp_ge (tgt := 99) C d_MD_number_83 (by decide) (fun h83 => ?_) (fun h83 => ?_)
            · -- 99
              have hi4 : 40 = i := by have q := (nI_leI (a := 40) (by omega) (by omega)).mp h83; omega
              refine e_aload_n C d_MD_number_99 rfl rfl ?_
              refine e_iconst (v := 0) C d_MD_number_100 rfl ?_
              refine e_put C hin_MD ty_MD tyk_MD nm_MD 0 rfl rfl 11 (by decide) fl_MD_92 rfl rfl rfl (Nat.le_of_ble_eq_true rfl) d_MD_number_101 ?_
              refine e_ws [oMD m th kd (nI w) (nI h) aho aaw fi sc (nI e0.length) aen ato 0 (nI mny) awa aot (bI drn) wyv rkv awk atr ase ade ala ach apa asq, aZ cZ aho 25 (bF hb), aZ cZ aaw 50 (bF aw), aI cI aen 80 f0, aI cI ato 40 (fun q => if q < i then 0 else fto q)] rfl ?_
              refine e_aload_n C d_MD_number_104 rfl rfl ?_
              refine e_iconst (v := 0) C d_MD_number_105 rfl ?_
              refine e_put C hin_MD ty_MD tyk_MD nm_MD 0 rfl rfl 15 (by decide) fl_MD_96 rfl rfl rfl (Nat.le_of_ble_eq_true rfl) d_MD_number_106 ?_
              refine e_ws [oMD m th kd (nI w) (nI h) aho aaw fi sc (nI e0.length) aen ato 0 (nI mny) awa aot 0 wyv rkv awk atr ase ade ala ach apa asq, aZ cZ aho 25 (bF hb), aZ cZ aaw 50 (bF aw), aI cI aen 80 f0, aI cI ato 40 (fun q => if q < i then 0 else fto q)] rfl ?_
              exact e_vret C Z (Nat.le_of_ble_eq_true rfl) (Nat.le_of_ble_eq_true rfl) (⟨f0, fun q => if q < i then 0 else fto q, rfl, by unfold mNum; rw [hS]; rfl, by unfold mNum; rw [hS]; exact hR, fun j hj => if_pos (by omega)⟩) d_MD_number_109
            · -- 86
              have hi4 : i < 40 := by rcases Nat.lt_or_ge i 40 with q | q; exact q; exact absurd (nI_le (a := 40) q (by omega)) h83
              refine e_aload_n C d_MD_number_86 rfl rfl ?_
              refine e_get C hin_MD 0 rfl rfl 10 (by decide) fl_MD_27 rfl d_MD_number_87 ?_
              refine e_iload_n C d_MD_number_90 rfl rfl ?_
              refine e_iconst (v := 0) C d_MD_number_91 rfl ?_
              refine e_iast C 4 0 rfl rfl (vp_in_nI (by omega) (by omega)) d_MD_number_92 ?_
              refine e_ws [oMD m th kd (nI w) (nI h) aho aaw fi sc (nI e0.length) aen ato (bI li) (nI mny) awa aot (bI drn) wyv rkv awk atr ase ade ala ach apa asq, aZ cZ aho 25 (bF hb), aZ cZ aaw 50 (bF aw), aI cI aen 80 f0, aI cI ato 40 (upd (fun q => if q < i then 0 else fto q) i 0)] (by rw [nI_clamp (by omega)]; rfl) ?_
              refine e_iinc (v := (nI i) + 1) C d_MD_number_93 rfl rfl (by decide) ?_
              refine e_goto (tgt := 80) C d_MD_number_96 (by decide) ?_
              refine e_lv [(0, .ref m), (1, .int (nI (i + 1)))] ⟨rfl, congrArg (fun z => some (Value.int z)) (nI_1 i), trivial⟩ ?_
              refine e_ws [oMD m th kd (nI w) (nI h) aho aaw fi sc (nI e0.length) aen ato (bI li) (nI mny) awa aot (bI drn) wyv rkv awk atr ase ade ala ach apa asq, aZ cZ aho 25 (bF hb), aZ cZ aaw 50 (bF aw), aI cI aen 80 f0, aI cI ato 40 (fun q => if q < i + 1 then 0 else fto q)] (by rw [fill_step]) ?_
              exact ihLT (i + 1) (by omega) (by omega)
        refine e_lv [(0, .ref m), (1, .int (nI 0))] ⟨rfl, rfl, trivial⟩ ?_
        refine e_ws [oMD m th kd (nI w) (nI h) aho aaw fi sc (nI e0.length) aen ato (bI li) (nI mny) awa aot (bI drn) wyv rkv awk atr ase ade ala ach apa asq, aZ cZ aho 25 (bF hb), aZ cZ aaw 50 (bF aw), aI cI aen 80 f0, aI cI ato 40 (fun q => if q < 0 then 0 else fto q)] (by simp) ?_
        exact LT _ 0 (Nat.zero_le _) (Nat.lt_succ_self _)
      · -- 15
        have hpP : p < w * h := by rcases Nat.lt_or_ge p (w * h) with q | q; exact q; exact absurd (nI_le q (by omega)) h12
        have hc40 := cntE_le w (by omega) h (by omega) (p + 1) (by omega) (by omega) hw1 hh1
        have hcs : cntE w h (p + 1) = cntE w h p + (if p % w < w - 1 then 1 else 0) + (if p / w < h - 1 then 1 else 0) := rfl
        refine e_iload_n C d_MD_number_15 rfl rfl ?_
        refine e_aload_n C d_MD_number_16 rfl rfl ?_
        refine e_get C hin_MD 0 rfl rfl 2 (by decide) fl_MD_69 rfl d_MD_number_17 ?_
        refine e_irem C d_MD_number_20 (nI_ne0 hw1 (by omega)) ?_
        refine e_st [.int (nI (p % w))] (by rw [pk_rem (by omega) (by omega) (by omega)]) ?_
        refine e_aload_n C d_MD_number_21 rfl rfl ?_
        refine e_get C hin_MD 0 rfl rfl 2 (by decide) fl_MD_69 rfl d_MD_number_22 ?_
        refine e_iconst (v := 1) C d_MD_number_25 rfl ?_
        refine e_isub C d_MD_number_26 ?_
        refine e_st [.int (nI (w - 1)), .int (nI (p % w))] (by rw [show nI w - 1 = nI (w - 1) from pk_sub hw1]) ?_
        refine e_icmp_ge (tgt := 41) C d_MD_number_27 (by decide) (fun h27 => ?_) (fun h27 => ?_)
        · -- 41
          have hc1 : ¬ p % w < w - 1 := by have q := (nI_leI (by omega) (by have := Nat.mod_lt p (show 0 < w by omega); omega)).mp h27; omega
          rw [if_neg hc1] at hcs
          refine e_iload_n C d_MD_number_41 rfl rfl ?_
          refine e_aload_n C d_MD_number_42 rfl rfl ?_
          refine e_get C hin_MD 0 rfl rfl 2 (by decide) fl_MD_69 rfl d_MD_number_43 ?_
          refine e_idiv C d_MD_number_46 (nI_ne0 hw1 (by omega)) ?_
          refine e_st [.int (nI (p / w))] (by rw [pk_div (by omega) (by omega) (by omega)]) ?_
          refine e_aload_n C d_MD_number_47 rfl rfl ?_
          refine e_get C hin_MD 0 rfl rfl 3 (by decide) fl_MD_72 rfl d_MD_number_48 ?_
          refine e_iconst (v := 1) C d_MD_number_51 rfl ?_
          refine e_isub C d_MD_number_52 ?_
          refine e_st [.int (nI (h - 1)), .int (nI (p / w))] (by rw [show nI h - 1 = nI (h - 1) from pk_sub hh1]) ?_
          refine e_icmp_ge (tgt := 72) C d_MD_number_53 (by decide) (fun h53 => ?_) (fun h53 => ?_)
          · -- 72
            have hpw : p / w ≤ p := Nat.div_le_self _ _
            have hc2 : ¬ p / w < h - 1 := by have q := (nI_leI (by omega) (by omega)).mp h53; omega
            refine e_iinc (v := (nI p) + 1) C d_MD_number_72 rfl rfl (by decide) ?_
            refine e_goto (tgt := 7) C d_MD_number_75 (by decide) ?_
            refine e_lv [(0, .ref m), (1, .int (nI (p + 1)))] ⟨rfl, congrArg (fun z => some (Value.int z)) (nI_1 p), trivial⟩ ?_
            refine e_ws [oMD m th kd (nI w) (nI h) aho aaw fi sc (nI e0.length) aen ato (bI li) (nI mny) awa aot (bI drn) wyv rkv awk atr ase ade ala ach apa asq, aZ cZ aho 25 (bF hb), aZ cZ aaw 50 (bF aw), aI cI aen 80 f0, aI cI ato 40 fto] rfl ?_
            exact ihLP (p + 1) _ _ (by omega) (by show mNumS w h hb aw p (itn _ p []) = _; rw [hS]; unfold mNumS; rw [if_neg hc2, if_neg hc1]) hR (by have q := mNumS_len (w := w) (h := h) (hb := hb) (aw := aw) (p := p) hcl; rw [show mNumS w h hb aw p e0 = _ from by unfold mNumS; rw [if_neg hc2, if_neg hc1]] at q; exact q) (by omega)
          · -- 56
            have hpw : p / w ≤ p := Nat.div_le_self _ _
            have hc2 : p / w < h - 1 := by rcases Nat.lt_or_ge (p / w) (h - 1) with q | q; exact q; exact absurd (nI_le q (by omega)) h53
            rw [if_pos hc2] at hcs
            have hgb := grid_below hw1 hc2
            refine e_aload_n C d_MD_number_56 rfl rfl ?_
            refine e_iload_n C d_MD_number_57 rfl rfl ?_
            refine e_iload_n C d_MD_number_58 rfl rfl ?_
            refine e_aload_n C d_MD_number_59 rfl rfl ?_
            refine e_get C hin_MD 0 rfl rfl 2 (by decide) fl_MD_69 rfl d_MD_number_60 ?_
            refine e_iadd C d_MD_number_63 ?_
            refine e_iconst (v := 2) C d_MD_number_64 rfl ?_
            refine e_iload_n C d_MD_number_65 rfl rfl ?_
            refine e_imul C d_MD_number_66 ?_
            refine e_iconst (v := 1) C d_MD_number_67 rfl ?_
            refine e_iadd C d_MD_number_68 ?_
            refine e_st [.int (nI (2 * p + 1)), .int (nI (p + w)), .int (nI p), .ref m] (by rw [show (2 : Int32) * nI p = nI (2 * p) from pk_mul 2 p, nI_1, nI_add]) ?_
            refine e_callV (As := [.int (nI p), .int (nI (p + w)), .int (nI (2 * p + 1))]) (st := []) (wc := [oMD m th kd (nI w) (nI h) aho aaw fi sc (nI e0.length) aen ato (bI li) (nI mny) awa aot (bI drn) wyv rkv awk atr ase ade ala ach apa asq, aZ cZ aho 25 (bF hb), aZ cZ aaw 50 (bF aw), aI cI aen 80 f0]) (wr := [aI cI ato 40 fto]) C (M_MD_addEdge l D cI cJ cZ m aho aaw aen ato awa aot awk atr ase ade ala ach apa asq w h hw hh hw1 hh1 th kd fi sc e0 li mny drn wyv rkv hb aw f0 p (p + w) (2 * p + 1) (by omega) (by omega) (by omega) hR (by omega)) v_MD_addEdge ml_MD_88 0 rfl rfl nwW_ok ⟨Nat.le_of_ble_eq_true rfl, Nat.le_of_ble_eq_true rfl⟩ ⟨Nat.le_of_ble_eq_true rfl, Nat.le_of_ble_eq_true rfl⟩ [0, 1, 2, 3] [4] rfl rfl rfl rfl (by decide) (Nat.le_of_ble_eq_true rfl) rfl d_MD_number_69 (fun v w1 hp => ?_)
            obtain ⟨f2, rfl, rfl, hR3⟩ := hp
            refine e_perm (st' := []) (ws' := [oMD m th kd (nI w) (nI h) aho aaw fi sc (nI (mAdd hb aw e0 p (p + w) (2 * p + 1)).length) aen ato (bI li) (nI mny) awa aot (bI drn) wyv rkv awk atr ase ade ala ach apa asq, aZ cZ aho 25 (bF hb), aZ cZ aaw 50 (bF aw), aI cI aen 80 f2, aI cI ato 40 fto]) [1, 2, 3, 4, 0] rfl rfl rfl ?_
            refine e_iinc (v := (nI p) + 1) C d_MD_number_72 rfl rfl (by decide) ?_
            refine e_goto (tgt := 7) C d_MD_number_75 (by decide) ?_
            refine e_lv [(0, .ref m), (1, .int (nI (p + 1)))] ⟨rfl, congrArg (fun z => some (Value.int z)) (nI_1 p), trivial⟩ ?_
            refine e_ws [oMD m th kd (nI w) (nI h) aho aaw fi sc (nI (mAdd hb aw e0 p (p + w) (2 * p + 1)).length) aen ato (bI li) (nI mny) awa aot (bI drn) wyv rkv awk atr ase ade ala ach apa asq, aZ cZ aho 25 (bF hb), aZ cZ aaw 50 (bF aw), aI cI aen 80 f2, aI cI ato 40 fto] rfl ?_
            exact ihLP (p + 1) _ _ (by omega) (by show mNumS w h hb aw p (itn _ p []) = _; rw [hS]; unfold mNumS; rw [if_pos hc2, if_neg hc1]) hR3 (by have q := mNumS_len (w := w) (h := h) (hb := hb) (aw := aw) (p := p) hcl; rw [show mNumS w h hb aw p e0 = _ from by unfold mNumS; rw [if_pos hc2, if_neg hc1]] at q; exact q) (by omega)
        · -- 30
          have hc1 : p % w < w - 1 := by rcases Nat.lt_or_ge (p % w) (w - 1) with q | q; exact q; exact absurd (nI_le q (by have := Nat.mod_lt p (show 0 < w by omega); omega)) h27
          rw [if_pos hc1] at hcs
          refine e_aload_n C d_MD_number_30 rfl rfl ?_
          refine e_iload_n C d_MD_number_31 rfl rfl ?_
          refine e_iload_n C d_MD_number_32 rfl rfl ?_
          refine e_iconst (v := 1) C d_MD_number_33 rfl ?_
          refine e_iadd C d_MD_number_34 ?_
          refine e_iconst (v := 2) C d_MD_number_35 rfl ?_
          refine e_iload_n C d_MD_number_36 rfl rfl ?_
          refine e_imul C d_MD_number_37 ?_
          refine e_st [.int (nI (2 * p)), .int (nI (p + 1)), .int (nI p), .ref m] (by rw [show (2 : Int32) * nI p = nI (2 * p) from pk_mul 2 p, nI_1]) ?_
          refine e_callV (As := [.int (nI p), .int (nI (p + 1)), .int (nI (2 * p))]) (st := []) (wc := [oMD m th kd (nI w) (nI h) aho aaw fi sc (nI e0.length) aen ato (bI li) (nI mny) awa aot (bI drn) wyv rkv awk atr ase ade ala ach apa asq, aZ cZ aho 25 (bF hb), aZ cZ aaw 50 (bF aw), aI cI aen 80 f0]) (wr := [aI cI ato 40 fto]) C (M_MD_addEdge l D cI cJ cZ m aho aaw aen ato awa aot awk atr ase ade ala ach apa asq w h hw hh hw1 hh1 th kd fi sc e0 li mny drn wyv rkv hb aw f0 p (p + 1) (2 * p) (by omega) (by have := grid_right hpP hc1; omega) (by omega) hR (by omega)) v_MD_addEdge ml_MD_88 0 rfl rfl nwW_ok ⟨Nat.le_of_ble_eq_true rfl, Nat.le_of_ble_eq_true rfl⟩ ⟨Nat.le_of_ble_eq_true rfl, Nat.le_of_ble_eq_true rfl⟩ [0, 1, 2, 3] [4] rfl rfl rfl rfl (by decide) (Nat.le_of_ble_eq_true rfl) rfl d_MD_number_38 (fun v w1 hp => ?_)
          obtain ⟨f1, rfl, rfl, hR2⟩ := hp
          refine e_perm (st' := []) (ws' := [oMD m th kd (nI w) (nI h) aho aaw fi sc (nI (mAdd hb aw e0 p (p + 1) (2 * p)).length) aen ato (bI li) (nI mny) awa aot (bI drn) wyv rkv awk atr ase ade ala ach apa asq, aZ cZ aho 25 (bF hb), aZ cZ aaw 50 (bF aw), aI cI aen 80 f1, aI cI ato 40 fto]) [1, 2, 3, 4, 0] rfl rfl rfl ?_
          refine e_iload_n C d_MD_number_41 rfl rfl ?_
          refine e_aload_n C d_MD_number_42 rfl rfl ?_
          refine e_get C hin_MD 0 rfl rfl 2 (by decide) fl_MD_69 rfl d_MD_number_43 ?_
          refine e_idiv C d_MD_number_46 (nI_ne0 hw1 (by omega)) ?_
          refine e_st [.int (nI (p / w))] (by rw [pk_div (by omega) (by omega) (by omega)]) ?_
          refine e_aload_n C d_MD_number_47 rfl rfl ?_
          refine e_get C hin_MD 0 rfl rfl 3 (by decide) fl_MD_72 rfl d_MD_number_48 ?_
          refine e_iconst (v := 1) C d_MD_number_51 rfl ?_
          refine e_isub C d_MD_number_52 ?_
          refine e_st [.int (nI (h - 1)), .int (nI (p / w))] (by rw [show nI h - 1 = nI (h - 1) from pk_sub hh1]) ?_
          refine e_icmp_ge (tgt := 72) C d_MD_number_53 (by decide) (fun h53 => ?_) (fun h53 => ?_)
          · -- 72
            have hpw : p / w ≤ p := Nat.div_le_self _ _
            have hc2 : ¬ p / w < h - 1 := by have q := (nI_leI (by omega) (by omega)).mp h53; omega
            refine e_iinc (v := (nI p) + 1) C d_MD_number_72 rfl rfl (by decide) ?_
            refine e_goto (tgt := 7) C d_MD_number_75 (by decide) ?_
            refine e_lv [(0, .ref m), (1, .int (nI (p + 1)))] ⟨rfl, congrArg (fun z => some (Value.int z)) (nI_1 p), trivial⟩ ?_
            refine e_ws [oMD m th kd (nI w) (nI h) aho aaw fi sc (nI (mAdd hb aw e0 p (p + 1) (2 * p)).length) aen ato (bI li) (nI mny) awa aot (bI drn) wyv rkv awk atr ase ade ala ach apa asq, aZ cZ aho 25 (bF hb), aZ cZ aaw 50 (bF aw), aI cI aen 80 f1, aI cI ato 40 fto] rfl ?_
            exact ihLP (p + 1) _ _ (by omega) (by show mNumS w h hb aw p (itn _ p []) = _; rw [hS]; unfold mNumS; rw [if_neg hc2, if_pos hc1]) hR2 (by have q := mNumS_len (w := w) (h := h) (hb := hb) (aw := aw) (p := p) hcl; rw [show mNumS w h hb aw p e0 = _ from by unfold mNumS; rw [if_neg hc2, if_pos hc1]] at q; exact q) (by omega)
          · -- 56
            have hpw : p / w ≤ p := Nat.div_le_self _ _
            have hc2 : p / w < h - 1 := by rcases Nat.lt_or_ge (p / w) (h - 1) with q | q; exact q; exact absurd (nI_le q (by omega)) h53
            rw [if_pos hc2] at hcs
            have hgb := grid_below hw1 hc2
            have hml := mAdd_len (hb := hb) (aw := aw) (el := e0) (a := p) (b := p + 1) (t := 2 * p)
            refine e_aload_n C d_MD_number_56 rfl rfl ?_
            refine e_iload_n C d_MD_number_57 rfl rfl ?_
            refine e_iload_n C d_MD_number_58 rfl rfl ?_
            refine e_aload_n C d_MD_number_59 rfl rfl ?_
            refine e_get C hin_MD 0 rfl rfl 2 (by decide) fl_MD_69 rfl d_MD_number_60 ?_
            refine e_iadd C d_MD_number_63 ?_
            refine e_iconst (v := 2) C d_MD_number_64 rfl ?_
            refine e_iload_n C d_MD_number_65 rfl rfl ?_
            refine e_imul C d_MD_number_66 ?_
            refine e_iconst (v := 1) C d_MD_number_67 rfl ?_
            refine e_iadd C d_MD_number_68 ?_
            refine e_st [.int (nI (2 * p + 1)), .int (nI (p + w)), .int (nI p), .ref m] (by rw [show (2 : Int32) * nI p = nI (2 * p) from pk_mul 2 p, nI_1, nI_add]) ?_
            refine e_callV (As := [.int (nI p), .int (nI (p + w)), .int (nI (2 * p + 1))]) (st := []) (wc := [oMD m th kd (nI w) (nI h) aho aaw fi sc (nI (mAdd hb aw e0 p (p + 1) (2 * p)).length) aen ato (bI li) (nI mny) awa aot (bI drn) wyv rkv awk atr ase ade ala ach apa asq, aZ cZ aho 25 (bF hb), aZ cZ aaw 50 (bF aw), aI cI aen 80 f1]) (wr := [aI cI ato 40 fto]) C (M_MD_addEdge l D cI cJ cZ m aho aaw aen ato awa aot awk atr ase ade ala ach apa asq w h hw hh hw1 hh1 th kd fi sc (mAdd hb aw e0 p (p + 1) (2 * p)) li mny drn wyv rkv hb aw f1 p (p + w) (2 * p + 1) (by omega) (by omega) (by omega) hR2 (by omega)) v_MD_addEdge ml_MD_88 0 rfl rfl nwW_ok ⟨Nat.le_of_ble_eq_true rfl, Nat.le_of_ble_eq_true rfl⟩ ⟨Nat.le_of_ble_eq_true rfl, Nat.le_of_ble_eq_true rfl⟩ [0, 1, 2, 3] [4] rfl rfl rfl rfl (by decide) (Nat.le_of_ble_eq_true rfl) rfl d_MD_number_69 (fun v w1 hp => ?_)
            obtain ⟨f2, rfl, rfl, hR3⟩ := hp
            refine e_perm (st' := []) (ws' := [oMD m th kd (nI w) (nI h) aho aaw fi sc (nI (mAdd hb aw (mAdd hb aw e0 p (p + 1) (2 * p)) p (p + w) (2 * p + 1)).length) aen ato (bI li) (nI mny) awa aot (bI drn) wyv rkv awk atr ase ade ala ach apa asq, aZ cZ aho 25 (bF hb), aZ cZ aaw 50 (bF aw), aI cI aen 80 f2, aI cI ato 40 fto]) [1, 2, 3, 4, 0] rfl rfl rfl ?_
            refine e_iinc (v := (nI p) + 1) C d_MD_number_72 rfl rfl (by decide) ?_
            refine e_goto (tgt := 7) C d_MD_number_75 (by decide) ?_
            refine e_lv [(0, .ref m), (1, .int (nI (p + 1)))] ⟨rfl, congrArg (fun z => some (Value.int z)) (nI_1 p), trivial⟩ ?_
            refine e_ws [oMD m th kd (nI w) (nI h) aho aaw fi sc (nI (mAdd hb aw (mAdd hb aw e0 p (p + 1) (2 * p)) p (p + w) (2 * p + 1)).length) aen ato (bI li) (nI mny) awa aot (bI drn) wyv rkv awk atr ase ade ala ach apa asq, aZ cZ aho 25 (bF hb), aZ cZ aaw 50 (bF aw), aI cI aen 80 f2, aI cI ato 40 fto] rfl ?_
            exact ihLP (p + 1) _ _ (by omega) (by show mNumS w h hb aw p (itn _ p []) = _; rw [hS]; unfold mNumS; rw [if_pos hc2, if_pos hc1]) hR3 (by have q := mNumS_len (w := w) (h := h) (hb := hb) (aw := aw) (p := p) hcl; rw [show mNumS w h hb aw p e0 = _ from by unfold mNumS; rw [if_pos hc2, if_pos hc1]] at q; exact q) (by omega)
  refine e_lv [(0, .ref m), (1, .int (nI 0))] ⟨rfl, rfl, trivial⟩ ?_
  refine e_ws [oMD m th kd (nI w) (nI h) aho aaw fi sc (nI ([] : List (Nat × Nat)).length) aen ato (bI li) (nI mny) awa aot (bI drn) wyv rkv awk atr ase ade ala ach apa asq, aZ cZ aho 25 (bF hb), aZ cZ aaw 50 (bF aw), aI cI aen 80 fen, aI cI ato 40 fto] rfl ?_
  exact LP _ 0 ([] : List (Nat × Nat)) fen (Nat.zero_le _) rfl (fun i a b h => by simp at h) (Nat.le_refl _) (Nat.lt_succ_self _)
