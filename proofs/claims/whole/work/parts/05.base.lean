/-! BASE: short words for cells, contracts and answers; two more rows of the E layer. -/
section EMORE
variable {κ : eT} {cc : ByteArray} {nL : Nat} {own : String} {Ts : List Cond} {R : Room} {l : Launch} {D : va_G} {cl : List vw_C} {tys : List (ClassId × FieldType)} {nw : List Cond} {lv : List (Nat × Option Value)} {st : List Value} {ws : va_W} {k n pc : Nat}
theorem e_ldcw {ix : Nat} {v : Int32} (C : Cb κ cc nL own Ts R l D cl tys nw) (hw : Jvm.Cond.constant own ix v ∈ Ts) (hdg : decode cc pc = .ok (.ldc_w ix, 3)) (kk : E κ lv (.int v :: st) ws k n (pc + 3)) : E κ lv st ws k n pc := by
  obtain ⟨p, l0, e, R0, s, m, args, below, meth, c, A, nL0, D0, cl0, Q⟩ := κ
  obtain ⟨rfl, rfl, rfl, rfl, rfl, hx, hb, hml, hown, hts, hgT, hK, hnw, hA⟩ := C
  exact fun H locs ls hl hP hD hS => lv_ldcw hx hb hown (hts _ hw) hdg (kk H locs ls hl hP hD hS)
theorem e_zast {a N : Nat} {cA : ClassId} {f : Nat → Int32} {i : Int32} {x : Int32} (C : Cb κ cc nL own Ts R l D cl tys nw) (q0 t0 : Nat) (ha : ws[q0]? = some (a, .inl (cA, N, .inl f))) (ht : tys[t0]? = some (cA, .boolean)) (hi : vp_in i N) (hdg : decode cc pc = .ok (.bastore, 1)) (kk : E κ lv st (ws.set q0 (a, .inl (cA, N, .inl (upd f i.toNatClampNeg (vp_nar .boolean x))))) k n (pc + 1)) : E κ lv (.int x :: .int i :: .ref a :: st) ws k n pc := by
  obtain ⟨p, l0, e, R0, s, m, args, below, meth, c, A, nL0, D0, cl0, Q⟩ := κ
  obtain ⟨rfl, rfl, rfl, rfl, rfl, hx, hb, hml, hown, hts, hgT, hK, hnw, hA⟩ := C
  exact fun H locs ls hl hP hD hS => va_zast hx hb hK hP hD hS q0 t0 ha ht hi hdg (fun H1 locs1 hP1 hD1 hS1 => kk H1 locs1 ls hl hP1 hD1 hS1)
end EMORE
abbrev tyL (cI cJ cZ : ClassId) : List (ClassId × FieldType) := [(cI, .int), (cJ, .long), (cZ, .boolean)]
abbrev MK (l : Launch) (D : va_G) (cI cJ cZ : ClassId) (y : MethodName) (cc : ByteArray) (nL : Nat) (ret : Option FieldType) (fr lo : Nat) (av : List Value) (w0 : va_W) (mc ms : Nat) (post : Option Value → va_W → Prop) : Prop := MC l bigW y cc nL ret fr lo D vwCl (tyL cI cJ cZ) nwW av w0 mc ms post
abbrev rI (r : Int32) (w : va_W) : Option Value → va_W → Prop := fun v w1 => v = some (.int r) ∧ w1 = w
abbrev rJ (r : Int64) (w : va_W) : Option Value → va_W → Prop := fun v w1 => v = some (.long r) ∧ w1 = w
abbrev rV (w : va_W) : Option Value → va_W → Prop := fun v w1 => v = none ∧ w1 = w
def bI (b : Bool) : Int32 := if b then 1 else 0
theorem bI_eq0 {b : Bool} : bI b = 0 ↔ b = false := by cases b <;> decide
theorem bI_nar (b : Bool) : narrow .boolean (.int (bI b)) = .int (bI b) := by cases b <;> rfl
theorem bI_fit (b : Bool) : fits .boolean (.int (bI b)) = true := by cases b <;> rfl
theorem bI_inj {a b : Bool} : bI a = bI b ↔ a = b := by cases a <;> cases b <;> decide
abbrev aI (cI : ClassId) (a n : Nat) (f : Nat → Int32) : Nat × va_E := (a, .inl (cI, n, .inl f))
abbrev aJ (cJ : ClassId) (a n : Nat) (f : Nat → Int64) : Nat × va_E := (a, .inl (cJ, n, .inr (.inl f)))
abbrev aZ (cZ : ClassId) (a n : Nat) (f : Nat → Int32) : Nat × va_E := (a, .inl (cZ, n, .inl f))
abbrev oFC (a : Nat) (f_grid : Nat) (f_layers : Nat) (f_slots : Nat) (f_slotCount : Int32) (f_gone : Int64) (f_toldIn : Int64) (f_toldOut : Int64) (f_built : Int32) (f_weighed : Int32) (f_drawnWay : Int64) (f_drawnRank : Int64) : Nat × va_E := (a, .inr (0, [.ref f_grid, .ref f_layers, .ref f_slots, .int f_slotCount, .long f_gone, .long f_toldIn, .long f_toldOut, .int f_built, .int f_weighed, .long f_drawnWay, .long f_drawnRank]))
abbrev oGR (a : Nat) (f_width : Int32) (f_height : Int32) (f_places : Int32) (f_holes : Int32) (f_open : Int64) (f_lastPlace : Int32) (f_endA : Int32) (f_endB : Int32) : Nat × va_E := (a, .inr (1, [.int f_width, .int f_height, .int f_places, .int f_holes, .long f_open, .int f_lastPlace, .int f_endA, .int f_endB]))
abbrev oLY (a : Nat) (f_grid : Nat) (f_rule : Nat) (f_most : Int32) (f_sizes : Nat) (f_leads : Nat) (f_ways : Nat) (f_buckets : Nat) (f_codes : Nat) (f_nextCodes : Nat) (f_nextSize : Int32) (f_mustHave : Int64) (f_mayNotHave : Int64) : Nat × va_E := (a, .inr (2, [.ref f_grid, .ref f_rule, .int f_most, .ref f_sizes, .ref f_leads, .ref f_ways, .ref f_buckets, .ref f_codes, .ref f_nextCodes, .int f_nextSize, .long f_mustHave, .long f_mayNotHave]))
abbrev oDG (a : Nat) (f_grid : Nat) (f_degree : Int32) : Nat × va_E := (a, .inr (3, [.ref f_grid, .int f_degree]))
abbrev oLN (a : Nat) (f_grid : Nat) (f_loop : Int32) : Nat × va_E := (a, .inr (4, [.ref f_grid, .int f_loop]))
abbrev oTR (a : Nat) (f_grid : Nat) (f_pieces : Nat) : Nat × va_E := (a, .inr (5, [.ref f_grid, .ref f_pieces]))
abbrev oMD (a : Nat) (f_thrown : Int32) (f_kind : Int32) (f_width : Int32) (f_height : Int32) (f_holes : Nat) (f_away : Nat) (f_first : Int32) (f_second : Int32) (f_edges : Int32) (f_ends : Nat) (f_told : Nat) (f_isListed : Int32) (f_many : Int32) (f_ways : Nat) (f_other : Nat) (f_isDrawn : Int32) (f_way : Int64) (f_rank : Int64) (f_walk : Nat) (f_tries : Nat) (f_sets : Nat) (f_degrees : Nat) (f_lasts : Nat) (f_chosen : Nat) (f_parts : Nat) (f_square : Nat) : Nat × va_E := (a, .inr (6, [.int f_thrown, .int f_kind, .int f_width, .int f_height, .ref f_holes, .ref f_away, .int f_first, .int f_second, .int f_edges, .ref f_ends, .ref f_told, .int f_isListed, .int f_many, .ref f_ways, .ref f_other, .int f_isDrawn, .long f_way, .long f_rank, .ref f_walk, .ref f_tries, .ref f_sets, .ref f_degrees, .ref f_lasts, .ref f_chosen, .ref f_parts, .ref f_square]))
