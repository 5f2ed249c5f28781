/-! THE LAW: calls beside a list of cells that stays closed -/
def shR (p n : Nat) : List Nat := (List.range n).map (fun i => i + p)
theorem shR_map (P K : va_W) : (shR P.length K.length).map (fun i => (P ++ K)[i]?) = K.map some := by
  unfold shR
  rw [List.map_map]
  refine List.ext_getElem? (fun i => ?_)
  rw [List.getElem?_map, List.getElem?_map]
  rcases Nat.lt_or_ge i K.length with y | y
  · rw [List.getElem?_range y, List.getElem?_eq_getElem y]
    show some ((P ++ K)[i + P.length]?) = some (some K[i])
    rw [List.getElem?_append_right (by omega), Nat.add_sub_cancel, List.getElem?_eq_getElem y]
  · rw [List.getElem?_eq_none (by rw [List.length_range]; exact y), List.getElem?_eq_none y]; rfl
theorem va_nd_iff : ∀ {l : List Nat}, va_nd l = true ↔ l.Nodup
  | [] => ⟨fun _ => List.Pairwise.nil, fun _ => rfl⟩
  | a :: l => by
    show (decide (a ∉ l) && va_nd l) = true ↔ _
    rw [Bool.and_eq_true, decide_eq_true_iff, va_nd_iff, List.nodup_cons]
theorem mem_shR {p n x : Nat} : x ∈ shR p n ↔ p ≤ x ∧ x < p + n := by
  unfold shR
  rw [List.mem_map]
  constructor
  · rintro ⟨i, h1, rfl⟩
    rw [List.mem_range] at h1; omega
  · rintro ⟨h1, h2⟩
    exact ⟨x - p, List.mem_range.mpr (by omega), by omega⟩
theorem shR_nd (p n : Nat) : (shR p n).Nodup := by
  unfold shR List.Nodup
  rw [List.pairwise_map]
  have hn : (List.range n).Nodup := List.nodup_range
  exact hn.imp (fun h q => h (by omega))
theorem app_nd {is : List Nat} {p n : Nat} (h1 : va_nd is = true) (h2 : ∀ i ∈ is, i < p) : va_nd (is ++ shR p n) = true := by
  rw [va_nd_iff, List.nodup_append]
  refine ⟨va_nd_iff.mp h1, shR_nd p n, fun a ha b hb q => ?_⟩
  have := h2 a ha
  have := (mem_shR.mp hb).1
  omega
theorem in_map {P K wc : va_W} {is : List Nat} (h : is.map (fun i => P[i]?) = wc.map some) (hlt : ∀ i ∈ is, i < P.length) : is.map (fun i => (P ++ K)[i]?) = wc.map some := by
  rw [← h]
  exact List.map_congr_left (fun i hi => List.getElem?_append_left (hlt i hi))
theorem app_map {P K wc : va_W} {is : List Nat} (h : is.map (fun i => P[i]?) = wc.map some) (hlt : ∀ i ∈ is, i < P.length) : (is ++ shR P.length K.length).map (fun i => (P ++ K)[i]?) = (wc ++ K).map some := by
  rw [List.map_append, List.map_append, in_map h hlt, shR_map]
section TROWS
variable {κ : eT} {cc : ByteArray} {nL : Nat} {own : String} {Ts : List Cond} {R : Room} {l : Launch} {D : va_G} {cl : List vw_C} {tys : List (ClassId × FieldType)} {nw : List Cond} {lv : List (Nat × Option Value)} {st : List Value} {ws : va_W} {k n pc : Nat}
theorem e_sub {ws' : va_W} (is : List Nat) (h : is.map (fun i => ws[i]?) = ws'.map some) (hn : va_nd is = true) (kk : E κ lv st ws' k n pc) : E κ lv st ws k n pc := by
  obtain ⟨p, l0, e, R0, s, m, args, below, meth, c, A, nL0, D0, cl0, Q⟩ := κ
  exact fun H locs ls hl hP hD hS => kk H locs ls hl (va_P_in hP is h) (hD.sub is hn h) hS
/-- another order of the open cells -/
theorem e_subT {P P' K : va_W} (is : List Nat) (h : is.map (fun i => P[i]?) = P'.map some) (hn : va_nd is = true) (hlt : ∀ i ∈ is, i < P.length) (kk : E κ lv st (P' ++ K) k n pc) : E κ lv st (P ++ K) k n pc :=
  e_sub (is ++ shR P.length K.length) (app_map h hlt) (app_nd hn hlt) kk
theorem rot_map (a b c : va_W) : (List.range a.length ++ shR (a.length + b.length) c.length ++ shR a.length b.length).map (fun i => ((a ++ b) ++ c)[i]?) = ((a ++ c) ++ b).map some := by
  rw [List.map_append, List.map_append, List.map_append, List.map_append]
  congr 1
  · congr 1
    · refine List.ext_getElem? (fun i => ?_)
      rw [List.getElem?_map, List.getElem?_map]
      rcases Nat.lt_or_ge i a.length with y | y
      · rw [List.getElem?_range y, List.getElem?_eq_getElem y]
        show some (((a ++ b) ++ c)[i]?) = some (some a[i])
        rw [List.getElem?_append_left (by rw [List.length_append]; omega), List.getElem?_append_left y, List.getElem?_eq_getElem y]
      · rw [List.getElem?_eq_none (by rw [List.length_range]; exact y), List.getElem?_eq_none y]; rfl
    · have := shR_map (a ++ b) c
      rw [List.length_append] at this; exact this
  · have := shR_map a b
    rw [← this]
    refine List.map_congr_left (fun i hi => ?_)
    have := mem_shR.mp hi
    exact List.getElem?_append_left (by rw [List.length_append]; omega)
theorem e_rot {a b c : va_W} (kk : E κ lv st ((a ++ c) ++ b) k n pc) : E κ lv st ((a ++ b) ++ c) k n pc := by
  refine e_sub (List.range a.length ++ shR (a.length + b.length) c.length ++ shR a.length b.length) (rot_map a b c) ?_ kk
  rw [va_nd_iff, List.nodup_append, List.nodup_append]
  refine ⟨⟨List.nodup_range, shR_nd _ _, fun x hx y hy q => ?_⟩, shR_nd _ _, fun x hx y hy q => ?_⟩
  · have := List.mem_range.mp hx
    have := mem_shR.mp hy
    omega
  · rw [List.mem_append] at hx
    have h2 := mem_shR.mp hy
    rcases hx with u | u
    · have := List.mem_range.mp u; omega
    · have := mem_shR.mp u; omega
/-- a call that leaves the closed cells alone -/
theorem e_callV0 {y : MethodName} {bytes : ByteArray} {maxL fr lo mc ms ix : Nat} {ret : Option FieldType} {post : Option Value → va_W → Prop} {P K wc wr : va_W} {As st0 : List Value} {b ci : Nat} {fs : List Value} {qc : vw_C} (C : Cb κ cc nL own Ts R l D cl tys nw) (hM : MC l Ts y bytes maxL ret fr lo D cl tys nw (.ref b :: As) wc mc ms post) (hv : mV Ts qc.1 y bytes maxL ret As.length) (hw : Cond.methodLink own ix y ∈ Ts) (q0 : Nat) (hc : cl[ci]? = some qc) (he : P[q0]? = some (b, .inr (ci, fs))) (hnk : ∀ w ∈ nw, nwk w = true) (hf : k + mc ≤ R.cells ∧ n + ms ≤ R.slots) (hR : fr + 1 ≤ R.frames ∧ 8 + (maxL + 11) + lo ≤ R.locals) (isC isR : List Nat) (hC : isC.map (fun i => P[i]?) = wc.map some) (hRr : isR.map (fun i => P[i]?) = wr.map some) (hnC : va_nd isC = true) (hnR : va_nd isR = true) (hlC : ∀ i ∈ isC, i < P.length) (hlR : ∀ i ∈ isR, i < P.length) (hdis : ∀ i ∈ isR, i ∉ isC) (hst : (st.map fun v => v.category).sum ≤ 8) (hs : st0 = As.reverse ++ .ref b :: st) (hdg : decode cc pc = .ok (.invokevirtual ix, 3)) (kk : ∀ (v : Option Value) (w1 : va_W), post v w1 → E κ lv (v.toList ++ st) ((wr ++ w1) ++ K) (k + mc) (n + ms) (pc + 3)) : E κ lv st0 (P ++ K) k n pc := by
  refine e_callV C hM hv hw q0 hc (by rw [List.getElem?_append_left (List.getElem?_eq_some_iff.mp he).1]; exact he) hnk hf hR isC (isR ++ shR P.length K.length) (in_map hC hlC) (app_map hRr hlR) hnC (app_nd hnR hlR) (fun i hi => ?_) hst hs hdg (fun v w1 hp => e_rot (kk v w1 hp))
  rw [List.mem_append] at hi
  rcases hi with u | u
  · exact hdis i u
  · intro q
    have := hlC i q
    have := (mem_shR.mp u).1
    omega
/-- a call that works on the closed cells too -/
theorem e_callV1 {y : MethodName} {bytes : ByteArray} {maxL fr lo mc ms ix : Nat} {ret : Option FieldType} {post : Option Value → va_W → Prop} {P K wc wr : va_W} {As st0 : List Value} {b ci : Nat} {fs : List Value} {qc : vw_C} (C : Cb κ cc nL own Ts R l D cl tys nw) (hM : MC l Ts y bytes maxL ret fr lo D cl tys nw (.ref b :: As) (wc ++ K) mc ms post) (hv : mV Ts qc.1 y bytes maxL ret As.length) (hw : Cond.methodLink own ix y ∈ Ts) (q0 : Nat) (hc : cl[ci]? = some qc) (he : P[q0]? = some (b, .inr (ci, fs))) (hnk : ∀ w ∈ nw, nwk w = true) (hf : k + mc ≤ R.cells ∧ n + ms ≤ R.slots) (hR : fr + 1 ≤ R.frames ∧ 8 + (maxL + 11) + lo ≤ R.locals) (isC isR : List Nat) (hC : isC.map (fun i => P[i]?) = wc.map some) (hRr : isR.map (fun i => P[i]?) = wr.map some) (hnC : va_nd isC = true) (hnR : va_nd isR = true) (hlC : ∀ i ∈ isC, i < P.length) (hlR : ∀ i ∈ isR, i < P.length) (hdis : ∀ i ∈ isR, i ∉ isC) (hst : (st.map fun v => v.category).sum ≤ 8) (hs : st0 = As.reverse ++ .ref b :: st) (hdg : decode cc pc = .ok (.invokevirtual ix, 3)) (kk : ∀ (v : Option Value) (w1 : va_W), post v w1 → E κ lv (v.toList ++ st) (wr ++ w1) (k + mc) (n + ms) (pc + 3)) : E κ lv st0 (P ++ K) k n pc := by
  refine e_callV C hM hv hw q0 hc (by rw [List.getElem?_append_left (List.getElem?_eq_some_iff.mp he).1]; exact he) hnk hf hR (isC ++ shR P.length K.length) isR (app_map hC hlC) (in_map hRr hlR) (app_nd hnC hlC) hnR (fun i hi => ?_) hst hs hdg kk
  rw [List.mem_append]
  rintro (u | u)
  · exact hdis i hi u
  · have := hlR i hi
    have := (mem_shR.mp u).1
    omega
end TROWS
