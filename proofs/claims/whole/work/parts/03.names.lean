/-! NAMES, by our own program out of the claim's listing and tables: the words that may be handed to a callee, class tables, method packages. -/
def bigW : List Cond := lw_tbl.filter goodWord
def nwW : List Cond := lw_tbl.filter nwk
theorem bigW_good : ∀ w ∈ bigW, goodWord w = true := fun _ h => (List.mem_filter.mp h).2
theorem nwW_ok : ∀ w ∈ nwW, nwk w = true := fun _ h => (List.mem_filter.mp h).2
theorem tb_1 {w : Cond} {i : Nat} (h : tables_1_1[i]? = some w) : w ∈ lw_tbl := List.mem_append_right _ (List.mem_append_left _ (List.mem_of_getElem? h))
theorem tb_2 {w : Cond} {i : Nat} (h : tables_1_2[i]? = some w) : w ∈ lw_tbl := List.mem_append_right _ (List.mem_append_right _ (List.mem_append_left _ (List.mem_of_getElem? h)))
theorem tb_3 {w : Cond} {i : Nat} (h : tables_1_3[i]? = some w) : w ∈ lw_tbl := List.mem_append_right _ (List.mem_append_right _ (List.mem_append_right _ (List.mem_of_getElem? h)))
theorem tb_p {y : MethodName} {n i : Nat} (h : lw_privs[i]? = some (y, n)) : Cond.selects y.cls y y ∈ lw_tbl := List.mem_append_left _ (List.mem_map.mpr ⟨(y, n), List.mem_of_getElem? h, rfl⟩)
theorem bw {w : Cond} (h : w ∈ lw_tbl) (hg : goodWord w = true) : w ∈ bigW := List.mem_filter.mpr ⟨h, hg⟩
theorem nw {w : Cond} (h : w ∈ lw_tbl) (hg : nwk w = true) : w ∈ nwW := List.mem_filter.mpr ⟨h, hg⟩
abbrev c_FC_init : ByteArray := prog_1_method_1_code
def y_FC_init : MethodName := ⟨"FrontierCounts", "<init>", "(III)V"⟩
abbrev c_FC_hole : ByteArray := prog_1_method_2_code
def y_FC_hole : MethodName := ⟨"FrontierCounts", "hole", "(II)Z"⟩
abbrev c_FC_edge : ByteArray := prog_1_method_3_code
def y_FC_edge : MethodName := ⟨"FrontierCounts", "edge", "(IIZ)Z"⟩
abbrev c_FC_ends : ByteArray := prog_1_method_4_code
def y_FC_ends : MethodName := ⟨"FrontierCounts", "ends", "(II)Z"⟩
abbrev c_FC_edges : ByteArray := prog_1_method_5_code
def y_FC_edges : MethodName := ⟨"FrontierCounts", "edges", "()I"⟩
abbrev c_FC_end : ByteArray := prog_1_method_6_code
def y_FC_end : MethodName := ⟨"FrontierCounts", "end", "(IZ)I"⟩
abbrev c_FC_force : ByteArray := prog_1_method_7_code
def y_FC_force : MethodName := ⟨"FrontierCounts", "force", "(II)Z"⟩
abbrev c_FC_count : ByteArray := prog_1_method_8_code
def y_FC_count : MethodName := ⟨"FrontierCounts", "count", "()J"⟩
abbrev c_FC_digit : ByteArray := prog_1_method_9_code
def y_FC_digit : MethodName := ⟨"FrontierCounts", "digit", "(I)I"⟩
abbrev c_FC_draw : ByteArray := prog_1_method_10_code
def y_FC_draw : MethodName := ⟨"FrontierCounts", "draw", "(J)Z"⟩
abbrev c_FC_drawn : ByteArray := prog_1_method_11_code
def y_FC_drawn : MethodName := ⟨"FrontierCounts", "drawn", "(I)Z"⟩
abbrev c_FC_rank : ByteArray := prog_1_method_12_code
def y_FC_rank : MethodName := ⟨"FrontierCounts", "rank", "()J"⟩
abbrev c_FC_held : ByteArray := prog_1_method_13_code
def y_FC_held : MethodName := ⟨"FrontierCounts", "held", "(III)I"⟩
abbrev c_FC_has : ByteArray := prog_1_method_14_code
def y_FC_has : MethodName := ⟨"FrontierCounts", "has", "(JI)Z"⟩
abbrev c_FC_ruleOf : ByteArray := prog_1_method_15_code
def y_FC_ruleOf : MethodName := ⟨"FrontierCounts", "ruleOf", "(ILFrontierCounts$Grid;)LFrontierCounts$Rule;"⟩
abbrev c_FC_mostCodes : ByteArray := prog_1_method_16_code
def y_FC_mostCodes : MethodName := ⟨"FrontierCounts", "mostCodes", "(I)I"⟩
abbrev c_FC_isEdge : ByteArray := prog_1_method_17_code
def y_FC_isEdge : MethodName := ⟨"FrontierCounts", "isEdge", "(I)Z"⟩
abbrev c_FC_numberEdges : ByteArray := prog_1_method_18_code
def y_FC_numberEdges : MethodName := ⟨"FrontierCounts", "numberEdges", "()V"⟩
abbrev c_FC_addSlot : ByteArray := prog_1_method_19_code
def y_FC_addSlot : MethodName := ⟨"FrontierCounts", "addSlot", "(I)V"⟩
abbrev c_FC_forgetWays : ByteArray := prog_1_method_20_code
def y_FC_forgetWays : MethodName := ⟨"FrontierCounts", "forgetWays", "()V"⟩
abbrev c_MD_init : ByteArray := prog_9_method_1_code
def y_MD_init : MethodName := ⟨"FrontierCountsModel", "<init>", "(III)V"⟩
abbrev c_MD_held : ByteArray := prog_9_method_3_code
def y_MD_held : MethodName := ⟨"FrontierCountsModel", "held", "(III)I"⟩
abbrev c_MD_places : ByteArray := prog_9_method_4_code
def y_MD_places : MethodName := ⟨"FrontierCountsModel", "places", "()I"⟩
abbrev c_MD_isPlace : ByteArray := prog_9_method_5_code
def y_MD_isPlace : MethodName := ⟨"FrontierCountsModel", "isPlace", "(I)Z"⟩
abbrev c_MD_number : ByteArray := prog_9_method_6_code
def y_MD_number : MethodName := ⟨"FrontierCountsModel", "number", "()V"⟩
abbrev c_MD_addEdge : ByteArray := prog_9_method_7_code
def y_MD_addEdge : MethodName := ⟨"FrontierCountsModel", "addEdge", "(III)V"⟩
abbrev c_MD_hole : ByteArray := prog_9_method_8_code
def y_MD_hole : MethodName := ⟨"FrontierCountsModel", "hole", "(II)Z"⟩
abbrev c_MD_edge : ByteArray := prog_9_method_9_code
def y_MD_edge : MethodName := ⟨"FrontierCountsModel", "edge", "(IIZ)Z"⟩
abbrev c_MD_ends : ByteArray := prog_9_method_10_code
def y_MD_ends : MethodName := ⟨"FrontierCountsModel", "ends", "(II)Z"⟩
abbrev c_MD_edges : ByteArray := prog_9_method_11_code
def y_MD_edges : MethodName := ⟨"FrontierCountsModel", "edges", "()I"⟩
abbrev c_MD_isEdge : ByteArray := prog_9_method_12_code
def y_MD_isEdge : MethodName := ⟨"FrontierCountsModel", "isEdge", "(I)Z"⟩
abbrev c_MD_end : ByteArray := prog_9_method_13_code
def y_MD_end : MethodName := ⟨"FrontierCountsModel", "end", "(IZ)I"⟩
abbrev c_MD_force : ByteArray := prog_9_method_14_code
def y_MD_force : MethodName := ⟨"FrontierCountsModel", "force", "(II)Z"⟩
abbrev c_MD_add : ByteArray := prog_9_method_15_code
def y_MD_add : MethodName := ⟨"FrontierCountsModel", "add", "(J)V"⟩
abbrev c_MD_across : ByteArray := prog_9_method_16_code
def y_MD_across : MethodName := ⟨"FrontierCountsModel", "across", "(II)I"⟩
abbrev c_MD_isOn : ByteArray := prog_9_method_17_code
def y_MD_isOn : MethodName := ⟨"FrontierCountsModel", "isOn", "(II)Z"⟩
abbrev c_MD_walkFrom : ByteArray := prog_9_method_18_code
def y_MD_walkFrom : MethodName := ⟨"FrontierCountsModel", "walkFrom", "(IIZ)V"⟩
abbrev c_MD_listDegrees : ByteArray := prog_9_method_19_code
def y_MD_listDegrees : MethodName := ⟨"FrontierCountsModel", "listDegrees", "(I)V"⟩
abbrev c_MD_isLess : ByteArray := prog_9_method_20_code
def y_MD_isLess : MethodName := ⟨"FrontierCountsModel", "isLess", "(JJ)Z"⟩
abbrev c_MD_sort : ByteArray := prog_9_method_21_code
def y_MD_sort : MethodName := ⟨"FrontierCountsModel", "sort", "()V"⟩
abbrev c_MD_countOfPlaces : ByteArray := prog_9_method_22_code
def y_MD_countOfPlaces : MethodName := ⟨"FrontierCountsModel", "countOfPlaces", "()I"⟩
abbrev c_MD_list : ByteArray := prog_9_method_23_code
def y_MD_list : MethodName := ⟨"FrontierCountsModel", "list", "()V"⟩
abbrev c_MD_isAllowed : ByteArray := prog_9_method_24_code
def y_MD_isAllowed : MethodName := ⟨"FrontierCountsModel", "isAllowed", "(J)Z"⟩
abbrev c_MD_power : ByteArray := prog_9_method_25_code
def y_MD_power : MethodName := ⟨"FrontierCountsModel", "power", "(JJ)J"⟩
abbrev c_MD_trees : ByteArray := prog_9_method_26_code
def y_MD_trees : MethodName := ⟨"FrontierCountsModel", "trees", "()J"⟩
abbrev c_MD_determinant : ByteArray := prog_9_method_27_code
def y_MD_determinant : MethodName := ⟨"FrontierCountsModel", "determinant", "()J"⟩
abbrev c_MD_drawTree : ByteArray := prog_9_method_28_code
def y_MD_drawTree : MethodName := ⟨"FrontierCountsModel", "drawTree", "(J)V"⟩
abbrev c_MD_countAll : ByteArray := prog_9_method_29_code
def y_MD_countAll : MethodName := ⟨"FrontierCountsModel", "countAll", "()J"⟩
abbrev c_MD_count : ByteArray := prog_9_method_30_code
def y_MD_count : MethodName := ⟨"FrontierCountsModel", "count", "()J"⟩
abbrev c_MD_digit : ByteArray := prog_9_method_31_code
def y_MD_digit : MethodName := ⟨"FrontierCountsModel", "digit", "(I)I"⟩
abbrev c_MD_draw : ByteArray := prog_9_method_32_code
def y_MD_draw : MethodName := ⟨"FrontierCountsModel", "draw", "(J)Z"⟩
abbrev c_MD_drawn : ByteArray := prog_9_method_33_code
def y_MD_drawn : MethodName := ⟨"FrontierCountsModel", "drawn", "(I)Z"⟩
abbrev c_MD_rank : ByteArray := prog_9_method_34_code
def y_MD_rank : MethodName := ⟨"FrontierCountsModel", "rank", "()J"⟩
abbrev c_DG_init : ByteArray := prog_2_method_1_code
def y_DG_init : MethodName := ⟨"FrontierCounts$Degrees", "<init>", "(LFrontierCounts$Grid;I)V"⟩
abbrev c_DG_firstCode : ByteArray := prog_2_method_2_code
def y_DG_firstCode : MethodName := ⟨"FrontierCounts$Degrees", "firstCode", "()I"⟩
abbrev c_DG_codeAfter : ByteArray := prog_2_method_3_code
def y_DG_codeAfter : MethodName := ⟨"FrontierCounts$Degrees", "codeAfter", "(IIII)I"⟩
abbrev c_DG_isWay : ByteArray := prog_2_method_4_code
def y_DG_isWay : MethodName := ⟨"FrontierCounts$Degrees", "isWay", "(I)Z"⟩
abbrev c_GR_init : ByteArray := prog_3_method_1_code
def y_GR_init : MethodName := ⟨"FrontierCounts$Grid", "<init>", "(II)V"⟩
abbrev c_GR_belowOf : ByteArray := prog_3_method_2_code
def y_GR_belowOf : MethodName := ⟨"FrontierCounts$Grid", "belowOf", "(I)I"⟩
abbrev c_GR_rightOf : ByteArray := prog_3_method_3_code
def y_GR_rightOf : MethodName := ⟨"FrontierCounts$Grid", "rightOf", "(I)I"⟩
abbrev c_GR_inside : ByteArray := prog_3_method_4_code
def y_GR_inside : MethodName := ⟨"FrontierCounts$Grid", "inside", "(I)Z"⟩
abbrev c_GR_isPlace : ByteArray := prog_3_method_5_code
def y_GR_isPlace : MethodName := ⟨"FrontierCounts$Grid", "isPlace", "(I)Z"⟩
abbrev c_GR_isEnd : ByteArray := prog_3_method_6_code
def y_GR_isEnd : MethodName := ⟨"FrontierCounts$Grid", "isEnd", "(I)Z"⟩
abbrev c_GR_isOpen : ByteArray := prog_3_method_7_code
def y_GR_isOpen : MethodName := ⟨"FrontierCounts$Grid", "isOpen", "(I)Z"⟩
abbrev c_GR_openChoices : ByteArray := prog_3_method_8_code
def y_GR_openChoices : MethodName := ⟨"FrontierCounts$Grid", "openChoices", "(I)I"⟩
abbrev c_GR_turnHole : ByteArray := prog_3_method_9_code
def y_GR_turnHole : MethodName := ⟨"FrontierCounts$Grid", "turnHole", "(I)V"⟩
abbrev c_GR_tellEnds : ByteArray := prog_3_method_10_code
def y_GR_tellEnds : MethodName := ⟨"FrontierCounts$Grid", "tellEnds", "(II)V"⟩
abbrev c_GR_findOpenSlots : ByteArray := prog_3_method_11_code
def y_GR_findOpenSlots : MethodName := ⟨"FrontierCounts$Grid", "findOpenSlots", "()V"⟩
abbrev c_GR_openSlotsAt : ByteArray := prog_3_method_12_code
def y_GR_openSlotsAt : MethodName := ⟨"FrontierCounts$Grid", "openSlotsAt", "(IZ)V"⟩
abbrev c_GR_slotBetween : ByteArray := prog_3_method_13_code
def y_GR_slotBetween : MethodName := ⟨"FrontierCounts$Grid", "slotBetween", "(II)I"⟩
abbrev c_GR_nearEnd : ByteArray := prog_3_method_14_code
def y_GR_nearEnd : MethodName := ⟨"FrontierCounts$Grid", "nearEnd", "(I)I"⟩
abbrev c_GR_farEnd : ByteArray := prog_3_method_15_code
def y_GR_farEnd : MethodName := ⟨"FrontierCounts$Grid", "farEnd", "(I)I"⟩
abbrev c_LY_init : ByteArray := prog_4_method_1_code
def y_LY_init : MethodName := ⟨"FrontierCounts$Layers", "<init>", "(LFrontierCounts$Grid;LFrontierCounts$Rule;I)V"⟩
abbrev c_LY_build : ByteArray := prog_4_method_2_code
def y_LY_build : MethodName := ⟨"FrontierCounts$Layers", "build", "()V"⟩
abbrev c_LY_swapCodes : ByteArray := prog_4_method_3_code
def y_LY_swapCodes : MethodName := ⟨"FrontierCounts$Layers", "swapCodes", "()V"⟩
abbrev c_LY_leadsFrom : ByteArray := prog_4_method_4_code
def y_LY_leadsFrom : MethodName := ⟨"FrontierCounts$Layers", "leadsFrom", "(III)I"⟩
abbrev c_LY_indexOfNext : ByteArray := prog_4_method_5_code
def y_LY_indexOfNext : MethodName := ⟨"FrontierCounts$Layers", "indexOfNext", "(II)I"⟩
abbrev c_LY_addNext : ByteArray := prog_4_method_6_code
def y_LY_addNext : MethodName := ⟨"FrontierCounts$Layers", "addNext", "(III)I"⟩
abbrev c_LY_weigh : ByteArray := prog_4_method_7_code
def y_LY_weigh : MethodName := ⟨"FrontierCounts$Layers", "weigh", "(JJ)V"⟩
abbrev c_LY_waysFrom : ByteArray := prog_4_method_8_code
def y_LY_waysFrom : MethodName := ⟨"FrontierCounts$Layers", "waysFrom", "(II)J"⟩
abbrev c_LY_waysBy : ByteArray := prog_4_method_9_code
def y_LY_waysBy : MethodName := ⟨"FrontierCounts$Layers", "waysBy", "(III)J"⟩
abbrev c_LY_leadBy : ByteArray := prog_4_method_10_code
def y_LY_leadBy : MethodName := ⟨"FrontierCounts$Layers", "leadBy", "(III)I"⟩
abbrev c_LY_isAllowed : ByteArray := prog_4_method_11_code
def y_LY_isAllowed : MethodName := ⟨"FrontierCounts$Layers", "isAllowed", "(II)Z"⟩
abbrev c_LY_total : ByteArray := prog_4_method_12_code
def y_LY_total : MethodName := ⟨"FrontierCounts$Layers", "total", "()J"⟩
abbrev c_LY_wayAt : ByteArray := prog_4_method_13_code
def y_LY_wayAt : MethodName := ⟨"FrontierCounts$Layers", "wayAt", "(J)J"⟩
abbrev c_LN_init : ByteArray := prog_5_method_1_code
def y_LN_init : MethodName := ⟨"FrontierCounts$Lines", "<init>", "(LFrontierCounts$Grid;Z)V"⟩
abbrev c_LN_firstCode : ByteArray := prog_5_method_2_code
def y_LN_firstCode : MethodName := ⟨"FrontierCounts$Lines", "firstCode", "()I"⟩
abbrev c_LN_isWay : ByteArray := prog_5_method_3_code
def y_LN_isWay : MethodName := ⟨"FrontierCounts$Lines", "isWay", "(I)Z"⟩
abbrev c_LN_codeAfter : ByteArray := prog_5_method_4_code
def y_LN_codeAfter : MethodName := ⟨"FrontierCounts$Lines", "codeAfter", "(IIII)I"⟩
abbrev c_LN_withEnd : ByteArray := prog_5_method_5_code
def y_LN_withEnd : MethodName := ⟨"FrontierCounts$Lines", "withEnd", "(II)I"⟩
abbrev c_LN_joined : ByteArray := prog_5_method_6_code
def y_LN_joined : MethodName := ⟨"FrontierCounts$Lines", "joined", "(II)I"⟩
abbrev c_LN_symbol : ByteArray := prog_5_method_7_code
def y_LN_symbol : MethodName := ⟨"FrontierCounts$Lines", "symbol", "(II)I"⟩
abbrev c_LN_withMate : ByteArray := prog_5_method_8_code
def y_LN_withMate : MethodName := ⟨"FrontierCounts$Lines", "withMate", "(IIII)I"⟩
abbrev c_RU_init : ByteArray := prog_6_method_1_code
def y_RU_init : MethodName := ⟨"FrontierCounts$Rule", "<init>", "()V"⟩
abbrev c_TR_init : ByteArray := prog_7_method_1_code
def y_TR_init : MethodName := ⟨"FrontierCounts$Trees", "<init>", "(LFrontierCounts$Grid;)V"⟩
abbrev c_TR_firstCode : ByteArray := prog_7_method_2_code
def y_TR_firstCode : MethodName := ⟨"FrontierCounts$Trees", "firstCode", "()I"⟩
abbrev c_TR_isWay : ByteArray := prog_7_method_3_code
def y_TR_isWay : MethodName := ⟨"FrontierCounts$Trees", "isWay", "(I)Z"⟩
abbrev c_TR_codeAfter : ByteArray := prog_7_method_4_code
def y_TR_codeAfter : MethodName := ⟨"FrontierCounts$Trees", "codeAfter", "(IIII)I"⟩
abbrev c_TR_joinRight : ByteArray := prog_7_method_5_code
def y_TR_joinRight : MethodName := ⟨"FrontierCounts$Trees", "joinRight", "(I)Z"⟩
abbrev c_TR_isThere : ByteArray := prog_7_method_6_code
def y_TR_isThere : MethodName := ⟨"FrontierCounts$Trees", "isThere", "(I)Z"⟩
abbrev c_TR_codeOfPieces : ByteArray := prog_7_method_7_code
def y_TR_codeOfPieces : MethodName := ⟨"FrontierCounts$Trees", "codeOfPieces", "()I"⟩
abbrev c_LW_cell : ByteArray := method_2_code
def y_LW_cell : MethodName := ⟨"FrontierCountsLaw", "cell", "([II)I"⟩
abbrev c_LW_law : ByteArray := code
def y_LW_law : MethodName := ⟨"FrontierCountsLaw", "law", "([I)Z"⟩
abbrev c_JI_bitCount : ByteArray := prog_10_method_49_code
def y_JI_bitCount : MethodName := ⟨"java/lang/Integer", "bitCount", "(I)I"⟩
abbrev c_JA_fill : ByteArray := prog_12_method_103_code
def y_JA_fill : MethodName := ⟨"java/util/Arrays", "fill", "([II)V"⟩
def y_RU_firstCode : MethodName := ⟨"FrontierCounts$Rule", "firstCode", "()I"⟩
def y_RU_codeAfter : MethodName := ⟨"FrontierCounts$Rule", "codeAfter", "(IIII)I"⟩
def y_RU_isWay : MethodName := ⟨"FrontierCounts$Rule", "isWay", "(I)Z"⟩
def T_FC : u_T := fun k => match k with
  | 0 => ("FrontierCounts", "grid", "LFrontierCounts$Grid;", true)
  | 1 => ("FrontierCounts", "layers", "LFrontierCounts$Layers;", true)
  | 2 => ("FrontierCounts", "slots", "[I", true)
  | 3 => ("FrontierCounts", "slotCount", "I", false)
  | 4 => ("FrontierCounts", "gone", "J", false)
  | 5 => ("FrontierCounts", "toldIn", "J", false)
  | 6 => ("FrontierCounts", "toldOut", "J", false)
  | 7 => ("FrontierCounts", "built", "Z", false)
  | 8 => ("FrontierCounts", "weighed", "Z", false)
  | 9 => ("FrontierCounts", "drawnWay", "J", false)
  | _ => ("FrontierCounts", "drawnRank", "J", false)
def ty_FC : Nat → FieldType := fun k => match k with
  | 0 => .object "FrontierCounts$Grid"
  | 1 => .object "FrontierCounts$Layers"
  | 2 => .array .int
  | 3 => .int
  | 4 => .long
  | 5 => .long
  | 6 => .long
  | 7 => .boolean
  | 8 => .boolean
  | 9 => .long
  | _ => .long
theorem nm_FC : ∀ a, a < 11 → ∀ b, b < 11 → a ≠ b → (T_FC a).2.1 ≠ (T_FC b).2.1 := by decide +kernel
theorem tyk_FC : ∀ k, k < 11 → parseFieldDescriptor (T_FC k).2.2.1 = some (ty_FC k) := by decide +kernel
set_option maxRecDepth 20000 in
theorem hin_FC : ∀ w ∈ u_ws "FrontierCounts" T_FC 11, w ∈ bigW := fun w h => bw ((by decide +kernel : ∀ w ∈ u_ws "FrontierCounts" T_FC 11, w ∈ lw_tbl) w h) ((by decide +kernel : ∀ w ∈ u_ws "FrontierCounts" T_FC 11, goodWord w = true) w h)
def T_GR : u_T := fun k => match k with
  | 0 => ("FrontierCounts$Grid", "width", "I", true)
  | 1 => ("FrontierCounts$Grid", "height", "I", true)
  | 2 => ("FrontierCounts$Grid", "places", "I", true)
  | 3 => ("FrontierCounts$Grid", "holes", "I", false)
  | 4 => ("FrontierCounts$Grid", "open", "J", false)
  | 5 => ("FrontierCounts$Grid", "lastPlace", "I", false)
  | 6 => ("FrontierCounts$Grid", "endA", "I", false)
  | _ => ("FrontierCounts$Grid", "endB", "I", false)
def ty_GR : Nat → FieldType := fun k => match k with
  | 0 => .int
  | 1 => .int
  | 2 => .int
  | 3 => .int
  | 4 => .long
  | 5 => .int
  | 6 => .int
  | _ => .int
theorem nm_GR : ∀ a, a < 8 → ∀ b, b < 8 → a ≠ b → (T_GR a).2.1 ≠ (T_GR b).2.1 := by decide +kernel
theorem tyk_GR : ∀ k, k < 8 → parseFieldDescriptor (T_GR k).2.2.1 = some (ty_GR k) := by decide +kernel
set_option maxRecDepth 20000 in
theorem hin_GR : ∀ w ∈ u_ws "FrontierCounts$Grid" T_GR 8, w ∈ bigW := fun w h => bw ((by decide +kernel : ∀ w ∈ u_ws "FrontierCounts$Grid" T_GR 8, w ∈ lw_tbl) w h) ((by decide +kernel : ∀ w ∈ u_ws "FrontierCounts$Grid" T_GR 8, goodWord w = true) w h)
def T_LY : u_T := fun k => match k with
  | 0 => ("FrontierCounts$Layers", "grid", "LFrontierCounts$Grid;", true)
  | 1 => ("FrontierCounts$Layers", "rule", "LFrontierCounts$Rule;", true)
  | 2 => ("FrontierCounts$Layers", "most", "I", true)
  | 3 => ("FrontierCounts$Layers", "sizes", "[I", true)
  | 4 => ("FrontierCounts$Layers", "leads", "[I", true)
  | 5 => ("FrontierCounts$Layers", "ways", "[J", true)
  | 6 => ("FrontierCounts$Layers", "buckets", "[I", true)
  | 7 => ("FrontierCounts$Layers", "codes", "[I", false)
  | 8 => ("FrontierCounts$Layers", "nextCodes", "[I", false)
  | 9 => ("FrontierCounts$Layers", "nextSize", "I", false)
  | 10 => ("FrontierCounts$Layers", "mustHave", "J", false)
  | _ => ("FrontierCounts$Layers", "mayNotHave", "J", false)
def ty_LY : Nat → FieldType := fun k => match k with
  | 0 => .object "FrontierCounts$Grid"
  | 1 => .object "FrontierCounts$Rule"
  | 2 => .int
  | 3 => .array .int
  | 4 => .array .int
  | 5 => .array .long
  | 6 => .array .int
  | 7 => .array .int
  | 8 => .array .int
  | 9 => .int
  | 10 => .long
  | _ => .long
theorem nm_LY : ∀ a, a < 12 → ∀ b, b < 12 → a ≠ b → (T_LY a).2.1 ≠ (T_LY b).2.1 := by decide +kernel
theorem tyk_LY : ∀ k, k < 12 → parseFieldDescriptor (T_LY k).2.2.1 = some (ty_LY k) := by decide +kernel
set_option maxRecDepth 20000 in
theorem hin_LY : ∀ w ∈ u_ws "FrontierCounts$Layers" T_LY 12, w ∈ bigW := fun w h => bw ((by decide +kernel : ∀ w ∈ u_ws "FrontierCounts$Layers" T_LY 12, w ∈ lw_tbl) w h) ((by decide +kernel : ∀ w ∈ u_ws "FrontierCounts$Layers" T_LY 12, goodWord w = true) w h)
def T_DG : u_T := fun k => match k with
  | 0 => ("FrontierCounts$Degrees", "grid", "LFrontierCounts$Grid;", true)
  | _ => ("FrontierCounts$Degrees", "degree", "I", true)
def ty_DG : Nat → FieldType := fun k => match k with
  | 0 => .object "FrontierCounts$Grid"
  | _ => .int
theorem nm_DG : ∀ a, a < 2 → ∀ b, b < 2 → a ≠ b → (T_DG a).2.1 ≠ (T_DG b).2.1 := by decide +kernel
theorem tyk_DG : ∀ k, k < 2 → parseFieldDescriptor (T_DG k).2.2.1 = some (ty_DG k) := by decide +kernel
set_option maxRecDepth 20000 in
theorem hin_DG : ∀ w ∈ u_ws "FrontierCounts$Degrees" T_DG 2, w ∈ bigW := fun w h => bw ((by decide +kernel : ∀ w ∈ u_ws "FrontierCounts$Degrees" T_DG 2, w ∈ lw_tbl) w h) ((by decide +kernel : ∀ w ∈ u_ws "FrontierCounts$Degrees" T_DG 2, goodWord w = true) w h)
def T_LN : u_T := fun k => match k with
  | 0 => ("FrontierCounts$Lines", "grid", "LFrontierCounts$Grid;", true)
  | _ => ("FrontierCounts$Lines", "loop", "Z", true)
def ty_LN : Nat → FieldType := fun k => match k with
  | 0 => .object "FrontierCounts$Grid"
  | _ => .boolean
theorem nm_LN : ∀ a, a < 2 → ∀ b, b < 2 → a ≠ b → (T_LN a).2.1 ≠ (T_LN b).2.1 := by decide +kernel
theorem tyk_LN : ∀ k, k < 2 → parseFieldDescriptor (T_LN k).2.2.1 = some (ty_LN k) := by decide +kernel
set_option maxRecDepth 20000 in
theorem hin_LN : ∀ w ∈ u_ws "FrontierCounts$Lines" T_LN 2, w ∈ bigW := fun w h => bw ((by decide +kernel : ∀ w ∈ u_ws "FrontierCounts$Lines" T_LN 2, w ∈ lw_tbl) w h) ((by decide +kernel : ∀ w ∈ u_ws "FrontierCounts$Lines" T_LN 2, goodWord w = true) w h)
def T_TR : u_T := fun k => match k with
  | 0 => ("FrontierCounts$Trees", "grid", "LFrontierCounts$Grid;", true)
  | _ => ("FrontierCounts$Trees", "pieces", "[I", true)
def ty_TR : Nat → FieldType := fun k => match k with
  | 0 => .object "FrontierCounts$Grid"
  | _ => .array .int
theorem nm_TR : ∀ a, a < 2 → ∀ b, b < 2 → a ≠ b → (T_TR a).2.1 ≠ (T_TR b).2.1 := by decide +kernel
theorem tyk_TR : ∀ k, k < 2 → parseFieldDescriptor (T_TR k).2.2.1 = some (ty_TR k) := by decide +kernel
set_option maxRecDepth 20000 in
theorem hin_TR : ∀ w ∈ u_ws "FrontierCounts$Trees" T_TR 2, w ∈ bigW := fun w h => bw ((by decide +kernel : ∀ w ∈ u_ws "FrontierCounts$Trees" T_TR 2, w ∈ lw_tbl) w h) ((by decide +kernel : ∀ w ∈ u_ws "FrontierCounts$Trees" T_TR 2, goodWord w = true) w h)
def T_MD : u_T := fun k => match k with
  | 0 => ("FrontierCountsModel", "thrown", "I", false)
  | 1 => ("FrontierCountsModel", "kind", "I", true)
  | 2 => ("FrontierCountsModel", "width", "I", true)
  | 3 => ("FrontierCountsModel", "height", "I", true)
  | 4 => ("FrontierCountsModel", "holes", "[Z", true)
  | 5 => ("FrontierCountsModel", "away", "[Z", true)
  | 6 => ("FrontierCountsModel", "first", "I", false)
  | 7 => ("FrontierCountsModel", "second", "I", false)
  | 8 => ("FrontierCountsModel", "edges", "I", false)
  | 9 => ("FrontierCountsModel", "ends", "[I", true)
  | 10 => ("FrontierCountsModel", "told", "[I", true)
  | 11 => ("FrontierCountsModel", "isListed", "Z", false)
  | 12 => ("FrontierCountsModel", "many", "I", false)
  | 13 => ("FrontierCountsModel", "ways", "[J", false)
  | 14 => ("FrontierCountsModel", "other", "[J", false)
  | 15 => ("FrontierCountsModel", "isDrawn", "Z", false)
  | 16 => ("FrontierCountsModel", "way", "J", false)
  | 17 => ("FrontierCountsModel", "rank", "J", false)
  | 18 => ("FrontierCountsModel", "walk", "[I", true)
  | 19 => ("FrontierCountsModel", "tries", "[I", true)
  | 20 => ("FrontierCountsModel", "sets", "[J", true)
  | 21 => ("FrontierCountsModel", "degrees", "[I", true)
  | 22 => ("FrontierCountsModel", "lasts", "[I", true)
  | 23 => ("FrontierCountsModel", "chosen", "[I", true)
  | 24 => ("FrontierCountsModel", "parts", "[I", true)
  | _ => ("FrontierCountsModel", "square", "[J", true)
def ty_MD : Nat → FieldType := fun k => match k with
  | 0 => .int
  | 1 => .int
  | 2 => .int
  | 3 => .int
  | 4 => .array .boolean
  | 5 => .array .boolean
  | 6 => .int
  | 7 => .int
  | 8 => .int
  | 9 => .array .int
  | 10 => .array .int
  | 11 => .boolean
  | 12 => .int
  | 13 => .array .long
  | 14 => .array .long
  | 15 => .boolean
  | 16 => .long
  | 17 => .long
  | 18 => .array .int
  | 19 => .array .int
  | 20 => .array .long
  | 21 => .array .int
  | 22 => .array .int
  | 23 => .array .int
  | 24 => .array .int
  | _ => .array .long
theorem nm_MD : ∀ a, a < 26 → ∀ b, b < 26 → a ≠ b → (T_MD a).2.1 ≠ (T_MD b).2.1 := by decide +kernel
theorem tyk_MD : ∀ k, k < 26 → parseFieldDescriptor (T_MD k).2.2.1 = some (ty_MD k) := by decide +kernel
set_option maxRecDepth 20000 in
theorem hin_MD : ∀ w ∈ u_ws "FrontierCountsModel" T_MD 26, w ∈ bigW := fun w h => bw ((by decide +kernel : ∀ w ∈ u_ws "FrontierCountsModel" T_MD 26, w ∈ lw_tbl) w h) ((by decide +kernel : ∀ w ∈ u_ws "FrontierCountsModel" T_MD 26, goodWord w = true) w h)
abbrev vwCl : List vw_C := [("FrontierCounts", T_FC, 11), ("FrontierCounts$Grid", T_GR, 8), ("FrontierCounts$Layers", T_LY, 12), ("FrontierCounts$Degrees", T_DG, 2), ("FrontierCounts$Lines", T_LN, 2), ("FrontierCounts$Trees", T_TR, 2), ("FrontierCountsModel", T_MD, 26)]
theorem ini_LW : Cond.initialized "FrontierCountsLaw" ∈ bigW := bw (tb_1 (i := 0) (by decide +kernel)) rfl
theorem ini_FC : Cond.initialized "FrontierCounts" ∈ bigW := bw (tb_1 (i := 1) (by decide +kernel)) rfl
theorem ini_GR : Cond.initialized "FrontierCounts$Grid" ∈ bigW := bw (tb_1 (i := 2) (by decide +kernel)) rfl
theorem ini_JM : Cond.initialized "java/lang/Math" ∈ bigW := bw (tb_1 (i := 3) (by decide +kernel)) rfl
theorem ini_LY : Cond.initialized "FrontierCounts$Layers" ∈ bigW := bw (tb_1 (i := 4) (by decide +kernel)) rfl
theorem ini_RU : Cond.initialized "FrontierCounts$Rule" ∈ bigW := bw (tb_1 (i := 5) (by decide +kernel)) rfl
theorem ini_DG : Cond.initialized "FrontierCounts$Degrees" ∈ bigW := bw (tb_1 (i := 6) (by decide +kernel)) rfl
theorem ini_LN : Cond.initialized "FrontierCounts$Lines" ∈ bigW := bw (tb_1 (i := 7) (by decide +kernel)) rfl
theorem ini_TR : Cond.initialized "FrontierCounts$Trees" ∈ bigW := bw (tb_1 (i := 8) (by decide +kernel)) rfl
theorem ini_MD : Cond.initialized "FrontierCountsModel" ∈ bigW := bw (tb_1 (i := 9) (by decide +kernel)) rfl
theorem ini_JA : Cond.initialized "java/util/Arrays" ∈ bigW := bw (tb_1 (i := 10) (by decide +kernel)) rfl
theorem ini_JI : Cond.initialized "java/lang/Integer" ∈ bigW := bw (tb_1 (i := 11) (by decide +kernel)) rfl
theorem cl_LW_7 : Cond.classLink "FrontierCountsLaw" 7 "FrontierCounts" ∈ bigW := bw (tb_1 (i := 12) (by decide +kernel)) rfl
theorem ins_FC : Cond.instantiable "FrontierCounts" 11 ∈ bigW := bw (tb_1 (i := 13) (by decide +kernel)) rfl
theorem ml_LW_15 : Cond.methodLink "FrontierCountsLaw" 15 y_FC_init ∈ bigW := bw (tb_1 (i := 14) (by decide +kernel)) rfl
theorem imm_FC_init : Cond.instanceMethod y_FC_init ∈ bigW := bw (tb_1 (i := 15) (by decide +kernel)) rfl
theorem cod_FC_init : Cond.code y_FC_init prog_1_method_1_code 5 none ∈ bigW := bw (tb_1 (i := 16) (by decide +kernel)) rfl
theorem ml_FC_1 : Cond.methodLink "FrontierCounts" 1 Lib.objectInit ∈ bigW := bw (tb_1 (i := 17) (by decide +kernel)) rfl
theorem imm_objectInit : Cond.instanceMethod Lib.objectInit ∈ bigW := bw (tb_1 (i := 18) (by decide +kernel)) rfl
theorem cod_objectInit : Cond.code Lib.objectInit object_method_1_code 1 none ∈ bigW := bw (tb_1 (i := 19) (by decide +kernel)) rfl
theorem cl_FC_7 : Cond.classLink "FrontierCounts" 7 "FrontierCounts$Grid" ∈ bigW := bw (tb_1 (i := 20) (by decide +kernel)) rfl
theorem ins_GR : Cond.instantiable "FrontierCounts$Grid" 8 ∈ bigW := bw (tb_1 (i := 21) (by decide +kernel)) rfl
theorem ml_FC_11 : Cond.methodLink "FrontierCounts" 11 y_FC_held ∈ bigW := bw (tb_1 (i := 22) (by decide +kernel)) rfl
theorem sta_FC_held : Cond.static y_FC_held ∈ bigW := bw (tb_1 (i := 23) (by decide +kernel)) rfl
theorem cod_FC_held : Cond.code y_FC_held prog_1_method_13_code 3 (some FieldType.int) ∈ bigW := bw (tb_1 (i := 24) (by decide +kernel)) rfl
theorem ml_FC_139 : Cond.methodLink "FrontierCounts" 139 Lib.Math.min.name ∈ bigW := bw (tb_1 (i := 25) (by decide +kernel)) rfl
theorem sta_Math_min_name : Cond.static Lib.Math.min.name ∈ bigW := bw (tb_1 (i := 26) (by decide +kernel)) rfl
theorem cod_Math_min_name : Cond.code Lib.Math.min.name prog_11_method_69_code 2 (some FieldType.int) ∈ bigW := bw (tb_1 (i := 27) (by decide +kernel)) rfl
theorem ml_FC_144 : Cond.methodLink "FrontierCounts" 144 Lib.Math.max.name ∈ bigW := bw (tb_1 (i := 28) (by decide +kernel)) rfl
theorem sta_Math_max_name : Cond.static Lib.Math.max.name ∈ bigW := bw (tb_1 (i := 29) (by decide +kernel)) rfl
theorem cod_Math_max_name : Cond.code Lib.Math.max.name prog_11_method_65_code 2 (some FieldType.int) ∈ bigW := bw (tb_1 (i := 30) (by decide +kernel)) rfl
theorem mn_FC_15 : Cond.methodLinkNest "FrontierCounts" 15 y_GR_init "FrontierCounts" ∈ nwW := nw (tb_1 (i := 31) (by decide +kernel)) rfl
theorem imm_GR_init : Cond.instanceMethod y_GR_init ∈ bigW := bw (tb_1 (i := 32) (by decide +kernel)) rfl
theorem cod_GR_init : Cond.code y_GR_init prog_3_method_1_code 3 none ∈ bigW := bw (tb_1 (i := 33) (by decide +kernel)) rfl
theorem ml_GR_3 : Cond.methodLink "FrontierCounts$Grid" 3 Lib.objectInit ∈ bigW := bw (tb_1 (i := 34) (by decide +kernel)) rfl
theorem ml_GR_27 : Cond.methodLink "FrontierCounts$Grid" 27 y_GR_findOpenSlots ∈ bigW := bw (tb_1 (i := 35) (by decide +kernel)) rfl
theorem imm_GR_findOpenSlots : Cond.instanceMethod y_GR_findOpenSlots ∈ bigW := bw (tb_1 (i := 37) (by decide +kernel)) rfl
theorem cod_GR_findOpenSlots : Cond.code y_GR_findOpenSlots prog_3_method_11_code 3 none ∈ bigW := bw (tb_1 (i := 38) (by decide +kernel)) rfl
theorem ml_GR_52 : Cond.methodLink "FrontierCounts$Grid" 52 y_GR_openSlotsAt ∈ bigW := bw (tb_1 (i := 39) (by decide +kernel)) rfl
theorem imm_GR_openSlotsAt : Cond.instanceMethod y_GR_openSlotsAt ∈ bigW := bw (tb_1 (i := 41) (by decide +kernel)) rfl
theorem cod_GR_openSlotsAt : Cond.code y_GR_openSlotsAt prog_3_method_12_code 3 none ∈ bigW := bw (tb_1 (i := 42) (by decide +kernel)) rfl
theorem ml_GR_56 : Cond.methodLink "FrontierCounts$Grid" 56 y_GR_isPlace ∈ bigW := bw (tb_1 (i := 43) (by decide +kernel)) rfl
theorem imm_GR_isPlace : Cond.instanceMethod y_GR_isPlace ∈ bigW := bw (tb_1 (i := 45) (by decide +kernel)) rfl
theorem cod_GR_isPlace : Cond.code y_GR_isPlace prog_3_method_5_code 2 (some FieldType.boolean) ∈ bigW := bw (tb_1 (i := 46) (by decide +kernel)) rfl
theorem ml_GR_30 : Cond.methodLink "FrontierCounts$Grid" 30 y_GR_inside ∈ bigW := bw (tb_1 (i := 47) (by decide +kernel)) rfl
theorem imm_GR_inside : Cond.instanceMethod y_GR_inside ∈ bigW := bw (tb_1 (i := 49) (by decide +kernel)) rfl
theorem cod_GR_inside : Cond.code y_GR_inside prog_3_method_4_code 2 (some FieldType.boolean) ∈ bigW := bw (tb_1 (i := 50) (by decide +kernel)) rfl
theorem ml_GR_59 : Cond.methodLink "FrontierCounts$Grid" 59 y_GR_rightOf ∈ bigW := bw (tb_1 (i := 51) (by decide +kernel)) rfl
theorem sta_GR_rightOf : Cond.static y_GR_rightOf ∈ bigW := bw (tb_1 (i := 52) (by decide +kernel)) rfl
theorem cod_GR_rightOf : Cond.code y_GR_rightOf prog_3_method_3_code 1 (some FieldType.int) ∈ bigW := bw (tb_1 (i := 53) (by decide +kernel)) rfl
theorem ml_GR_45 : Cond.methodLink "FrontierCounts$Grid" 45 y_GR_belowOf ∈ bigW := bw (tb_1 (i := 54) (by decide +kernel)) rfl
theorem sta_GR_belowOf : Cond.static y_GR_belowOf ∈ bigW := bw (tb_1 (i := 55) (by decide +kernel)) rfl
theorem cod_GR_belowOf : Cond.code y_GR_belowOf prog_3_method_2_code 1 (some FieldType.int) ∈ bigW := bw (tb_1 (i := 56) (by decide +kernel)) rfl
theorem fl_GR_9 : Cond.fieldLink "FrontierCounts$Grid" 9 "FrontierCounts$Grid" "width" "I" ∈ bigW := bw (tb_1 (i := 57) (by decide +kernel)) rfl
theorem fn_TR_15 : Cond.fieldLinkNest "FrontierCounts$Trees" 15 "FrontierCounts$Grid" "width" "I" "FrontierCounts" ∈ nwW := nw (tb_1 (i := 58) (by decide +kernel)) rfl
theorem fn_FC_56 : Cond.fieldLinkNest "FrontierCounts" 56 "FrontierCounts$Grid" "width" "I" "FrontierCounts" ∈ nwW := nw (tb_1 (i := 59) (by decide +kernel)) rfl
theorem fn_LY_68 : Cond.fieldLinkNest "FrontierCounts$Layers" 68 "FrontierCounts$Grid" "width" "I" "FrontierCounts" ∈ nwW := nw (tb_1 (i := 60) (by decide +kernel)) rfl
theorem fl_GR_15 : Cond.fieldLink "FrontierCounts$Grid" 15 "FrontierCounts$Grid" "height" "I" ∈ bigW := bw (tb_1 (i := 61) (by decide +kernel)) rfl
theorem fn_FC_59 : Cond.fieldLinkNest "FrontierCounts" 59 "FrontierCounts$Grid" "height" "I" "FrontierCounts" ∈ nwW := nw (tb_1 (i := 62) (by decide +kernel)) rfl
theorem fl_GR_18 : Cond.fieldLink "FrontierCounts$Grid" 18 "FrontierCounts$Grid" "places" "I" ∈ bigW := bw (tb_1 (i := 63) (by decide +kernel)) rfl
theorem fn_LY_21 : Cond.fieldLinkNest "FrontierCounts$Layers" 21 "FrontierCounts$Grid" "places" "I" "FrontierCounts" ∈ nwW := nw (tb_1 (i := 64) (by decide +kernel)) rfl
theorem fn_FC_39 : Cond.fieldLinkNest "FrontierCounts" 39 "FrontierCounts$Grid" "places" "I" "FrontierCounts" ∈ nwW := nw (tb_1 (i := 65) (by decide +kernel)) rfl
theorem fl_GR_34 : Cond.fieldLink "FrontierCounts$Grid" 34 "FrontierCounts$Grid" "holes" "I" ∈ bigW := bw (tb_1 (i := 66) (by decide +kernel)) rfl
theorem fl_GR_37 : Cond.fieldLink "FrontierCounts$Grid" 37 "FrontierCounts$Grid" "open" "J" ∈ bigW := bw (tb_1 (i := 67) (by decide +kernel)) rfl
theorem fn_TR_39 : Cond.fieldLinkNest "FrontierCounts$Trees" 39 "FrontierCounts$Grid" "lastPlace" "I" "FrontierCounts" ∈ nwW := nw (tb_1 (i := 68) (by decide +kernel)) rfl
theorem fl_GR_49 : Cond.fieldLink "FrontierCounts$Grid" 49 "FrontierCounts$Grid" "lastPlace" "I" ∈ bigW := bw (tb_1 (i := 69) (by decide +kernel)) rfl
theorem fl_GR_21 : Cond.fieldLink "FrontierCounts$Grid" 21 "FrontierCounts$Grid" "endA" "I" ∈ bigW := bw (tb_1 (i := 70) (by decide +kernel)) rfl
theorem fl_GR_24 : Cond.fieldLink "FrontierCounts$Grid" 24 "FrontierCounts$Grid" "endB" "I" ∈ bigW := bw (tb_1 (i := 71) (by decide +kernel)) rfl
theorem cl_FC_22 : Cond.classLink "FrontierCounts" 22 "FrontierCounts$Layers" ∈ bigW := bw (tb_1 (i := 89) (by decide +kernel)) rfl
theorem ins_LY : Cond.instantiable "FrontierCounts$Layers" 12 ∈ bigW := bw (tb_1 (i := 90) (by decide +kernel)) rfl
theorem ml_FC_24 : Cond.methodLink "FrontierCounts" 24 y_FC_ruleOf ∈ bigW := bw (tb_1 (i := 91) (by decide +kernel)) rfl
theorem sta_FC_ruleOf : Cond.static y_FC_ruleOf ∈ bigW := bw (tb_1 (i := 92) (by decide +kernel)) rfl
theorem cod_FC_ruleOf : Cond.code y_FC_ruleOf prog_1_method_15_code 2 (some (FieldType.object "FrontierCounts$Rule")) ∈ bigW := bw (tb_1 (i := 93) (by decide +kernel)) rfl
theorem cl_FC_147 : Cond.classLink "FrontierCounts" 147 "FrontierCounts$Degrees" ∈ bigW := bw (tb_1 (i := 94) (by decide +kernel)) rfl
theorem ins_DG : Cond.instantiable "FrontierCounts$Degrees" 2 ∈ bigW := bw (tb_1 (i := 95) (by decide +kernel)) rfl
theorem mn_FC_149 : Cond.methodLinkNest "FrontierCounts" 149 y_DG_init "FrontierCounts" ∈ nwW := nw (tb_1 (i := 96) (by decide +kernel)) rfl
theorem imm_DG_init : Cond.instanceMethod y_DG_init ∈ bigW := bw (tb_1 (i := 97) (by decide +kernel)) rfl
theorem cod_DG_init : Cond.code y_DG_init prog_2_method_1_code 3 none ∈ bigW := bw (tb_1 (i := 98) (by decide +kernel)) rfl
theorem mn_DG_3 : Cond.methodLinkNest "FrontierCounts$Degrees" 3 y_RU_init "FrontierCounts" ∈ nwW := nw (tb_1 (i := 99) (by decide +kernel)) rfl
theorem imm_RU_init : Cond.instanceMethod y_RU_init ∈ bigW := bw (tb_1 (i := 100) (by decide +kernel)) rfl
theorem cod_RU_init : Cond.code y_RU_init prog_6_method_1_code 1 none ∈ bigW := bw (tb_1 (i := 101) (by decide +kernel)) rfl
theorem ml_RU_1 : Cond.methodLink "FrontierCounts$Rule" 1 Lib.objectInit ∈ bigW := bw (tb_1 (i := 102) (by decide +kernel)) rfl
theorem fl_DG_9 : Cond.fieldLink "FrontierCounts$Degrees" 9 "FrontierCounts$Degrees" "grid" "LFrontierCounts$Grid;" ∈ bigW := bw (tb_1 (i := 103) (by decide +kernel)) rfl
theorem fl_DG_15 : Cond.fieldLink "FrontierCounts$Degrees" 15 "FrontierCounts$Degrees" "degree" "I" ∈ bigW := bw (tb_1 (i := 104) (by decide +kernel)) rfl
theorem cl_FC_152 : Cond.classLink "FrontierCounts" 152 "FrontierCounts$Lines" ∈ bigW := bw (tb_1 (i := 110) (by decide +kernel)) rfl
theorem ins_LN : Cond.instantiable "FrontierCounts$Lines" 2 ∈ bigW := bw (tb_1 (i := 111) (by decide +kernel)) rfl
theorem mn_FC_154 : Cond.methodLinkNest "FrontierCounts" 154 y_LN_init "FrontierCounts" ∈ nwW := nw (tb_1 (i := 112) (by decide +kernel)) rfl
theorem imm_LN_init : Cond.instanceMethod y_LN_init ∈ bigW := bw (tb_1 (i := 113) (by decide +kernel)) rfl
theorem cod_LN_init : Cond.code y_LN_init prog_5_method_1_code 3 none ∈ bigW := bw (tb_1 (i := 114) (by decide +kernel)) rfl
theorem mn_LN_5 : Cond.methodLinkNest "FrontierCounts$Lines" 5 y_RU_init "FrontierCounts" ∈ nwW := nw (tb_1 (i := 115) (by decide +kernel)) rfl
theorem fl_LN_11 : Cond.fieldLink "FrontierCounts$Lines" 11 "FrontierCounts$Lines" "grid" "LFrontierCounts$Grid;" ∈ bigW := bw (tb_1 (i := 116) (by decide +kernel)) rfl
theorem fl_LN_15 : Cond.fieldLink "FrontierCounts$Lines" 15 "FrontierCounts$Lines" "loop" "Z" ∈ bigW := bw (tb_1 (i := 117) (by decide +kernel)) rfl
theorem cl_FC_157 : Cond.classLink "FrontierCounts" 157 "FrontierCounts$Trees" ∈ bigW := bw (tb_1 (i := 123) (by decide +kernel)) rfl
theorem ins_TR : Cond.instantiable "FrontierCounts$Trees" 2 ∈ bigW := bw (tb_1 (i := 124) (by decide +kernel)) rfl
theorem mn_FC_159 : Cond.methodLinkNest "FrontierCounts" 159 y_TR_init "FrontierCounts" ∈ nwW := nw (tb_1 (i := 125) (by decide +kernel)) rfl
theorem imm_TR_init : Cond.instanceMethod y_TR_init ∈ bigW := bw (tb_1 (i := 126) (by decide +kernel)) rfl
theorem cod_TR_init : Cond.code y_TR_init prog_7_method_1_code 2 none ∈ bigW := bw (tb_1 (i := 127) (by decide +kernel)) rfl
theorem mn_TR_3 : Cond.methodLinkNest "FrontierCounts$Trees" 3 y_RU_init "FrontierCounts" ∈ nwW := nw (tb_1 (i := 128) (by decide +kernel)) rfl
theorem fl_TR_9 : Cond.fieldLink "FrontierCounts$Trees" 9 "FrontierCounts$Trees" "grid" "LFrontierCounts$Grid;" ∈ bigW := bw (tb_1 (i := 129) (by decide +kernel)) rfl
theorem fl_TR_21 : Cond.fieldLink "FrontierCounts$Trees" 21 "FrontierCounts$Trees" "pieces" "[I" ∈ bigW := bw (tb_1 (i := 130) (by decide +kernel)) rfl
theorem ac_int : Cond.arrayClass FieldType.int ∈ bigW := bw (tb_1 (i := 136) (by decide +kernel)) rfl
theorem ml_FC_28 : Cond.methodLink "FrontierCounts" 28 y_FC_mostCodes ∈ bigW := bw (tb_1 (i := 137) (by decide +kernel)) rfl
theorem sta_FC_mostCodes : Cond.static y_FC_mostCodes ∈ bigW := bw (tb_1 (i := 138) (by decide +kernel)) rfl
theorem cod_FC_mostCodes : Cond.code y_FC_mostCodes prog_1_method_16_code 1 (some FieldType.int) ∈ bigW := bw (tb_1 (i := 139) (by decide +kernel)) rfl
theorem mn_FC_32 : Cond.methodLinkNest "FrontierCounts" 32 y_LY_init "FrontierCounts" ∈ nwW := nw (tb_1 (i := 140) (by decide +kernel)) rfl
theorem imm_LY_init : Cond.instanceMethod y_LY_init ∈ bigW := bw (tb_1 (i := 141) (by decide +kernel)) rfl
theorem cod_LY_init : Cond.code y_LY_init prog_4_method_1_code 4 none ∈ bigW := bw (tb_1 (i := 142) (by decide +kernel)) rfl
theorem ml_LY_1 : Cond.methodLink "FrontierCounts$Layers" 1 Lib.objectInit ∈ bigW := bw (tb_1 (i := 143) (by decide +kernel)) rfl
theorem fl_LY_7 : Cond.fieldLink "FrontierCounts$Layers" 7 "FrontierCounts$Layers" "grid" "LFrontierCounts$Grid;" ∈ bigW := bw (tb_1 (i := 144) (by decide +kernel)) rfl
theorem fl_LY_13 : Cond.fieldLink "FrontierCounts$Layers" 13 "FrontierCounts$Layers" "rule" "LFrontierCounts$Rule;" ∈ bigW := bw (tb_1 (i := 145) (by decide +kernel)) rfl
theorem fl_LY_17 : Cond.fieldLink "FrontierCounts$Layers" 17 "FrontierCounts$Layers" "most" "I" ∈ bigW := bw (tb_1 (i := 146) (by decide +kernel)) rfl
theorem fl_LY_26 : Cond.fieldLink "FrontierCounts$Layers" 26 "FrontierCounts$Layers" "sizes" "[I" ∈ bigW := bw (tb_1 (i := 147) (by decide +kernel)) rfl
theorem fl_LY_30 : Cond.fieldLink "FrontierCounts$Layers" 30 "FrontierCounts$Layers" "leads" "[I" ∈ bigW := bw (tb_1 (i := 148) (by decide +kernel)) rfl
theorem fl_LY_33 : Cond.fieldLink "FrontierCounts$Layers" 33 "FrontierCounts$Layers" "ways" "[J" ∈ bigW := bw (tb_1 (i := 149) (by decide +kernel)) rfl
theorem fl_LY_37 : Cond.fieldLink "FrontierCounts$Layers" 37 "FrontierCounts$Layers" "buckets" "[I" ∈ bigW := bw (tb_1 (i := 150) (by decide +kernel)) rfl
theorem fl_LY_40 : Cond.fieldLink "FrontierCounts$Layers" 40 "FrontierCounts$Layers" "codes" "[I" ∈ bigW := bw (tb_1 (i := 151) (by decide +kernel)) rfl
theorem fl_LY_43 : Cond.fieldLink "FrontierCounts$Layers" 43 "FrontierCounts$Layers" "nextCodes" "[I" ∈ bigW := bw (tb_1 (i := 152) (by decide +kernel)) rfl
theorem fl_LY_58 : Cond.fieldLink "FrontierCounts$Layers" 58 "FrontierCounts$Layers" "nextSize" "I" ∈ bigW := bw (tb_1 (i := 153) (by decide +kernel)) rfl
theorem fl_LY_91 : Cond.fieldLink "FrontierCounts$Layers" 91 "FrontierCounts$Layers" "mustHave" "J" ∈ bigW := bw (tb_1 (i := 154) (by decide +kernel)) rfl
theorem fl_LY_95 : Cond.fieldLink "FrontierCounts$Layers" 95 "FrontierCounts$Layers" "mayNotHave" "J" ∈ bigW := bw (tb_1 (i := 155) (by decide +kernel)) rfl
theorem ac_long : Cond.arrayClass FieldType.long ∈ bigW := bw (tb_1 (i := 181) (by decide +kernel)) rfl
theorem kl_FC_47 : Cond.constantLong "FrontierCounts" 47 (-1) ∈ bigW := bw (tb_1 (i := 182) (by decide +kernel)) rfl
theorem ml_FC_53 : Cond.methodLink "FrontierCounts" 53 y_FC_numberEdges ∈ bigW := bw (tb_1 (i := 183) (by decide +kernel)) rfl
theorem imm_FC_numberEdges : Cond.instanceMethod y_FC_numberEdges ∈ bigW := bw (tb_1 (i := 185) (by decide +kernel)) rfl
theorem cod_FC_numberEdges : Cond.code y_FC_numberEdges prog_1_method_18_code 2 none ∈ bigW := bw (tb_1 (i := 186) (by decide +kernel)) rfl
theorem mn_FC_162 : Cond.methodLinkNest "FrontierCounts" 162 y_GR_rightOf "FrontierCounts" ∈ nwW := nw (tb_1 (i := 187) (by decide +kernel)) rfl
theorem ml_FC_165 : Cond.methodLink "FrontierCounts" 165 y_FC_addSlot ∈ bigW := bw (tb_1 (i := 188) (by decide +kernel)) rfl
theorem imm_FC_addSlot : Cond.instanceMethod y_FC_addSlot ∈ bigW := bw (tb_1 (i := 190) (by decide +kernel)) rfl
theorem cod_FC_addSlot : Cond.code y_FC_addSlot prog_1_method_19_code 2 none ∈ bigW := bw (tb_1 (i := 191) (by decide +kernel)) rfl
theorem mn_FC_171 : Cond.methodLinkNest "FrontierCounts" 171 y_GR_isOpen "FrontierCounts" ∈ nwW := nw (tb_1 (i := 192) (by decide +kernel)) rfl
theorem imm_GR_isOpen : Cond.instanceMethod y_GR_isOpen ∈ bigW := bw (tb_1 (i := 194) (by decide +kernel)) rfl
theorem cod_GR_isOpen : Cond.code y_GR_isOpen prog_3_method_7_code 2 (some FieldType.boolean) ∈ bigW := bw (tb_1 (i := 195) (by decide +kernel)) rfl
theorem mn_GR_41 : Cond.methodLinkNest "FrontierCounts$Grid" 41 y_FC_has "FrontierCounts" ∈ nwW := nw (tb_1 (i := 196) (by decide +kernel)) rfl
theorem sta_FC_has : Cond.static y_FC_has ∈ bigW := bw (tb_1 (i := 197) (by decide +kernel)) rfl
theorem cod_FC_has : Cond.code y_FC_has prog_1_method_14_code 3 (some FieldType.boolean) ∈ bigW := bw (tb_1 (i := 198) (by decide +kernel)) rfl
theorem ml_FC_77 : Cond.methodLink "FrontierCounts" 77 y_FC_has ∈ bigW := bw (tb_1 (i := 199) (by decide +kernel)) rfl
theorem mn_FC_168 : Cond.methodLinkNest "FrontierCounts" 168 y_GR_belowOf "FrontierCounts" ∈ nwW := nw (tb_1 (i := 200) (by decide +kernel)) rfl
theorem ml_FC_88 : Cond.methodLink "FrontierCounts" 88 y_FC_forgetWays ∈ bigW := bw (tb_1 (i := 201) (by decide +kernel)) rfl
theorem imm_FC_forgetWays : Cond.instanceMethod y_FC_forgetWays ∈ bigW := bw (tb_1 (i := 203) (by decide +kernel)) rfl
theorem cod_FC_forgetWays : Cond.code y_FC_forgetWays prog_1_method_20_code 1 none ∈ bigW := bw (tb_1 (i := 204) (by decide +kernel)) rfl
theorem fl_FC_18 : Cond.fieldLink "FrontierCounts" 18 "FrontierCounts" "grid" "LFrontierCounts$Grid;" ∈ bigW := bw (tb_1 (i := 205) (by decide +kernel)) rfl
theorem fl_FC_35 : Cond.fieldLink "FrontierCounts" 35 "FrontierCounts" "layers" "LFrontierCounts$Layers;" ∈ bigW := bw (tb_1 (i := 206) (by decide +kernel)) rfl
theorem fl_FC_43 : Cond.fieldLink "FrontierCounts" 43 "FrontierCounts" "slots" "[I" ∈ bigW := bw (tb_1 (i := 207) (by decide +kernel)) rfl
theorem fl_FC_91 : Cond.fieldLink "FrontierCounts" 91 "FrontierCounts" "slotCount" "I" ∈ bigW := bw (tb_1 (i := 208) (by decide +kernel)) rfl
theorem fl_FC_66 : Cond.fieldLink "FrontierCounts" 66 "FrontierCounts" "gone" "J" ∈ bigW := bw (tb_1 (i := 209) (by decide +kernel)) rfl
theorem fl_FC_103 : Cond.fieldLink "FrontierCounts" 103 "FrontierCounts" "toldIn" "J" ∈ bigW := bw (tb_1 (i := 210) (by decide +kernel)) rfl
theorem fl_FC_106 : Cond.fieldLink "FrontierCounts" 106 "FrontierCounts" "toldOut" "J" ∈ bigW := bw (tb_1 (i := 211) (by decide +kernel)) rfl
theorem fl_FC_69 : Cond.fieldLink "FrontierCounts" 69 "FrontierCounts" "built" "Z" ∈ bigW := bw (tb_1 (i := 212) (by decide +kernel)) rfl
theorem fl_FC_112 : Cond.fieldLink "FrontierCounts" 112 "FrontierCounts" "weighed" "Z" ∈ bigW := bw (tb_1 (i := 213) (by decide +kernel)) rfl
theorem fl_FC_136 : Cond.fieldLink "FrontierCounts" 136 "FrontierCounts" "drawnWay" "J" ∈ bigW := bw (tb_1 (i := 214) (by decide +kernel)) rfl
theorem fl_FC_49 : Cond.fieldLink "FrontierCounts" 49 "FrontierCounts" "drawnRank" "J" ∈ bigW := bw (tb_1 (i := 215) (by decide +kernel)) rfl
theorem ml_LW_21 : Cond.methodLink "FrontierCountsLaw" 21 y_FC_hole ∈ bigW := bw (tb_1 (i := 239) (by decide +kernel)) rfl
theorem imm_FC_hole : Cond.instanceMethod y_FC_hole ∈ bigW := bw (tb_2 (i := 0) (by decide +kernel)) rfl
theorem sel_FC_hole : Cond.selects "FrontierCounts" y_FC_hole y_FC_hole ∈ bigW := bw (tb_2 (i := 1) (by decide +kernel)) rfl
theorem cod_FC_hole : Cond.code y_FC_hole prog_1_method_2_code 3 (some FieldType.boolean) ∈ bigW := bw (tb_2 (i := 2) (by decide +kernel)) rfl
theorem mn_FC_62 : Cond.methodLinkNest "FrontierCounts" 62 y_GR_turnHole "FrontierCounts" ∈ nwW := nw (tb_2 (i := 3) (by decide +kernel)) rfl
theorem imm_GR_turnHole : Cond.instanceMethod y_GR_turnHole ∈ bigW := bw (tb_2 (i := 5) (by decide +kernel)) rfl
theorem cod_GR_turnHole : Cond.code y_GR_turnHole prog_3_method_9_code 2 none ∈ bigW := bw (tb_2 (i := 6) (by decide +kernel)) rfl
theorem ml_LW_26 : Cond.methodLink "FrontierCountsLaw" 26 y_FC_edge ∈ bigW := bw (tb_2 (i := 7) (by decide +kernel)) rfl
theorem imm_FC_edge : Cond.instanceMethod y_FC_edge ∈ bigW := bw (tb_2 (i := 8) (by decide +kernel)) rfl
theorem sel_FC_edge : Cond.selects "FrontierCounts" y_FC_edge y_FC_edge ∈ bigW := bw (tb_2 (i := 9) (by decide +kernel)) rfl
theorem cod_FC_edge : Cond.code y_FC_edge prog_1_method_3_code 5 (some FieldType.boolean) ∈ bigW := bw (tb_2 (i := 10) (by decide +kernel)) rfl
theorem mn_FC_73 : Cond.methodLinkNest "FrontierCounts" 73 y_GR_slotBetween "FrontierCounts" ∈ nwW := nw (tb_2 (i := 11) (by decide +kernel)) rfl
theorem imm_GR_slotBetween : Cond.instanceMethod y_GR_slotBetween ∈ bigW := bw (tb_2 (i := 13) (by decide +kernel)) rfl
theorem cod_GR_slotBetween : Cond.code y_GR_slotBetween prog_3_method_13_code 5 (some FieldType.int) ∈ bigW := bw (tb_2 (i := 14) (by decide +kernel)) rfl
theorem ml_GR_62 : Cond.methodLink "FrontierCounts$Grid" 62 Lib.Math.min.name ∈ bigW := bw (tb_2 (i := 15) (by decide +kernel)) rfl
theorem ml_GR_68 : Cond.methodLink "FrontierCounts$Grid" 68 Lib.Math.max.name ∈ bigW := bw (tb_2 (i := 16) (by decide +kernel)) rfl
theorem ml_GR_71 : Cond.methodLink "FrontierCounts$Grid" 71 y_GR_isOpen ∈ bigW := bw (tb_2 (i := 17) (by decide +kernel)) rfl
theorem ml_LW_31 : Cond.methodLink "FrontierCountsLaw" 31 y_FC_ends ∈ bigW := bw (tb_2 (i := 18) (by decide +kernel)) rfl
theorem imm_FC_ends : Cond.instanceMethod y_FC_ends ∈ bigW := bw (tb_2 (i := 19) (by decide +kernel)) rfl
theorem sel_FC_ends : Cond.selects "FrontierCounts" y_FC_ends y_FC_ends ∈ bigW := bw (tb_2 (i := 20) (by decide +kernel)) rfl
theorem cod_FC_ends : Cond.code y_FC_ends prog_1_method_4_code 3 (some FieldType.boolean) ∈ bigW := bw (tb_2 (i := 21) (by decide +kernel)) rfl
theorem mn_FC_81 : Cond.methodLinkNest "FrontierCounts" 81 y_GR_inside "FrontierCounts" ∈ nwW := nw (tb_2 (i := 22) (by decide +kernel)) rfl
theorem mn_FC_85 : Cond.methodLinkNest "FrontierCounts" 85 y_GR_tellEnds "FrontierCounts" ∈ nwW := nw (tb_2 (i := 23) (by decide +kernel)) rfl
theorem imm_GR_tellEnds : Cond.instanceMethod y_GR_tellEnds ∈ bigW := bw (tb_2 (i := 25) (by decide +kernel)) rfl
theorem cod_GR_tellEnds : Cond.code y_GR_tellEnds prog_3_method_10_code 3 none ∈ bigW := bw (tb_2 (i := 26) (by decide +kernel)) rfl
theorem ml_LW_35 : Cond.methodLink "FrontierCountsLaw" 35 y_FC_edges ∈ bigW := bw (tb_2 (i := 27) (by decide +kernel)) rfl
theorem imm_FC_edges : Cond.instanceMethod y_FC_edges ∈ bigW := bw (tb_2 (i := 28) (by decide +kernel)) rfl
theorem sel_FC_edges : Cond.selects "FrontierCounts" y_FC_edges y_FC_edges ∈ bigW := bw (tb_2 (i := 29) (by decide +kernel)) rfl
theorem cod_FC_edges : Cond.code y_FC_edges prog_1_method_5_code 1 (some FieldType.int) ∈ bigW := bw (tb_2 (i := 30) (by decide +kernel)) rfl
theorem ml_LW_40 : Cond.methodLink "FrontierCountsLaw" 40 y_FC_end ∈ bigW := bw (tb_2 (i := 31) (by decide +kernel)) rfl
theorem imm_FC_end : Cond.instanceMethod y_FC_end ∈ bigW := bw (tb_2 (i := 32) (by decide +kernel)) rfl
theorem sel_FC_end : Cond.selects "FrontierCounts" y_FC_end y_FC_end ∈ bigW := bw (tb_2 (i := 33) (by decide +kernel)) rfl
theorem cod_FC_end : Cond.code y_FC_end prog_1_method_6_code 4 (some FieldType.int) ∈ bigW := bw (tb_2 (i := 34) (by decide +kernel)) rfl
theorem ml_FC_94 : Cond.methodLink "FrontierCounts" 94 y_FC_isEdge ∈ bigW := bw (tb_2 (i := 35) (by decide +kernel)) rfl
theorem imm_FC_isEdge : Cond.instanceMethod y_FC_isEdge ∈ bigW := bw (tb_2 (i := 37) (by decide +kernel)) rfl
theorem cod_FC_isEdge : Cond.code y_FC_isEdge prog_1_method_17_code 2 (some FieldType.boolean) ∈ bigW := bw (tb_2 (i := 38) (by decide +kernel)) rfl
theorem mn_FC_97 : Cond.methodLinkNest "FrontierCounts" 97 y_GR_farEnd "FrontierCounts" ∈ nwW := nw (tb_2 (i := 39) (by decide +kernel)) rfl
theorem imm_GR_farEnd : Cond.instanceMethod y_GR_farEnd ∈ bigW := bw (tb_2 (i := 41) (by decide +kernel)) rfl
theorem cod_GR_farEnd : Cond.code y_GR_farEnd prog_3_method_15_code 3 (some FieldType.int) ∈ bigW := bw (tb_2 (i := 42) (by decide +kernel)) rfl
theorem ml_GR_74 : Cond.methodLink "FrontierCounts$Grid" 74 y_GR_nearEnd ∈ bigW := bw (tb_2 (i := 43) (by decide +kernel)) rfl
theorem imm_GR_nearEnd : Cond.instanceMethod y_GR_nearEnd ∈ bigW := bw (tb_2 (i := 45) (by decide +kernel)) rfl
theorem cod_GR_nearEnd : Cond.code y_GR_nearEnd prog_3_method_14_code 2 (some FieldType.int) ∈ bigW := bw (tb_2 (i := 46) (by decide +kernel)) rfl
theorem mn_FC_100 : Cond.methodLinkNest "FrontierCounts" 100 y_GR_nearEnd "FrontierCounts" ∈ nwW := nw (tb_2 (i := 47) (by decide +kernel)) rfl
theorem ml_LW_45 : Cond.methodLink "FrontierCountsLaw" 45 y_FC_force ∈ bigW := bw (tb_2 (i := 48) (by decide +kernel)) rfl
theorem imm_FC_force : Cond.instanceMethod y_FC_force ∈ bigW := bw (tb_2 (i := 49) (by decide +kernel)) rfl
theorem sel_FC_force : Cond.selects "FrontierCounts" y_FC_force y_FC_force ∈ bigW := bw (tb_2 (i := 50) (by decide +kernel)) rfl
theorem cod_FC_force : Cond.code y_FC_force prog_1_method_7_code 5 (some FieldType.boolean) ∈ bigW := bw (tb_2 (i := 51) (by decide +kernel)) rfl
theorem ml_LW_49 : Cond.methodLink "FrontierCountsLaw" 49 y_FC_count ∈ bigW := bw (tb_2 (i := 52) (by decide +kernel)) rfl
theorem imm_FC_count : Cond.instanceMethod y_FC_count ∈ bigW := bw (tb_2 (i := 53) (by decide +kernel)) rfl
theorem sel_FC_count : Cond.selects "FrontierCounts" y_FC_count y_FC_count ∈ bigW := bw (tb_2 (i := 54) (by decide +kernel)) rfl
theorem cod_FC_count : Cond.code y_FC_count prog_1_method_8_code 1 (some FieldType.long) ∈ bigW := bw (tb_2 (i := 55) (by decide +kernel)) rfl
theorem mn_FC_109 : Cond.methodLinkNest "FrontierCounts" 109 y_LY_build "FrontierCounts" ∈ nwW := nw (tb_2 (i := 56) (by decide +kernel)) rfl
theorem imm_LY_build : Cond.instanceMethod y_LY_build ∈ bigW := bw (tb_2 (i := 58) (by decide +kernel)) rfl
theorem cod_LY_build : Cond.code y_LY_build prog_4_method_2_code 4 none ∈ bigW := bw (tb_2 (i := 59) (by decide +kernel)) rfl
theorem ml_LY_46 : Cond.methodLink "FrontierCounts$Layers" 46 y_JA_fill ∈ bigW := bw (tb_2 (i := 60) (by decide +kernel)) rfl
theorem sta_JA_fill : Cond.static y_JA_fill ∈ bigW := bw (tb_2 (i := 61) (by decide +kernel)) rfl
theorem cod_JA_fill : Cond.code y_JA_fill prog_12_method_103_code 4 none ∈ bigW := bw (tb_2 (i := 62) (by decide +kernel)) rfl
theorem ml_LY_52 : Cond.methodLink "FrontierCounts$Layers" 52 y_RU_firstCode ∈ bigW := bw (tb_2 (i := 63) (by decide +kernel)) rfl
theorem dec_RU_firstCode : Cond.declares y_RU_firstCode ∈ nwW := nw (tb_2 (i := 64) (by decide +kernel)) rfl
theorem same_firstCode : Cond.sameMethod "FrontierCounts$Rule" "FrontierCounts$Rule" "firstCode" "()I" ∈ bigW := bw (tb_2 (i := 65) (by decide +kernel)) rfl
theorem sel_DG_firstCode : Cond.selects "FrontierCounts$Degrees" y_RU_firstCode y_DG_firstCode ∈ bigW := bw (tb_2 (i := 66) (by decide +kernel)) rfl
theorem imm_DG_firstCode : Cond.instanceMethod y_DG_firstCode ∈ bigW := bw (tb_2 (i := 67) (by decide +kernel)) rfl
theorem cod_DG_firstCode : Cond.code y_DG_firstCode prog_2_method_2_code 1 (some FieldType.int) ∈ bigW := bw (tb_2 (i := 68) (by decide +kernel)) rfl
theorem sel_LN_firstCode : Cond.selects "FrontierCounts$Lines" y_RU_firstCode y_LN_firstCode ∈ bigW := bw (tb_2 (i := 69) (by decide +kernel)) rfl
theorem imm_LN_firstCode : Cond.instanceMethod y_LN_firstCode ∈ bigW := bw (tb_2 (i := 70) (by decide +kernel)) rfl
theorem cod_LN_firstCode : Cond.code y_LN_firstCode prog_5_method_2_code 1 (some FieldType.int) ∈ bigW := bw (tb_2 (i := 71) (by decide +kernel)) rfl
theorem sel_TR_firstCode : Cond.selects "FrontierCounts$Trees" y_RU_firstCode y_TR_firstCode ∈ bigW := bw (tb_2 (i := 72) (by decide +kernel)) rfl
theorem imm_TR_firstCode : Cond.instanceMethod y_TR_firstCode ∈ bigW := bw (tb_2 (i := 73) (by decide +kernel)) rfl
theorem cod_TR_firstCode : Cond.code y_TR_firstCode prog_7_method_2_code 2 (some FieldType.int) ∈ bigW := bw (tb_2 (i := 74) (by decide +kernel)) rfl
theorem mn_TR_25 : Cond.methodLinkNest "FrontierCounts$Trees" 25 y_GR_isPlace "FrontierCounts" ∈ nwW := nw (tb_2 (i := 75) (by decide +kernel)) rfl
theorem ml_TR_29 : Cond.methodLink "FrontierCounts$Trees" 29 y_TR_codeOfPieces ∈ bigW := bw (tb_2 (i := 76) (by decide +kernel)) rfl
theorem imm_TR_codeOfPieces : Cond.instanceMethod y_TR_codeOfPieces ∈ bigW := bw (tb_2 (i := 78) (by decide +kernel)) rfl
theorem cod_TR_codeOfPieces : Cond.code y_TR_codeOfPieces prog_7_method_7_code 6 (some FieldType.int) ∈ bigW := bw (tb_2 (i := 79) (by decide +kernel)) rfl
theorem ml_LY_61 : Cond.methodLink "FrontierCounts$Layers" 61 y_LY_leadsFrom ∈ bigW := bw (tb_2 (i := 80) (by decide +kernel)) rfl
theorem imm_LY_leadsFrom : Cond.instanceMethod y_LY_leadsFrom ∈ bigW := bw (tb_2 (i := 82) (by decide +kernel)) rfl
theorem cod_LY_leadsFrom : Cond.code y_LY_leadsFrom prog_4_method_4_code 9 (some FieldType.int) ∈ bigW := bw (tb_2 (i := 83) (by decide +kernel)) rfl
theorem mn_LY_75 : Cond.methodLinkNest "FrontierCounts$Layers" 75 y_GR_openChoices "FrontierCounts" ∈ nwW := nw (tb_2 (i := 84) (by decide +kernel)) rfl
theorem imm_GR_openChoices : Cond.instanceMethod y_GR_openChoices ∈ bigW := bw (tb_2 (i := 86) (by decide +kernel)) rfl
theorem cod_GR_openChoices : Cond.code y_GR_openChoices prog_3_method_8_code 2 (some FieldType.int) ∈ bigW := bw (tb_2 (i := 87) (by decide +kernel)) rfl
theorem ml_LY_79 : Cond.methodLink "FrontierCounts$Layers" 79 y_RU_codeAfter ∈ bigW := bw (tb_2 (i := 88) (by decide +kernel)) rfl
theorem dec_RU_codeAfter : Cond.declares y_RU_codeAfter ∈ nwW := nw (tb_2 (i := 89) (by decide +kernel)) rfl
theorem same_codeAfter : Cond.sameMethod "FrontierCounts$Rule" "FrontierCounts$Rule" "codeAfter" "(IIII)I" ∈ bigW := bw (tb_2 (i := 90) (by decide +kernel)) rfl
theorem sel_DG_codeAfter : Cond.selects "FrontierCounts$Degrees" y_RU_codeAfter y_DG_codeAfter ∈ bigW := bw (tb_2 (i := 91) (by decide +kernel)) rfl
theorem imm_DG_codeAfter : Cond.instanceMethod y_DG_codeAfter ∈ bigW := bw (tb_2 (i := 92) (by decide +kernel)) rfl
theorem cod_DG_codeAfter : Cond.code y_DG_codeAfter prog_2_method_3_code 7 (some FieldType.int) ∈ bigW := bw (tb_2 (i := 93) (by decide +kernel)) rfl
theorem mn_DG_19 : Cond.methodLinkNest "FrontierCounts$Degrees" 19 y_GR_isPlace "FrontierCounts" ∈ nwW := nw (tb_2 (i := 94) (by decide +kernel)) rfl
theorem ml_DG_25 : Cond.methodLink "FrontierCounts$Degrees" 25 y_JI_bitCount ∈ bigW := bw (tb_2 (i := 95) (by decide +kernel)) rfl
theorem sta_JI_bitCount : Cond.static y_JI_bitCount ∈ bigW := bw (tb_2 (i := 96) (by decide +kernel)) rfl
theorem cod_JI_bitCount : Cond.code y_JI_bitCount prog_10_method_49_code 1 (some FieldType.int) ∈ bigW := bw (tb_2 (i := 97) (by decide +kernel)) rfl
theorem kl_JI_265 : Cond.constant "java/lang/Integer" 265 (1431655765) ∈ bigW := bw (tb_2 (i := 98) (by decide +kernel)) rfl
theorem kl_JI_266 : Cond.constant "java/lang/Integer" 266 (858993459) ∈ bigW := bw (tb_2 (i := 99) (by decide +kernel)) rfl
theorem kl_JI_267 : Cond.constant "java/lang/Integer" 267 (252645135) ∈ bigW := bw (tb_2 (i := 100) (by decide +kernel)) rfl
theorem sel_LN_codeAfter : Cond.selects "FrontierCounts$Lines" y_RU_codeAfter y_LN_codeAfter ∈ bigW := bw (tb_2 (i := 101) (by decide +kernel)) rfl
theorem imm_LN_codeAfter : Cond.instanceMethod y_LN_codeAfter ∈ bigW := bw (tb_2 (i := 102) (by decide +kernel)) rfl
theorem cod_LN_codeAfter : Cond.code y_LN_codeAfter prog_5_method_4_code 11 (some FieldType.int) ∈ bigW := bw (tb_2 (i := 103) (by decide +kernel)) rfl
theorem mn_LN_19 : Cond.methodLinkNest "FrontierCounts$Lines" 19 y_GR_isEnd "FrontierCounts" ∈ nwW := nw (tb_2 (i := 104) (by decide +kernel)) rfl
theorem imm_GR_isEnd : Cond.instanceMethod y_GR_isEnd ∈ bigW := bw (tb_2 (i := 106) (by decide +kernel)) rfl
theorem cod_GR_isEnd : Cond.code y_GR_isEnd prog_3_method_6_code 2 (some FieldType.boolean) ∈ bigW := bw (tb_2 (i := 107) (by decide +kernel)) rfl
theorem ml_LN_25 : Cond.methodLink "FrontierCounts$Lines" 25 y_LN_withEnd ∈ bigW := bw (tb_2 (i := 108) (by decide +kernel)) rfl
theorem sta_LN_withEnd : Cond.static y_LN_withEnd ∈ bigW := bw (tb_2 (i := 109) (by decide +kernel)) rfl
theorem cod_LN_withEnd : Cond.code y_LN_withEnd prog_5_method_5_code 2 (some FieldType.int) ∈ bigW := bw (tb_2 (i := 110) (by decide +kernel)) rfl
theorem ml_LN_29 : Cond.methodLink "FrontierCounts$Lines" 29 y_LN_symbol ∈ bigW := bw (tb_2 (i := 111) (by decide +kernel)) rfl
theorem sta_LN_symbol : Cond.static y_LN_symbol ∈ bigW := bw (tb_2 (i := 112) (by decide +kernel)) rfl
theorem cod_LN_symbol : Cond.code y_LN_symbol prog_5_method_7_code 2 (some FieldType.int) ∈ bigW := bw (tb_2 (i := 113) (by decide +kernel)) rfl
theorem ml_LN_32 : Cond.methodLink "FrontierCounts$Lines" 32 y_JI_bitCount ∈ bigW := bw (tb_2 (i := 114) (by decide +kernel)) rfl
theorem ml_LN_38 : Cond.methodLink "FrontierCounts$Lines" 38 y_LN_joined ∈ bigW := bw (tb_2 (i := 115) (by decide +kernel)) rfl
theorem imm_LN_joined : Cond.instanceMethod y_LN_joined ∈ bigW := bw (tb_2 (i := 117) (by decide +kernel)) rfl
theorem cod_LN_joined : Cond.code y_LN_joined prog_5_method_6_code 7 (some FieldType.int) ∈ bigW := bw (tb_2 (i := 118) (by decide +kernel)) rfl
theorem ml_LN_41 : Cond.methodLink "FrontierCounts$Lines" 41 y_LN_withMate ∈ bigW := bw (tb_2 (i := 119) (by decide +kernel)) rfl
theorem sta_LN_withMate : Cond.static y_LN_withMate ∈ bigW := bw (tb_2 (i := 120) (by decide +kernel)) rfl
theorem cod_LN_withMate : Cond.code y_LN_withMate prog_5_method_8_code 9 (some FieldType.int) ∈ bigW := bw (tb_2 (i := 121) (by decide +kernel)) rfl
theorem sel_TR_codeAfter : Cond.selects "FrontierCounts$Trees" y_RU_codeAfter y_TR_codeAfter ∈ bigW := bw (tb_2 (i := 122) (by decide +kernel)) rfl
theorem imm_TR_codeAfter : Cond.instanceMethod y_TR_codeAfter ∈ bigW := bw (tb_2 (i := 123) (by decide +kernel)) rfl
theorem cod_TR_codeAfter : Cond.code y_TR_codeAfter prog_7_method_4_code 8 (some FieldType.int) ∈ bigW := bw (tb_2 (i := 124) (by decide +kernel)) rfl
theorem ml_TR_33 : Cond.methodLink "FrontierCounts$Trees" 33 y_TR_joinRight ∈ bigW := bw (tb_2 (i := 125) (by decide +kernel)) rfl
theorem imm_TR_joinRight : Cond.instanceMethod y_TR_joinRight ∈ bigW := bw (tb_2 (i := 127) (by decide +kernel)) rfl
theorem cod_TR_joinRight : Cond.code y_TR_joinRight prog_7_method_5_code 5 (some FieldType.boolean) ∈ bigW := bw (tb_2 (i := 128) (by decide +kernel)) rfl
theorem ml_TR_36 : Cond.methodLink "FrontierCounts$Trees" 36 y_TR_isThere ∈ bigW := bw (tb_2 (i := 129) (by decide +kernel)) rfl
theorem imm_TR_isThere : Cond.instanceMethod y_TR_isThere ∈ bigW := bw (tb_2 (i := 131) (by decide +kernel)) rfl
theorem cod_TR_isThere : Cond.code y_TR_isThere prog_7_method_6_code 3 (some FieldType.boolean) ∈ bigW := bw (tb_2 (i := 132) (by decide +kernel)) rfl
theorem ml_LY_83 : Cond.methodLink "FrontierCounts$Layers" 83 y_LY_indexOfNext ∈ bigW := bw (tb_2 (i := 133) (by decide +kernel)) rfl
theorem imm_LY_indexOfNext : Cond.instanceMethod y_LY_indexOfNext ∈ bigW := bw (tb_2 (i := 135) (by decide +kernel)) rfl
theorem cod_LY_indexOfNext : Cond.code y_LY_indexOfNext prog_4_method_5_code 7 (some FieldType.int) ∈ bigW := bw (tb_2 (i := 136) (by decide +kernel)) rfl
theorem kl_LY_87 : Cond.constant "FrontierCounts$Layers" 87 (-1640531535) ∈ bigW := bw (tb_2 (i := 137) (by decide +kernel)) rfl
theorem ml_LY_88 : Cond.methodLink "FrontierCounts$Layers" 88 y_LY_addNext ∈ bigW := bw (tb_2 (i := 138) (by decide +kernel)) rfl
theorem imm_LY_addNext : Cond.instanceMethod y_LY_addNext ∈ bigW := bw (tb_2 (i := 140) (by decide +kernel)) rfl
theorem cod_LY_addNext : Cond.code y_LY_addNext prog_4_method_6_code 5 (some FieldType.int) ∈ bigW := bw (tb_2 (i := 141) (by decide +kernel)) rfl
theorem ml_LY_65 : Cond.methodLink "FrontierCounts$Layers" 65 y_LY_swapCodes ∈ bigW := bw (tb_2 (i := 142) (by decide +kernel)) rfl
theorem imm_LY_swapCodes : Cond.instanceMethod y_LY_swapCodes ∈ bigW := bw (tb_2 (i := 144) (by decide +kernel)) rfl
theorem cod_LY_swapCodes : Cond.code y_LY_swapCodes prog_4_method_3_code 2 none ∈ bigW := bw (tb_2 (i := 145) (by decide +kernel)) rfl
theorem ml_LY_71 : Cond.methodLink "FrontierCounts$Layers" 71 y_RU_isWay ∈ bigW := bw (tb_2 (i := 146) (by decide +kernel)) rfl
theorem dec_RU_isWay : Cond.declares y_RU_isWay ∈ nwW := nw (tb_2 (i := 147) (by decide +kernel)) rfl
theorem same_isWay : Cond.sameMethod "FrontierCounts$Rule" "FrontierCounts$Rule" "isWay" "(I)Z" ∈ bigW := bw (tb_2 (i := 148) (by decide +kernel)) rfl
theorem sel_DG_isWay : Cond.selects "FrontierCounts$Degrees" y_RU_isWay y_DG_isWay ∈ bigW := bw (tb_2 (i := 149) (by decide +kernel)) rfl
theorem imm_DG_isWay : Cond.instanceMethod y_DG_isWay ∈ bigW := bw (tb_2 (i := 150) (by decide +kernel)) rfl
theorem cod_DG_isWay : Cond.code y_DG_isWay prog_2_method_4_code 2 (some FieldType.boolean) ∈ bigW := bw (tb_2 (i := 151) (by decide +kernel)) rfl
theorem sel_LN_isWay : Cond.selects "FrontierCounts$Lines" y_RU_isWay y_LN_isWay ∈ bigW := bw (tb_2 (i := 152) (by decide +kernel)) rfl
theorem imm_LN_isWay : Cond.instanceMethod y_LN_isWay ∈ bigW := bw (tb_2 (i := 153) (by decide +kernel)) rfl
theorem cod_LN_isWay : Cond.code y_LN_isWay prog_5_method_3_code 2 (some FieldType.boolean) ∈ bigW := bw (tb_2 (i := 154) (by decide +kernel)) rfl
theorem sel_TR_isWay : Cond.selects "FrontierCounts$Trees" y_RU_isWay y_TR_isWay ∈ bigW := bw (tb_2 (i := 155) (by decide +kernel)) rfl
theorem imm_TR_isWay : Cond.instanceMethod y_TR_isWay ∈ bigW := bw (tb_2 (i := 156) (by decide +kernel)) rfl
theorem cod_TR_isWay : Cond.code y_TR_isWay prog_7_method_3_code 2 (some FieldType.boolean) ∈ bigW := bw (tb_2 (i := 157) (by decide +kernel)) rfl
theorem mn_FC_115 : Cond.methodLinkNest "FrontierCounts" 115 y_LY_weigh "FrontierCounts" ∈ nwW := nw (tb_2 (i := 158) (by decide +kernel)) rfl
theorem imm_LY_weigh : Cond.instanceMethod y_LY_weigh ∈ bigW := bw (tb_2 (i := 160) (by decide +kernel)) rfl
theorem cod_LY_weigh : Cond.code y_LY_weigh prog_4_method_7_code 7 none ∈ bigW := bw (tb_2 (i := 161) (by decide +kernel)) rfl
theorem ml_LY_98 : Cond.methodLink "FrontierCounts$Layers" 98 y_LY_waysFrom ∈ bigW := bw (tb_2 (i := 162) (by decide +kernel)) rfl
theorem imm_LY_waysFrom : Cond.instanceMethod y_LY_waysFrom ∈ bigW := bw (tb_2 (i := 164) (by decide +kernel)) rfl
theorem cod_LY_waysFrom : Cond.code y_LY_waysFrom prog_4_method_8_code 6 (some FieldType.long) ∈ bigW := bw (tb_2 (i := 165) (by decide +kernel)) rfl
theorem ml_LY_102 : Cond.methodLink "FrontierCounts$Layers" 102 y_LY_waysBy ∈ bigW := bw (tb_2 (i := 166) (by decide +kernel)) rfl
theorem imm_LY_waysBy : Cond.instanceMethod y_LY_waysBy ∈ bigW := bw (tb_2 (i := 168) (by decide +kernel)) rfl
theorem cod_LY_waysBy : Cond.code y_LY_waysBy prog_4_method_9_code 5 (some FieldType.long) ∈ bigW := bw (tb_2 (i := 169) (by decide +kernel)) rfl
theorem ml_LY_106 : Cond.methodLink "FrontierCounts$Layers" 106 y_LY_leadBy ∈ bigW := bw (tb_2 (i := 170) (by decide +kernel)) rfl
theorem imm_LY_leadBy : Cond.instanceMethod y_LY_leadBy ∈ bigW := bw (tb_2 (i := 172) (by decide +kernel)) rfl
theorem cod_LY_leadBy : Cond.code y_LY_leadBy prog_4_method_10_code 4 (some FieldType.int) ∈ bigW := bw (tb_2 (i := 173) (by decide +kernel)) rfl
theorem ml_LY_109 : Cond.methodLink "FrontierCounts$Layers" 109 y_LY_isAllowed ∈ bigW := bw (tb_2 (i := 174) (by decide +kernel)) rfl
theorem imm_LY_isAllowed : Cond.instanceMethod y_LY_isAllowed ∈ bigW := bw (tb_2 (i := 176) (by decide +kernel)) rfl
theorem cod_LY_isAllowed : Cond.code y_LY_isAllowed prog_4_method_11_code 6 (some FieldType.boolean) ∈ bigW := bw (tb_2 (i := 177) (by decide +kernel)) rfl
theorem mn_LY_113 : Cond.methodLinkNest "FrontierCounts$Layers" 113 y_GR_belowOf "FrontierCounts" ∈ nwW := nw (tb_2 (i := 178) (by decide +kernel)) rfl
theorem mn_FC_119 : Cond.methodLinkNest "FrontierCounts" 119 y_LY_total "FrontierCounts" ∈ nwW := nw (tb_2 (i := 179) (by decide +kernel)) rfl
theorem imm_LY_total : Cond.instanceMethod y_LY_total ∈ bigW := bw (tb_2 (i := 181) (by decide +kernel)) rfl
theorem cod_LY_total : Cond.code y_LY_total prog_4_method_12_code 1 (some FieldType.long) ∈ bigW := bw (tb_2 (i := 182) (by decide +kernel)) rfl
theorem ml_LW_54 : Cond.methodLink "FrontierCountsLaw" 54 y_FC_digit ∈ bigW := bw (tb_2 (i := 183) (by decide +kernel)) rfl
theorem imm_FC_digit : Cond.instanceMethod y_FC_digit ∈ bigW := bw (tb_2 (i := 184) (by decide +kernel)) rfl
theorem sel_FC_digit : Cond.selects "FrontierCounts" y_FC_digit y_FC_digit ∈ bigW := bw (tb_2 (i := 185) (by decide +kernel)) rfl
theorem cod_FC_digit : Cond.code y_FC_digit prog_1_method_9_code 5 (some FieldType.int) ∈ bigW := bw (tb_2 (i := 186) (by decide +kernel)) rfl
theorem ml_FC_123 : Cond.methodLink "FrontierCounts" 123 y_FC_count ∈ bigW := bw (tb_2 (i := 187) (by decide +kernel)) rfl
theorem kl_FC_126 : Cond.constantLong "FrontierCounts" 126 (10) ∈ bigW := bw (tb_2 (i := 188) (by decide +kernel)) rfl
theorem ml_LW_61 : Cond.methodLink "FrontierCountsLaw" 61 y_FC_draw ∈ bigW := bw (tb_2 (i := 189) (by decide +kernel)) rfl
theorem imm_FC_draw : Cond.instanceMethod y_FC_draw ∈ bigW := bw (tb_2 (i := 190) (by decide +kernel)) rfl
theorem sel_FC_draw : Cond.selects "FrontierCounts" y_FC_draw y_FC_draw ∈ bigW := bw (tb_2 (i := 191) (by decide +kernel)) rfl
theorem cod_FC_draw : Cond.code y_FC_draw prog_1_method_10_code 7 (some FieldType.boolean) ∈ bigW := bw (tb_2 (i := 192) (by decide +kernel)) rfl
theorem kl_FC_128 : Cond.constantLong "FrontierCounts" 128 (6364136223846793005) ∈ bigW := bw (tb_2 (i := 193) (by decide +kernel)) rfl
theorem kl_FC_130 : Cond.constantLong "FrontierCounts" 130 (1442695040888963407) ∈ bigW := bw (tb_2 (i := 194) (by decide +kernel)) rfl
theorem mn_FC_132 : Cond.methodLinkNest "FrontierCounts" 132 y_LY_wayAt "FrontierCounts" ∈ nwW := nw (tb_2 (i := 195) (by decide +kernel)) rfl
theorem imm_LY_wayAt : Cond.instanceMethod y_LY_wayAt ∈ bigW := bw (tb_2 (i := 197) (by decide +kernel)) rfl
theorem cod_LY_wayAt : Cond.code y_LY_wayAt prog_4_method_13_code 11 (some FieldType.long) ∈ bigW := bw (tb_2 (i := 198) (by decide +kernel)) rfl
theorem ml_LW_66 : Cond.methodLink "FrontierCountsLaw" 66 y_FC_drawn ∈ bigW := bw (tb_2 (i := 199) (by decide +kernel)) rfl
theorem imm_FC_drawn : Cond.instanceMethod y_FC_drawn ∈ bigW := bw (tb_2 (i := 200) (by decide +kernel)) rfl
theorem sel_FC_drawn : Cond.selects "FrontierCounts" y_FC_drawn y_FC_drawn ∈ bigW := bw (tb_2 (i := 201) (by decide +kernel)) rfl
theorem cod_FC_drawn : Cond.code y_FC_drawn prog_1_method_11_code 2 (some FieldType.boolean) ∈ bigW := bw (tb_2 (i := 202) (by decide +kernel)) rfl
theorem ml_LW_71 : Cond.methodLink "FrontierCountsLaw" 71 y_FC_rank ∈ bigW := bw (tb_2 (i := 203) (by decide +kernel)) rfl
theorem imm_FC_rank : Cond.instanceMethod y_FC_rank ∈ bigW := bw (tb_2 (i := 204) (by decide +kernel)) rfl
theorem sel_FC_rank : Cond.selects "FrontierCounts" y_FC_rank y_FC_rank ∈ bigW := bw (tb_2 (i := 205) (by decide +kernel)) rfl
theorem cod_FC_rank : Cond.code y_FC_rank prog_1_method_12_code 1 (some FieldType.long) ∈ bigW := bw (tb_2 (i := 206) (by decide +kernel)) rfl
theorem ml_LW_9 : Cond.methodLink "FrontierCountsLaw" 9 y_LW_cell ∈ bigW := bw (tb_2 (i := 207) (by decide +kernel)) rfl
theorem sta_LW_cell : Cond.static y_LW_cell ∈ bigW := bw (tb_2 (i := 208) (by decide +kernel)) rfl
theorem cod_LW_cell : Cond.code y_LW_cell method_2_code 2 (some FieldType.int) ∈ bigW := bw (tb_2 (i := 209) (by decide +kernel)) rfl
theorem cl_LW_18 : Cond.classLink "FrontierCountsLaw" 18 "FrontierCountsModel" ∈ bigW := bw (tb_2 (i := 210) (by decide +kernel)) rfl
theorem ins_MD : Cond.instantiable "FrontierCountsModel" 26 ∈ bigW := bw (tb_2 (i := 211) (by decide +kernel)) rfl
theorem ml_LW_20 : Cond.methodLink "FrontierCountsLaw" 20 y_MD_init ∈ bigW := bw (tb_2 (i := 212) (by decide +kernel)) rfl
theorem imm_MD_init : Cond.instanceMethod y_MD_init ∈ bigW := bw (tb_2 (i := 213) (by decide +kernel)) rfl
theorem cod_MD_init : Cond.code y_MD_init prog_9_method_1_code 4 none ∈ bigW := bw (tb_2 (i := 214) (by decide +kernel)) rfl
theorem ml_MD_1 : Cond.methodLink "FrontierCountsModel" 1 Lib.objectInit ∈ bigW := bw (tb_2 (i := 215) (by decide +kernel)) rfl
theorem kl_MD_30 : Cond.constant "FrontierCountsModel" 30 (40000) ∈ bigW := bw (tb_2 (i := 216) (by decide +kernel)) rfl
theorem ml_MD_62 : Cond.methodLink "FrontierCountsModel" 62 y_MD_held ∈ bigW := bw (tb_2 (i := 217) (by decide +kernel)) rfl
theorem sta_MD_held : Cond.static y_MD_held ∈ bigW := bw (tb_2 (i := 218) (by decide +kernel)) rfl
theorem cod_MD_held : Cond.code y_MD_held prog_9_method_3_code 3 (some FieldType.int) ∈ bigW := bw (tb_2 (i := 219) (by decide +kernel)) rfl
theorem ml_MD_75 : Cond.methodLink "FrontierCountsModel" 75 y_MD_number ∈ bigW := bw (tb_2 (i := 220) (by decide +kernel)) rfl
theorem imm_MD_number : Cond.instanceMethod y_MD_number ∈ bigW := bw (tb_2 (i := 222) (by decide +kernel)) rfl
theorem cod_MD_number : Cond.code y_MD_number prog_9_method_6_code 2 none ∈ bigW := bw (tb_2 (i := 223) (by decide +kernel)) rfl
theorem ml_MD_81 : Cond.methodLink "FrontierCountsModel" 81 y_MD_places ∈ bigW := bw (tb_2 (i := 224) (by decide +kernel)) rfl
theorem imm_MD_places : Cond.instanceMethod y_MD_places ∈ bigW := bw (tb_2 (i := 226) (by decide +kernel)) rfl
theorem cod_MD_places : Cond.code y_MD_places prog_9_method_4_code 1 (some FieldType.int) ∈ bigW := bw (tb_2 (i := 227) (by decide +kernel)) rfl
theorem ml_MD_88 : Cond.methodLink "FrontierCountsModel" 88 y_MD_addEdge ∈ bigW := bw (tb_2 (i := 228) (by decide +kernel)) rfl
theorem imm_MD_addEdge : Cond.instanceMethod y_MD_addEdge ∈ bigW := bw (tb_2 (i := 230) (by decide +kernel)) rfl
theorem cod_MD_addEdge : Cond.code y_MD_addEdge prog_9_method_7_code 4 none ∈ bigW := bw (tb_2 (i := 231) (by decide +kernel)) rfl
theorem fl_MD_78 : Cond.fieldLink "FrontierCountsModel" 78 "FrontierCountsModel" "thrown" "I" ∈ bigW := bw (tb_2 (i := 232) (by decide +kernel)) rfl
theorem fl_MD_66 : Cond.fieldLink "FrontierCountsModel" 66 "FrontierCountsModel" "kind" "I" ∈ bigW := bw (tb_2 (i := 233) (by decide +kernel)) rfl
theorem fl_MD_69 : Cond.fieldLink "FrontierCountsModel" 69 "FrontierCountsModel" "width" "I" ∈ bigW := bw (tb_2 (i := 234) (by decide +kernel)) rfl
theorem fl_MD_72 : Cond.fieldLink "FrontierCountsModel" 72 "FrontierCountsModel" "height" "I" ∈ bigW := bw (tb_2 (i := 235) (by decide +kernel)) rfl
theorem fl_MD_7 : Cond.fieldLink "FrontierCountsModel" 7 "FrontierCountsModel" "holes" "[Z" ∈ bigW := bw (tb_2 (i := 236) (by decide +kernel)) rfl
theorem fl_MD_13 : Cond.fieldLink "FrontierCountsModel" 13 "FrontierCountsModel" "away" "[Z" ∈ bigW := bw (tb_2 (i := 237) (by decide +kernel)) rfl
theorem fl_MD_16 : Cond.fieldLink "FrontierCountsModel" 16 "FrontierCountsModel" "first" "I" ∈ bigW := bw (tb_2 (i := 238) (by decide +kernel)) rfl
theorem fl_MD_20 : Cond.fieldLink "FrontierCountsModel" 20 "FrontierCountsModel" "second" "I" ∈ bigW := bw (tb_2 (i := 239) (by decide +kernel)) rfl
theorem fl_MD_85 : Cond.fieldLink "FrontierCountsModel" 85 "FrontierCountsModel" "edges" "I" ∈ bigW := bw (tb_3 (i := 0) (by decide +kernel)) rfl
theorem fl_MD_23 : Cond.fieldLink "FrontierCountsModel" 23 "FrontierCountsModel" "ends" "[I" ∈ bigW := bw (tb_3 (i := 1) (by decide +kernel)) rfl
theorem fl_MD_27 : Cond.fieldLink "FrontierCountsModel" 27 "FrontierCountsModel" "told" "[I" ∈ bigW := bw (tb_3 (i := 2) (by decide +kernel)) rfl
theorem fl_MD_92 : Cond.fieldLink "FrontierCountsModel" 92 "FrontierCountsModel" "isListed" "Z" ∈ bigW := bw (tb_3 (i := 3) (by decide +kernel)) rfl
theorem fl_MD_106 : Cond.fieldLink "FrontierCountsModel" 106 "FrontierCountsModel" "many" "I" ∈ bigW := bw (tb_3 (i := 4) (by decide +kernel)) rfl
theorem fl_MD_31 : Cond.fieldLink "FrontierCountsModel" 31 "FrontierCountsModel" "ways" "[J" ∈ bigW := bw (tb_3 (i := 5) (by decide +kernel)) rfl
theorem fl_MD_35 : Cond.fieldLink "FrontierCountsModel" 35 "FrontierCountsModel" "other" "[J" ∈ bigW := bw (tb_3 (i := 6) (by decide +kernel)) rfl
theorem fl_MD_96 : Cond.fieldLink "FrontierCountsModel" 96 "FrontierCountsModel" "isDrawn" "Z" ∈ bigW := bw (tb_3 (i := 7) (by decide +kernel)) rfl
theorem fl_MD_157 : Cond.fieldLink "FrontierCountsModel" 157 "FrontierCountsModel" "way" "J" ∈ bigW := bw (tb_3 (i := 8) (by decide +kernel)) rfl
theorem fl_MD_180 : Cond.fieldLink "FrontierCountsModel" 180 "FrontierCountsModel" "rank" "J" ∈ bigW := bw (tb_3 (i := 9) (by decide +kernel)) rfl
theorem fl_MD_38 : Cond.fieldLink "FrontierCountsModel" 38 "FrontierCountsModel" "walk" "[I" ∈ bigW := bw (tb_3 (i := 10) (by decide +kernel)) rfl
theorem fl_MD_41 : Cond.fieldLink "FrontierCountsModel" 41 "FrontierCountsModel" "tries" "[I" ∈ bigW := bw (tb_3 (i := 11) (by decide +kernel)) rfl
theorem fl_MD_44 : Cond.fieldLink "FrontierCountsModel" 44 "FrontierCountsModel" "sets" "[J" ∈ bigW := bw (tb_3 (i := 12) (by decide +kernel)) rfl
theorem fl_MD_47 : Cond.fieldLink "FrontierCountsModel" 47 "FrontierCountsModel" "degrees" "[I" ∈ bigW := bw (tb_3 (i := 13) (by decide +kernel)) rfl
theorem fl_MD_50 : Cond.fieldLink "FrontierCountsModel" 50 "FrontierCountsModel" "lasts" "[I" ∈ bigW := bw (tb_3 (i := 14) (by decide +kernel)) rfl
theorem fl_MD_53 : Cond.fieldLink "FrontierCountsModel" 53 "FrontierCountsModel" "chosen" "[I" ∈ bigW := bw (tb_3 (i := 15) (by decide +kernel)) rfl
theorem fl_MD_56 : Cond.fieldLink "FrontierCountsModel" 56 "FrontierCountsModel" "parts" "[I" ∈ bigW := bw (tb_3 (i := 16) (by decide +kernel)) rfl
theorem fl_MD_59 : Cond.fieldLink "FrontierCountsModel" 59 "FrontierCountsModel" "square" "[J" ∈ bigW := bw (tb_3 (i := 17) (by decide +kernel)) rfl
theorem ac_boolean : Cond.arrayClass FieldType.boolean ∈ bigW := bw (tb_3 (i := 71) (by decide +kernel)) rfl
theorem ml_LW_25 : Cond.methodLink "FrontierCountsLaw" 25 y_MD_hole ∈ bigW := bw (tb_3 (i := 72) (by decide +kernel)) rfl
theorem imm_MD_hole : Cond.instanceMethod y_MD_hole ∈ bigW := bw (tb_3 (i := 73) (by decide +kernel)) rfl
theorem sel_MD_hole : Cond.selects "FrontierCountsModel" y_MD_hole y_MD_hole ∈ bigW := bw (tb_3 (i := 74) (by decide +kernel)) rfl
theorem cod_MD_hole : Cond.code y_MD_hole prog_9_method_8_code 5 (some FieldType.boolean) ∈ bigW := bw (tb_3 (i := 75) (by decide +kernel)) rfl
theorem ml_LW_30 : Cond.methodLink "FrontierCountsLaw" 30 y_MD_edge ∈ bigW := bw (tb_3 (i := 76) (by decide +kernel)) rfl
theorem imm_MD_edge : Cond.instanceMethod y_MD_edge ∈ bigW := bw (tb_3 (i := 77) (by decide +kernel)) rfl
theorem sel_MD_edge : Cond.selects "FrontierCountsModel" y_MD_edge y_MD_edge ∈ bigW := bw (tb_3 (i := 78) (by decide +kernel)) rfl
theorem cod_MD_edge : Cond.code y_MD_edge prog_9_method_9_code 8 (some FieldType.boolean) ∈ bigW := bw (tb_3 (i := 79) (by decide +kernel)) rfl
theorem ml_MD_99 : Cond.methodLink "FrontierCountsModel" 99 y_MD_isPlace ∈ bigW := bw (tb_3 (i := 80) (by decide +kernel)) rfl
theorem imm_MD_isPlace : Cond.instanceMethod y_MD_isPlace ∈ bigW := bw (tb_3 (i := 82) (by decide +kernel)) rfl
theorem cod_MD_isPlace : Cond.code y_MD_isPlace prog_9_method_5_code 2 (some FieldType.boolean) ∈ bigW := bw (tb_3 (i := 83) (by decide +kernel)) rfl
theorem ml_LW_34 : Cond.methodLink "FrontierCountsLaw" 34 y_MD_ends ∈ bigW := bw (tb_3 (i := 84) (by decide +kernel)) rfl
theorem imm_MD_ends : Cond.instanceMethod y_MD_ends ∈ bigW := bw (tb_3 (i := 85) (by decide +kernel)) rfl
theorem sel_MD_ends : Cond.selects "FrontierCountsModel" y_MD_ends y_MD_ends ∈ bigW := bw (tb_3 (i := 86) (by decide +kernel)) rfl
theorem cod_MD_ends : Cond.code y_MD_ends prog_9_method_10_code 3 (some FieldType.boolean) ∈ bigW := bw (tb_3 (i := 87) (by decide +kernel)) rfl
theorem ml_LW_39 : Cond.methodLink "FrontierCountsLaw" 39 y_MD_edges ∈ bigW := bw (tb_3 (i := 88) (by decide +kernel)) rfl
theorem imm_MD_edges : Cond.instanceMethod y_MD_edges ∈ bigW := bw (tb_3 (i := 89) (by decide +kernel)) rfl
theorem sel_MD_edges : Cond.selects "FrontierCountsModel" y_MD_edges y_MD_edges ∈ bigW := bw (tb_3 (i := 90) (by decide +kernel)) rfl
theorem cod_MD_edges : Cond.code y_MD_edges prog_9_method_11_code 1 (some FieldType.int) ∈ bigW := bw (tb_3 (i := 91) (by decide +kernel)) rfl
theorem ml_LW_44 : Cond.methodLink "FrontierCountsLaw" 44 y_MD_end ∈ bigW := bw (tb_3 (i := 92) (by decide +kernel)) rfl
theorem imm_MD_end : Cond.instanceMethod y_MD_end ∈ bigW := bw (tb_3 (i := 93) (by decide +kernel)) rfl
theorem sel_MD_end : Cond.selects "FrontierCountsModel" y_MD_end y_MD_end ∈ bigW := bw (tb_3 (i := 94) (by decide +kernel)) rfl
theorem cod_MD_end : Cond.code y_MD_end prog_9_method_13_code 3 (some FieldType.int) ∈ bigW := bw (tb_3 (i := 95) (by decide +kernel)) rfl
theorem ml_MD_103 : Cond.methodLink "FrontierCountsModel" 103 y_MD_isEdge ∈ bigW := bw (tb_3 (i := 96) (by decide +kernel)) rfl
theorem imm_MD_isEdge : Cond.instanceMethod y_MD_isEdge ∈ bigW := bw (tb_3 (i := 98) (by decide +kernel)) rfl
theorem cod_MD_isEdge : Cond.code y_MD_isEdge prog_9_method_12_code 2 (some FieldType.boolean) ∈ bigW := bw (tb_3 (i := 99) (by decide +kernel)) rfl
theorem ml_LW_48 : Cond.methodLink "FrontierCountsLaw" 48 y_MD_force ∈ bigW := bw (tb_3 (i := 100) (by decide +kernel)) rfl
theorem imm_MD_force : Cond.instanceMethod y_MD_force ∈ bigW := bw (tb_3 (i := 101) (by decide +kernel)) rfl
theorem sel_MD_force : Cond.selects "FrontierCountsModel" y_MD_force y_MD_force ∈ bigW := bw (tb_3 (i := 102) (by decide +kernel)) rfl
theorem cod_MD_force : Cond.code y_MD_force prog_9_method_14_code 3 (some FieldType.boolean) ∈ bigW := bw (tb_3 (i := 103) (by decide +kernel)) rfl
theorem ml_LW_53 : Cond.methodLink "FrontierCountsLaw" 53 y_MD_count ∈ bigW := bw (tb_3 (i := 104) (by decide +kernel)) rfl
theorem imm_MD_count : Cond.instanceMethod y_MD_count ∈ bigW := bw (tb_3 (i := 105) (by decide +kernel)) rfl
theorem sel_MD_count : Cond.selects "FrontierCountsModel" y_MD_count y_MD_count ∈ bigW := bw (tb_3 (i := 106) (by decide +kernel)) rfl
theorem cod_MD_count : Cond.code y_MD_count prog_9_method_30_code 1 (some FieldType.long) ∈ bigW := bw (tb_3 (i := 107) (by decide +kernel)) rfl
theorem ml_MD_171 : Cond.methodLink "FrontierCountsModel" 171 y_MD_countAll ∈ bigW := bw (tb_3 (i := 108) (by decide +kernel)) rfl
theorem imm_MD_countAll : Cond.instanceMethod y_MD_countAll ∈ bigW := bw (tb_3 (i := 110) (by decide +kernel)) rfl
theorem cod_MD_countAll : Cond.code y_MD_countAll prog_9_method_29_code 4 (some FieldType.long) ∈ bigW := bw (tb_3 (i := 111) (by decide +kernel)) rfl
theorem ml_MD_161 : Cond.methodLink "FrontierCountsModel" 161 y_MD_trees ∈ bigW := bw (tb_3 (i := 112) (by decide +kernel)) rfl
theorem imm_MD_trees : Cond.instanceMethod y_MD_trees ∈ bigW := bw (tb_3 (i := 114) (by decide +kernel)) rfl
theorem cod_MD_trees : Cond.code y_MD_trees prog_9_method_26_code 6 (some FieldType.long) ∈ bigW := bw (tb_3 (i := 115) (by decide +kernel)) rfl
theorem ml_MD_142 : Cond.methodLink "FrontierCountsModel" 142 y_MD_countOfPlaces ∈ bigW := bw (tb_3 (i := 116) (by decide +kernel)) rfl
theorem imm_MD_countOfPlaces : Cond.instanceMethod y_MD_countOfPlaces ∈ bigW := bw (tb_3 (i := 118) (by decide +kernel)) rfl
theorem cod_MD_countOfPlaces : Cond.code y_MD_countOfPlaces prog_9_method_22_code 3 (some FieldType.int) ∈ bigW := bw (tb_3 (i := 119) (by decide +kernel)) rfl
theorem kl_MD_145 : Cond.constantLong "FrontierCountsModel" 145 (2147483646) ∈ bigW := bw (tb_3 (i := 120) (by decide +kernel)) rfl
theorem ml_MD_147 : Cond.methodLink "FrontierCountsModel" 147 y_MD_determinant ∈ bigW := bw (tb_3 (i := 121) (by decide +kernel)) rfl
theorem imm_MD_determinant : Cond.instanceMethod y_MD_determinant ∈ bigW := bw (tb_3 (i := 123) (by decide +kernel)) rfl
theorem cod_MD_determinant : Cond.code y_MD_determinant prog_9_method_27_code 11 (some FieldType.long) ∈ bigW := bw (tb_3 (i := 124) (by decide +kernel)) rfl
theorem kl_MD_140 : Cond.constantLong "FrontierCountsModel" 140 (2147483647) ∈ bigW := bw (tb_3 (i := 125) (by decide +kernel)) rfl
theorem kl_MD_151 : Cond.constantLong "FrontierCountsModel" 151 (2147483645) ∈ bigW := bw (tb_3 (i := 126) (by decide +kernel)) rfl
theorem ml_MD_153 : Cond.methodLink "FrontierCountsModel" 153 y_MD_power ∈ bigW := bw (tb_3 (i := 127) (by decide +kernel)) rfl
theorem sta_MD_power : Cond.static y_MD_power ∈ bigW := bw (tb_3 (i := 128) (by decide +kernel)) rfl
theorem cod_MD_power : Cond.code y_MD_power prog_9_method_25_code 10 (some FieldType.long) ∈ bigW := bw (tb_3 (i := 129) (by decide +kernel)) rfl
theorem kl_MD_138 : Cond.constantLong "FrontierCountsModel" 138 (2) ∈ bigW := bw (tb_3 (i := 130) (by decide +kernel)) rfl
theorem ml_MD_164 : Cond.methodLink "FrontierCountsModel" 164 y_MD_list ∈ bigW := bw (tb_3 (i := 131) (by decide +kernel)) rfl
theorem imm_MD_list : Cond.instanceMethod y_MD_list ∈ bigW := bw (tb_3 (i := 133) (by decide +kernel)) rfl
theorem cod_MD_list : Cond.code y_MD_list prog_9_method_23_code 2 none ∈ bigW := bw (tb_3 (i := 134) (by decide +kernel)) rfl
theorem ml_MD_127 : Cond.methodLink "FrontierCountsModel" 127 y_MD_walkFrom ∈ bigW := bw (tb_3 (i := 135) (by decide +kernel)) rfl
theorem imm_MD_walkFrom : Cond.instanceMethod y_MD_walkFrom ∈ bigW := bw (tb_3 (i := 137) (by decide +kernel)) rfl
theorem cod_MD_walkFrom : Cond.code y_MD_walkFrom prog_9_method_18_code 10 none ∈ bigW := bw (tb_3 (i := 138) (by decide +kernel)) rfl
theorem ml_MD_109 : Cond.methodLink "FrontierCountsModel" 109 y_MD_add ∈ bigW := bw (tb_3 (i := 139) (by decide +kernel)) rfl
theorem imm_MD_add : Cond.instanceMethod y_MD_add ∈ bigW := bw (tb_3 (i := 141) (by decide +kernel)) rfl
theorem cod_MD_add : Cond.code y_MD_add prog_9_method_15_code 3 none ∈ bigW := bw (tb_3 (i := 142) (by decide +kernel)) rfl
theorem ml_MD_113 : Cond.methodLink "FrontierCountsModel" 113 y_MD_across ∈ bigW := bw (tb_3 (i := 143) (by decide +kernel)) rfl
theorem imm_MD_across : Cond.instanceMethod y_MD_across ∈ bigW := bw (tb_3 (i := 145) (by decide +kernel)) rfl
theorem cod_MD_across : Cond.code y_MD_across prog_9_method_16_code 3 (some FieldType.int) ∈ bigW := bw (tb_3 (i := 146) (by decide +kernel)) rfl
theorem ml_MD_117 : Cond.methodLink "FrontierCountsModel" 117 y_MD_isOn ∈ bigW := bw (tb_3 (i := 147) (by decide +kernel)) rfl
theorem imm_MD_isOn : Cond.instanceMethod y_MD_isOn ∈ bigW := bw (tb_3 (i := 149) (by decide +kernel)) rfl
theorem cod_MD_isOn : Cond.code y_MD_isOn prog_9_method_17_code 4 (some FieldType.boolean) ∈ bigW := bw (tb_3 (i := 150) (by decide +kernel)) rfl
theorem ml_MD_131 : Cond.methodLink "FrontierCountsModel" 131 y_MD_listDegrees ∈ bigW := bw (tb_3 (i := 151) (by decide +kernel)) rfl
theorem imm_MD_listDegrees : Cond.instanceMethod y_MD_listDegrees ∈ bigW := bw (tb_3 (i := 153) (by decide +kernel)) rfl
theorem cod_MD_listDegrees : Cond.code y_MD_listDegrees prog_9_method_19_code 8 none ∈ bigW := bw (tb_3 (i := 154) (by decide +kernel)) rfl
theorem kl_MD_121 : Cond.constantLong "FrontierCountsModel" 121 (-1) ∈ bigW := bw (tb_3 (i := 155) (by decide +kernel)) rfl
theorem ml_MD_135 : Cond.methodLink "FrontierCountsModel" 135 y_MD_sort ∈ bigW := bw (tb_3 (i := 156) (by decide +kernel)) rfl
theorem imm_MD_sort : Cond.instanceMethod y_MD_sort ∈ bigW := bw (tb_3 (i := 158) (by decide +kernel)) rfl
theorem cod_MD_sort : Cond.code y_MD_sort prog_9_method_21_code 9 none ∈ bigW := bw (tb_3 (i := 159) (by decide +kernel)) rfl
theorem ml_MD_123 : Cond.methodLink "FrontierCountsModel" 123 y_MD_isLess ∈ bigW := bw (tb_3 (i := 160) (by decide +kernel)) rfl
theorem sta_MD_isLess : Cond.static y_MD_isLess ∈ bigW := bw (tb_3 (i := 161) (by decide +kernel)) rfl
theorem cod_MD_isLess : Cond.code y_MD_isLess prog_9_method_20_code 6 (some FieldType.boolean) ∈ bigW := bw (tb_3 (i := 162) (by decide +kernel)) rfl
theorem ml_MD_167 : Cond.methodLink "FrontierCountsModel" 167 y_MD_isAllowed ∈ bigW := bw (tb_3 (i := 163) (by decide +kernel)) rfl
theorem imm_MD_isAllowed : Cond.instanceMethod y_MD_isAllowed ∈ bigW := bw (tb_3 (i := 165) (by decide +kernel)) rfl
theorem cod_MD_isAllowed : Cond.code y_MD_isAllowed prog_9_method_24_code 5 (some FieldType.boolean) ∈ bigW := bw (tb_3 (i := 166) (by decide +kernel)) rfl
theorem ml_LW_58 : Cond.methodLink "FrontierCountsLaw" 58 y_MD_digit ∈ bigW := bw (tb_3 (i := 167) (by decide +kernel)) rfl
theorem imm_MD_digit : Cond.instanceMethod y_MD_digit ∈ bigW := bw (tb_3 (i := 168) (by decide +kernel)) rfl
theorem sel_MD_digit : Cond.selects "FrontierCountsModel" y_MD_digit y_MD_digit ∈ bigW := bw (tb_3 (i := 169) (by decide +kernel)) rfl
theorem cod_MD_digit : Cond.code y_MD_digit prog_9_method_31_code 5 (some FieldType.int) ∈ bigW := bw (tb_3 (i := 170) (by decide +kernel)) rfl
theorem kl_MD_174 : Cond.constantLong "FrontierCountsModel" 174 (10) ∈ bigW := bw (tb_3 (i := 171) (by decide +kernel)) rfl
theorem ml_LW_65 : Cond.methodLink "FrontierCountsLaw" 65 y_MD_draw ∈ bigW := bw (tb_3 (i := 172) (by decide +kernel)) rfl
theorem imm_MD_draw : Cond.instanceMethod y_MD_draw ∈ bigW := bw (tb_3 (i := 173) (by decide +kernel)) rfl
theorem sel_MD_draw : Cond.selects "FrontierCountsModel" y_MD_draw y_MD_draw ∈ bigW := bw (tb_3 (i := 174) (by decide +kernel)) rfl
theorem cod_MD_draw : Cond.code y_MD_draw prog_9_method_32_code 8 (some FieldType.boolean) ∈ bigW := bw (tb_3 (i := 175) (by decide +kernel)) rfl
theorem kl_MD_176 : Cond.constantLong "FrontierCountsModel" 176 (6364136223846793005) ∈ bigW := bw (tb_3 (i := 176) (by decide +kernel)) rfl
theorem kl_MD_178 : Cond.constantLong "FrontierCountsModel" 178 (1442695040888963407) ∈ bigW := bw (tb_3 (i := 177) (by decide +kernel)) rfl
theorem ml_MD_183 : Cond.methodLink "FrontierCountsModel" 183 y_MD_drawTree ∈ bigW := bw (tb_3 (i := 178) (by decide +kernel)) rfl
theorem imm_MD_drawTree : Cond.instanceMethod y_MD_drawTree ∈ bigW := bw (tb_3 (i := 180) (by decide +kernel)) rfl
theorem cod_MD_drawTree : Cond.code y_MD_drawTree prog_9_method_28_code 10 none ∈ bigW := bw (tb_3 (i := 181) (by decide +kernel)) rfl
theorem ml_LW_70 : Cond.methodLink "FrontierCountsLaw" 70 y_MD_drawn ∈ bigW := bw (tb_3 (i := 182) (by decide +kernel)) rfl
theorem imm_MD_drawn : Cond.instanceMethod y_MD_drawn ∈ bigW := bw (tb_3 (i := 183) (by decide +kernel)) rfl
theorem sel_MD_drawn : Cond.selects "FrontierCountsModel" y_MD_drawn y_MD_drawn ∈ bigW := bw (tb_3 (i := 184) (by decide +kernel)) rfl
theorem cod_MD_drawn : Cond.code y_MD_drawn prog_9_method_33_code 2 (some FieldType.boolean) ∈ bigW := bw (tb_3 (i := 185) (by decide +kernel)) rfl
theorem ml_LW_74 : Cond.methodLink "FrontierCountsLaw" 74 y_MD_rank ∈ bigW := bw (tb_3 (i := 186) (by decide +kernel)) rfl
theorem imm_MD_rank : Cond.instanceMethod y_MD_rank ∈ bigW := bw (tb_3 (i := 187) (by decide +kernel)) rfl
theorem sel_MD_rank : Cond.selects "FrontierCountsModel" y_MD_rank y_MD_rank ∈ bigW := bw (tb_3 (i := 188) (by decide +kernel)) rfl
theorem cod_MD_rank : Cond.code y_MD_rank prog_9_method_34_code 1 (some FieldType.long) ∈ bigW := bw (tb_3 (i := 189) (by decide +kernel)) rfl
theorem kl_LW_59 : Cond.constantLong "FrontierCountsLaw" 59 (4294967295) ∈ bigW := bw (tb_3 (i := 190) (by decide +kernel)) rfl
theorem sel_GR_findOpenSlots : Cond.selects "FrontierCounts$Grid" y_GR_findOpenSlots y_GR_findOpenSlots ∈ bigW := bw (tb_p (y := y_GR_findOpenSlots) (i := 0) (n := 8) (by decide +kernel)) rfl
theorem sel_GR_openSlotsAt : Cond.selects "FrontierCounts$Grid" y_GR_openSlotsAt y_GR_openSlotsAt ∈ bigW := bw (tb_p (y := y_GR_openSlotsAt) (i := 1) (n := 8) (by decide +kernel)) rfl
theorem sel_GR_isPlace : Cond.selects "FrontierCounts$Grid" y_GR_isPlace y_GR_isPlace ∈ bigW := bw (tb_p (y := y_GR_isPlace) (i := 2) (n := 8) (by decide +kernel)) rfl
theorem sel_GR_inside : Cond.selects "FrontierCounts$Grid" y_GR_inside y_GR_inside ∈ bigW := bw (tb_p (y := y_GR_inside) (i := 3) (n := 8) (by decide +kernel)) rfl
theorem sel_FC_numberEdges : Cond.selects "FrontierCounts" y_FC_numberEdges y_FC_numberEdges ∈ bigW := bw (tb_p (y := y_FC_numberEdges) (i := 4) (n := 11) (by decide +kernel)) rfl
theorem sel_FC_addSlot : Cond.selects "FrontierCounts" y_FC_addSlot y_FC_addSlot ∈ bigW := bw (tb_p (y := y_FC_addSlot) (i := 5) (n := 11) (by decide +kernel)) rfl
theorem sel_GR_isOpen : Cond.selects "FrontierCounts$Grid" y_GR_isOpen y_GR_isOpen ∈ bigW := bw (tb_p (y := y_GR_isOpen) (i := 6) (n := 8) (by decide +kernel)) rfl
theorem sel_FC_forgetWays : Cond.selects "FrontierCounts" y_FC_forgetWays y_FC_forgetWays ∈ bigW := bw (tb_p (y := y_FC_forgetWays) (i := 7) (n := 11) (by decide +kernel)) rfl
theorem sel_GR_turnHole : Cond.selects "FrontierCounts$Grid" y_GR_turnHole y_GR_turnHole ∈ bigW := bw (tb_p (y := y_GR_turnHole) (i := 8) (n := 8) (by decide +kernel)) rfl
theorem sel_GR_slotBetween : Cond.selects "FrontierCounts$Grid" y_GR_slotBetween y_GR_slotBetween ∈ bigW := bw (tb_p (y := y_GR_slotBetween) (i := 9) (n := 8) (by decide +kernel)) rfl
theorem sel_GR_tellEnds : Cond.selects "FrontierCounts$Grid" y_GR_tellEnds y_GR_tellEnds ∈ bigW := bw (tb_p (y := y_GR_tellEnds) (i := 10) (n := 8) (by decide +kernel)) rfl
theorem sel_FC_isEdge : Cond.selects "FrontierCounts" y_FC_isEdge y_FC_isEdge ∈ bigW := bw (tb_p (y := y_FC_isEdge) (i := 11) (n := 11) (by decide +kernel)) rfl
theorem sel_GR_farEnd : Cond.selects "FrontierCounts$Grid" y_GR_farEnd y_GR_farEnd ∈ bigW := bw (tb_p (y := y_GR_farEnd) (i := 12) (n := 8) (by decide +kernel)) rfl
theorem sel_GR_nearEnd : Cond.selects "FrontierCounts$Grid" y_GR_nearEnd y_GR_nearEnd ∈ bigW := bw (tb_p (y := y_GR_nearEnd) (i := 13) (n := 8) (by decide +kernel)) rfl
theorem sel_LY_build : Cond.selects "FrontierCounts$Layers" y_LY_build y_LY_build ∈ bigW := bw (tb_p (y := y_LY_build) (i := 14) (n := 12) (by decide +kernel)) rfl
theorem sel_TR_codeOfPieces : Cond.selects "FrontierCounts$Trees" y_TR_codeOfPieces y_TR_codeOfPieces ∈ bigW := bw (tb_p (y := y_TR_codeOfPieces) (i := 15) (n := 2) (by decide +kernel)) rfl
theorem sel_LY_leadsFrom : Cond.selects "FrontierCounts$Layers" y_LY_leadsFrom y_LY_leadsFrom ∈ bigW := bw (tb_p (y := y_LY_leadsFrom) (i := 16) (n := 12) (by decide +kernel)) rfl
theorem sel_GR_openChoices : Cond.selects "FrontierCounts$Grid" y_GR_openChoices y_GR_openChoices ∈ bigW := bw (tb_p (y := y_GR_openChoices) (i := 17) (n := 8) (by decide +kernel)) rfl
theorem sel_GR_isEnd : Cond.selects "FrontierCounts$Grid" y_GR_isEnd y_GR_isEnd ∈ bigW := bw (tb_p (y := y_GR_isEnd) (i := 18) (n := 8) (by decide +kernel)) rfl
theorem sel_LN_joined : Cond.selects "FrontierCounts$Lines" y_LN_joined y_LN_joined ∈ bigW := bw (tb_p (y := y_LN_joined) (i := 19) (n := 2) (by decide +kernel)) rfl
theorem sel_TR_joinRight : Cond.selects "FrontierCounts$Trees" y_TR_joinRight y_TR_joinRight ∈ bigW := bw (tb_p (y := y_TR_joinRight) (i := 20) (n := 2) (by decide +kernel)) rfl
theorem sel_TR_isThere : Cond.selects "FrontierCounts$Trees" y_TR_isThere y_TR_isThere ∈ bigW := bw (tb_p (y := y_TR_isThere) (i := 21) (n := 2) (by decide +kernel)) rfl
theorem sel_LY_indexOfNext : Cond.selects "FrontierCounts$Layers" y_LY_indexOfNext y_LY_indexOfNext ∈ bigW := bw (tb_p (y := y_LY_indexOfNext) (i := 22) (n := 12) (by decide +kernel)) rfl
theorem sel_LY_addNext : Cond.selects "FrontierCounts$Layers" y_LY_addNext y_LY_addNext ∈ bigW := bw (tb_p (y := y_LY_addNext) (i := 23) (n := 12) (by decide +kernel)) rfl
theorem sel_LY_swapCodes : Cond.selects "FrontierCounts$Layers" y_LY_swapCodes y_LY_swapCodes ∈ bigW := bw (tb_p (y := y_LY_swapCodes) (i := 24) (n := 12) (by decide +kernel)) rfl
theorem sel_LY_weigh : Cond.selects "FrontierCounts$Layers" y_LY_weigh y_LY_weigh ∈ bigW := bw (tb_p (y := y_LY_weigh) (i := 25) (n := 12) (by decide +kernel)) rfl
theorem sel_LY_waysFrom : Cond.selects "FrontierCounts$Layers" y_LY_waysFrom y_LY_waysFrom ∈ bigW := bw (tb_p (y := y_LY_waysFrom) (i := 26) (n := 12) (by decide +kernel)) rfl
theorem sel_LY_waysBy : Cond.selects "FrontierCounts$Layers" y_LY_waysBy y_LY_waysBy ∈ bigW := bw (tb_p (y := y_LY_waysBy) (i := 27) (n := 12) (by decide +kernel)) rfl
theorem sel_LY_leadBy : Cond.selects "FrontierCounts$Layers" y_LY_leadBy y_LY_leadBy ∈ bigW := bw (tb_p (y := y_LY_leadBy) (i := 28) (n := 12) (by decide +kernel)) rfl
theorem sel_LY_isAllowed : Cond.selects "FrontierCounts$Layers" y_LY_isAllowed y_LY_isAllowed ∈ bigW := bw (tb_p (y := y_LY_isAllowed) (i := 29) (n := 12) (by decide +kernel)) rfl
theorem sel_LY_total : Cond.selects "FrontierCounts$Layers" y_LY_total y_LY_total ∈ bigW := bw (tb_p (y := y_LY_total) (i := 30) (n := 12) (by decide +kernel)) rfl
theorem sel_LY_wayAt : Cond.selects "FrontierCounts$Layers" y_LY_wayAt y_LY_wayAt ∈ bigW := bw (tb_p (y := y_LY_wayAt) (i := 31) (n := 12) (by decide +kernel)) rfl
theorem sel_MD_number : Cond.selects "FrontierCountsModel" y_MD_number y_MD_number ∈ bigW := bw (tb_p (y := y_MD_number) (i := 32) (n := 26) (by decide +kernel)) rfl
theorem sel_MD_places : Cond.selects "FrontierCountsModel" y_MD_places y_MD_places ∈ bigW := bw (tb_p (y := y_MD_places) (i := 33) (n := 26) (by decide +kernel)) rfl
theorem sel_MD_addEdge : Cond.selects "FrontierCountsModel" y_MD_addEdge y_MD_addEdge ∈ bigW := bw (tb_p (y := y_MD_addEdge) (i := 34) (n := 26) (by decide +kernel)) rfl
theorem sel_MD_isPlace : Cond.selects "FrontierCountsModel" y_MD_isPlace y_MD_isPlace ∈ bigW := bw (tb_p (y := y_MD_isPlace) (i := 35) (n := 26) (by decide +kernel)) rfl
theorem sel_MD_isEdge : Cond.selects "FrontierCountsModel" y_MD_isEdge y_MD_isEdge ∈ bigW := bw (tb_p (y := y_MD_isEdge) (i := 36) (n := 26) (by decide +kernel)) rfl
theorem sel_MD_countAll : Cond.selects "FrontierCountsModel" y_MD_countAll y_MD_countAll ∈ bigW := bw (tb_p (y := y_MD_countAll) (i := 37) (n := 26) (by decide +kernel)) rfl
theorem sel_MD_trees : Cond.selects "FrontierCountsModel" y_MD_trees y_MD_trees ∈ bigW := bw (tb_p (y := y_MD_trees) (i := 38) (n := 26) (by decide +kernel)) rfl
theorem sel_MD_countOfPlaces : Cond.selects "FrontierCountsModel" y_MD_countOfPlaces y_MD_countOfPlaces ∈ bigW := bw (tb_p (y := y_MD_countOfPlaces) (i := 39) (n := 26) (by decide +kernel)) rfl
theorem sel_MD_determinant : Cond.selects "FrontierCountsModel" y_MD_determinant y_MD_determinant ∈ bigW := bw (tb_p (y := y_MD_determinant) (i := 40) (n := 26) (by decide +kernel)) rfl
theorem sel_MD_list : Cond.selects "FrontierCountsModel" y_MD_list y_MD_list ∈ bigW := bw (tb_p (y := y_MD_list) (i := 41) (n := 26) (by decide +kernel)) rfl
theorem sel_MD_walkFrom : Cond.selects "FrontierCountsModel" y_MD_walkFrom y_MD_walkFrom ∈ bigW := bw (tb_p (y := y_MD_walkFrom) (i := 42) (n := 26) (by decide +kernel)) rfl
theorem sel_MD_add : Cond.selects "FrontierCountsModel" y_MD_add y_MD_add ∈ bigW := bw (tb_p (y := y_MD_add) (i := 43) (n := 26) (by decide +kernel)) rfl
theorem sel_MD_across : Cond.selects "FrontierCountsModel" y_MD_across y_MD_across ∈ bigW := bw (tb_p (y := y_MD_across) (i := 44) (n := 26) (by decide +kernel)) rfl
theorem sel_MD_isOn : Cond.selects "FrontierCountsModel" y_MD_isOn y_MD_isOn ∈ bigW := bw (tb_p (y := y_MD_isOn) (i := 45) (n := 26) (by decide +kernel)) rfl
theorem sel_MD_listDegrees : Cond.selects "FrontierCountsModel" y_MD_listDegrees y_MD_listDegrees ∈ bigW := bw (tb_p (y := y_MD_listDegrees) (i := 46) (n := 26) (by decide +kernel)) rfl
theorem sel_MD_sort : Cond.selects "FrontierCountsModel" y_MD_sort y_MD_sort ∈ bigW := bw (tb_p (y := y_MD_sort) (i := 47) (n := 26) (by decide +kernel)) rfl
theorem sel_MD_isAllowed : Cond.selects "FrontierCountsModel" y_MD_isAllowed y_MD_isAllowed ∈ bigW := bw (tb_p (y := y_MD_isAllowed) (i := 48) (n := 26) (by decide +kernel)) rfl
theorem sel_MD_drawTree : Cond.selects "FrontierCountsModel" y_MD_drawTree y_MD_drawTree ∈ bigW := bw (tb_p (y := y_MD_drawTree) (i := 49) (n := 26) (by decide +kernel)) rfl
theorem i_FC_init : mI bigW y_FC_init c_FC_init 5 3 := ⟨cod_FC_init, imm_FC_init, ini_FC, rfl, ⟨by decide +kernel, by decide +kernel, by decide +kernel⟩⟩
theorem v_FC_hole : mV bigW "FrontierCounts" y_FC_hole c_FC_hole 3 (some FieldType.boolean) 2 := ⟨cod_FC_hole, imm_FC_hole, sel_FC_hole, ini_FC, ⟨by decide +kernel, by decide +kernel, by decide +kernel⟩⟩
theorem v_FC_edge : mV bigW "FrontierCounts" y_FC_edge c_FC_edge 5 (some FieldType.boolean) 3 := ⟨cod_FC_edge, imm_FC_edge, sel_FC_edge, ini_FC, ⟨by decide +kernel, by decide +kernel, by decide +kernel⟩⟩
theorem v_FC_ends : mV bigW "FrontierCounts" y_FC_ends c_FC_ends 3 (some FieldType.boolean) 2 := ⟨cod_FC_ends, imm_FC_ends, sel_FC_ends, ini_FC, ⟨by decide +kernel, by decide +kernel, by decide +kernel⟩⟩
theorem v_FC_edges : mV bigW "FrontierCounts" y_FC_edges c_FC_edges 1 (some FieldType.int) 0 := ⟨cod_FC_edges, imm_FC_edges, sel_FC_edges, ini_FC, ⟨by decide +kernel, by decide +kernel, by decide +kernel⟩⟩
theorem v_FC_end : mV bigW "FrontierCounts" y_FC_end c_FC_end 4 (some FieldType.int) 2 := ⟨cod_FC_end, imm_FC_end, sel_FC_end, ini_FC, ⟨by decide +kernel, by decide +kernel, by decide +kernel⟩⟩
theorem v_FC_force : mV bigW "FrontierCounts" y_FC_force c_FC_force 5 (some FieldType.boolean) 2 := ⟨cod_FC_force, imm_FC_force, sel_FC_force, ini_FC, ⟨by decide +kernel, by decide +kernel, by decide +kernel⟩⟩
theorem v_FC_count : mV bigW "FrontierCounts" y_FC_count c_FC_count 1 (some FieldType.long) 0 := ⟨cod_FC_count, imm_FC_count, sel_FC_count, ini_FC, ⟨by decide +kernel, by decide +kernel, by decide +kernel⟩⟩
theorem v_FC_digit : mV bigW "FrontierCounts" y_FC_digit c_FC_digit 5 (some FieldType.int) 1 := ⟨cod_FC_digit, imm_FC_digit, sel_FC_digit, ini_FC, ⟨by decide +kernel, by decide +kernel, by decide +kernel⟩⟩
theorem v_FC_draw : mV bigW "FrontierCounts" y_FC_draw c_FC_draw 7 (some FieldType.boolean) 1 := ⟨cod_FC_draw, imm_FC_draw, sel_FC_draw, ini_FC, ⟨by decide +kernel, by decide +kernel, by decide +kernel⟩⟩
theorem v_FC_drawn : mV bigW "FrontierCounts" y_FC_drawn c_FC_drawn 2 (some FieldType.boolean) 1 := ⟨cod_FC_drawn, imm_FC_drawn, sel_FC_drawn, ini_FC, ⟨by decide +kernel, by decide +kernel, by decide +kernel⟩⟩
theorem v_FC_rank : mV bigW "FrontierCounts" y_FC_rank c_FC_rank 1 (some FieldType.long) 0 := ⟨cod_FC_rank, imm_FC_rank, sel_FC_rank, ini_FC, ⟨by decide +kernel, by decide +kernel, by decide +kernel⟩⟩
theorem s_FC_held : mS bigW y_FC_held c_FC_held 3 (some FieldType.int) 3 := ⟨cod_FC_held, sta_FC_held, ini_FC, ⟨by decide +kernel, by decide +kernel, by decide +kernel⟩⟩
theorem s_FC_has : mS bigW y_FC_has c_FC_has 3 (some FieldType.boolean) 2 := ⟨cod_FC_has, sta_FC_has, ini_FC, ⟨by decide +kernel, by decide +kernel, by decide +kernel⟩⟩
theorem s_FC_ruleOf : mS bigW y_FC_ruleOf c_FC_ruleOf 2 (some (FieldType.object "FrontierCounts$Rule")) 2 := ⟨cod_FC_ruleOf, sta_FC_ruleOf, ini_FC, ⟨by decide +kernel, by decide +kernel, by decide +kernel⟩⟩
theorem s_FC_mostCodes : mS bigW y_FC_mostCodes c_FC_mostCodes 1 (some FieldType.int) 1 := ⟨cod_FC_mostCodes, sta_FC_mostCodes, ini_FC, ⟨by decide +kernel, by decide +kernel, by decide +kernel⟩⟩
theorem v_FC_isEdge : mV bigW "FrontierCounts" y_FC_isEdge c_FC_isEdge 2 (some FieldType.boolean) 1 := ⟨cod_FC_isEdge, imm_FC_isEdge, sel_FC_isEdge, ini_FC, ⟨by decide +kernel, by decide +kernel, by decide +kernel⟩⟩
theorem v_FC_numberEdges : mV bigW "FrontierCounts" y_FC_numberEdges c_FC_numberEdges 2 none 0 := ⟨cod_FC_numberEdges, imm_FC_numberEdges, sel_FC_numberEdges, ini_FC, ⟨by decide +kernel, by decide +kernel, by decide +kernel⟩⟩
theorem v_FC_addSlot : mV bigW "FrontierCounts" y_FC_addSlot c_FC_addSlot 2 none 1 := ⟨cod_FC_addSlot, imm_FC_addSlot, sel_FC_addSlot, ini_FC, ⟨by decide +kernel, by decide +kernel, by decide +kernel⟩⟩
theorem v_FC_forgetWays : mV bigW "FrontierCounts" y_FC_forgetWays c_FC_forgetWays 1 none 0 := ⟨cod_FC_forgetWays, imm_FC_forgetWays, sel_FC_forgetWays, ini_FC, ⟨by decide +kernel, by decide +kernel, by decide +kernel⟩⟩
theorem i_MD_init : mI bigW y_MD_init c_MD_init 4 3 := ⟨cod_MD_init, imm_MD_init, ini_MD, rfl, ⟨by decide +kernel, by decide +kernel, by decide +kernel⟩⟩
theorem s_MD_held : mS bigW y_MD_held c_MD_held 3 (some FieldType.int) 3 := ⟨cod_MD_held, sta_MD_held, ini_MD, ⟨by decide +kernel, by decide +kernel, by decide +kernel⟩⟩
theorem v_MD_places : mV bigW "FrontierCountsModel" y_MD_places c_MD_places 1 (some FieldType.int) 0 := ⟨cod_MD_places, imm_MD_places, sel_MD_places, ini_MD, ⟨by decide +kernel, by decide +kernel, by decide +kernel⟩⟩
theorem v_MD_isPlace : mV bigW "FrontierCountsModel" y_MD_isPlace c_MD_isPlace 2 (some FieldType.boolean) 1 := ⟨cod_MD_isPlace, imm_MD_isPlace, sel_MD_isPlace, ini_MD, ⟨by decide +kernel, by decide +kernel, by decide +kernel⟩⟩
theorem v_MD_number : mV bigW "FrontierCountsModel" y_MD_number c_MD_number 2 none 0 := ⟨cod_MD_number, imm_MD_number, sel_MD_number, ini_MD, ⟨by decide +kernel, by decide +kernel, by decide +kernel⟩⟩
theorem v_MD_addEdge : mV bigW "FrontierCountsModel" y_MD_addEdge c_MD_addEdge 4 none 3 := ⟨cod_MD_addEdge, imm_MD_addEdge, sel_MD_addEdge, ini_MD, ⟨by decide +kernel, by decide +kernel, by decide +kernel⟩⟩
theorem v_MD_hole : mV bigW "FrontierCountsModel" y_MD_hole c_MD_hole 5 (some FieldType.boolean) 2 := ⟨cod_MD_hole, imm_MD_hole, sel_MD_hole, ini_MD, ⟨by decide +kernel, by decide +kernel, by decide +kernel⟩⟩
theorem v_MD_edge : mV bigW "FrontierCountsModel" y_MD_edge c_MD_edge 8 (some FieldType.boolean) 3 := ⟨cod_MD_edge, imm_MD_edge, sel_MD_edge, ini_MD, ⟨by decide +kernel, by decide +kernel, by decide +kernel⟩⟩
theorem v_MD_ends : mV bigW "FrontierCountsModel" y_MD_ends c_MD_ends 3 (some FieldType.boolean) 2 := ⟨cod_MD_ends, imm_MD_ends, sel_MD_ends, ini_MD, ⟨by decide +kernel, by decide +kernel, by decide +kernel⟩⟩
theorem v_MD_edges : mV bigW "FrontierCountsModel" y_MD_edges c_MD_edges 1 (some FieldType.int) 0 := ⟨cod_MD_edges, imm_MD_edges, sel_MD_edges, ini_MD, ⟨by decide +kernel, by decide +kernel, by decide +kernel⟩⟩
theorem v_MD_isEdge : mV bigW "FrontierCountsModel" y_MD_isEdge c_MD_isEdge 2 (some FieldType.boolean) 1 := ⟨cod_MD_isEdge, imm_MD_isEdge, sel_MD_isEdge, ini_MD, ⟨by decide +kernel, by decide +kernel, by decide +kernel⟩⟩
theorem v_MD_end : mV bigW "FrontierCountsModel" y_MD_end c_MD_end 3 (some FieldType.int) 2 := ⟨cod_MD_end, imm_MD_end, sel_MD_end, ini_MD, ⟨by decide +kernel, by decide +kernel, by decide +kernel⟩⟩
theorem v_MD_force : mV bigW "FrontierCountsModel" y_MD_force c_MD_force 3 (some FieldType.boolean) 2 := ⟨cod_MD_force, imm_MD_force, sel_MD_force, ini_MD, ⟨by decide +kernel, by decide +kernel, by decide +kernel⟩⟩
theorem v_MD_add : mV bigW "FrontierCountsModel" y_MD_add c_MD_add 3 none 1 := ⟨cod_MD_add, imm_MD_add, sel_MD_add, ini_MD, ⟨by decide +kernel, by decide +kernel, by decide +kernel⟩⟩
theorem v_MD_across : mV bigW "FrontierCountsModel" y_MD_across c_MD_across 3 (some FieldType.int) 2 := ⟨cod_MD_across, imm_MD_across, sel_MD_across, ini_MD, ⟨by decide +kernel, by decide +kernel, by decide +kernel⟩⟩
theorem v_MD_isOn : mV bigW "FrontierCountsModel" y_MD_isOn c_MD_isOn 4 (some FieldType.boolean) 2 := ⟨cod_MD_isOn, imm_MD_isOn, sel_MD_isOn, ini_MD, ⟨by decide +kernel, by decide +kernel, by decide +kernel⟩⟩
theorem v_MD_walkFrom : mV bigW "FrontierCountsModel" y_MD_walkFrom c_MD_walkFrom 10 none 3 := ⟨cod_MD_walkFrom, imm_MD_walkFrom, sel_MD_walkFrom, ini_MD, ⟨by decide +kernel, by decide +kernel, by decide +kernel⟩⟩
theorem v_MD_listDegrees : mV bigW "FrontierCountsModel" y_MD_listDegrees c_MD_listDegrees 8 none 1 := ⟨cod_MD_listDegrees, imm_MD_listDegrees, sel_MD_listDegrees, ini_MD, ⟨by decide +kernel, by decide +kernel, by decide +kernel⟩⟩
theorem s_MD_isLess : mS bigW y_MD_isLess c_MD_isLess 6 (some FieldType.boolean) 2 := ⟨cod_MD_isLess, sta_MD_isLess, ini_MD, ⟨by decide +kernel, by decide +kernel, by decide +kernel⟩⟩
theorem v_MD_sort : mV bigW "FrontierCountsModel" y_MD_sort c_MD_sort 9 none 0 := ⟨cod_MD_sort, imm_MD_sort, sel_MD_sort, ini_MD, ⟨by decide +kernel, by decide +kernel, by decide +kernel⟩⟩
theorem v_MD_countOfPlaces : mV bigW "FrontierCountsModel" y_MD_countOfPlaces c_MD_countOfPlaces 3 (some FieldType.int) 0 := ⟨cod_MD_countOfPlaces, imm_MD_countOfPlaces, sel_MD_countOfPlaces, ini_MD, ⟨by decide +kernel, by decide +kernel, by decide +kernel⟩⟩
theorem v_MD_list : mV bigW "FrontierCountsModel" y_MD_list c_MD_list 2 none 0 := ⟨cod_MD_list, imm_MD_list, sel_MD_list, ini_MD, ⟨by decide +kernel, by decide +kernel, by decide +kernel⟩⟩
theorem v_MD_isAllowed : mV bigW "FrontierCountsModel" y_MD_isAllowed c_MD_isAllowed 5 (some FieldType.boolean) 1 := ⟨cod_MD_isAllowed, imm_MD_isAllowed, sel_MD_isAllowed, ini_MD, ⟨by decide +kernel, by decide +kernel, by decide +kernel⟩⟩
theorem s_MD_power : mS bigW y_MD_power c_MD_power 10 (some FieldType.long) 2 := ⟨cod_MD_power, sta_MD_power, ini_MD, ⟨by decide +kernel, by decide +kernel, by decide +kernel⟩⟩
theorem v_MD_trees : mV bigW "FrontierCountsModel" y_MD_trees c_MD_trees 6 (some FieldType.long) 0 := ⟨cod_MD_trees, imm_MD_trees, sel_MD_trees, ini_MD, ⟨by decide +kernel, by decide +kernel, by decide +kernel⟩⟩
theorem v_MD_determinant : mV bigW "FrontierCountsModel" y_MD_determinant c_MD_determinant 11 (some FieldType.long) 0 := ⟨cod_MD_determinant, imm_MD_determinant, sel_MD_determinant, ini_MD, ⟨by decide +kernel, by decide +kernel, by decide +kernel⟩⟩
theorem v_MD_drawTree : mV bigW "FrontierCountsModel" y_MD_drawTree c_MD_drawTree 10 none 1 := ⟨cod_MD_drawTree, imm_MD_drawTree, sel_MD_drawTree, ini_MD, ⟨by decide +kernel, by decide +kernel, by decide +kernel⟩⟩
theorem v_MD_countAll : mV bigW "FrontierCountsModel" y_MD_countAll c_MD_countAll 4 (some FieldType.long) 0 := ⟨cod_MD_countAll, imm_MD_countAll, sel_MD_countAll, ini_MD, ⟨by decide +kernel, by decide +kernel, by decide +kernel⟩⟩
theorem v_MD_count : mV bigW "FrontierCountsModel" y_MD_count c_MD_count 1 (some FieldType.long) 0 := ⟨cod_MD_count, imm_MD_count, sel_MD_count, ini_MD, ⟨by decide +kernel, by decide +kernel, by decide +kernel⟩⟩
theorem v_MD_digit : mV bigW "FrontierCountsModel" y_MD_digit c_MD_digit 5 (some FieldType.int) 1 := ⟨cod_MD_digit, imm_MD_digit, sel_MD_digit, ini_MD, ⟨by decide +kernel, by decide +kernel, by decide +kernel⟩⟩
theorem v_MD_draw : mV bigW "FrontierCountsModel" y_MD_draw c_MD_draw 8 (some FieldType.boolean) 1 := ⟨cod_MD_draw, imm_MD_draw, sel_MD_draw, ini_MD, ⟨by decide +kernel, by decide +kernel, by decide +kernel⟩⟩
theorem v_MD_drawn : mV bigW "FrontierCountsModel" y_MD_drawn c_MD_drawn 2 (some FieldType.boolean) 1 := ⟨cod_MD_drawn, imm_MD_drawn, sel_MD_drawn, ini_MD, ⟨by decide +kernel, by decide +kernel, by decide +kernel⟩⟩
theorem v_MD_rank : mV bigW "FrontierCountsModel" y_MD_rank c_MD_rank 1 (some FieldType.long) 0 := ⟨cod_MD_rank, imm_MD_rank, sel_MD_rank, ini_MD, ⟨by decide +kernel, by decide +kernel, by decide +kernel⟩⟩
theorem i_DG_init : mI bigW y_DG_init c_DG_init 3 2 := ⟨cod_DG_init, imm_DG_init, ini_DG, rfl, ⟨by decide +kernel, by decide +kernel, by decide +kernel⟩⟩
theorem a_DG_firstCode : mA bigW nwW "FrontierCounts$Degrees" "FrontierCounts$Rule" y_RU_firstCode y_DG_firstCode c_DG_firstCode 1 (some FieldType.int) 0 := ⟨cod_DG_firstCode, same_firstCode, sel_DG_firstCode, imm_DG_firstCode, ini_DG, dec_RU_firstCode, by decide +kernel, by decide +kernel, by decide +kernel⟩
theorem a_DG_codeAfter : mA bigW nwW "FrontierCounts$Degrees" "FrontierCounts$Rule" y_RU_codeAfter y_DG_codeAfter c_DG_codeAfter 7 (some FieldType.int) 4 := ⟨cod_DG_codeAfter, same_codeAfter, sel_DG_codeAfter, imm_DG_codeAfter, ini_DG, dec_RU_codeAfter, by decide +kernel, by decide +kernel, by decide +kernel⟩
theorem a_DG_isWay : mA bigW nwW "FrontierCounts$Degrees" "FrontierCounts$Rule" y_RU_isWay y_DG_isWay c_DG_isWay 2 (some FieldType.boolean) 1 := ⟨cod_DG_isWay, same_isWay, sel_DG_isWay, imm_DG_isWay, ini_DG, dec_RU_isWay, by decide +kernel, by decide +kernel, by decide +kernel⟩
theorem i_GR_init : mI bigW y_GR_init c_GR_init 3 2 := ⟨cod_GR_init, imm_GR_init, ini_GR, rfl, ⟨by decide +kernel, by decide +kernel, by decide +kernel⟩⟩
theorem s_GR_belowOf : mS bigW y_GR_belowOf c_GR_belowOf 1 (some FieldType.int) 1 := ⟨cod_GR_belowOf, sta_GR_belowOf, ini_GR, ⟨by decide +kernel, by decide +kernel, by decide +kernel⟩⟩
theorem s_GR_rightOf : mS bigW y_GR_rightOf c_GR_rightOf 1 (some FieldType.int) 1 := ⟨cod_GR_rightOf, sta_GR_rightOf, ini_GR, ⟨by decide +kernel, by decide +kernel, by decide +kernel⟩⟩
theorem v_GR_inside : mV bigW "FrontierCounts$Grid" y_GR_inside c_GR_inside 2 (some FieldType.boolean) 1 := ⟨cod_GR_inside, imm_GR_inside, sel_GR_inside, ini_GR, ⟨by decide +kernel, by decide +kernel, by decide +kernel⟩⟩
theorem v_GR_isPlace : mV bigW "FrontierCounts$Grid" y_GR_isPlace c_GR_isPlace 2 (some FieldType.boolean) 1 := ⟨cod_GR_isPlace, imm_GR_isPlace, sel_GR_isPlace, ini_GR, ⟨by decide +kernel, by decide +kernel, by decide +kernel⟩⟩
theorem v_GR_isEnd : mV bigW "FrontierCounts$Grid" y_GR_isEnd c_GR_isEnd 2 (some FieldType.boolean) 1 := ⟨cod_GR_isEnd, imm_GR_isEnd, sel_GR_isEnd, ini_GR, ⟨by decide +kernel, by decide +kernel, by decide +kernel⟩⟩
theorem v_GR_isOpen : mV bigW "FrontierCounts$Grid" y_GR_isOpen c_GR_isOpen 2 (some FieldType.boolean) 1 := ⟨cod_GR_isOpen, imm_GR_isOpen, sel_GR_isOpen, ini_GR, ⟨by decide +kernel, by decide +kernel, by decide +kernel⟩⟩
theorem v_GR_openChoices : mV bigW "FrontierCounts$Grid" y_GR_openChoices c_GR_openChoices 2 (some FieldType.int) 1 := ⟨cod_GR_openChoices, imm_GR_openChoices, sel_GR_openChoices, ini_GR, ⟨by decide +kernel, by decide +kernel, by decide +kernel⟩⟩
theorem v_GR_turnHole : mV bigW "FrontierCounts$Grid" y_GR_turnHole c_GR_turnHole 2 none 1 := ⟨cod_GR_turnHole, imm_GR_turnHole, sel_GR_turnHole, ini_GR, ⟨by decide +kernel, by decide +kernel, by decide +kernel⟩⟩
theorem v_GR_tellEnds : mV bigW "FrontierCounts$Grid" y_GR_tellEnds c_GR_tellEnds 3 none 2 := ⟨cod_GR_tellEnds, imm_GR_tellEnds, sel_GR_tellEnds, ini_GR, ⟨by decide +kernel, by decide +kernel, by decide +kernel⟩⟩
theorem v_GR_findOpenSlots : mV bigW "FrontierCounts$Grid" y_GR_findOpenSlots c_GR_findOpenSlots 3 none 0 := ⟨cod_GR_findOpenSlots, imm_GR_findOpenSlots, sel_GR_findOpenSlots, ini_GR, ⟨by decide +kernel, by decide +kernel, by decide +kernel⟩⟩
theorem v_GR_openSlotsAt : mV bigW "FrontierCounts$Grid" y_GR_openSlotsAt c_GR_openSlotsAt 3 none 2 := ⟨cod_GR_openSlotsAt, imm_GR_openSlotsAt, sel_GR_openSlotsAt, ini_GR, ⟨by decide +kernel, by decide +kernel, by decide +kernel⟩⟩
theorem v_GR_slotBetween : mV bigW "FrontierCounts$Grid" y_GR_slotBetween c_GR_slotBetween 5 (some FieldType.int) 2 := ⟨cod_GR_slotBetween, imm_GR_slotBetween, sel_GR_slotBetween, ini_GR, ⟨by decide +kernel, by decide +kernel, by decide +kernel⟩⟩
theorem v_GR_nearEnd : mV bigW "FrontierCounts$Grid" y_GR_nearEnd c_GR_nearEnd 2 (some FieldType.int) 1 := ⟨cod_GR_nearEnd, imm_GR_nearEnd, sel_GR_nearEnd, ini_GR, ⟨by decide +kernel, by decide +kernel, by decide +kernel⟩⟩
theorem v_GR_farEnd : mV bigW "FrontierCounts$Grid" y_GR_farEnd c_GR_farEnd 3 (some FieldType.int) 1 := ⟨cod_GR_farEnd, imm_GR_farEnd, sel_GR_farEnd, ini_GR, ⟨by decide +kernel, by decide +kernel, by decide +kernel⟩⟩
theorem i_LY_init : mI bigW y_LY_init c_LY_init 4 3 := ⟨cod_LY_init, imm_LY_init, ini_LY, rfl, ⟨by decide +kernel, by decide +kernel, by decide +kernel⟩⟩
theorem v_LY_build : mV bigW "FrontierCounts$Layers" y_LY_build c_LY_build 4 none 0 := ⟨cod_LY_build, imm_LY_build, sel_LY_build, ini_LY, ⟨by decide +kernel, by decide +kernel, by decide +kernel⟩⟩
theorem v_LY_swapCodes : mV bigW "FrontierCounts$Layers" y_LY_swapCodes c_LY_swapCodes 2 none 0 := ⟨cod_LY_swapCodes, imm_LY_swapCodes, sel_LY_swapCodes, ini_LY, ⟨by decide +kernel, by decide +kernel, by decide +kernel⟩⟩
theorem v_LY_leadsFrom : mV bigW "FrontierCounts$Layers" y_LY_leadsFrom c_LY_leadsFrom 9 (some FieldType.int) 3 := ⟨cod_LY_leadsFrom, imm_LY_leadsFrom, sel_LY_leadsFrom, ini_LY, ⟨by decide +kernel, by decide +kernel, by decide +kernel⟩⟩
theorem v_LY_indexOfNext : mV bigW "FrontierCounts$Layers" y_LY_indexOfNext c_LY_indexOfNext 7 (some FieldType.int) 2 := ⟨cod_LY_indexOfNext, imm_LY_indexOfNext, sel_LY_indexOfNext, ini_LY, ⟨by decide +kernel, by decide +kernel, by decide +kernel⟩⟩
theorem v_LY_addNext : mV bigW "FrontierCounts$Layers" y_LY_addNext c_LY_addNext 5 (some FieldType.int) 3 := ⟨cod_LY_addNext, imm_LY_addNext, sel_LY_addNext, ini_LY, ⟨by decide +kernel, by decide +kernel, by decide +kernel⟩⟩
theorem v_LY_weigh : mV bigW "FrontierCounts$Layers" y_LY_weigh c_LY_weigh 7 none 2 := ⟨cod_LY_weigh, imm_LY_weigh, sel_LY_weigh, ini_LY, ⟨by decide +kernel, by decide +kernel, by decide +kernel⟩⟩
theorem v_LY_waysFrom : mV bigW "FrontierCounts$Layers" y_LY_waysFrom c_LY_waysFrom 6 (some FieldType.long) 2 := ⟨cod_LY_waysFrom, imm_LY_waysFrom, sel_LY_waysFrom, ini_LY, ⟨by decide +kernel, by decide +kernel, by decide +kernel⟩⟩
theorem v_LY_waysBy : mV bigW "FrontierCounts$Layers" y_LY_waysBy c_LY_waysBy 5 (some FieldType.long) 3 := ⟨cod_LY_waysBy, imm_LY_waysBy, sel_LY_waysBy, ini_LY, ⟨by decide +kernel, by decide +kernel, by decide +kernel⟩⟩
theorem v_LY_leadBy : mV bigW "FrontierCounts$Layers" y_LY_leadBy c_LY_leadBy 4 (some FieldType.int) 3 := ⟨cod_LY_leadBy, imm_LY_leadBy, sel_LY_leadBy, ini_LY, ⟨by decide +kernel, by decide +kernel, by decide +kernel⟩⟩
theorem v_LY_isAllowed : mV bigW "FrontierCounts$Layers" y_LY_isAllowed c_LY_isAllowed 6 (some FieldType.boolean) 2 := ⟨cod_LY_isAllowed, imm_LY_isAllowed, sel_LY_isAllowed, ini_LY, ⟨by decide +kernel, by decide +kernel, by decide +kernel⟩⟩
theorem v_LY_total : mV bigW "FrontierCounts$Layers" y_LY_total c_LY_total 1 (some FieldType.long) 0 := ⟨cod_LY_total, imm_LY_total, sel_LY_total, ini_LY, ⟨by decide +kernel, by decide +kernel, by decide +kernel⟩⟩
theorem v_LY_wayAt : mV bigW "FrontierCounts$Layers" y_LY_wayAt c_LY_wayAt 11 (some FieldType.long) 1 := ⟨cod_LY_wayAt, imm_LY_wayAt, sel_LY_wayAt, ini_LY, ⟨by decide +kernel, by decide +kernel, by decide +kernel⟩⟩
theorem i_LN_init : mI bigW y_LN_init c_LN_init 3 2 := ⟨cod_LN_init, imm_LN_init, ini_LN, rfl, ⟨by decide +kernel, by decide +kernel, by decide +kernel⟩⟩
theorem a_LN_firstCode : mA bigW nwW "FrontierCounts$Lines" "FrontierCounts$Rule" y_RU_firstCode y_LN_firstCode c_LN_firstCode 1 (some FieldType.int) 0 := ⟨cod_LN_firstCode, same_firstCode, sel_LN_firstCode, imm_LN_firstCode, ini_LN, dec_RU_firstCode, by decide +kernel, by decide +kernel, by decide +kernel⟩
theorem a_LN_isWay : mA bigW nwW "FrontierCounts$Lines" "FrontierCounts$Rule" y_RU_isWay y_LN_isWay c_LN_isWay 2 (some FieldType.boolean) 1 := ⟨cod_LN_isWay, same_isWay, sel_LN_isWay, imm_LN_isWay, ini_LN, dec_RU_isWay, by decide +kernel, by decide +kernel, by decide +kernel⟩
theorem a_LN_codeAfter : mA bigW nwW "FrontierCounts$Lines" "FrontierCounts$Rule" y_RU_codeAfter y_LN_codeAfter c_LN_codeAfter 11 (some FieldType.int) 4 := ⟨cod_LN_codeAfter, same_codeAfter, sel_LN_codeAfter, imm_LN_codeAfter, ini_LN, dec_RU_codeAfter, by decide +kernel, by decide +kernel, by decide +kernel⟩
theorem s_LN_withEnd : mS bigW y_LN_withEnd c_LN_withEnd 2 (some FieldType.int) 2 := ⟨cod_LN_withEnd, sta_LN_withEnd, ini_LN, ⟨by decide +kernel, by decide +kernel, by decide +kernel⟩⟩
theorem v_LN_joined : mV bigW "FrontierCounts$Lines" y_LN_joined c_LN_joined 7 (some FieldType.int) 2 := ⟨cod_LN_joined, imm_LN_joined, sel_LN_joined, ini_LN, ⟨by decide +kernel, by decide +kernel, by decide +kernel⟩⟩
theorem s_LN_symbol : mS bigW y_LN_symbol c_LN_symbol 2 (some FieldType.int) 2 := ⟨cod_LN_symbol, sta_LN_symbol, ini_LN, ⟨by decide +kernel, by decide +kernel, by decide +kernel⟩⟩
theorem s_LN_withMate : mS bigW y_LN_withMate c_LN_withMate 9 (some FieldType.int) 4 := ⟨cod_LN_withMate, sta_LN_withMate, ini_LN, ⟨by decide +kernel, by decide +kernel, by decide +kernel⟩⟩
theorem i_RU_init : mI bigW y_RU_init c_RU_init 1 0 := ⟨cod_RU_init, imm_RU_init, ini_RU, rfl, ⟨by decide +kernel, by decide +kernel, by decide +kernel⟩⟩
theorem i_TR_init : mI bigW y_TR_init c_TR_init 2 1 := ⟨cod_TR_init, imm_TR_init, ini_TR, rfl, ⟨by decide +kernel, by decide +kernel, by decide +kernel⟩⟩
theorem a_TR_firstCode : mA bigW nwW "FrontierCounts$Trees" "FrontierCounts$Rule" y_RU_firstCode y_TR_firstCode c_TR_firstCode 2 (some FieldType.int) 0 := ⟨cod_TR_firstCode, same_firstCode, sel_TR_firstCode, imm_TR_firstCode, ini_TR, dec_RU_firstCode, by decide +kernel, by decide +kernel, by decide +kernel⟩
theorem a_TR_isWay : mA bigW nwW "FrontierCounts$Trees" "FrontierCounts$Rule" y_RU_isWay y_TR_isWay c_TR_isWay 2 (some FieldType.boolean) 1 := ⟨cod_TR_isWay, same_isWay, sel_TR_isWay, imm_TR_isWay, ini_TR, dec_RU_isWay, by decide +kernel, by decide +kernel, by decide +kernel⟩
theorem a_TR_codeAfter : mA bigW nwW "FrontierCounts$Trees" "FrontierCounts$Rule" y_RU_codeAfter y_TR_codeAfter c_TR_codeAfter 8 (some FieldType.int) 4 := ⟨cod_TR_codeAfter, same_codeAfter, sel_TR_codeAfter, imm_TR_codeAfter, ini_TR, dec_RU_codeAfter, by decide +kernel, by decide +kernel, by decide +kernel⟩
theorem v_TR_joinRight : mV bigW "FrontierCounts$Trees" y_TR_joinRight c_TR_joinRight 5 (some FieldType.boolean) 1 := ⟨cod_TR_joinRight, imm_TR_joinRight, sel_TR_joinRight, ini_TR, ⟨by decide +kernel, by decide +kernel, by decide +kernel⟩⟩
theorem v_TR_isThere : mV bigW "FrontierCounts$Trees" y_TR_isThere c_TR_isThere 3 (some FieldType.boolean) 1 := ⟨cod_TR_isThere, imm_TR_isThere, sel_TR_isThere, ini_TR, ⟨by decide +kernel, by decide +kernel, by decide +kernel⟩⟩
theorem v_TR_codeOfPieces : mV bigW "FrontierCounts$Trees" y_TR_codeOfPieces c_TR_codeOfPieces 6 (some FieldType.int) 0 := ⟨cod_TR_codeOfPieces, imm_TR_codeOfPieces, sel_TR_codeOfPieces, ini_TR, ⟨by decide +kernel, by decide +kernel, by decide +kernel⟩⟩
theorem s_LW_cell : mS bigW y_LW_cell c_LW_cell 2 (some FieldType.int) 2 := ⟨cod_LW_cell, sta_LW_cell, ini_LW, ⟨by decide +kernel, by decide +kernel, by decide +kernel⟩⟩
theorem s_JI_bitCount : mS bigW y_JI_bitCount c_JI_bitCount 1 (some FieldType.int) 1 := ⟨cod_JI_bitCount, sta_JI_bitCount, ini_JI, ⟨by decide +kernel, by decide +kernel, by decide +kernel⟩⟩
theorem s_JA_fill : mS bigW y_JA_fill c_JA_fill 4 none 2 := ⟨cod_JA_fill, sta_JA_fill, ini_JA, ⟨by decide +kernel, by decide +kernel, by decide +kernel⟩⟩
