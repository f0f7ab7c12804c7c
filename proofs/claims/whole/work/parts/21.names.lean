-- NAMES: classes, fields, methods; words as members of the tables (laid by gen/names.py)
def R_Me : String := "SideTreeText$Messages"
def R_Re : String := "SideTreeText$Replica"
def R_Tr : String := "SideTreeText$Tree"
def R_St : String := "SideTreeText"
def R_Mo : String := "SideTreeTextModel"
def R_La : String := "SideTreeTextLaw"
def F_Me : u_T := fun k => match k with
  | 0 => ("SideTreeText$Messages", "codes", "[I", true)
  | _ => ("SideTreeText$Messages", "size", "I", false)
def t_Me : Nat → FieldType := fun k => match k with
  | 0 => .array .int
  | _ => .int
theorem n_Me : ∀ a, a < 2 → ∀ b, b < 2 → a ≠ b → (F_Me a).2.1 ≠ (F_Me b).2.1 := by decide +kernel
theorem t_Me_ok : ∀ k, k < 2 → parseFieldDescriptor (F_Me k).2.2.1 = some (t_Me k) := by decide +kernel
def F_Re : u_T := fun k => match k with
  | 0 => ("SideTreeText$Replica", "marks", "[I", true)
  | 1 => ("SideTreeText$Replica", "inTray", "LSideTreeText$Messages;", true)
  | _ => ("SideTreeText$Replica", "inWait", "LSideTreeText$Messages;", true)
def t_Re : Nat → FieldType := fun k => match k with
  | 0 => .array .int
  | 1 => .object "SideTreeText$Messages"
  | _ => .object "SideTreeText$Messages"
theorem n_Re : ∀ a, a < 3 → ∀ b, b < 3 → a ≠ b → (F_Re a).2.1 ≠ (F_Re b).2.1 := by decide +kernel
theorem t_Re_ok : ∀ k, k < 3 → parseFieldDescriptor (F_Re k).2.2.1 = some (t_Re k) := by decide +kernel
def F_Tr : u_T := fun k => match k with
  | 0 => ("SideTreeText$Tree", "makers", "[I", true)
  | 1 => ("SideTreeText$Tree", "characters", "[I", true)
  | 2 => ("SideTreeText$Tree", "parents", "[I", true)
  | 3 => ("SideTreeText$Tree", "sides", "[I", true)
  | 4 => ("SideTreeText$Tree", "rightOrigins", "[I", true)
  | 5 => ("SideTreeText$Tree", "order", "[I", true)
  | _ => ("SideTreeText$Tree", "size", "I", false)
def t_Tr : Nat → FieldType := fun k => match k with
  | 0 => .array .int
  | 1 => .array .int
  | 2 => .array .int
  | 3 => .array .int
  | 4 => .array .int
  | 5 => .array .int
  | _ => .int
theorem n_Tr : ∀ a, a < 7 → ∀ b, b < 7 → a ≠ b → (F_Tr a).2.1 ≠ (F_Tr b).2.1 := by decide +kernel
theorem t_Tr_ok : ∀ k, k < 7 → parseFieldDescriptor (F_Tr k).2.2.1 = some (t_Tr k) := by decide +kernel
def F_St : u_T := fun k => match k with
  | 0 => ("SideTreeText", "tree", "LSideTreeText$Tree;", true)
  | _ => ("SideTreeText", "replicas", "[LSideTreeText$Replica;", true)
def t_St : Nat → FieldType := fun k => match k with
  | 0 => .object "SideTreeText$Tree"
  | _ => .array (.object "SideTreeText$Replica")
theorem n_St : ∀ a, a < 2 → ∀ b, b < 2 → a ≠ b → (F_St a).2.1 ≠ (F_St b).2.1 := by decide +kernel
theorem t_St_ok : ∀ k, k < 2 → parseFieldDescriptor (F_St k).2.2.1 = some (t_St k) := by decide +kernel
def F_Mo : u_T := fun k => match k with
  | 0 => ("SideTreeTextModel", "count", "I", false)
  | 1 => ("SideTreeTextModel", "maker", "[I", false)
  | 2 => ("SideTreeTextModel", "sign", "[I", false)
  | 3 => ("SideTreeTextModel", "parent", "[I", false)
  | 4 => ("SideTreeTextModel", "right", "[I", false)
  | 5 => ("SideTreeTextModel", "origin", "[I", false)
  | 6 => ("SideTreeTextModel", "row", "[I", false)
  | 7 => ("SideTreeTextModel", "states", "[I", false)
  | 8 => ("SideTreeTextModel", "trays", "[I", false)
  | 9 => ("SideTreeTextModel", "inTray", "[I", false)
  | 10 => ("SideTreeTextModel", "waits", "[I", false)
  | _ => ("SideTreeTextModel", "waitCount", "[I", false)
def t_Mo : Nat → FieldType := fun k => match k with
  | 0 => .int
  | 1 => .array .int
  | 2 => .array .int
  | 3 => .array .int
  | 4 => .array .int
  | 5 => .array .int
  | 6 => .array .int
  | 7 => .array .int
  | 8 => .array .int
  | 9 => .array .int
  | 10 => .array .int
  | _ => .array .int
theorem n_Mo : ∀ a, a < 12 → ∀ b, b < 12 → a ≠ b → (F_Mo a).2.1 ≠ (F_Mo b).2.1 := by decide +kernel
theorem t_Mo_ok : ∀ k, k < 12 → parseFieldDescriptor (F_Mo k).2.2.1 = some (t_Mo k) := by decide +kernel
abbrev vwC : List vw_C := [(R_Me, F_Me, 2), (R_Re, F_Re, 3), (R_Tr, F_Tr, 7), (R_St, F_St, 2), (R_Mo, F_Mo, 12)]
abbrev b_La_law : ByteArray := code
def y_La_law : MethodName := ⟨R_La, "law", "([I)Z"⟩
abbrev b_Me_add : ByteArray := prog_2_method_4_code
def y_Me_add : MethodName := ⟨R_Me, "add", "(I)V"⟩
abbrev b_Me_has : ByteArray := prog_2_method_2_code
def y_Me_has : MethodName := ⟨R_Me, "has", "(I)Z"⟩
abbrev b_Me_init : ByteArray := prog_2_method_1_code
def y_Me_init : MethodName := ⟨R_Me, "<init>", "(I)V"⟩
abbrev b_Me_isFull : ByteArray := prog_2_method_3_code
def y_Me_isFull : MethodName := ⟨R_Me, "isFull", "()Z"⟩
abbrev b_Me_take : ByteArray := prog_2_method_5_code
def y_Me_take : MethodName := ⟨R_Me, "take", "(I)I"⟩
abbrev b_Mo_about : ByteArray := prog_6_method_33_code
def y_Mo_about : MethodName := ⟨R_Mo, "about", "(II)I"⟩
abbrev b_Mo_ahead : ByteArray := prog_6_method_8_code
def y_Mo_ahead : MethodName := ⟨R_Mo, "ahead", "(II)Z"⟩
abbrev b_Mo_begin : ByteArray := prog_6_method_6_code
def y_Mo_begin : MethodName := ⟨R_Mo, "begin", "(I)I"⟩
abbrev b_Mo_below : ByteArray := prog_6_method_5_code
def y_Mo_below : MethodName := ⟨R_Mo, "below", "(II)Z"⟩
abbrev b_Mo_deliver : ByteArray := prog_6_method_21_code
def y_Mo_deliver : MethodName := ⟨R_Mo, "deliver", "(II)I"⟩
abbrev b_Mo_depth : ByteArray := prog_6_method_34_code
def y_Mo_depth : MethodName := ⟨R_Mo, "depth", "(I)I"⟩
abbrev b_Mo_differ : ByteArray := prog_6_method_35_code
def y_Mo_differ : MethodName := ⟨R_Mo, "differ", "(II)I"⟩
abbrev b_Mo_effect : ByteArray := prog_6_method_19_code
def y_Mo_effect : MethodName := ⟨R_Mo, "effect", "(II)V"⟩
abbrev b_Mo_end : ByteArray := prog_6_method_7_code
def y_Mo_end : MethodName := ⟨R_Mo, "end", "(I)I"⟩
abbrev b_Mo_erase : ByteArray := prog_6_method_23_code
def y_Mo_erase : MethodName := ⟨R_Mo, "erase", "(II)I"⟩
abbrev b_Mo_hasRight : ByteArray := prog_6_method_14_code
def y_Mo_hasRight : MethodName := ⟨R_Mo, "hasRight", "(II)Z"⟩
abbrev b_Mo_home : ByteArray := prog_6_method_9_code
def y_Mo_home : MethodName := ⟨R_Mo, "home", "(I)I"⟩
abbrev b_Mo_init : ByteArray := prog_6_method_1_code
def y_Mo_init : MethodName := ⟨R_Mo, "<init>", "()V"⟩
abbrev b_Mo_insert : ByteArray := prog_6_method_22_code
def y_Mo_insert : MethodName := ⟨R_Mo, "insert", "(III)I"⟩
abbrev b_Mo_isElement : ByteArray := prog_6_method_3_code
def y_Mo_isElement : MethodName := ⟨R_Mo, "isElement", "(I)Z"⟩
abbrev b_Mo_isReplica : ByteArray := prog_6_method_2_code
def y_Mo_isReplica : MethodName := ⟨R_Mo, "isReplica", "(I)Z"⟩
abbrev b_Mo_known : ByteArray := prog_6_method_27_code
def y_Mo_known : MethodName := ⟨R_Mo, "known", "(I)I"⟩
abbrev b_Mo_known0 : ByteArray := prog_6_method_17_code
def y_Mo_known0 : MethodName := ⟨R_Mo, "known0", "(II)Z"⟩
abbrev b_Mo_length : ByteArray := prog_6_method_24_code
def y_Mo_length : MethodName := ⟨R_Mo, "length", "(I)I"⟩
abbrev b_Mo_made : ByteArray := prog_6_method_32_code
def y_Mo_made : MethodName := ⟨R_Mo, "made", "()I"⟩
abbrev b_Mo_many : ByteArray := prog_6_method_12_code
def y_Mo_many : MethodName := ⟨R_Mo, "many", "(III)I"⟩
abbrev b_Mo_message : ByteArray := prog_6_method_31_code
def y_Mo_message : MethodName := ⟨R_Mo, "message", "(II)I"⟩
abbrev b_Mo_next : ByteArray := prog_6_method_13_code
def y_Mo_next : MethodName := ⟨R_Mo, "next", "(II)I"⟩
abbrev b_Mo_noRoom : ByteArray := prog_6_method_15_code
def y_Mo_noRoom : MethodName := ⟨R_Mo, "noRoom", "(I)Z"⟩
abbrev b_Mo_nth : ByteArray := prog_6_method_11_code
def y_Mo_nth : MethodName := ⟨R_Mo, "nth", "(IIZ)I"⟩
abbrev b_Mo_ordered : ByteArray := prog_6_method_26_code
def y_Mo_ordered : MethodName := ⟨R_Mo, "ordered", "(II)I"⟩
abbrev b_Mo_placeOf : ByteArray := prog_6_method_4_code
def y_Mo_placeOf : MethodName := ⟨R_Mo, "placeOf", "(I)I"⟩
abbrev b_Mo_ready : ByteArray := prog_6_method_18_code
def y_Mo_ready : MethodName := ⟨R_Mo, "ready", "(II)Z"⟩
abbrev b_Mo_send : ByteArray := prog_6_method_16_code
def y_Mo_send : MethodName := ⟨R_Mo, "send", "(II)V"⟩
abbrev b_Mo_shown : ByteArray := prog_6_method_25_code
def y_Mo_shown : MethodName := ⟨R_Mo, "shown", "(II)I"⟩
abbrev b_Mo_state : ByteArray := prog_6_method_28_code
def y_Mo_state : MethodName := ⟨R_Mo, "state", "(II)I"⟩
abbrev b_Mo_state0 : ByteArray := prog_6_method_10_code
def y_Mo_state0 : MethodName := ⟨R_Mo, "state0", "(II)I"⟩
abbrev b_Mo_tray : ByteArray := prog_6_method_29_code
def y_Mo_tray : MethodName := ⟨R_Mo, "tray", "(I)I"⟩
abbrev b_Mo_waiting : ByteArray := prog_6_method_30_code
def y_Mo_waiting : MethodName := ⟨R_Mo, "waiting", "(I)I"⟩
abbrev b_Mo_wake : ByteArray := prog_6_method_20_code
def y_Mo_wake : MethodName := ⟨R_Mo, "wake", "(I)Z"⟩
abbrev b_Re_init : ByteArray := prog_3_method_1_code
def y_Re_init : MethodName := ⟨R_Re, "<init>", "()V"⟩
abbrev b_Re_isSettled : ByteArray := prog_3_method_2_code
def y_Re_isSettled : MethodName := ⟨R_Re, "isSettled", "(I)Z"⟩
abbrev b_St_about : ByteArray := prog_1_method_14_code
def y_St_about : MethodName := ⟨R_St, "about", "(II)I"⟩
abbrev b_St_countMarked : ByteArray := prog_1_method_18_code
def y_St_countMarked : MethodName := ⟨R_St, "countMarked", "(LSideTreeText$Replica;I)I"⟩
abbrev b_St_deliver : ByteArray := prog_1_method_4_code
def y_St_deliver : MethodName := ⟨R_St, "deliver", "(II)I"⟩
abbrev b_St_depth : ByteArray := prog_1_method_15_code
def y_St_depth : MethodName := ⟨R_St, "depth", "(I)I"⟩
abbrev b_St_differ : ByteArray := prog_1_method_16_code
def y_St_differ : MethodName := ⟨R_St, "differ", "(II)I"⟩
abbrev b_St_erase : ByteArray := prog_1_method_3_code
def y_St_erase : MethodName := ⟨R_St, "erase", "(II)I"⟩
abbrev b_St_firstReady : ByteArray := prog_1_method_30_code
def y_St_firstReady : MethodName := ⟨R_St, "firstReady", "(LSideTreeText$Replica;)I"⟩
abbrev b_St_hasRightChild : ByteArray := prog_1_method_23_code
def y_St_hasRightChild : MethodName := ⟨R_St, "hasRightChild", "(LSideTreeText$Replica;I)Z"⟩
abbrev b_St_init : ByteArray := prog_1_method_1_code
def y_St_init : MethodName := ⟨R_St, "<init>", "()V"⟩
abbrev b_St_insert : ByteArray := prog_1_method_2_code
def y_St_insert : MethodName := ⟨R_St, "insert", "(III)I"⟩
abbrev b_St_isErasing : ByteArray := prog_1_method_26_code
def y_St_isErasing : MethodName := ⟨R_St, "isErasing", "(I)Z"⟩
abbrev b_St_isOtherTrayFull : ByteArray := prog_1_method_24_code
def y_St_isOtherTrayFull : MethodName := ⟨R_St, "isOtherTrayFull", "(I)Z"⟩
abbrev b_St_isReady : ByteArray := prog_1_method_27_code
def y_St_isReady : MethodName := ⟨R_St, "isReady", "(LSideTreeText$Replica;I)Z"⟩
abbrev b_St_isReplica : ByteArray := prog_1_method_17_code
def y_St_isReplica : MethodName := ⟨R_St, "isReplica", "(I)Z"⟩
abbrev b_St_known : ByteArray := prog_1_method_8_code
def y_St_known : MethodName := ⟨R_St, "known", "(I)I"⟩
abbrev b_St_length : ByteArray := prog_1_method_5_code
def y_St_length : MethodName := ⟨R_St, "length", "(I)I"⟩
abbrev b_St_made : ByteArray := prog_1_method_13_code
def y_St_made : MethodName := ⟨R_St, "made", "()I"⟩
abbrev b_St_makeBehind : ByteArray := prog_1_method_21_code
def y_St_makeBehind : MethodName := ⟨R_St, "makeBehind", "(III)I"⟩
abbrev b_St_message : ByteArray := prog_1_method_12_code
def y_St_message : MethodName := ⟨R_St, "message", "(II)I"⟩
abbrev b_St_nextBehind : ByteArray := prog_1_method_22_code
def y_St_nextBehind : MethodName := ⟨R_St, "nextBehind", "(LSideTreeText$Replica;I)I"⟩
abbrev b_St_ordered : ByteArray := prog_1_method_7_code
def y_St_ordered : MethodName := ⟨R_St, "ordered", "(II)I"⟩
abbrev b_St_orderedAt : ByteArray := prog_1_method_20_code
def y_St_orderedAt : MethodName := ⟨R_St, "orderedAt", "(LSideTreeText$Replica;I)I"⟩
abbrev b_St_send : ByteArray := prog_1_method_25_code
def y_St_send : MethodName := ⟨R_St, "send", "(II)V"⟩
abbrev b_St_shown : ByteArray := prog_1_method_6_code
def y_St_shown : MethodName := ⟨R_St, "shown", "(II)I"⟩
abbrev b_St_shownAt : ByteArray := prog_1_method_19_code
def y_St_shownAt : MethodName := ⟨R_St, "shownAt", "(LSideTreeText$Replica;I)I"⟩
abbrev b_St_state : ByteArray := prog_1_method_9_code
def y_St_state : MethodName := ⟨R_St, "state", "(II)I"⟩
abbrev b_St_takeEffect : ByteArray := prog_1_method_28_code
def y_St_takeEffect : MethodName := ⟨R_St, "takeEffect", "(LSideTreeText$Replica;I)V"⟩
abbrev b_St_tray : ByteArray := prog_1_method_10_code
def y_St_tray : MethodName := ⟨R_St, "tray", "(I)I"⟩
abbrev b_St_waiting : ByteArray := prog_1_method_11_code
def y_St_waiting : MethodName := ⟨R_St, "waiting", "(I)I"⟩
abbrev b_St_wakeWaiting : ByteArray := prog_1_method_29_code
def y_St_wakeWaiting : MethodName := ⟨R_St, "wakeWaiting", "(LSideTreeText$Replica;)I"⟩
abbrev b_Tr_add : ByteArray := prog_4_method_4_code
def y_Tr_add : MethodName := ⟨R_Tr, "add", "(IIIII)I"⟩
abbrev b_Tr_branchOf : ByteArray := prog_4_method_12_code
def y_Tr_branchOf : MethodName := ⟨R_Tr, "branchOf", "(II)I"⟩
abbrev b_Tr_countAbove : ByteArray := prog_4_method_5_code
def y_Tr_countAbove : MethodName := ⟨R_Tr, "countAbove", "(I)I"⟩
abbrev b_Tr_has : ByteArray := prog_4_method_2_code
def y_Tr_has : MethodName := ⟨R_Tr, "has", "(I)Z"⟩
abbrev b_Tr_init : ByteArray := prog_4_method_1_code
def y_Tr_init : MethodName := ⟨R_Tr, "<init>", "()V"⟩
abbrev b_Tr_isBeforeBranchOf : ByteArray := prog_4_method_10_code
def y_Tr_isBeforeBranchOf : MethodName := ⟨R_Tr, "isBeforeBranchOf", "(II)Z"⟩
abbrev b_Tr_isBehindBranchOf : ByteArray := prog_4_method_11_code
def y_Tr_isBehindBranchOf : MethodName := ⟨R_Tr, "isBehindBranchOf", "(II)Z"⟩
abbrev b_Tr_isFull : ByteArray := prog_4_method_3_code
def y_Tr_isFull : MethodName := ⟨R_Tr, "isFull", "()Z"⟩
abbrev b_Tr_isSiblingBefore : ByteArray := prog_4_method_13_code
def y_Tr_isSiblingBefore : MethodName := ⟨R_Tr, "isSiblingBefore", "(II)Z"⟩
abbrev b_Tr_leftPlaceFor : ByteArray := prog_4_method_8_code
def y_Tr_leftPlaceFor : MethodName := ⟨R_Tr, "leftPlaceFor", "(I)I"⟩
abbrev b_Tr_placeBehind : ByteArray := prog_4_method_6_code
def y_Tr_placeBehind : MethodName := ⟨R_Tr, "placeBehind", "(I)I"⟩
abbrev b_Tr_placeOf : ByteArray := prog_4_method_7_code
def y_Tr_placeOf : MethodName := ⟨R_Tr, "placeOf", "(I)I"⟩
abbrev b_Tr_rightPlaceFor : ByteArray := prog_4_method_9_code
def y_Tr_rightPlaceFor : MethodName := ⟨R_Tr, "rightPlaceFor", "(I)I"⟩
/-- the good words of the tables: every method's words are its own code and these -/
def wAl : List Cond := lw_tbl.filter goodWord
theorem wAl_in {w : Cond} (h : w ∈ lw_tbl) (hg : goodWord w = true) : w ∈ wAl := List.mem_filter.mpr ⟨h, hg⟩
theorem wAl_sub : ∀ w ∈ wAl, w ∈ lw_tbl := fun _ h => (List.mem_filter.mp h).1
theorem wAl_gd : GoodIn wAl wAl := fun w h => ⟨h, good_of_word (List.mem_filter.mp h).2⟩
theorem wAl_1 {w : Cond} (h : w ∈ wAl) : w ∈ wAl ∧ ((w.onTables && w.keeps) = true ∨ ∃ ty, w = .arrayClass ty) := wAl_gd w h
theorem wAl_c {w : Cond} (h : w ∈ wAl) : GoodIn wAl (w :: wAl) := fun v hv => by
  rcases List.mem_cons.mp hv with e | e
  · rw [e]; exact wAl_1 h
  · exact wAl_1 e
theorem wAl_V {own C : String} {idx : Nat} {y : MethodName} {w : Cond} (h : w ∈ wAl) (h1 : Cond.methodLink own idx y ∈ wAl) (h2 : Cond.instanceMethod y ∈ wAl) (h3 : Cond.selects C y y ∈ wAl) (h4 : Cond.initialized C ∈ wAl) : GoodIn wAl (wsV own idx C y (w :: wAl)) := fun v hv => by
  unfold wsV at hv
  rcases List.mem_append.mp hv with e | e
  · simp only [List.mem_cons, List.not_mem_nil, or_false] at e
    rcases e with e | e | e | e <;> rw [e]
    · exact wAl_1 h1
    · exact wAl_1 h2
    · exact wAl_1 h3
    · exact wAl_1 h4
  · exact wAl_c h v e
theorem wAl_S {own : String} {idx : Nat} {y : MethodName} {w : Cond} (h : w ∈ wAl) (h1 : Cond.methodLink own idx y ∈ wAl) (h2 : Cond.static y ∈ wAl) (h4 : Cond.initialized own ∈ wAl) : GoodIn wAl (wsS own idx y (w :: wAl)) := fun v hv => by
  unfold wsS at hv
  rcases List.mem_append.mp hv with e | e
  · simp only [List.mem_cons, List.not_mem_nil, or_false] at e
    rcases e with e | e | e <;> rw [e]
    · exact wAl_1 h1
    · exact wAl_1 h2
    · exact wAl_1 h4
  · exact wAl_c h v e
theorem iw_Me : ∀ w ∈ u_ws R_Me F_Me 2, w ∈ wAl := by
  intro w hw
  obtain ⟨k, hk, rfl⟩ := List.mem_map.mp hw
  have hk := List.mem_range.mp hk
  match k, hk with
  | 0, _ => exact (wAl_in (List.mem_append_right _ (List.mem_append_left _ (List.mem_of_getElem? (i := 67) (by decide +kernel)))) (by decide +kernel))
  | 1, _ => exact (wAl_in (List.mem_append_right _ (List.mem_append_left _ (List.mem_of_getElem? (i := 69) (by decide +kernel)))) (by decide +kernel))
  | j + 2, h => exact absurd h (by omega)
theorem iw_Re : ∀ w ∈ u_ws R_Re F_Re 3, w ∈ wAl := by
  intro w hw
  obtain ⟨k, hk, rfl⟩ := List.mem_map.mp hw
  have hk := List.mem_range.mp hk
  match k, hk with
  | 0, _ => exact (wAl_in (List.mem_append_right _ (List.mem_append_left _ (List.mem_of_getElem? (i := 78) (by decide +kernel)))) (by decide +kernel))
  | 1, _ => exact (wAl_in (List.mem_append_right _ (List.mem_append_left _ (List.mem_of_getElem? (i := 80) (by decide +kernel)))) (by decide +kernel))
  | 2, _ => exact (wAl_in (List.mem_append_right _ (List.mem_append_left _ (List.mem_of_getElem? (i := 82) (by decide +kernel)))) (by decide +kernel))
  | j + 3, h => exact absurd h (by omega)
theorem iw_Tr : ∀ w ∈ u_ws R_Tr F_Tr 7, w ∈ wAl := by
  intro w hw
  obtain ⟨k, hk, rfl⟩ := List.mem_map.mp hw
  have hk := List.mem_range.mp hk
  match k, hk with
  | 0, _ => exact (wAl_in (List.mem_append_right _ (List.mem_append_left _ (List.mem_of_getElem? (i := 34) (by decide +kernel)))) (by decide +kernel))
  | 1, _ => exact (wAl_in (List.mem_append_right _ (List.mem_append_left _ (List.mem_of_getElem? (i := 36) (by decide +kernel)))) (by decide +kernel))
  | 2, _ => exact (wAl_in (List.mem_append_right _ (List.mem_append_left _ (List.mem_of_getElem? (i := 38) (by decide +kernel)))) (by decide +kernel))
  | 3, _ => exact (wAl_in (List.mem_append_right _ (List.mem_append_left _ (List.mem_of_getElem? (i := 40) (by decide +kernel)))) (by decide +kernel))
  | 4, _ => exact (wAl_in (List.mem_append_right _ (List.mem_append_left _ (List.mem_of_getElem? (i := 42) (by decide +kernel)))) (by decide +kernel))
  | 5, _ => exact (wAl_in (List.mem_append_right _ (List.mem_append_left _ (List.mem_of_getElem? (i := 44) (by decide +kernel)))) (by decide +kernel))
  | 6, _ => exact (wAl_in (List.mem_append_right _ (List.mem_append_left _ (List.mem_of_getElem? (i := 46) (by decide +kernel)))) (by decide +kernel))
  | j + 7, h => exact absurd h (by omega)
theorem iw_St : ∀ w ∈ u_ws R_St F_St 2, w ∈ wAl := by
  intro w hw
  obtain ⟨k, hk, rfl⟩ := List.mem_map.mp hw
  have hk := List.mem_range.mp hk
  match k, hk with
  | 0, _ => exact (wAl_in (List.mem_append_right _ (List.mem_append_left _ (List.mem_of_getElem? (i := 87) (by decide +kernel)))) (by decide +kernel))
  | 1, _ => exact (wAl_in (List.mem_append_right _ (List.mem_append_left _ (List.mem_of_getElem? (i := 89) (by decide +kernel)))) (by decide +kernel))
  | j + 2, h => exact absurd h (by omega)
theorem iw_Mo : ∀ w ∈ u_ws R_Mo F_Mo 12, w ∈ wAl := by
  intro w hw
  obtain ⟨k, hk, rfl⟩ := List.mem_map.mp hw
  have hk := List.mem_range.mp hk
  match k, hk with
  | 0, _ => exact (wAl_in (List.mem_append_right _ (List.mem_append_right _ (List.mem_of_getElem? (i := 53) (by decide +kernel)))) (by decide +kernel))
  | 1, _ => exact (wAl_in (List.mem_append_right _ (List.mem_append_right _ (List.mem_of_getElem? (i := 55) (by decide +kernel)))) (by decide +kernel))
  | 2, _ => exact (wAl_in (List.mem_append_right _ (List.mem_append_right _ (List.mem_of_getElem? (i := 57) (by decide +kernel)))) (by decide +kernel))
  | 3, _ => exact (wAl_in (List.mem_append_right _ (List.mem_append_right _ (List.mem_of_getElem? (i := 59) (by decide +kernel)))) (by decide +kernel))
  | 4, _ => exact (wAl_in (List.mem_append_right _ (List.mem_append_right _ (List.mem_of_getElem? (i := 61) (by decide +kernel)))) (by decide +kernel))
  | 5, _ => exact (wAl_in (List.mem_append_right _ (List.mem_append_right _ (List.mem_of_getElem? (i := 63) (by decide +kernel)))) (by decide +kernel))
  | 6, _ => exact (wAl_in (List.mem_append_right _ (List.mem_append_right _ (List.mem_of_getElem? (i := 65) (by decide +kernel)))) (by decide +kernel))
  | 7, _ => exact (wAl_in (List.mem_append_right _ (List.mem_append_right _ (List.mem_of_getElem? (i := 67) (by decide +kernel)))) (by decide +kernel))
  | 8, _ => exact (wAl_in (List.mem_append_right _ (List.mem_append_right _ (List.mem_of_getElem? (i := 69) (by decide +kernel)))) (by decide +kernel))
  | 9, _ => exact (wAl_in (List.mem_append_right _ (List.mem_append_right _ (List.mem_of_getElem? (i := 71) (by decide +kernel)))) (by decide +kernel))
  | 10, _ => exact (wAl_in (List.mem_append_right _ (List.mem_append_right _ (List.mem_of_getElem? (i := 73) (by decide +kernel)))) (by decide +kernel))
  | 11, _ => exact (wAl_in (List.mem_append_right _ (List.mem_append_right _ (List.mem_of_getElem? (i := 75) (by decide +kernel)))) (by decide +kernel))
  | j + 12, h => exact absurd h (by omega)
theorem wi_Me : Cond.initialized R_Me ∈ wAl := (wAl_in (List.mem_append_right _ (List.mem_append_left _ (List.mem_of_getElem? (i := 4) (by decide +kernel)))) (by decide +kernel))
theorem wi_Re : Cond.initialized R_Re ∈ wAl := (wAl_in (List.mem_append_right _ (List.mem_append_left _ (List.mem_of_getElem? (i := 3) (by decide +kernel)))) (by decide +kernel))
theorem wi_Tr : Cond.initialized R_Tr ∈ wAl := (wAl_in (List.mem_append_right _ (List.mem_append_left _ (List.mem_of_getElem? (i := 2) (by decide +kernel)))) (by decide +kernel))
theorem wi_St : Cond.initialized R_St ∈ wAl := (wAl_in (List.mem_append_right _ (List.mem_append_left _ (List.mem_of_getElem? (i := 1) (by decide +kernel)))) (by decide +kernel))
theorem wi_Mo : Cond.initialized R_Mo ∈ wAl := (wAl_in (List.mem_append_right _ (List.mem_append_left _ (List.mem_of_getElem? (i := 5) (by decide +kernel)))) (by decide +kernel))
theorem wi_La : Cond.initialized R_La ∈ wAl := (wAl_in (List.mem_append_right _ (List.mem_append_left _ (List.mem_of_getElem? (i := 0) (by decide +kernel)))) (by decide +kernel))
theorem wc_Me_add : Cond.code y_Me_add b_Me_add 2 none ∈ wAl := (wAl_in (List.mem_append_right _ (List.mem_append_left _ (List.mem_of_getElem? (i := 175) (by decide +kernel)))) (by decide +kernel))
theorem wn_Me_add : Cond.instanceMethod y_Me_add ∈ wAl := (wAl_in (List.mem_append_right _ (List.mem_append_left _ (List.mem_of_getElem? (i := 173) (by decide +kernel)))) (by decide +kernel))
theorem wv_Me_add : Cond.selects R_Me y_Me_add y_Me_add ∈ wAl := (wAl_in (List.mem_append_right _ (List.mem_append_left _ (List.mem_of_getElem? (i := 174) (by decide +kernel)))) (by decide +kernel))
theorem wc_Me_has : Cond.code y_Me_has b_Me_has 2 (some .boolean) ∈ wAl := (wAl_in (List.mem_append_right _ (List.mem_append_left _ (List.mem_of_getElem? (i := 188) (by decide +kernel)))) (by decide +kernel))
theorem wn_Me_has : Cond.instanceMethod y_Me_has ∈ wAl := (wAl_in (List.mem_append_right _ (List.mem_append_left _ (List.mem_of_getElem? (i := 186) (by decide +kernel)))) (by decide +kernel))
theorem wv_Me_has : Cond.selects R_Me y_Me_has y_Me_has ∈ wAl := (wAl_in (List.mem_append_right _ (List.mem_append_left _ (List.mem_of_getElem? (i := 187) (by decide +kernel)))) (by decide +kernel))
theorem wc_Me_init : Cond.code y_Me_init b_Me_init 2 none ∈ wAl := (wAl_in (List.mem_append_right _ (List.mem_append_left _ (List.mem_of_getElem? (i := 61) (by decide +kernel)))) (by decide +kernel))
theorem wn_Me_init : Cond.instanceMethod y_Me_init ∈ wAl := (wAl_in (List.mem_append_right _ (List.mem_append_left _ (List.mem_of_getElem? (i := 60) (by decide +kernel)))) (by decide +kernel))
theorem wc_Me_isFull : Cond.code y_Me_isFull b_Me_isFull 1 (some .boolean) ∈ wAl := (wAl_in (List.mem_append_right _ (List.mem_append_left _ (List.mem_of_getElem? (i := 114) (by decide +kernel)))) (by decide +kernel))
theorem wn_Me_isFull : Cond.instanceMethod y_Me_isFull ∈ wAl := (wAl_in (List.mem_append_right _ (List.mem_append_left _ (List.mem_of_getElem? (i := 112) (by decide +kernel)))) (by decide +kernel))
theorem wv_Me_isFull : Cond.selects R_Me y_Me_isFull y_Me_isFull ∈ wAl := (wAl_in (List.mem_append_right _ (List.mem_append_left _ (List.mem_of_getElem? (i := 113) (by decide +kernel)))) (by decide +kernel))
theorem wc_Me_take : Cond.code y_Me_take b_Me_take 4 (some .int) ∈ wAl := (wAl_in (List.mem_append_right _ (List.mem_append_left _ (List.mem_of_getElem? (i := 192) (by decide +kernel)))) (by decide +kernel))
theorem wn_Me_take : Cond.instanceMethod y_Me_take ∈ wAl := (wAl_in (List.mem_append_right _ (List.mem_append_left _ (List.mem_of_getElem? (i := 190) (by decide +kernel)))) (by decide +kernel))
theorem wv_Me_take : Cond.selects R_Me y_Me_take y_Me_take ∈ wAl := (wAl_in (List.mem_append_right _ (List.mem_append_left _ (List.mem_of_getElem? (i := 191) (by decide +kernel)))) (by decide +kernel))
theorem wc_Mo_about : Cond.code y_Mo_about b_Mo_about 3 (some .int) ∈ wAl := (wAl_in (List.mem_append_right _ (List.mem_append_right _ (List.mem_of_getElem? (i := 204) (by decide +kernel)))) (by decide +kernel))
theorem wn_Mo_about : Cond.instanceMethod y_Mo_about ∈ wAl := (wAl_in (List.mem_append_right _ (List.mem_append_right _ (List.mem_of_getElem? (i := 202) (by decide +kernel)))) (by decide +kernel))
theorem wv_Mo_about : Cond.selects R_Mo y_Mo_about y_Mo_about ∈ wAl := (wAl_in (List.mem_append_right _ (List.mem_append_right _ (List.mem_of_getElem? (i := 203) (by decide +kernel)))) (by decide +kernel))
theorem wc_Mo_ahead : Cond.code y_Mo_ahead b_Mo_ahead 5 (some .boolean) ∈ wAl := (wAl_in (List.mem_append_right _ (List.mem_append_right _ (List.mem_of_getElem? (i := 148) (by decide +kernel)))) (by decide +kernel))
theorem wn_Mo_ahead : Cond.instanceMethod y_Mo_ahead ∈ wAl := (wAl_in (List.mem_append_right _ (List.mem_append_right _ (List.mem_of_getElem? (i := 147) (by decide +kernel)))) (by decide +kernel))
theorem wv_Mo_ahead : Cond.selects R_Mo y_Mo_ahead y_Mo_ahead ∈ wAl := (wAl_in (List.mem_append_left _ (List.mem_of_getElem? (i := 32) (by decide +kernel))) (by decide +kernel))
theorem wc_Mo_begin : Cond.code y_Mo_begin b_Mo_begin 3 (some .int) ∈ wAl := (wAl_in (List.mem_append_right _ (List.mem_append_right _ (List.mem_of_getElem? (i := 152) (by decide +kernel)))) (by decide +kernel))
theorem wn_Mo_begin : Cond.instanceMethod y_Mo_begin ∈ wAl := (wAl_in (List.mem_append_right _ (List.mem_append_right _ (List.mem_of_getElem? (i := 151) (by decide +kernel)))) (by decide +kernel))
theorem wv_Mo_begin : Cond.selects R_Mo y_Mo_begin y_Mo_begin ∈ wAl := (wAl_in (List.mem_append_left _ (List.mem_of_getElem? (i := 33) (by decide +kernel))) (by decide +kernel))
theorem wc_Mo_below : Cond.code y_Mo_below b_Mo_below 4 (some .boolean) ∈ wAl := (wAl_in (List.mem_append_right _ (List.mem_append_right _ (List.mem_of_getElem? (i := 144) (by decide +kernel)))) (by decide +kernel))
theorem wn_Mo_below : Cond.instanceMethod y_Mo_below ∈ wAl := (wAl_in (List.mem_append_right _ (List.mem_append_right _ (List.mem_of_getElem? (i := 143) (by decide +kernel)))) (by decide +kernel))
theorem wv_Mo_below : Cond.selects R_Mo y_Mo_below y_Mo_below ∈ wAl := (wAl_in (List.mem_append_left _ (List.mem_of_getElem? (i := 31) (by decide +kernel))) (by decide +kernel))
theorem wc_Mo_deliver : Cond.code y_Mo_deliver b_Mo_deliver 5 (some .int) ∈ wAl := (wAl_in (List.mem_append_right _ (List.mem_append_right _ (List.mem_of_getElem? (i := 81) (by decide +kernel)))) (by decide +kernel))
theorem wn_Mo_deliver : Cond.instanceMethod y_Mo_deliver ∈ wAl := (wAl_in (List.mem_append_right _ (List.mem_append_right _ (List.mem_of_getElem? (i := 79) (by decide +kernel)))) (by decide +kernel))
theorem wv_Mo_deliver : Cond.selects R_Mo y_Mo_deliver y_Mo_deliver ∈ wAl := (wAl_in (List.mem_append_right _ (List.mem_append_right _ (List.mem_of_getElem? (i := 80) (by decide +kernel)))) (by decide +kernel))
theorem wc_Mo_depth : Cond.code y_Mo_depth b_Mo_depth 4 (some .int) ∈ wAl := (wAl_in (List.mem_append_right _ (List.mem_append_right _ (List.mem_of_getElem? (i := 208) (by decide +kernel)))) (by decide +kernel))
theorem wn_Mo_depth : Cond.instanceMethod y_Mo_depth ∈ wAl := (wAl_in (List.mem_append_right _ (List.mem_append_right _ (List.mem_of_getElem? (i := 206) (by decide +kernel)))) (by decide +kernel))
theorem wv_Mo_depth : Cond.selects R_Mo y_Mo_depth y_Mo_depth ∈ wAl := (wAl_in (List.mem_append_right _ (List.mem_append_right _ (List.mem_of_getElem? (i := 207) (by decide +kernel)))) (by decide +kernel))
theorem wc_Mo_differ : Cond.code y_Mo_differ b_Mo_differ 6 (some .int) ∈ wAl := (wAl_in (List.mem_append_right _ (List.mem_append_right _ (List.mem_of_getElem? (i := 212) (by decide +kernel)))) (by decide +kernel))
theorem wn_Mo_differ : Cond.instanceMethod y_Mo_differ ∈ wAl := (wAl_in (List.mem_append_right _ (List.mem_append_right _ (List.mem_of_getElem? (i := 210) (by decide +kernel)))) (by decide +kernel))
theorem wv_Mo_differ : Cond.selects R_Mo y_Mo_differ y_Mo_differ ∈ wAl := (wAl_in (List.mem_append_right _ (List.mem_append_right _ (List.mem_of_getElem? (i := 211) (by decide +kernel)))) (by decide +kernel))
theorem wc_Mo_effect : Cond.code y_Mo_effect b_Mo_effect 4 none ∈ wAl := (wAl_in (List.mem_append_right _ (List.mem_append_right _ (List.mem_of_getElem? (i := 100) (by decide +kernel)))) (by decide +kernel))
theorem wn_Mo_effect : Cond.instanceMethod y_Mo_effect ∈ wAl := (wAl_in (List.mem_append_right _ (List.mem_append_right _ (List.mem_of_getElem? (i := 99) (by decide +kernel)))) (by decide +kernel))
theorem wv_Mo_effect : Cond.selects R_Mo y_Mo_effect y_Mo_effect ∈ wAl := (wAl_in (List.mem_append_left _ (List.mem_of_getElem? (i := 21) (by decide +kernel))) (by decide +kernel))
theorem wc_Mo_end : Cond.code y_Mo_end b_Mo_end 4 (some .int) ∈ wAl := (wAl_in (List.mem_append_right _ (List.mem_append_right _ (List.mem_of_getElem? (i := 140) (by decide +kernel)))) (by decide +kernel))
theorem wn_Mo_end : Cond.instanceMethod y_Mo_end ∈ wAl := (wAl_in (List.mem_append_right _ (List.mem_append_right _ (List.mem_of_getElem? (i := 139) (by decide +kernel)))) (by decide +kernel))
theorem wv_Mo_end : Cond.selects R_Mo y_Mo_end y_Mo_end ∈ wAl := (wAl_in (List.mem_append_left _ (List.mem_of_getElem? (i := 30) (by decide +kernel))) (by decide +kernel))
theorem wc_Mo_erase : Cond.code y_Mo_erase b_Mo_erase 4 (some .int) ∈ wAl := (wAl_in (List.mem_append_right _ (List.mem_append_right _ (List.mem_of_getElem? (i := 160) (by decide +kernel)))) (by decide +kernel))
theorem wn_Mo_erase : Cond.instanceMethod y_Mo_erase ∈ wAl := (wAl_in (List.mem_append_right _ (List.mem_append_right _ (List.mem_of_getElem? (i := 158) (by decide +kernel)))) (by decide +kernel))
theorem wv_Mo_erase : Cond.selects R_Mo y_Mo_erase y_Mo_erase ∈ wAl := (wAl_in (List.mem_append_right _ (List.mem_append_right _ (List.mem_of_getElem? (i := 159) (by decide +kernel)))) (by decide +kernel))
theorem wc_Mo_hasRight : Cond.code y_Mo_hasRight b_Mo_hasRight 5 (some .boolean) ∈ wAl := (wAl_in (List.mem_append_right _ (List.mem_append_right _ (List.mem_of_getElem? (i := 132) (by decide +kernel)))) (by decide +kernel))
theorem wn_Mo_hasRight : Cond.instanceMethod y_Mo_hasRight ∈ wAl := (wAl_in (List.mem_append_right _ (List.mem_append_right _ (List.mem_of_getElem? (i := 131) (by decide +kernel)))) (by decide +kernel))
theorem wv_Mo_hasRight : Cond.selects R_Mo y_Mo_hasRight y_Mo_hasRight ∈ wAl := (wAl_in (List.mem_append_left _ (List.mem_of_getElem? (i := 28) (by decide +kernel))) (by decide +kernel))
theorem wc_Mo_home : Cond.code y_Mo_home b_Mo_home 6 (some .int) ∈ wAl := (wAl_in (List.mem_append_right _ (List.mem_append_right _ (List.mem_of_getElem? (i := 136) (by decide +kernel)))) (by decide +kernel))
theorem wn_Mo_home : Cond.instanceMethod y_Mo_home ∈ wAl := (wAl_in (List.mem_append_right _ (List.mem_append_right _ (List.mem_of_getElem? (i := 135) (by decide +kernel)))) (by decide +kernel))
theorem wv_Mo_home : Cond.selects R_Mo y_Mo_home y_Mo_home ∈ wAl := (wAl_in (List.mem_append_left _ (List.mem_of_getElem? (i := 29) (by decide +kernel))) (by decide +kernel))
theorem wc_Mo_init : Cond.code y_Mo_init b_Mo_init 1 none ∈ wAl := (wAl_in (List.mem_append_right _ (List.mem_append_right _ (List.mem_of_getElem? (i := 39) (by decide +kernel)))) (by decide +kernel))
theorem wn_Mo_init : Cond.instanceMethod y_Mo_init ∈ wAl := (wAl_in (List.mem_append_right _ (List.mem_append_right _ (List.mem_of_getElem? (i := 38) (by decide +kernel)))) (by decide +kernel))
theorem wc_Mo_insert : Cond.code y_Mo_insert b_Mo_insert 10 (some .int) ∈ wAl := (wAl_in (List.mem_append_right _ (List.mem_append_right _ (List.mem_of_getElem? (i := 108) (by decide +kernel)))) (by decide +kernel))
theorem wn_Mo_insert : Cond.instanceMethod y_Mo_insert ∈ wAl := (wAl_in (List.mem_append_right _ (List.mem_append_right _ (List.mem_of_getElem? (i := 106) (by decide +kernel)))) (by decide +kernel))
theorem wv_Mo_insert : Cond.selects R_Mo y_Mo_insert y_Mo_insert ∈ wAl := (wAl_in (List.mem_append_right _ (List.mem_append_right _ (List.mem_of_getElem? (i := 107) (by decide +kernel)))) (by decide +kernel))
theorem wc_Mo_isElement : Cond.code y_Mo_isElement b_Mo_isElement 2 (some .boolean) ∈ wAl := (wAl_in (List.mem_append_right _ (List.mem_append_right _ (List.mem_of_getElem? (i := 184) (by decide +kernel)))) (by decide +kernel))
theorem wn_Mo_isElement : Cond.instanceMethod y_Mo_isElement ∈ wAl := (wAl_in (List.mem_append_right _ (List.mem_append_right _ (List.mem_of_getElem? (i := 183) (by decide +kernel)))) (by decide +kernel))
theorem wv_Mo_isElement : Cond.selects R_Mo y_Mo_isElement y_Mo_isElement ∈ wAl := (wAl_in (List.mem_append_left _ (List.mem_of_getElem? (i := 35) (by decide +kernel))) (by decide +kernel))
theorem wc_Mo_isReplica : Cond.code y_Mo_isReplica b_Mo_isReplica 1 (some .boolean) ∈ wAl := (wAl_in (List.mem_append_right _ (List.mem_append_right _ (List.mem_of_getElem? (i := 84) (by decide +kernel)))) (by decide +kernel))
theorem wt_Mo_isReplica : Cond.static y_Mo_isReplica ∈ wAl := (wAl_in (List.mem_append_right _ (List.mem_append_right _ (List.mem_of_getElem? (i := 83) (by decide +kernel)))) (by decide +kernel))
theorem wc_Mo_known : Cond.code y_Mo_known b_Mo_known 2 (some .int) ∈ wAl := (wAl_in (List.mem_append_right _ (List.mem_append_right _ (List.mem_of_getElem? (i := 176) (by decide +kernel)))) (by decide +kernel))
theorem wn_Mo_known : Cond.instanceMethod y_Mo_known ∈ wAl := (wAl_in (List.mem_append_right _ (List.mem_append_right _ (List.mem_of_getElem? (i := 174) (by decide +kernel)))) (by decide +kernel))
theorem wv_Mo_known : Cond.selects R_Mo y_Mo_known y_Mo_known ∈ wAl := (wAl_in (List.mem_append_right _ (List.mem_append_right _ (List.mem_of_getElem? (i := 175) (by decide +kernel)))) (by decide +kernel))
theorem wc_Mo_known0 : Cond.code y_Mo_known0 b_Mo_known0 3 (some .boolean) ∈ wAl := (wAl_in (List.mem_append_right _ (List.mem_append_right _ (List.mem_of_getElem? (i := 92) (by decide +kernel)))) (by decide +kernel))
theorem wn_Mo_known0 : Cond.instanceMethod y_Mo_known0 ∈ wAl := (wAl_in (List.mem_append_right _ (List.mem_append_right _ (List.mem_of_getElem? (i := 91) (by decide +kernel)))) (by decide +kernel))
theorem wv_Mo_known0 : Cond.selects R_Mo y_Mo_known0 y_Mo_known0 ∈ wAl := (wAl_in (List.mem_append_left _ (List.mem_of_getElem? (i := 19) (by decide +kernel))) (by decide +kernel))
theorem wc_Mo_length : Cond.code y_Mo_length b_Mo_length 2 (some .int) ∈ wAl := (wAl_in (List.mem_append_right _ (List.mem_append_right _ (List.mem_of_getElem? (i := 164) (by decide +kernel)))) (by decide +kernel))
theorem wn_Mo_length : Cond.instanceMethod y_Mo_length ∈ wAl := (wAl_in (List.mem_append_right _ (List.mem_append_right _ (List.mem_of_getElem? (i := 162) (by decide +kernel)))) (by decide +kernel))
theorem wv_Mo_length : Cond.selects R_Mo y_Mo_length y_Mo_length ∈ wAl := (wAl_in (List.mem_append_right _ (List.mem_append_right _ (List.mem_of_getElem? (i := 163) (by decide +kernel)))) (by decide +kernel))
theorem wc_Mo_made : Cond.code y_Mo_made b_Mo_made 1 (some .int) ∈ wAl := (wAl_in (List.mem_append_right _ (List.mem_append_right _ (List.mem_of_getElem? (i := 200) (by decide +kernel)))) (by decide +kernel))
theorem wn_Mo_made : Cond.instanceMethod y_Mo_made ∈ wAl := (wAl_in (List.mem_append_right _ (List.mem_append_right _ (List.mem_of_getElem? (i := 198) (by decide +kernel)))) (by decide +kernel))
theorem wv_Mo_made : Cond.selects R_Mo y_Mo_made y_Mo_made ∈ wAl := (wAl_in (List.mem_append_right _ (List.mem_append_right _ (List.mem_of_getElem? (i := 199) (by decide +kernel)))) (by decide +kernel))
theorem wc_Mo_many : Cond.code y_Mo_many b_Mo_many 6 (some .int) ∈ wAl := (wAl_in (List.mem_append_right _ (List.mem_append_right _ (List.mem_of_getElem? (i := 112) (by decide +kernel)))) (by decide +kernel))
theorem wn_Mo_many : Cond.instanceMethod y_Mo_many ∈ wAl := (wAl_in (List.mem_append_right _ (List.mem_append_right _ (List.mem_of_getElem? (i := 111) (by decide +kernel)))) (by decide +kernel))
theorem wv_Mo_many : Cond.selects R_Mo y_Mo_many y_Mo_many ∈ wAl := (wAl_in (List.mem_append_left _ (List.mem_of_getElem? (i := 23) (by decide +kernel))) (by decide +kernel))
theorem wc_Mo_message : Cond.code y_Mo_message b_Mo_message 3 (some .int) ∈ wAl := (wAl_in (List.mem_append_right _ (List.mem_append_right _ (List.mem_of_getElem? (i := 196) (by decide +kernel)))) (by decide +kernel))
theorem wn_Mo_message : Cond.instanceMethod y_Mo_message ∈ wAl := (wAl_in (List.mem_append_right _ (List.mem_append_right _ (List.mem_of_getElem? (i := 194) (by decide +kernel)))) (by decide +kernel))
theorem wv_Mo_message : Cond.selects R_Mo y_Mo_message y_Mo_message ∈ wAl := (wAl_in (List.mem_append_right _ (List.mem_append_right _ (List.mem_of_getElem? (i := 195) (by decide +kernel)))) (by decide +kernel))
theorem wc_Mo_next : Cond.code y_Mo_next b_Mo_next 4 (some .int) ∈ wAl := (wAl_in (List.mem_append_right _ (List.mem_append_right _ (List.mem_of_getElem? (i := 124) (by decide +kernel)))) (by decide +kernel))
theorem wn_Mo_next : Cond.instanceMethod y_Mo_next ∈ wAl := (wAl_in (List.mem_append_right _ (List.mem_append_right _ (List.mem_of_getElem? (i := 123) (by decide +kernel)))) (by decide +kernel))
theorem wv_Mo_next : Cond.selects R_Mo y_Mo_next y_Mo_next ∈ wAl := (wAl_in (List.mem_append_left _ (List.mem_of_getElem? (i := 26) (by decide +kernel))) (by decide +kernel))
theorem wc_Mo_noRoom : Cond.code y_Mo_noRoom b_Mo_noRoom 4 (some .boolean) ∈ wAl := (wAl_in (List.mem_append_right _ (List.mem_append_right _ (List.mem_of_getElem? (i := 116) (by decide +kernel)))) (by decide +kernel))
theorem wn_Mo_noRoom : Cond.instanceMethod y_Mo_noRoom ∈ wAl := (wAl_in (List.mem_append_right _ (List.mem_append_right _ (List.mem_of_getElem? (i := 115) (by decide +kernel)))) (by decide +kernel))
theorem wv_Mo_noRoom : Cond.selects R_Mo y_Mo_noRoom y_Mo_noRoom ∈ wAl := (wAl_in (List.mem_append_left _ (List.mem_of_getElem? (i := 24) (by decide +kernel))) (by decide +kernel))
theorem wc_Mo_nth : Cond.code y_Mo_nth b_Mo_nth 7 (some .int) ∈ wAl := (wAl_in (List.mem_append_right _ (List.mem_append_right _ (List.mem_of_getElem? (i := 120) (by decide +kernel)))) (by decide +kernel))
theorem wn_Mo_nth : Cond.instanceMethod y_Mo_nth ∈ wAl := (wAl_in (List.mem_append_right _ (List.mem_append_right _ (List.mem_of_getElem? (i := 119) (by decide +kernel)))) (by decide +kernel))
theorem wv_Mo_nth : Cond.selects R_Mo y_Mo_nth y_Mo_nth ∈ wAl := (wAl_in (List.mem_append_left _ (List.mem_of_getElem? (i := 25) (by decide +kernel))) (by decide +kernel))
theorem wc_Mo_ordered : Cond.code y_Mo_ordered b_Mo_ordered 3 (some .int) ∈ wAl := (wAl_in (List.mem_append_right _ (List.mem_append_right _ (List.mem_of_getElem? (i := 172) (by decide +kernel)))) (by decide +kernel))
theorem wn_Mo_ordered : Cond.instanceMethod y_Mo_ordered ∈ wAl := (wAl_in (List.mem_append_right _ (List.mem_append_right _ (List.mem_of_getElem? (i := 170) (by decide +kernel)))) (by decide +kernel))
theorem wv_Mo_ordered : Cond.selects R_Mo y_Mo_ordered y_Mo_ordered ∈ wAl := (wAl_in (List.mem_append_right _ (List.mem_append_right _ (List.mem_of_getElem? (i := 171) (by decide +kernel)))) (by decide +kernel))
theorem wc_Mo_placeOf : Cond.code y_Mo_placeOf b_Mo_placeOf 3 (some .int) ∈ wAl := (wAl_in (List.mem_append_right _ (List.mem_append_right _ (List.mem_of_getElem? (i := 128) (by decide +kernel)))) (by decide +kernel))
theorem wn_Mo_placeOf : Cond.instanceMethod y_Mo_placeOf ∈ wAl := (wAl_in (List.mem_append_right _ (List.mem_append_right _ (List.mem_of_getElem? (i := 127) (by decide +kernel)))) (by decide +kernel))
theorem wv_Mo_placeOf : Cond.selects R_Mo y_Mo_placeOf y_Mo_placeOf ∈ wAl := (wAl_in (List.mem_append_left _ (List.mem_of_getElem? (i := 27) (by decide +kernel))) (by decide +kernel))
theorem wc_Mo_ready : Cond.code y_Mo_ready b_Mo_ready 3 (some .boolean) ∈ wAl := (wAl_in (List.mem_append_right _ (List.mem_append_right _ (List.mem_of_getElem? (i := 88) (by decide +kernel)))) (by decide +kernel))
theorem wn_Mo_ready : Cond.instanceMethod y_Mo_ready ∈ wAl := (wAl_in (List.mem_append_right _ (List.mem_append_right _ (List.mem_of_getElem? (i := 87) (by decide +kernel)))) (by decide +kernel))
theorem wv_Mo_ready : Cond.selects R_Mo y_Mo_ready y_Mo_ready ∈ wAl := (wAl_in (List.mem_append_left _ (List.mem_of_getElem? (i := 18) (by decide +kernel))) (by decide +kernel))
theorem wc_Mo_send : Cond.code y_Mo_send b_Mo_send 4 none ∈ wAl := (wAl_in (List.mem_append_right _ (List.mem_append_right _ (List.mem_of_getElem? (i := 156) (by decide +kernel)))) (by decide +kernel))
theorem wn_Mo_send : Cond.instanceMethod y_Mo_send ∈ wAl := (wAl_in (List.mem_append_right _ (List.mem_append_right _ (List.mem_of_getElem? (i := 155) (by decide +kernel)))) (by decide +kernel))
theorem wv_Mo_send : Cond.selects R_Mo y_Mo_send y_Mo_send ∈ wAl := (wAl_in (List.mem_append_left _ (List.mem_of_getElem? (i := 34) (by decide +kernel))) (by decide +kernel))
theorem wc_Mo_shown : Cond.code y_Mo_shown b_Mo_shown 3 (some .int) ∈ wAl := (wAl_in (List.mem_append_right _ (List.mem_append_right _ (List.mem_of_getElem? (i := 168) (by decide +kernel)))) (by decide +kernel))
theorem wn_Mo_shown : Cond.instanceMethod y_Mo_shown ∈ wAl := (wAl_in (List.mem_append_right _ (List.mem_append_right _ (List.mem_of_getElem? (i := 166) (by decide +kernel)))) (by decide +kernel))
theorem wv_Mo_shown : Cond.selects R_Mo y_Mo_shown y_Mo_shown ∈ wAl := (wAl_in (List.mem_append_right _ (List.mem_append_right _ (List.mem_of_getElem? (i := 167) (by decide +kernel)))) (by decide +kernel))
theorem wc_Mo_state : Cond.code y_Mo_state b_Mo_state 3 (some .int) ∈ wAl := (wAl_in (List.mem_append_right _ (List.mem_append_right _ (List.mem_of_getElem? (i := 180) (by decide +kernel)))) (by decide +kernel))
theorem wn_Mo_state : Cond.instanceMethod y_Mo_state ∈ wAl := (wAl_in (List.mem_append_right _ (List.mem_append_right _ (List.mem_of_getElem? (i := 178) (by decide +kernel)))) (by decide +kernel))
theorem wv_Mo_state : Cond.selects R_Mo y_Mo_state y_Mo_state ∈ wAl := (wAl_in (List.mem_append_right _ (List.mem_append_right _ (List.mem_of_getElem? (i := 179) (by decide +kernel)))) (by decide +kernel))
theorem wc_Mo_state0 : Cond.code y_Mo_state0 b_Mo_state0 3 (some .int) ∈ wAl := (wAl_in (List.mem_append_right _ (List.mem_append_right _ (List.mem_of_getElem? (i := 96) (by decide +kernel)))) (by decide +kernel))
theorem wn_Mo_state0 : Cond.instanceMethod y_Mo_state0 ∈ wAl := (wAl_in (List.mem_append_right _ (List.mem_append_right _ (List.mem_of_getElem? (i := 95) (by decide +kernel)))) (by decide +kernel))
theorem wv_Mo_state0 : Cond.selects R_Mo y_Mo_state0 y_Mo_state0 ∈ wAl := (wAl_in (List.mem_append_left _ (List.mem_of_getElem? (i := 20) (by decide +kernel))) (by decide +kernel))
theorem wc_Mo_tray : Cond.code y_Mo_tray b_Mo_tray 2 (some .int) ∈ wAl := (wAl_in (List.mem_append_right _ (List.mem_append_right _ (List.mem_of_getElem? (i := 188) (by decide +kernel)))) (by decide +kernel))
theorem wn_Mo_tray : Cond.instanceMethod y_Mo_tray ∈ wAl := (wAl_in (List.mem_append_right _ (List.mem_append_right _ (List.mem_of_getElem? (i := 186) (by decide +kernel)))) (by decide +kernel))
theorem wv_Mo_tray : Cond.selects R_Mo y_Mo_tray y_Mo_tray ∈ wAl := (wAl_in (List.mem_append_right _ (List.mem_append_right _ (List.mem_of_getElem? (i := 187) (by decide +kernel)))) (by decide +kernel))
theorem wc_Mo_waiting : Cond.code y_Mo_waiting b_Mo_waiting 2 (some .int) ∈ wAl := (wAl_in (List.mem_append_right _ (List.mem_append_right _ (List.mem_of_getElem? (i := 192) (by decide +kernel)))) (by decide +kernel))
theorem wn_Mo_waiting : Cond.instanceMethod y_Mo_waiting ∈ wAl := (wAl_in (List.mem_append_right _ (List.mem_append_right _ (List.mem_of_getElem? (i := 190) (by decide +kernel)))) (by decide +kernel))
theorem wv_Mo_waiting : Cond.selects R_Mo y_Mo_waiting y_Mo_waiting ∈ wAl := (wAl_in (List.mem_append_right _ (List.mem_append_right _ (List.mem_of_getElem? (i := 191) (by decide +kernel)))) (by decide +kernel))
theorem wc_Mo_wake : Cond.code y_Mo_wake b_Mo_wake 5 (some .boolean) ∈ wAl := (wAl_in (List.mem_append_right _ (List.mem_append_right _ (List.mem_of_getElem? (i := 104) (by decide +kernel)))) (by decide +kernel))
theorem wn_Mo_wake : Cond.instanceMethod y_Mo_wake ∈ wAl := (wAl_in (List.mem_append_right _ (List.mem_append_right _ (List.mem_of_getElem? (i := 103) (by decide +kernel)))) (by decide +kernel))
theorem wv_Mo_wake : Cond.selects R_Mo y_Mo_wake y_Mo_wake ∈ wAl := (wAl_in (List.mem_append_left _ (List.mem_of_getElem? (i := 22) (by decide +kernel))) (by decide +kernel))
theorem wc_Re_init : Cond.code y_Re_init b_Re_init 1 none ∈ wAl := (wAl_in (List.mem_append_right _ (List.mem_append_left _ (List.mem_of_getElem? (i := 55) (by decide +kernel)))) (by decide +kernel))
theorem wn_Re_init : Cond.instanceMethod y_Re_init ∈ wAl := (wAl_in (List.mem_append_right _ (List.mem_append_left _ (List.mem_of_getElem? (i := 54) (by decide +kernel)))) (by decide +kernel))
theorem wc_Re_isSettled : Cond.code y_Re_isSettled b_Re_isSettled 2 (some .boolean) ∈ wAl := (wAl_in (List.mem_append_right _ (List.mem_append_left _ (List.mem_of_getElem? (i := 203) (by decide +kernel)))) (by decide +kernel))
theorem wn_Re_isSettled : Cond.instanceMethod y_Re_isSettled ∈ wAl := (wAl_in (List.mem_append_right _ (List.mem_append_left _ (List.mem_of_getElem? (i := 201) (by decide +kernel)))) (by decide +kernel))
theorem wv_Re_isSettled : Cond.selects R_Re y_Re_isSettled y_Re_isSettled ∈ wAl := (wAl_in (List.mem_append_right _ (List.mem_append_left _ (List.mem_of_getElem? (i := 202) (by decide +kernel)))) (by decide +kernel))
theorem wc_St_about : Cond.code y_St_about b_St_about 3 (some .int) ∈ wAl := (wAl_in (List.mem_append_right _ (List.mem_append_right _ (List.mem_of_getElem? (i := 22) (by decide +kernel)))) (by decide +kernel))
theorem wn_St_about : Cond.instanceMethod y_St_about ∈ wAl := (wAl_in (List.mem_append_right _ (List.mem_append_right _ (List.mem_of_getElem? (i := 20) (by decide +kernel)))) (by decide +kernel))
theorem wv_St_about : Cond.selects R_St y_St_about y_St_about ∈ wAl := (wAl_in (List.mem_append_right _ (List.mem_append_right _ (List.mem_of_getElem? (i := 21) (by decide +kernel)))) (by decide +kernel))
theorem wc_St_countMarked : Cond.code y_St_countMarked b_St_countMarked 5 (some .int) ∈ wAl := (wAl_in (List.mem_append_right _ (List.mem_append_left _ (List.mem_of_getElem? (i := 102) (by decide +kernel)))) (by decide +kernel))
theorem wn_St_countMarked : Cond.instanceMethod y_St_countMarked ∈ wAl := (wAl_in (List.mem_append_right _ (List.mem_append_left _ (List.mem_of_getElem? (i := 101) (by decide +kernel)))) (by decide +kernel))
theorem wv_St_countMarked : Cond.selects R_St y_St_countMarked y_St_countMarked ∈ wAl := (wAl_in (List.mem_append_left _ (List.mem_of_getElem? (i := 0) (by decide +kernel))) (by decide +kernel))
theorem wc_St_deliver : Cond.code y_St_deliver b_St_deliver 5 (some .int) ∈ wAl := (wAl_in (List.mem_append_right _ (List.mem_append_left _ (List.mem_of_getElem? (i := 184) (by decide +kernel)))) (by decide +kernel))
theorem wn_St_deliver : Cond.instanceMethod y_St_deliver ∈ wAl := (wAl_in (List.mem_append_right _ (List.mem_append_left _ (List.mem_of_getElem? (i := 182) (by decide +kernel)))) (by decide +kernel))
theorem wv_St_deliver : Cond.selects R_St y_St_deliver y_St_deliver ∈ wAl := (wAl_in (List.mem_append_right _ (List.mem_append_left _ (List.mem_of_getElem? (i := 183) (by decide +kernel)))) (by decide +kernel))
theorem wc_St_depth : Cond.code y_St_depth b_St_depth 2 (some .int) ∈ wAl := (wAl_in (List.mem_append_right _ (List.mem_append_right _ (List.mem_of_getElem? (i := 26) (by decide +kernel)))) (by decide +kernel))
theorem wn_St_depth : Cond.instanceMethod y_St_depth ∈ wAl := (wAl_in (List.mem_append_right _ (List.mem_append_right _ (List.mem_of_getElem? (i := 24) (by decide +kernel)))) (by decide +kernel))
theorem wv_St_depth : Cond.selects R_St y_St_depth y_St_depth ∈ wAl := (wAl_in (List.mem_append_right _ (List.mem_append_right _ (List.mem_of_getElem? (i := 25) (by decide +kernel)))) (by decide +kernel))
theorem wc_St_differ : Cond.code y_St_differ b_St_differ 4 (some .int) ∈ wAl := (wAl_in (List.mem_append_right _ (List.mem_append_right _ (List.mem_of_getElem? (i := 34) (by decide +kernel)))) (by decide +kernel))
theorem wn_St_differ : Cond.instanceMethod y_St_differ ∈ wAl := (wAl_in (List.mem_append_right _ (List.mem_append_right _ (List.mem_of_getElem? (i := 32) (by decide +kernel)))) (by decide +kernel))
theorem wv_St_differ : Cond.selects R_St y_St_differ y_St_differ ∈ wAl := (wAl_in (List.mem_append_right _ (List.mem_append_right _ (List.mem_of_getElem? (i := 33) (by decide +kernel)))) (by decide +kernel))
theorem wc_St_erase : Cond.code y_St_erase b_St_erase 5 (some .int) ∈ wAl := (wAl_in (List.mem_append_right _ (List.mem_append_left _ (List.mem_of_getElem? (i := 180) (by decide +kernel)))) (by decide +kernel))
theorem wn_St_erase : Cond.instanceMethod y_St_erase ∈ wAl := (wAl_in (List.mem_append_right _ (List.mem_append_left _ (List.mem_of_getElem? (i := 178) (by decide +kernel)))) (by decide +kernel))
theorem wv_St_erase : Cond.selects R_St y_St_erase y_St_erase ∈ wAl := (wAl_in (List.mem_append_right _ (List.mem_append_left _ (List.mem_of_getElem? (i := 179) (by decide +kernel)))) (by decide +kernel))
theorem wc_St_firstReady : Cond.code y_St_firstReady b_St_firstReady 3 (some .int) ∈ wAl := (wAl_in (List.mem_append_right _ (List.mem_append_left _ (List.mem_of_getElem? (i := 214) (by decide +kernel)))) (by decide +kernel))
theorem wn_St_firstReady : Cond.instanceMethod y_St_firstReady ∈ wAl := (wAl_in (List.mem_append_right _ (List.mem_append_left _ (List.mem_of_getElem? (i := 213) (by decide +kernel)))) (by decide +kernel))
theorem wv_St_firstReady : Cond.selects R_St y_St_firstReady y_St_firstReady ∈ wAl := (wAl_in (List.mem_append_left _ (List.mem_of_getElem? (i := 16) (by decide +kernel))) (by decide +kernel))
theorem wc_St_hasRightChild : Cond.code y_St_hasRightChild b_St_hasRightChild 4 (some .boolean) ∈ wAl := (wAl_in (List.mem_append_right _ (List.mem_append_left _ (List.mem_of_getElem? (i := 138) (by decide +kernel)))) (by decide +kernel))
theorem wn_St_hasRightChild : Cond.instanceMethod y_St_hasRightChild ∈ wAl := (wAl_in (List.mem_append_right _ (List.mem_append_left _ (List.mem_of_getElem? (i := 137) (by decide +kernel)))) (by decide +kernel))
theorem wv_St_hasRightChild : Cond.selects R_St y_St_hasRightChild y_St_hasRightChild ∈ wAl := (wAl_in (List.mem_append_left _ (List.mem_of_getElem? (i := 6) (by decide +kernel))) (by decide +kernel))
theorem wc_St_init : Cond.code y_St_init b_St_init 2 none ∈ wAl := (wAl_in (List.mem_append_right _ (List.mem_append_left _ (List.mem_of_getElem? (i := 10) (by decide +kernel)))) (by decide +kernel))
theorem wn_St_init : Cond.instanceMethod y_St_init ∈ wAl := (wAl_in (List.mem_append_right _ (List.mem_append_left _ (List.mem_of_getElem? (i := 9) (by decide +kernel)))) (by decide +kernel))
theorem wc_St_insert : Cond.code y_St_insert b_St_insert 6 (some .int) ∈ wAl := (wAl_in (List.mem_append_right _ (List.mem_append_left _ (List.mem_of_getElem? (i := 95) (by decide +kernel)))) (by decide +kernel))
theorem wn_St_insert : Cond.instanceMethod y_St_insert ∈ wAl := (wAl_in (List.mem_append_right _ (List.mem_append_left _ (List.mem_of_getElem? (i := 93) (by decide +kernel)))) (by decide +kernel))
theorem wv_St_insert : Cond.selects R_St y_St_insert y_St_insert ∈ wAl := (wAl_in (List.mem_append_right _ (List.mem_append_left _ (List.mem_of_getElem? (i := 94) (by decide +kernel)))) (by decide +kernel))
theorem wc_St_isErasing : Cond.code y_St_isErasing b_St_isErasing 1 (some .boolean) ∈ wAl := (wAl_in (List.mem_append_right _ (List.mem_append_left _ (List.mem_of_getElem? (i := 199) (by decide +kernel)))) (by decide +kernel))
theorem wt_St_isErasing : Cond.static y_St_isErasing ∈ wAl := (wAl_in (List.mem_append_right _ (List.mem_append_left _ (List.mem_of_getElem? (i := 198) (by decide +kernel)))) (by decide +kernel))
theorem wc_St_isOtherTrayFull : Cond.code y_St_isOtherTrayFull b_St_isOtherTrayFull 3 (some .boolean) ∈ wAl := (wAl_in (List.mem_append_right _ (List.mem_append_left _ (List.mem_of_getElem? (i := 110) (by decide +kernel)))) (by decide +kernel))
theorem wn_St_isOtherTrayFull : Cond.instanceMethod y_St_isOtherTrayFull ∈ wAl := (wAl_in (List.mem_append_right _ (List.mem_append_left _ (List.mem_of_getElem? (i := 109) (by decide +kernel)))) (by decide +kernel))
theorem wv_St_isOtherTrayFull : Cond.selects R_St y_St_isOtherTrayFull y_St_isOtherTrayFull ∈ wAl := (wAl_in (List.mem_append_left _ (List.mem_of_getElem? (i := 1) (by decide +kernel))) (by decide +kernel))
theorem wc_St_isReady : Cond.code y_St_isReady b_St_isReady 3 (some .boolean) ∈ wAl := (wAl_in (List.mem_append_right _ (List.mem_append_left _ (List.mem_of_getElem? (i := 196) (by decide +kernel)))) (by decide +kernel))
theorem wn_St_isReady : Cond.instanceMethod y_St_isReady ∈ wAl := (wAl_in (List.mem_append_right _ (List.mem_append_left _ (List.mem_of_getElem? (i := 195) (by decide +kernel)))) (by decide +kernel))
theorem wv_St_isReady : Cond.selects R_St y_St_isReady y_St_isReady ∈ wAl := (wAl_in (List.mem_append_left _ (List.mem_of_getElem? (i := 14) (by decide +kernel))) (by decide +kernel))
theorem wc_St_isReplica : Cond.code y_St_isReplica b_St_isReplica 1 (some .boolean) ∈ wAl := (wAl_in (List.mem_append_right _ (List.mem_append_left _ (List.mem_of_getElem? (i := 98) (by decide +kernel)))) (by decide +kernel))
theorem wt_St_isReplica : Cond.static y_St_isReplica ∈ wAl := (wAl_in (List.mem_append_right _ (List.mem_append_left _ (List.mem_of_getElem? (i := 97) (by decide +kernel)))) (by decide +kernel))
theorem wc_St_known : Cond.code y_St_known b_St_known 3 (some .int) ∈ wAl := (wAl_in (List.mem_append_right _ (List.mem_append_left _ (List.mem_of_getElem? (i := 234) (by decide +kernel)))) (by decide +kernel))
theorem wn_St_known : Cond.instanceMethod y_St_known ∈ wAl := (wAl_in (List.mem_append_right _ (List.mem_append_left _ (List.mem_of_getElem? (i := 232) (by decide +kernel)))) (by decide +kernel))
theorem wv_St_known : Cond.selects R_St y_St_known y_St_known ∈ wAl := (wAl_in (List.mem_append_right _ (List.mem_append_left _ (List.mem_of_getElem? (i := 233) (by decide +kernel)))) (by decide +kernel))
theorem wc_St_length : Cond.code y_St_length b_St_length 2 (some .int) ∈ wAl := (wAl_in (List.mem_append_right _ (List.mem_append_left _ (List.mem_of_getElem? (i := 218) (by decide +kernel)))) (by decide +kernel))
theorem wn_St_length : Cond.instanceMethod y_St_length ∈ wAl := (wAl_in (List.mem_append_right _ (List.mem_append_left _ (List.mem_of_getElem? (i := 216) (by decide +kernel)))) (by decide +kernel))
theorem wv_St_length : Cond.selects R_St y_St_length y_St_length ∈ wAl := (wAl_in (List.mem_append_right _ (List.mem_append_left _ (List.mem_of_getElem? (i := 217) (by decide +kernel)))) (by decide +kernel))
theorem wc_St_made : Cond.code y_St_made b_St_made 1 (some .int) ∈ wAl := (wAl_in (List.mem_append_right _ (List.mem_append_right _ (List.mem_of_getElem? (i := 18) (by decide +kernel)))) (by decide +kernel))
theorem wn_St_made : Cond.instanceMethod y_St_made ∈ wAl := (wAl_in (List.mem_append_right _ (List.mem_append_right _ (List.mem_of_getElem? (i := 16) (by decide +kernel)))) (by decide +kernel))
theorem wv_St_made : Cond.selects R_St y_St_made y_St_made ∈ wAl := (wAl_in (List.mem_append_right _ (List.mem_append_right _ (List.mem_of_getElem? (i := 17) (by decide +kernel)))) (by decide +kernel))
theorem wc_St_makeBehind : Cond.code y_St_makeBehind b_St_makeBehind 6 (some .int) ∈ wAl := (wAl_in (List.mem_append_right _ (List.mem_append_left _ (List.mem_of_getElem? (i := 122) (by decide +kernel)))) (by decide +kernel))
theorem wn_St_makeBehind : Cond.instanceMethod y_St_makeBehind ∈ wAl := (wAl_in (List.mem_append_right _ (List.mem_append_left _ (List.mem_of_getElem? (i := 121) (by decide +kernel)))) (by decide +kernel))
theorem wv_St_makeBehind : Cond.selects R_St y_St_makeBehind y_St_makeBehind ∈ wAl := (wAl_in (List.mem_append_left _ (List.mem_of_getElem? (i := 3) (by decide +kernel))) (by decide +kernel))
theorem wc_St_message : Cond.code y_St_message b_St_message 4 (some .int) ∈ wAl := (wAl_in (List.mem_append_right _ (List.mem_append_right _ (List.mem_of_getElem? (i := 14) (by decide +kernel)))) (by decide +kernel))
theorem wn_St_message : Cond.instanceMethod y_St_message ∈ wAl := (wAl_in (List.mem_append_right _ (List.mem_append_right _ (List.mem_of_getElem? (i := 12) (by decide +kernel)))) (by decide +kernel))
theorem wv_St_message : Cond.selects R_St y_St_message y_St_message ∈ wAl := (wAl_in (List.mem_append_right _ (List.mem_append_right _ (List.mem_of_getElem? (i := 13) (by decide +kernel)))) (by decide +kernel))
theorem wc_St_nextBehind : Cond.code y_St_nextBehind b_St_nextBehind 4 (some .int) ∈ wAl := (wAl_in (List.mem_append_right _ (List.mem_append_left _ (List.mem_of_getElem? (i := 126) (by decide +kernel)))) (by decide +kernel))
theorem wn_St_nextBehind : Cond.instanceMethod y_St_nextBehind ∈ wAl := (wAl_in (List.mem_append_right _ (List.mem_append_left _ (List.mem_of_getElem? (i := 125) (by decide +kernel)))) (by decide +kernel))
theorem wv_St_nextBehind : Cond.selects R_St y_St_nextBehind y_St_nextBehind ∈ wAl := (wAl_in (List.mem_append_left _ (List.mem_of_getElem? (i := 4) (by decide +kernel))) (by decide +kernel))
theorem wc_St_ordered : Cond.code y_St_ordered b_St_ordered 3 (some .int) ∈ wAl := (wAl_in (List.mem_append_right _ (List.mem_append_left _ (List.mem_of_getElem? (i := 226) (by decide +kernel)))) (by decide +kernel))
theorem wn_St_ordered : Cond.instanceMethod y_St_ordered ∈ wAl := (wAl_in (List.mem_append_right _ (List.mem_append_left _ (List.mem_of_getElem? (i := 224) (by decide +kernel)))) (by decide +kernel))
theorem wv_St_ordered : Cond.selects R_St y_St_ordered y_St_ordered ∈ wAl := (wAl_in (List.mem_append_right _ (List.mem_append_left _ (List.mem_of_getElem? (i := 225) (by decide +kernel)))) (by decide +kernel))
theorem wc_St_orderedAt : Cond.code y_St_orderedAt b_St_orderedAt 6 (some .int) ∈ wAl := (wAl_in (List.mem_append_right _ (List.mem_append_left _ (List.mem_of_getElem? (i := 230) (by decide +kernel)))) (by decide +kernel))
theorem wn_St_orderedAt : Cond.instanceMethod y_St_orderedAt ∈ wAl := (wAl_in (List.mem_append_right _ (List.mem_append_left _ (List.mem_of_getElem? (i := 229) (by decide +kernel)))) (by decide +kernel))
theorem wv_St_orderedAt : Cond.selects R_St y_St_orderedAt y_St_orderedAt ∈ wAl := (wAl_in (List.mem_append_left _ (List.mem_of_getElem? (i := 17) (by decide +kernel))) (by decide +kernel))
theorem wc_St_send : Cond.code y_St_send b_St_send 4 none ∈ wAl := (wAl_in (List.mem_append_right _ (List.mem_append_left _ (List.mem_of_getElem? (i := 171) (by decide +kernel)))) (by decide +kernel))
theorem wn_St_send : Cond.instanceMethod y_St_send ∈ wAl := (wAl_in (List.mem_append_right _ (List.mem_append_left _ (List.mem_of_getElem? (i := 170) (by decide +kernel)))) (by decide +kernel))
theorem wv_St_send : Cond.selects R_St y_St_send y_St_send ∈ wAl := (wAl_in (List.mem_append_left _ (List.mem_of_getElem? (i := 13) (by decide +kernel))) (by decide +kernel))
theorem wc_St_shown : Cond.code y_St_shown b_St_shown 3 (some .int) ∈ wAl := (wAl_in (List.mem_append_right _ (List.mem_append_left _ (List.mem_of_getElem? (i := 222) (by decide +kernel)))) (by decide +kernel))
theorem wn_St_shown : Cond.instanceMethod y_St_shown ∈ wAl := (wAl_in (List.mem_append_right _ (List.mem_append_left _ (List.mem_of_getElem? (i := 220) (by decide +kernel)))) (by decide +kernel))
theorem wv_St_shown : Cond.selects R_St y_St_shown y_St_shown ∈ wAl := (wAl_in (List.mem_append_right _ (List.mem_append_left _ (List.mem_of_getElem? (i := 221) (by decide +kernel)))) (by decide +kernel))
theorem wc_St_shownAt : Cond.code y_St_shownAt b_St_shownAt 6 (some .int) ∈ wAl := (wAl_in (List.mem_append_right _ (List.mem_append_left _ (List.mem_of_getElem? (i := 118) (by decide +kernel)))) (by decide +kernel))
theorem wn_St_shownAt : Cond.instanceMethod y_St_shownAt ∈ wAl := (wAl_in (List.mem_append_right _ (List.mem_append_left _ (List.mem_of_getElem? (i := 117) (by decide +kernel)))) (by decide +kernel))
theorem wv_St_shownAt : Cond.selects R_St y_St_shownAt y_St_shownAt ∈ wAl := (wAl_in (List.mem_append_left _ (List.mem_of_getElem? (i := 2) (by decide +kernel))) (by decide +kernel))
theorem wc_St_state : Cond.code y_St_state b_St_state 3 (some .int) ∈ wAl := (wAl_in (List.mem_append_right _ (List.mem_append_left _ (List.mem_of_getElem? (i := 238) (by decide +kernel)))) (by decide +kernel))
theorem wn_St_state : Cond.instanceMethod y_St_state ∈ wAl := (wAl_in (List.mem_append_right _ (List.mem_append_left _ (List.mem_of_getElem? (i := 236) (by decide +kernel)))) (by decide +kernel))
theorem wv_St_state : Cond.selects R_St y_St_state y_St_state ∈ wAl := (wAl_in (List.mem_append_right _ (List.mem_append_left _ (List.mem_of_getElem? (i := 237) (by decide +kernel)))) (by decide +kernel))
theorem wc_St_takeEffect : Cond.code y_St_takeEffect b_St_takeEffect 2 none ∈ wAl := (wAl_in (List.mem_append_right _ (List.mem_append_left _ (List.mem_of_getElem? (i := 206) (by decide +kernel)))) (by decide +kernel))
theorem wt_St_takeEffect : Cond.static y_St_takeEffect ∈ wAl := (wAl_in (List.mem_append_right _ (List.mem_append_left _ (List.mem_of_getElem? (i := 205) (by decide +kernel)))) (by decide +kernel))
theorem wc_St_tray : Cond.code y_St_tray b_St_tray 2 (some .int) ∈ wAl := (wAl_in (List.mem_append_right _ (List.mem_append_right _ (List.mem_of_getElem? (i := 6) (by decide +kernel)))) (by decide +kernel))
theorem wn_St_tray : Cond.instanceMethod y_St_tray ∈ wAl := (wAl_in (List.mem_append_right _ (List.mem_append_right _ (List.mem_of_getElem? (i := 4) (by decide +kernel)))) (by decide +kernel))
theorem wv_St_tray : Cond.selects R_St y_St_tray y_St_tray ∈ wAl := (wAl_in (List.mem_append_right _ (List.mem_append_right _ (List.mem_of_getElem? (i := 5) (by decide +kernel)))) (by decide +kernel))
theorem wc_St_waiting : Cond.code y_St_waiting b_St_waiting 2 (some .int) ∈ wAl := (wAl_in (List.mem_append_right _ (List.mem_append_right _ (List.mem_of_getElem? (i := 10) (by decide +kernel)))) (by decide +kernel))
theorem wn_St_waiting : Cond.instanceMethod y_St_waiting ∈ wAl := (wAl_in (List.mem_append_right _ (List.mem_append_right _ (List.mem_of_getElem? (i := 8) (by decide +kernel)))) (by decide +kernel))
theorem wv_St_waiting : Cond.selects R_St y_St_waiting y_St_waiting ∈ wAl := (wAl_in (List.mem_append_right _ (List.mem_append_right _ (List.mem_of_getElem? (i := 9) (by decide +kernel)))) (by decide +kernel))
theorem wc_St_wakeWaiting : Cond.code y_St_wakeWaiting b_St_wakeWaiting 5 (some .int) ∈ wAl := (wAl_in (List.mem_append_right _ (List.mem_append_left _ (List.mem_of_getElem? (i := 210) (by decide +kernel)))) (by decide +kernel))
theorem wn_St_wakeWaiting : Cond.instanceMethod y_St_wakeWaiting ∈ wAl := (wAl_in (List.mem_append_right _ (List.mem_append_left _ (List.mem_of_getElem? (i := 209) (by decide +kernel)))) (by decide +kernel))
theorem wv_St_wakeWaiting : Cond.selects R_St y_St_wakeWaiting y_St_wakeWaiting ∈ wAl := (wAl_in (List.mem_append_left _ (List.mem_of_getElem? (i := 15) (by decide +kernel))) (by decide +kernel))
theorem wc_Tr_add : Cond.code y_Tr_add b_Tr_add 9 (some .int) ∈ wAl := (wAl_in (List.mem_append_right _ (List.mem_append_left _ (List.mem_of_getElem? (i := 142) (by decide +kernel)))) (by decide +kernel))
theorem wn_Tr_add : Cond.instanceMethod y_Tr_add ∈ wAl := (wAl_in (List.mem_append_right _ (List.mem_append_left _ (List.mem_of_getElem? (i := 140) (by decide +kernel)))) (by decide +kernel))
theorem wv_Tr_add : Cond.selects R_Tr y_Tr_add y_Tr_add ∈ wAl := (wAl_in (List.mem_append_right _ (List.mem_append_left _ (List.mem_of_getElem? (i := 141) (by decide +kernel)))) (by decide +kernel))
theorem wc_Tr_branchOf : Cond.code y_Tr_branchOf b_Tr_branchOf 5 (some .int) ∈ wAl := (wAl_in (List.mem_append_right _ (List.mem_append_left _ (List.mem_of_getElem? (i := 154) (by decide +kernel)))) (by decide +kernel))
theorem wn_Tr_branchOf : Cond.instanceMethod y_Tr_branchOf ∈ wAl := (wAl_in (List.mem_append_right _ (List.mem_append_left _ (List.mem_of_getElem? (i := 153) (by decide +kernel)))) (by decide +kernel))
theorem wv_Tr_branchOf : Cond.selects R_Tr y_Tr_branchOf y_Tr_branchOf ∈ wAl := (wAl_in (List.mem_append_left _ (List.mem_of_getElem? (i := 9) (by decide +kernel))) (by decide +kernel))
theorem wc_Tr_countAbove : Cond.code y_Tr_countAbove b_Tr_countAbove 4 (some .int) ∈ wAl := (wAl_in (List.mem_append_right _ (List.mem_append_right _ (List.mem_of_getElem? (i := 30) (by decide +kernel)))) (by decide +kernel))
theorem wn_Tr_countAbove : Cond.instanceMethod y_Tr_countAbove ∈ wAl := (wAl_in (List.mem_append_right _ (List.mem_append_right _ (List.mem_of_getElem? (i := 28) (by decide +kernel)))) (by decide +kernel))
theorem wv_Tr_countAbove : Cond.selects R_Tr y_Tr_countAbove y_Tr_countAbove ∈ wAl := (wAl_in (List.mem_append_right _ (List.mem_append_right _ (List.mem_of_getElem? (i := 29) (by decide +kernel)))) (by decide +kernel))
theorem wc_Tr_has : Cond.code y_Tr_has b_Tr_has 2 (some .boolean) ∈ wAl := (wAl_in (List.mem_append_right _ (List.mem_append_right _ (List.mem_of_getElem? (i := 2) (by decide +kernel)))) (by decide +kernel))
theorem wn_Tr_has : Cond.instanceMethod y_Tr_has ∈ wAl := (wAl_in (List.mem_append_right _ (List.mem_append_right _ (List.mem_of_getElem? (i := 0) (by decide +kernel)))) (by decide +kernel))
theorem wv_Tr_has : Cond.selects R_Tr y_Tr_has y_Tr_has ∈ wAl := (wAl_in (List.mem_append_right _ (List.mem_append_right _ (List.mem_of_getElem? (i := 1) (by decide +kernel)))) (by decide +kernel))
theorem wc_Tr_init : Cond.code y_Tr_init b_Tr_init 1 none ∈ wAl := (wAl_in (List.mem_append_right _ (List.mem_append_left _ (List.mem_of_getElem? (i := 18) (by decide +kernel)))) (by decide +kernel))
theorem wn_Tr_init : Cond.instanceMethod y_Tr_init ∈ wAl := (wAl_in (List.mem_append_right _ (List.mem_append_left _ (List.mem_of_getElem? (i := 17) (by decide +kernel)))) (by decide +kernel))
theorem wc_Tr_isBeforeBranchOf : Cond.code y_Tr_isBeforeBranchOf b_Tr_isBeforeBranchOf 4 (some .boolean) ∈ wAl := (wAl_in (List.mem_append_right _ (List.mem_append_left _ (List.mem_of_getElem? (i := 150) (by decide +kernel)))) (by decide +kernel))
theorem wn_Tr_isBeforeBranchOf : Cond.instanceMethod y_Tr_isBeforeBranchOf ∈ wAl := (wAl_in (List.mem_append_right _ (List.mem_append_left _ (List.mem_of_getElem? (i := 149) (by decide +kernel)))) (by decide +kernel))
theorem wv_Tr_isBeforeBranchOf : Cond.selects R_Tr y_Tr_isBeforeBranchOf y_Tr_isBeforeBranchOf ∈ wAl := (wAl_in (List.mem_append_left _ (List.mem_of_getElem? (i := 8) (by decide +kernel))) (by decide +kernel))
theorem wc_Tr_isBehindBranchOf : Cond.code y_Tr_isBehindBranchOf b_Tr_isBehindBranchOf 4 (some .boolean) ∈ wAl := (wAl_in (List.mem_append_right _ (List.mem_append_left _ (List.mem_of_getElem? (i := 167) (by decide +kernel)))) (by decide +kernel))
theorem wn_Tr_isBehindBranchOf : Cond.instanceMethod y_Tr_isBehindBranchOf ∈ wAl := (wAl_in (List.mem_append_right _ (List.mem_append_left _ (List.mem_of_getElem? (i := 166) (by decide +kernel)))) (by decide +kernel))
theorem wv_Tr_isBehindBranchOf : Cond.selects R_Tr y_Tr_isBehindBranchOf y_Tr_isBehindBranchOf ∈ wAl := (wAl_in (List.mem_append_left _ (List.mem_of_getElem? (i := 12) (by decide +kernel))) (by decide +kernel))
theorem wc_Tr_isFull : Cond.code y_Tr_isFull b_Tr_isFull 1 (some .boolean) ∈ wAl := (wAl_in (List.mem_append_right _ (List.mem_append_left _ (List.mem_of_getElem? (i := 106) (by decide +kernel)))) (by decide +kernel))
theorem wn_Tr_isFull : Cond.instanceMethod y_Tr_isFull ∈ wAl := (wAl_in (List.mem_append_right _ (List.mem_append_left _ (List.mem_of_getElem? (i := 104) (by decide +kernel)))) (by decide +kernel))
theorem wv_Tr_isFull : Cond.selects R_Tr y_Tr_isFull y_Tr_isFull ∈ wAl := (wAl_in (List.mem_append_right _ (List.mem_append_left _ (List.mem_of_getElem? (i := 105) (by decide +kernel)))) (by decide +kernel))
theorem wc_Tr_isSiblingBefore : Cond.code y_Tr_isSiblingBefore b_Tr_isSiblingBefore 5 (some .boolean) ∈ wAl := (wAl_in (List.mem_append_right _ (List.mem_append_left _ (List.mem_of_getElem? (i := 158) (by decide +kernel)))) (by decide +kernel))
theorem wn_Tr_isSiblingBefore : Cond.instanceMethod y_Tr_isSiblingBefore ∈ wAl := (wAl_in (List.mem_append_right _ (List.mem_append_left _ (List.mem_of_getElem? (i := 157) (by decide +kernel)))) (by decide +kernel))
theorem wv_Tr_isSiblingBefore : Cond.selects R_Tr y_Tr_isSiblingBefore y_Tr_isSiblingBefore ∈ wAl := (wAl_in (List.mem_append_left _ (List.mem_of_getElem? (i := 10) (by decide +kernel))) (by decide +kernel))
theorem wc_Tr_leftPlaceFor : Cond.code y_Tr_leftPlaceFor b_Tr_leftPlaceFor 3 (some .int) ∈ wAl := (wAl_in (List.mem_append_right _ (List.mem_append_left _ (List.mem_of_getElem? (i := 146) (by decide +kernel)))) (by decide +kernel))
theorem wn_Tr_leftPlaceFor : Cond.instanceMethod y_Tr_leftPlaceFor ∈ wAl := (wAl_in (List.mem_append_right _ (List.mem_append_left _ (List.mem_of_getElem? (i := 145) (by decide +kernel)))) (by decide +kernel))
theorem wv_Tr_leftPlaceFor : Cond.selects R_Tr y_Tr_leftPlaceFor y_Tr_leftPlaceFor ∈ wAl := (wAl_in (List.mem_append_left _ (List.mem_of_getElem? (i := 7) (by decide +kernel))) (by decide +kernel))
theorem wc_Tr_placeBehind : Cond.code y_Tr_placeBehind b_Tr_placeBehind 2 (some .int) ∈ wAl := (wAl_in (List.mem_append_right _ (List.mem_append_left _ (List.mem_of_getElem? (i := 130) (by decide +kernel)))) (by decide +kernel))
theorem wn_Tr_placeBehind : Cond.instanceMethod y_Tr_placeBehind ∈ wAl := (wAl_in (List.mem_append_right _ (List.mem_append_left _ (List.mem_of_getElem? (i := 128) (by decide +kernel)))) (by decide +kernel))
theorem wv_Tr_placeBehind : Cond.selects R_Tr y_Tr_placeBehind y_Tr_placeBehind ∈ wAl := (wAl_in (List.mem_append_right _ (List.mem_append_left _ (List.mem_of_getElem? (i := 129) (by decide +kernel)))) (by decide +kernel))
theorem wc_Tr_placeOf : Cond.code y_Tr_placeOf b_Tr_placeOf 3 (some .int) ∈ wAl := (wAl_in (List.mem_append_right _ (List.mem_append_left _ (List.mem_of_getElem? (i := 134) (by decide +kernel)))) (by decide +kernel))
theorem wn_Tr_placeOf : Cond.instanceMethod y_Tr_placeOf ∈ wAl := (wAl_in (List.mem_append_right _ (List.mem_append_left _ (List.mem_of_getElem? (i := 133) (by decide +kernel)))) (by decide +kernel))
theorem wv_Tr_placeOf : Cond.selects R_Tr y_Tr_placeOf y_Tr_placeOf ∈ wAl := (wAl_in (List.mem_append_left _ (List.mem_of_getElem? (i := 5) (by decide +kernel))) (by decide +kernel))
theorem wc_Tr_rightPlaceFor : Cond.code y_Tr_rightPlaceFor b_Tr_rightPlaceFor 3 (some .int) ∈ wAl := (wAl_in (List.mem_append_right _ (List.mem_append_left _ (List.mem_of_getElem? (i := 162) (by decide +kernel)))) (by decide +kernel))
theorem wn_Tr_rightPlaceFor : Cond.instanceMethod y_Tr_rightPlaceFor ∈ wAl := (wAl_in (List.mem_append_right _ (List.mem_append_left _ (List.mem_of_getElem? (i := 161) (by decide +kernel)))) (by decide +kernel))
theorem wv_Tr_rightPlaceFor : Cond.selects R_Tr y_Tr_rightPlaceFor y_Tr_rightPlaceFor ∈ wAl := (wAl_in (List.mem_append_left _ (List.mem_of_getElem? (i := 11) (by decide +kernel))) (by decide +kernel))
theorem lk_Me_13 : Cond.fieldLink R_Me 13 R_Me (F_Me 0).2.1 (F_Me 0).2.2.1 ∈ wAl := (wAl_in (List.mem_append_right _ (List.mem_append_left _ (List.mem_of_getElem? (i := 63) (by decide +kernel)))) (by decide +kernel))
theorem lk_Me_7 : Cond.fieldLink R_Me 7 R_Me (F_Me 1).2.1 (F_Me 1).2.2.1 ∈ wAl := (wAl_in (List.mem_append_right _ (List.mem_append_left _ (List.mem_of_getElem? (i := 65) (by decide +kernel)))) (by decide +kernel))
theorem lk_Re_20 : Cond.fieldLink R_Re 20 R_Re (F_Re 1).2.1 (F_Re 1).2.2.1 ∈ wAl := (wAl_in (List.mem_append_right _ (List.mem_append_left _ (List.mem_of_getElem? (i := 74) (by decide +kernel)))) (by decide +kernel))
theorem lk_Re_24 : Cond.fieldLink R_Re 24 R_Re (F_Re 2).2.1 (F_Re 2).2.2.1 ∈ wAl := (wAl_in (List.mem_append_right _ (List.mem_append_left _ (List.mem_of_getElem? (i := 76) (by decide +kernel)))) (by decide +kernel))
theorem lk_Re_9 : Cond.fieldLink R_Re 9 R_Re (F_Re 0).2.1 (F_Re 0).2.2.1 ∈ wAl := (wAl_in (List.mem_append_right _ (List.mem_append_left _ (List.mem_of_getElem? (i := 72) (by decide +kernel)))) (by decide +kernel))
theorem lk_Tr_15 : Cond.fieldLink R_Tr 15 R_Tr (F_Tr 1).2.1 (F_Tr 1).2.2.1 ∈ wAl := (wAl_in (List.mem_append_right _ (List.mem_append_left _ (List.mem_of_getElem? (i := 22) (by decide +kernel)))) (by decide +kernel))
theorem lk_Tr_18 : Cond.fieldLink R_Tr 18 R_Tr (F_Tr 2).2.1 (F_Tr 2).2.2.1 ∈ wAl := (wAl_in (List.mem_append_right _ (List.mem_append_left _ (List.mem_of_getElem? (i := 24) (by decide +kernel)))) (by decide +kernel))
theorem lk_Tr_21 : Cond.fieldLink R_Tr 21 R_Tr (F_Tr 3).2.1 (F_Tr 3).2.2.1 ∈ wAl := (wAl_in (List.mem_append_right _ (List.mem_append_left _ (List.mem_of_getElem? (i := 26) (by decide +kernel)))) (by decide +kernel))
theorem lk_Tr_24 : Cond.fieldLink R_Tr 24 R_Tr (F_Tr 4).2.1 (F_Tr 4).2.2.1 ∈ wAl := (wAl_in (List.mem_append_right _ (List.mem_append_left _ (List.mem_of_getElem? (i := 28) (by decide +kernel)))) (by decide +kernel))
theorem lk_Tr_27 : Cond.fieldLink R_Tr 27 R_Tr (F_Tr 5).2.1 (F_Tr 5).2.2.1 ∈ wAl := (wAl_in (List.mem_append_right _ (List.mem_append_left _ (List.mem_of_getElem? (i := 30) (by decide +kernel)))) (by decide +kernel))
theorem lk_Tr_30 : Cond.fieldLink R_Tr 30 R_Tr (F_Tr 6).2.1 (F_Tr 6).2.2.1 ∈ wAl := (wAl_in (List.mem_append_right _ (List.mem_append_left _ (List.mem_of_getElem? (i := 32) (by decide +kernel)))) (by decide +kernel))
theorem lk_Tr_9 : Cond.fieldLink R_Tr 9 R_Tr (F_Tr 0).2.1 (F_Tr 0).2.2.1 ∈ wAl := (wAl_in (List.mem_append_right _ (List.mem_append_left _ (List.mem_of_getElem? (i := 20) (by decide +kernel)))) (by decide +kernel))
theorem lk_St_100 : Cond.fieldLink R_St 100 R_Tr (F_Tr 1).2.1 (F_Tr 1).2.2.1 ∈ wAl := (wAl_in (List.mem_append_right _ (List.mem_append_left _ (List.mem_of_getElem? (i := 23) (by decide +kernel)))) (by decide +kernel))
theorem lk_St_103 : Cond.fieldLink R_St 103 R_Tr (F_Tr 2).2.1 (F_Tr 2).2.2.1 ∈ wAl := (wAl_in (List.mem_append_right _ (List.mem_append_left _ (List.mem_of_getElem? (i := 25) (by decide +kernel)))) (by decide +kernel))
theorem lk_St_106 : Cond.fieldLink R_St 106 R_Tr (F_Tr 3).2.1 (F_Tr 3).2.2.1 ∈ wAl := (wAl_in (List.mem_append_right _ (List.mem_append_left _ (List.mem_of_getElem? (i := 27) (by decide +kernel)))) (by decide +kernel))
theorem lk_St_109 : Cond.fieldLink R_St 109 R_Tr (F_Tr 4).2.1 (F_Tr 4).2.2.1 ∈ wAl := (wAl_in (List.mem_append_right _ (List.mem_append_left _ (List.mem_of_getElem? (i := 29) (by decide +kernel)))) (by decide +kernel))
theorem lk_St_115 : Cond.fieldLink R_St 115 R_Tr (F_Tr 5).2.1 (F_Tr 5).2.2.1 ∈ wAl := (wAl_in (List.mem_append_right _ (List.mem_append_left _ (List.mem_of_getElem? (i := 31) (by decide +kernel)))) (by decide +kernel))
theorem lk_St_12 : Cond.fieldLink R_St 12 R_St (F_St 0).2.1 (F_St 0).2.2.1 ∈ wAl := (wAl_in (List.mem_append_right _ (List.mem_append_left _ (List.mem_of_getElem? (i := 85) (by decide +kernel)))) (by decide +kernel))
theorem lk_St_18 : Cond.fieldLink R_St 18 R_St (F_St 1).2.1 (F_St 1).2.2.1 ∈ wAl := (wAl_in (List.mem_append_right _ (List.mem_append_left _ (List.mem_of_getElem? (i := 86) (by decide +kernel)))) (by decide +kernel))
theorem lk_St_45 : Cond.fieldLink R_St 45 R_Re (F_Re 0).2.1 (F_Re 0).2.2.1 ∈ wAl := (wAl_in (List.mem_append_right _ (List.mem_append_left _ (List.mem_of_getElem? (i := 73) (by decide +kernel)))) (by decide +kernel))
theorem lk_St_53 : Cond.fieldLink R_St 53 R_Re (F_Re 1).2.1 (F_Re 1).2.2.1 ∈ wAl := (wAl_in (List.mem_append_right _ (List.mem_append_left _ (List.mem_of_getElem? (i := 75) (by decide +kernel)))) (by decide +kernel))
theorem lk_St_70 : Cond.fieldLink R_St 70 R_Re (F_Re 2).2.1 (F_Re 2).2.2.1 ∈ wAl := (wAl_in (List.mem_append_right _ (List.mem_append_left _ (List.mem_of_getElem? (i := 77) (by decide +kernel)))) (by decide +kernel))
theorem lk_St_89 : Cond.fieldLink R_St 89 R_Me (F_Me 1).2.1 (F_Me 1).2.2.1 ∈ wAl := (wAl_in (List.mem_append_right _ (List.mem_append_left _ (List.mem_of_getElem? (i := 66) (by decide +kernel)))) (by decide +kernel))
theorem lk_St_93 : Cond.fieldLink R_St 93 R_Me (F_Me 0).2.1 (F_Me 0).2.2.1 ∈ wAl := (wAl_in (List.mem_append_right _ (List.mem_append_left _ (List.mem_of_getElem? (i := 64) (by decide +kernel)))) (by decide +kernel))
theorem lk_St_96 : Cond.fieldLink R_St 96 R_Tr (F_Tr 6).2.1 (F_Tr 6).2.2.1 ∈ wAl := (wAl_in (List.mem_append_right _ (List.mem_append_left _ (List.mem_of_getElem? (i := 33) (by decide +kernel)))) (by decide +kernel))
theorem lk_St_97 : Cond.fieldLink R_St 97 R_Tr (F_Tr 0).2.1 (F_Tr 0).2.2.1 ∈ wAl := (wAl_in (List.mem_append_right _ (List.mem_append_left _ (List.mem_of_getElem? (i := 21) (by decide +kernel)))) (by decide +kernel))
theorem lk_Mo_13 : Cond.fieldLink R_Mo 13 R_Mo (F_Mo 2).2.1 (F_Mo 2).2.2.1 ∈ wAl := (wAl_in (List.mem_append_right _ (List.mem_append_right _ (List.mem_of_getElem? (i := 43) (by decide +kernel)))) (by decide +kernel))
theorem lk_Mo_16 : Cond.fieldLink R_Mo 16 R_Mo (F_Mo 3).2.1 (F_Mo 3).2.2.1 ∈ wAl := (wAl_in (List.mem_append_right _ (List.mem_append_right _ (List.mem_of_getElem? (i := 44) (by decide +kernel)))) (by decide +kernel))
theorem lk_Mo_19 : Cond.fieldLink R_Mo 19 R_Mo (F_Mo 4).2.1 (F_Mo 4).2.2.1 ∈ wAl := (wAl_in (List.mem_append_right _ (List.mem_append_right _ (List.mem_of_getElem? (i := 45) (by decide +kernel)))) (by decide +kernel))
theorem lk_Mo_22 : Cond.fieldLink R_Mo 22 R_Mo (F_Mo 5).2.1 (F_Mo 5).2.2.1 ∈ wAl := (wAl_in (List.mem_append_right _ (List.mem_append_right _ (List.mem_of_getElem? (i := 46) (by decide +kernel)))) (by decide +kernel))
theorem lk_Mo_25 : Cond.fieldLink R_Mo 25 R_Mo (F_Mo 6).2.1 (F_Mo 6).2.2.1 ∈ wAl := (wAl_in (List.mem_append_right _ (List.mem_append_right _ (List.mem_of_getElem? (i := 47) (by decide +kernel)))) (by decide +kernel))
theorem lk_Mo_28 : Cond.fieldLink R_Mo 28 R_Mo (F_Mo 7).2.1 (F_Mo 7).2.2.1 ∈ wAl := (wAl_in (List.mem_append_right _ (List.mem_append_right _ (List.mem_of_getElem? (i := 48) (by decide +kernel)))) (by decide +kernel))
theorem lk_Mo_31 : Cond.fieldLink R_Mo 31 R_Mo (F_Mo 8).2.1 (F_Mo 8).2.2.1 ∈ wAl := (wAl_in (List.mem_append_right _ (List.mem_append_right _ (List.mem_of_getElem? (i := 49) (by decide +kernel)))) (by decide +kernel))
theorem lk_Mo_34 : Cond.fieldLink R_Mo 34 R_Mo (F_Mo 9).2.1 (F_Mo 9).2.2.1 ∈ wAl := (wAl_in (List.mem_append_right _ (List.mem_append_right _ (List.mem_of_getElem? (i := 50) (by decide +kernel)))) (by decide +kernel))
theorem lk_Mo_37 : Cond.fieldLink R_Mo 37 R_Mo (F_Mo 10).2.1 (F_Mo 10).2.2.1 ∈ wAl := (wAl_in (List.mem_append_right _ (List.mem_append_right _ (List.mem_of_getElem? (i := 51) (by decide +kernel)))) (by decide +kernel))
theorem lk_Mo_40 : Cond.fieldLink R_Mo 40 R_Mo (F_Mo 11).2.1 (F_Mo 11).2.2.1 ∈ wAl := (wAl_in (List.mem_append_right _ (List.mem_append_right _ (List.mem_of_getElem? (i := 52) (by decide +kernel)))) (by decide +kernel))
theorem lk_Mo_43 : Cond.fieldLink R_Mo 43 R_Mo (F_Mo 0).2.1 (F_Mo 0).2.2.1 ∈ wAl := (wAl_in (List.mem_append_right _ (List.mem_append_right _ (List.mem_of_getElem? (i := 41) (by decide +kernel)))) (by decide +kernel))
theorem lk_Mo_7 : Cond.fieldLink R_Mo 7 R_Mo (F_Mo 1).2.1 (F_Mo 1).2.2.1 ∈ wAl := (wAl_in (List.mem_append_right _ (List.mem_append_right _ (List.mem_of_getElem? (i := 42) (by decide +kernel)))) (by decide +kernel))
theorem g_Me_17 : GoodIn wAl (wsV R_Me 17 R_Me y_Me_isFull (Cond.code y_Me_isFull b_Me_isFull 1 (some .boolean) :: wAl)) := wAl_V wc_Me_isFull (wAl_in (List.mem_append_right _ (List.mem_append_left _ (List.mem_of_getElem? (i := 176) (by decide +kernel)))) (by decide +kernel)) wn_Me_isFull wv_Me_isFull wi_Me
theorem g_Tr_34 : GoodIn wAl (wsV R_Tr 34 R_Tr y_Tr_leftPlaceFor (Cond.code y_Tr_leftPlaceFor b_Tr_leftPlaceFor 3 (some .int) :: wAl)) := wAl_V wc_Tr_leftPlaceFor (wAl_in (List.mem_append_right _ (List.mem_append_left _ (List.mem_of_getElem? (i := 143) (by decide +kernel)))) (by decide +kernel)) wn_Tr_leftPlaceFor wv_Tr_leftPlaceFor wi_Tr
theorem g_Tr_38 : GoodIn wAl (wsV R_Tr 38 R_Tr y_Tr_rightPlaceFor (Cond.code y_Tr_rightPlaceFor b_Tr_rightPlaceFor 3 (some .int) :: wAl)) := wAl_V wc_Tr_rightPlaceFor (wAl_in (List.mem_append_right _ (List.mem_append_left _ (List.mem_of_getElem? (i := 159) (by decide +kernel)))) (by decide +kernel)) wn_Tr_rightPlaceFor wv_Tr_rightPlaceFor wi_Tr
theorem g_Tr_41 : GoodIn wAl (wsV R_Tr 41 R_Tr y_Tr_placeOf (Cond.code y_Tr_placeOf b_Tr_placeOf 3 (some .int) :: wAl)) := wAl_V wc_Tr_placeOf (wAl_in (List.mem_append_right _ (List.mem_append_left _ (List.mem_of_getElem? (i := 131) (by decide +kernel)))) (by decide +kernel)) wn_Tr_placeOf wv_Tr_placeOf wi_Tr
theorem g_Tr_44 : GoodIn wAl (wsV R_Tr 44 R_Tr y_Tr_isBeforeBranchOf (Cond.code y_Tr_isBeforeBranchOf b_Tr_isBeforeBranchOf 4 (some .boolean) :: wAl)) := wAl_V wc_Tr_isBeforeBranchOf (wAl_in (List.mem_append_right _ (List.mem_append_left _ (List.mem_of_getElem? (i := 147) (by decide +kernel)))) (by decide +kernel)) wn_Tr_isBeforeBranchOf wv_Tr_isBeforeBranchOf wi_Tr
theorem g_Tr_48 : GoodIn wAl (wsV R_Tr 48 R_Tr y_Tr_placeBehind (Cond.code y_Tr_placeBehind b_Tr_placeBehind 2 (some .int) :: wAl)) := wAl_V wc_Tr_placeBehind (wAl_in (List.mem_append_right _ (List.mem_append_left _ (List.mem_of_getElem? (i := 163) (by decide +kernel)))) (by decide +kernel)) wn_Tr_placeBehind wv_Tr_placeBehind wi_Tr
theorem g_Tr_51 : GoodIn wAl (wsV R_Tr 51 R_Tr y_Tr_isBehindBranchOf (Cond.code y_Tr_isBehindBranchOf b_Tr_isBehindBranchOf 4 (some .boolean) :: wAl)) := wAl_V wc_Tr_isBehindBranchOf (wAl_in (List.mem_append_right _ (List.mem_append_left _ (List.mem_of_getElem? (i := 164) (by decide +kernel)))) (by decide +kernel)) wn_Tr_isBehindBranchOf wv_Tr_isBehindBranchOf wi_Tr
theorem g_Tr_54 : GoodIn wAl (wsV R_Tr 54 R_Tr y_Tr_branchOf (Cond.code y_Tr_branchOf b_Tr_branchOf 5 (some .int) :: wAl)) := wAl_V wc_Tr_branchOf (wAl_in (List.mem_append_right _ (List.mem_append_left _ (List.mem_of_getElem? (i := 151) (by decide +kernel)))) (by decide +kernel)) wn_Tr_branchOf wv_Tr_branchOf wi_Tr
theorem g_Tr_58 : GoodIn wAl (wsV R_Tr 58 R_Tr y_Tr_isSiblingBefore (Cond.code y_Tr_isSiblingBefore b_Tr_isSiblingBefore 5 (some .boolean) :: wAl)) := wAl_V wc_Tr_isSiblingBefore (wAl_in (List.mem_append_right _ (List.mem_append_left _ (List.mem_of_getElem? (i := 155) (by decide +kernel)))) (by decide +kernel)) wn_Tr_isSiblingBefore wv_Tr_isSiblingBefore wi_Tr
theorem g_St_112 : GoodIn wAl (wsV R_St 112 R_Tr y_Tr_countAbove (Cond.code y_Tr_countAbove b_Tr_countAbove 4 (some .int) :: wAl)) := wAl_V wc_Tr_countAbove (wAl_in (List.mem_append_right _ (List.mem_append_right _ (List.mem_of_getElem? (i := 27) (by decide +kernel)))) (by decide +kernel)) wn_Tr_countAbove wv_Tr_countAbove wi_Tr
theorem g_St_118 : GoodIn wAl (wsV R_St 118 R_St y_St_nextBehind (Cond.code y_St_nextBehind b_St_nextBehind 4 (some .int) :: wAl)) := wAl_V wc_St_nextBehind (wAl_in (List.mem_append_right _ (List.mem_append_left _ (List.mem_of_getElem? (i := 123) (by decide +kernel)))) (by decide +kernel)) wn_St_nextBehind wv_St_nextBehind wi_St
theorem g_St_121 : GoodIn wAl (wsV R_St 121 R_St y_St_hasRightChild (Cond.code y_St_hasRightChild b_St_hasRightChild 4 (some .boolean) :: wAl)) := wAl_V wc_St_hasRightChild (wAl_in (List.mem_append_right _ (List.mem_append_left _ (List.mem_of_getElem? (i := 135) (by decide +kernel)))) (by decide +kernel)) wn_St_hasRightChild wv_St_hasRightChild wi_St
theorem g_St_124 : GoodIn wAl (wsV R_St 124 R_Tr y_Tr_add (Cond.code y_Tr_add b_Tr_add 9 (some .int) :: wAl)) := wAl_V wc_Tr_add (wAl_in (List.mem_append_right _ (List.mem_append_left _ (List.mem_of_getElem? (i := 139) (by decide +kernel)))) (by decide +kernel)) wn_Tr_add wv_Tr_add wi_Tr
theorem g_St_127 : GoodIn wAl (wsV R_St 127 R_Tr y_Tr_placeBehind (Cond.code y_Tr_placeBehind b_Tr_placeBehind 2 (some .int) :: wAl)) := wAl_V wc_Tr_placeBehind (wAl_in (List.mem_append_right _ (List.mem_append_left _ (List.mem_of_getElem? (i := 127) (by decide +kernel)))) (by decide +kernel)) wn_Tr_placeBehind wv_Tr_placeBehind wi_Tr
theorem g_St_130 : GoodIn wAl (wsV R_St 130 R_Me y_Me_isFull (Cond.code y_Me_isFull b_Me_isFull 1 (some .boolean) :: wAl)) := wAl_V wc_Me_isFull (wAl_in (List.mem_append_right _ (List.mem_append_left _ (List.mem_of_getElem? (i := 111) (by decide +kernel)))) (by decide +kernel)) wn_Me_isFull wv_Me_isFull wi_Me
theorem g_St_131 : GoodIn wAl (wsS R_St 131 y_St_isErasing (Cond.code y_St_isErasing b_St_isErasing 1 (some .boolean) :: wAl)) := wAl_S wc_St_isErasing (wAl_in (List.mem_append_right _ (List.mem_append_left _ (List.mem_of_getElem? (i := 197) (by decide +kernel)))) (by decide +kernel)) wt_St_isErasing wi_St
theorem g_St_134 : GoodIn wAl (wsV R_St 134 R_Re y_Re_isSettled (Cond.code y_Re_isSettled b_Re_isSettled 2 (some .boolean) :: wAl)) := wAl_V wc_Re_isSettled (wAl_in (List.mem_append_right _ (List.mem_append_left _ (List.mem_of_getElem? (i := 200) (by decide +kernel)))) (by decide +kernel)) wn_Re_isSettled wv_Re_isSettled wi_Re
theorem g_St_137 : GoodIn wAl (wsV R_St 137 R_St y_St_firstReady (Cond.code y_St_firstReady b_St_firstReady 3 (some .int) :: wAl)) := wAl_V wc_St_firstReady (wAl_in (List.mem_append_right _ (List.mem_append_left _ (List.mem_of_getElem? (i := 211) (by decide +kernel)))) (by decide +kernel)) wn_St_firstReady wv_St_firstReady wi_St
theorem g_St_23 : GoodIn wAl (wsS R_St 23 y_St_isReplica (Cond.code y_St_isReplica b_St_isReplica 1 (some .boolean) :: wAl)) := wAl_S wc_St_isReplica (wAl_in (List.mem_append_right _ (List.mem_append_left _ (List.mem_of_getElem? (i := 96) (by decide +kernel)))) (by decide +kernel)) wt_St_isReplica wi_St
theorem g_St_27 : GoodIn wAl (wsV R_St 27 R_St y_St_countMarked (Cond.code y_St_countMarked b_St_countMarked 5 (some .int) :: wAl)) := wAl_V wc_St_countMarked (wAl_in (List.mem_append_right _ (List.mem_append_left _ (List.mem_of_getElem? (i := 99) (by decide +kernel)))) (by decide +kernel)) wn_St_countMarked wv_St_countMarked wi_St
theorem g_St_31 : GoodIn wAl (wsV R_St 31 R_Tr y_Tr_isFull (Cond.code y_Tr_isFull b_Tr_isFull 1 (some .boolean) :: wAl)) := wAl_V wc_Tr_isFull (wAl_in (List.mem_append_right _ (List.mem_append_left _ (List.mem_of_getElem? (i := 103) (by decide +kernel)))) (by decide +kernel)) wn_Tr_isFull wv_Tr_isFull wi_Tr
theorem g_St_35 : GoodIn wAl (wsV R_St 35 R_St y_St_isOtherTrayFull (Cond.code y_St_isOtherTrayFull b_St_isOtherTrayFull 3 (some .boolean) :: wAl)) := wAl_V wc_St_isOtherTrayFull (wAl_in (List.mem_append_right _ (List.mem_append_left _ (List.mem_of_getElem? (i := 107) (by decide +kernel)))) (by decide +kernel)) wn_St_isOtherTrayFull wv_St_isOtherTrayFull wi_St
theorem g_St_38 : GoodIn wAl (wsV R_St 38 R_St y_St_shownAt (Cond.code y_St_shownAt b_St_shownAt 6 (some .int) :: wAl)) := wAl_V wc_St_shownAt (wAl_in (List.mem_append_right _ (List.mem_append_left _ (List.mem_of_getElem? (i := 115) (by decide +kernel)))) (by decide +kernel)) wn_St_shownAt wv_St_shownAt wi_St
theorem g_St_41 : GoodIn wAl (wsV R_St 41 R_St y_St_makeBehind (Cond.code y_St_makeBehind b_St_makeBehind 6 (some .int) :: wAl)) := wAl_V wc_St_makeBehind (wAl_in (List.mem_append_right _ (List.mem_append_left _ (List.mem_of_getElem? (i := 119) (by decide +kernel)))) (by decide +kernel)) wn_St_makeBehind wv_St_makeBehind wi_St
theorem g_St_49 : GoodIn wAl (wsV R_St 49 R_St y_St_send (Cond.code y_St_send b_St_send 4 none :: wAl)) := wAl_V wc_St_send (wAl_in (List.mem_append_right _ (List.mem_append_left _ (List.mem_of_getElem? (i := 168) (by decide +kernel)))) (by decide +kernel)) wn_St_send wv_St_send wi_St
theorem g_St_57 : GoodIn wAl (wsV R_St 57 R_Me y_Me_has (Cond.code y_Me_has b_Me_has 2 (some .boolean) :: wAl)) := wAl_V wc_Me_has (wAl_in (List.mem_append_right _ (List.mem_append_left _ (List.mem_of_getElem? (i := 185) (by decide +kernel)))) (by decide +kernel)) wn_Me_has wv_Me_has wi_Me
theorem g_St_62 : GoodIn wAl (wsV R_St 62 R_Me y_Me_take (Cond.code y_Me_take b_Me_take 4 (some .int) :: wAl)) := wAl_V wc_Me_take (wAl_in (List.mem_append_right _ (List.mem_append_left _ (List.mem_of_getElem? (i := 189) (by decide +kernel)))) (by decide +kernel)) wn_Me_take wv_Me_take wi_Me
theorem g_St_66 : GoodIn wAl (wsV R_St 66 R_St y_St_isReady (Cond.code y_St_isReady b_St_isReady 3 (some .boolean) :: wAl)) := wAl_V wc_St_isReady (wAl_in (List.mem_append_right _ (List.mem_append_left _ (List.mem_of_getElem? (i := 193) (by decide +kernel)))) (by decide +kernel)) wn_St_isReady wv_St_isReady wi_St
theorem g_St_73 : GoodIn wAl (wsV R_St 73 R_Me y_Me_add (Cond.code y_Me_add b_Me_add 2 none :: wAl)) := wAl_V wc_Me_add (wAl_in (List.mem_append_right _ (List.mem_append_left _ (List.mem_of_getElem? (i := 172) (by decide +kernel)))) (by decide +kernel)) wn_Me_add wv_Me_add wi_Me
theorem g_St_77 : GoodIn wAl (wsS R_St 77 y_St_takeEffect (Cond.code y_St_takeEffect b_St_takeEffect 2 none :: wAl)) := wAl_S wc_St_takeEffect (wAl_in (List.mem_append_right _ (List.mem_append_left _ (List.mem_of_getElem? (i := 204) (by decide +kernel)))) (by decide +kernel)) wt_St_takeEffect wi_St
theorem g_St_81 : GoodIn wAl (wsV R_St 81 R_St y_St_wakeWaiting (Cond.code y_St_wakeWaiting b_St_wakeWaiting 5 (some .int) :: wAl)) := wAl_V wc_St_wakeWaiting (wAl_in (List.mem_append_right _ (List.mem_append_left _ (List.mem_of_getElem? (i := 207) (by decide +kernel)))) (by decide +kernel)) wn_St_wakeWaiting wv_St_wakeWaiting wi_St
theorem g_St_85 : GoodIn wAl (wsV R_St 85 R_St y_St_orderedAt (Cond.code y_St_orderedAt b_St_orderedAt 6 (some .int) :: wAl)) := wAl_V wc_St_orderedAt (wAl_in (List.mem_append_right _ (List.mem_append_left _ (List.mem_of_getElem? (i := 227) (by decide +kernel)))) (by decide +kernel)) wn_St_orderedAt wv_St_orderedAt wi_St
theorem g_St_88 : GoodIn wAl (wsV R_St 88 R_Tr y_Tr_has (Cond.code y_Tr_has b_Tr_has 2 (some .boolean) :: wAl)) := wAl_V wc_Tr_has (wAl_in (List.mem_append_right _ (List.mem_append_left _ (List.mem_of_getElem? (i := 239) (by decide +kernel)))) (by decide +kernel)) wn_Tr_has wv_Tr_has wi_Tr
theorem g_La_13 : GoodIn wAl (wsV R_La 13 R_St y_St_insert (Cond.code y_St_insert b_St_insert 6 (some .int) :: wAl)) := wAl_V wc_St_insert (wAl_in (List.mem_append_right _ (List.mem_append_left _ (List.mem_of_getElem? (i := 92) (by decide +kernel)))) (by decide +kernel)) wn_St_insert wv_St_insert wi_St
theorem g_La_17 : GoodIn wAl (wsV R_La 17 R_Mo y_Mo_insert (Cond.code y_Mo_insert b_Mo_insert 10 (some .int) :: wAl)) := wAl_V wc_Mo_insert (wAl_in (List.mem_append_right _ (List.mem_append_right _ (List.mem_of_getElem? (i := 105) (by decide +kernel)))) (by decide +kernel)) wn_Mo_insert wv_Mo_insert wi_Mo
theorem g_La_18 : GoodIn wAl (wsV R_La 18 R_St y_St_erase (Cond.code y_St_erase b_St_erase 5 (some .int) :: wAl)) := wAl_V wc_St_erase (wAl_in (List.mem_append_right _ (List.mem_append_left _ (List.mem_of_getElem? (i := 177) (by decide +kernel)))) (by decide +kernel)) wn_St_erase wv_St_erase wi_St
theorem g_La_22 : GoodIn wAl (wsV R_La 22 R_Mo y_Mo_erase (Cond.code y_Mo_erase b_Mo_erase 4 (some .int) :: wAl)) := wAl_V wc_Mo_erase (wAl_in (List.mem_append_right _ (List.mem_append_right _ (List.mem_of_getElem? (i := 157) (by decide +kernel)))) (by decide +kernel)) wn_Mo_erase wv_Mo_erase wi_Mo
theorem g_La_23 : GoodIn wAl (wsV R_La 23 R_St y_St_deliver (Cond.code y_St_deliver b_St_deliver 5 (some .int) :: wAl)) := wAl_V wc_St_deliver (wAl_in (List.mem_append_right _ (List.mem_append_left _ (List.mem_of_getElem? (i := 181) (by decide +kernel)))) (by decide +kernel)) wn_St_deliver wv_St_deliver wi_St
theorem g_La_26 : GoodIn wAl (wsV R_La 26 R_Mo y_Mo_deliver (Cond.code y_Mo_deliver b_Mo_deliver 5 (some .int) :: wAl)) := wAl_V wc_Mo_deliver (wAl_in (List.mem_append_right _ (List.mem_append_right _ (List.mem_of_getElem? (i := 78) (by decide +kernel)))) (by decide +kernel)) wn_Mo_deliver wv_Mo_deliver wi_Mo
theorem g_La_27 : GoodIn wAl (wsV R_La 27 R_St y_St_length (Cond.code y_St_length b_St_length 2 (some .int) :: wAl)) := wAl_V wc_St_length (wAl_in (List.mem_append_right _ (List.mem_append_left _ (List.mem_of_getElem? (i := 215) (by decide +kernel)))) (by decide +kernel)) wn_St_length wv_St_length wi_St
theorem g_La_31 : GoodIn wAl (wsV R_La 31 R_Mo y_Mo_length (Cond.code y_Mo_length b_Mo_length 2 (some .int) :: wAl)) := wAl_V wc_Mo_length (wAl_in (List.mem_append_right _ (List.mem_append_right _ (List.mem_of_getElem? (i := 161) (by decide +kernel)))) (by decide +kernel)) wn_Mo_length wv_Mo_length wi_Mo
theorem g_La_32 : GoodIn wAl (wsV R_La 32 R_St y_St_shown (Cond.code y_St_shown b_St_shown 3 (some .int) :: wAl)) := wAl_V wc_St_shown (wAl_in (List.mem_append_right _ (List.mem_append_left _ (List.mem_of_getElem? (i := 219) (by decide +kernel)))) (by decide +kernel)) wn_St_shown wv_St_shown wi_St
theorem g_La_35 : GoodIn wAl (wsV R_La 35 R_Mo y_Mo_shown (Cond.code y_Mo_shown b_Mo_shown 3 (some .int) :: wAl)) := wAl_V wc_Mo_shown (wAl_in (List.mem_append_right _ (List.mem_append_right _ (List.mem_of_getElem? (i := 165) (by decide +kernel)))) (by decide +kernel)) wn_Mo_shown wv_Mo_shown wi_Mo
theorem g_La_36 : GoodIn wAl (wsV R_La 36 R_St y_St_ordered (Cond.code y_St_ordered b_St_ordered 3 (some .int) :: wAl)) := wAl_V wc_St_ordered (wAl_in (List.mem_append_right _ (List.mem_append_left _ (List.mem_of_getElem? (i := 223) (by decide +kernel)))) (by decide +kernel)) wn_St_ordered wv_St_ordered wi_St
theorem g_La_39 : GoodIn wAl (wsV R_La 39 R_Mo y_Mo_ordered (Cond.code y_Mo_ordered b_Mo_ordered 3 (some .int) :: wAl)) := wAl_V wc_Mo_ordered (wAl_in (List.mem_append_right _ (List.mem_append_right _ (List.mem_of_getElem? (i := 169) (by decide +kernel)))) (by decide +kernel)) wn_Mo_ordered wv_Mo_ordered wi_Mo
theorem g_La_40 : GoodIn wAl (wsV R_La 40 R_St y_St_known (Cond.code y_St_known b_St_known 3 (some .int) :: wAl)) := wAl_V wc_St_known (wAl_in (List.mem_append_right _ (List.mem_append_left _ (List.mem_of_getElem? (i := 231) (by decide +kernel)))) (by decide +kernel)) wn_St_known wv_St_known wi_St
theorem g_La_43 : GoodIn wAl (wsV R_La 43 R_Mo y_Mo_known (Cond.code y_Mo_known b_Mo_known 2 (some .int) :: wAl)) := wAl_V wc_Mo_known (wAl_in (List.mem_append_right _ (List.mem_append_right _ (List.mem_of_getElem? (i := 173) (by decide +kernel)))) (by decide +kernel)) wn_Mo_known wv_Mo_known wi_Mo
theorem g_La_44 : GoodIn wAl (wsV R_La 44 R_St y_St_state (Cond.code y_St_state b_St_state 3 (some .int) :: wAl)) := wAl_V wc_St_state (wAl_in (List.mem_append_right _ (List.mem_append_left _ (List.mem_of_getElem? (i := 235) (by decide +kernel)))) (by decide +kernel)) wn_St_state wv_St_state wi_St
theorem g_La_47 : GoodIn wAl (wsV R_La 47 R_Mo y_Mo_state (Cond.code y_Mo_state b_Mo_state 3 (some .int) :: wAl)) := wAl_V wc_Mo_state (wAl_in (List.mem_append_right _ (List.mem_append_right _ (List.mem_of_getElem? (i := 177) (by decide +kernel)))) (by decide +kernel)) wn_Mo_state wv_Mo_state wi_Mo
theorem g_La_48 : GoodIn wAl (wsV R_La 48 R_St y_St_tray (Cond.code y_St_tray b_St_tray 2 (some .int) :: wAl)) := wAl_V wc_St_tray (wAl_in (List.mem_append_right _ (List.mem_append_right _ (List.mem_of_getElem? (i := 3) (by decide +kernel)))) (by decide +kernel)) wn_St_tray wv_St_tray wi_St
theorem g_La_51 : GoodIn wAl (wsV R_La 51 R_Mo y_Mo_tray (Cond.code y_Mo_tray b_Mo_tray 2 (some .int) :: wAl)) := wAl_V wc_Mo_tray (wAl_in (List.mem_append_right _ (List.mem_append_right _ (List.mem_of_getElem? (i := 185) (by decide +kernel)))) (by decide +kernel)) wn_Mo_tray wv_Mo_tray wi_Mo
theorem g_La_52 : GoodIn wAl (wsV R_La 52 R_St y_St_waiting (Cond.code y_St_waiting b_St_waiting 2 (some .int) :: wAl)) := wAl_V wc_St_waiting (wAl_in (List.mem_append_right _ (List.mem_append_right _ (List.mem_of_getElem? (i := 7) (by decide +kernel)))) (by decide +kernel)) wn_St_waiting wv_St_waiting wi_St
theorem g_La_55 : GoodIn wAl (wsV R_La 55 R_Mo y_Mo_waiting (Cond.code y_Mo_waiting b_Mo_waiting 2 (some .int) :: wAl)) := wAl_V wc_Mo_waiting (wAl_in (List.mem_append_right _ (List.mem_append_right _ (List.mem_of_getElem? (i := 189) (by decide +kernel)))) (by decide +kernel)) wn_Mo_waiting wv_Mo_waiting wi_Mo
theorem g_La_56 : GoodIn wAl (wsV R_La 56 R_St y_St_message (Cond.code y_St_message b_St_message 4 (some .int) :: wAl)) := wAl_V wc_St_message (wAl_in (List.mem_append_right _ (List.mem_append_right _ (List.mem_of_getElem? (i := 11) (by decide +kernel)))) (by decide +kernel)) wn_St_message wv_St_message wi_St
theorem g_La_59 : GoodIn wAl (wsV R_La 59 R_Mo y_Mo_message (Cond.code y_Mo_message b_Mo_message 3 (some .int) :: wAl)) := wAl_V wc_Mo_message (wAl_in (List.mem_append_right _ (List.mem_append_right _ (List.mem_of_getElem? (i := 193) (by decide +kernel)))) (by decide +kernel)) wn_Mo_message wv_Mo_message wi_Mo
theorem g_La_60 : GoodIn wAl (wsV R_La 60 R_St y_St_made (Cond.code y_St_made b_St_made 1 (some .int) :: wAl)) := wAl_V wc_St_made (wAl_in (List.mem_append_right _ (List.mem_append_right _ (List.mem_of_getElem? (i := 15) (by decide +kernel)))) (by decide +kernel)) wn_St_made wv_St_made wi_St
theorem g_La_64 : GoodIn wAl (wsV R_La 64 R_Mo y_Mo_made (Cond.code y_Mo_made b_Mo_made 1 (some .int) :: wAl)) := wAl_V wc_Mo_made (wAl_in (List.mem_append_right _ (List.mem_append_right _ (List.mem_of_getElem? (i := 197) (by decide +kernel)))) (by decide +kernel)) wn_Mo_made wv_Mo_made wi_Mo
theorem g_La_65 : GoodIn wAl (wsV R_La 65 R_St y_St_about (Cond.code y_St_about b_St_about 3 (some .int) :: wAl)) := wAl_V wc_St_about (wAl_in (List.mem_append_right _ (List.mem_append_right _ (List.mem_of_getElem? (i := 19) (by decide +kernel)))) (by decide +kernel)) wn_St_about wv_St_about wi_St
theorem g_La_68 : GoodIn wAl (wsV R_La 68 R_Mo y_Mo_about (Cond.code y_Mo_about b_Mo_about 3 (some .int) :: wAl)) := wAl_V wc_Mo_about (wAl_in (List.mem_append_right _ (List.mem_append_right _ (List.mem_of_getElem? (i := 201) (by decide +kernel)))) (by decide +kernel)) wn_Mo_about wv_Mo_about wi_Mo
theorem g_La_69 : GoodIn wAl (wsV R_La 69 R_St y_St_depth (Cond.code y_St_depth b_St_depth 2 (some .int) :: wAl)) := wAl_V wc_St_depth (wAl_in (List.mem_append_right _ (List.mem_append_right _ (List.mem_of_getElem? (i := 23) (by decide +kernel)))) (by decide +kernel)) wn_St_depth wv_St_depth wi_St
theorem g_La_72 : GoodIn wAl (wsV R_La 72 R_Mo y_Mo_depth (Cond.code y_Mo_depth b_Mo_depth 4 (some .int) :: wAl)) := wAl_V wc_Mo_depth (wAl_in (List.mem_append_right _ (List.mem_append_right _ (List.mem_of_getElem? (i := 205) (by decide +kernel)))) (by decide +kernel)) wn_Mo_depth wv_Mo_depth wi_Mo
theorem g_La_73 : GoodIn wAl (wsV R_La 73 R_St y_St_differ (Cond.code y_St_differ b_St_differ 4 (some .int) :: wAl)) := wAl_V wc_St_differ (wAl_in (List.mem_append_right _ (List.mem_append_right _ (List.mem_of_getElem? (i := 31) (by decide +kernel)))) (by decide +kernel)) wn_St_differ wv_St_differ wi_St
theorem g_La_76 : GoodIn wAl (wsV R_La 76 R_Mo y_Mo_differ (Cond.code y_Mo_differ b_Mo_differ 6 (some .int) :: wAl)) := wAl_V wc_Mo_differ (wAl_in (List.mem_append_right _ (List.mem_append_right _ (List.mem_of_getElem? (i := 209) (by decide +kernel)))) (by decide +kernel)) wn_Mo_differ wv_Mo_differ wi_Mo
theorem g_Mo_102 : GoodIn wAl (wsV R_Mo 102 R_Mo y_Mo_home (Cond.code y_Mo_home b_Mo_home 6 (some .int) :: wAl)) := wAl_V wc_Mo_home (wAl_in (List.mem_append_right _ (List.mem_append_right _ (List.mem_of_getElem? (i := 133) (by decide +kernel)))) (by decide +kernel)) wn_Mo_home wv_Mo_home wi_Mo
theorem g_Mo_105 : GoodIn wAl (wsV R_Mo 105 R_Mo y_Mo_send (Cond.code y_Mo_send b_Mo_send 4 none :: wAl)) := wAl_V wc_Mo_send (wAl_in (List.mem_append_right _ (List.mem_append_right _ (List.mem_of_getElem? (i := 153) (by decide +kernel)))) (by decide +kernel)) wn_Mo_send wv_Mo_send wi_Mo
theorem g_Mo_108 : GoodIn wAl (wsV R_Mo 108 R_Mo y_Mo_isElement (Cond.code y_Mo_isElement b_Mo_isElement 2 (some .boolean) :: wAl)) := wAl_V wc_Mo_isElement (wAl_in (List.mem_append_right _ (List.mem_append_right _ (List.mem_of_getElem? (i := 181) (by decide +kernel)))) (by decide +kernel)) wn_Mo_isElement wv_Mo_isElement wi_Mo
theorem g_Mo_47 : GoodIn wAl (wsV R_Mo 47 R_Mo y_Mo_below (Cond.code y_Mo_below b_Mo_below 4 (some .boolean) :: wAl)) := wAl_V wc_Mo_below (wAl_in (List.mem_append_right _ (List.mem_append_right _ (List.mem_of_getElem? (i := 141) (by decide +kernel)))) (by decide +kernel)) wn_Mo_below wv_Mo_below wi_Mo
theorem g_Mo_51 : GoodIn wAl (wsV R_Mo 51 R_Mo y_Mo_placeOf (Cond.code y_Mo_placeOf b_Mo_placeOf 3 (some .int) :: wAl)) := wAl_V wc_Mo_placeOf (wAl_in (List.mem_append_right _ (List.mem_append_right _ (List.mem_of_getElem? (i := 125) (by decide +kernel)))) (by decide +kernel)) wn_Mo_placeOf wv_Mo_placeOf wi_Mo
theorem g_Mo_55 : GoodIn wAl (wsV R_Mo 55 R_Mo y_Mo_end (Cond.code y_Mo_end b_Mo_end 4 (some .int) :: wAl)) := wAl_V wc_Mo_end (wAl_in (List.mem_append_right _ (List.mem_append_right _ (List.mem_of_getElem? (i := 137) (by decide +kernel)))) (by decide +kernel)) wn_Mo_end wv_Mo_end wi_Mo
theorem g_Mo_58 : GoodIn wAl (wsV R_Mo 58 R_Mo y_Mo_ahead (Cond.code y_Mo_ahead b_Mo_ahead 5 (some .boolean) :: wAl)) := wAl_V wc_Mo_ahead (wAl_in (List.mem_append_right _ (List.mem_append_right _ (List.mem_of_getElem? (i := 145) (by decide +kernel)))) (by decide +kernel)) wn_Mo_ahead wv_Mo_ahead wi_Mo
theorem g_Mo_61 : GoodIn wAl (wsV R_Mo 61 R_Mo y_Mo_begin (Cond.code y_Mo_begin b_Mo_begin 3 (some .int) :: wAl)) := wAl_V wc_Mo_begin (wAl_in (List.mem_append_right _ (List.mem_append_right _ (List.mem_of_getElem? (i := 149) (by decide +kernel)))) (by decide +kernel)) wn_Mo_begin wv_Mo_begin wi_Mo
theorem g_Mo_64 : GoodIn wAl (wsV R_Mo 64 R_Mo y_Mo_state0 (Cond.code y_Mo_state0 b_Mo_state0 3 (some .int) :: wAl)) := wAl_V wc_Mo_state0 (wAl_in (List.mem_append_right _ (List.mem_append_right _ (List.mem_of_getElem? (i := 93) (by decide +kernel)))) (by decide +kernel)) wn_Mo_state0 wv_Mo_state0 wi_Mo
theorem g_Mo_68 : GoodIn wAl (wsV R_Mo 68 R_Mo y_Mo_known0 (Cond.code y_Mo_known0 b_Mo_known0 3 (some .boolean) :: wAl)) := wAl_V wc_Mo_known0 (wAl_in (List.mem_append_right _ (List.mem_append_right _ (List.mem_of_getElem? (i := 89) (by decide +kernel)))) (by decide +kernel)) wn_Mo_known0 wv_Mo_known0 wi_Mo
theorem g_Mo_71 : GoodIn wAl (wsV R_Mo 71 R_Mo y_Mo_ready (Cond.code y_Mo_ready b_Mo_ready 3 (some .boolean) :: wAl)) := wAl_V wc_Mo_ready (wAl_in (List.mem_append_right _ (List.mem_append_right _ (List.mem_of_getElem? (i := 85) (by decide +kernel)))) (by decide +kernel)) wn_Mo_ready wv_Mo_ready wi_Mo
theorem g_Mo_74 : GoodIn wAl (wsV R_Mo 74 R_Mo y_Mo_effect (Cond.code y_Mo_effect b_Mo_effect 4 none :: wAl)) := wAl_V wc_Mo_effect (wAl_in (List.mem_append_right _ (List.mem_append_right _ (List.mem_of_getElem? (i := 97) (by decide +kernel)))) (by decide +kernel)) wn_Mo_effect wv_Mo_effect wi_Mo
theorem g_Mo_78 : GoodIn wAl (wsS R_Mo 78 y_Mo_isReplica (Cond.code y_Mo_isReplica b_Mo_isReplica 1 (some .boolean) :: wAl)) := wAl_S wc_Mo_isReplica (wAl_in (List.mem_append_right _ (List.mem_append_right _ (List.mem_of_getElem? (i := 82) (by decide +kernel)))) (by decide +kernel)) wt_Mo_isReplica wi_Mo
theorem g_Mo_82 : GoodIn wAl (wsV R_Mo 82 R_Mo y_Mo_wake (Cond.code y_Mo_wake b_Mo_wake 5 (some .boolean) :: wAl)) := wAl_V wc_Mo_wake (wAl_in (List.mem_append_right _ (List.mem_append_right _ (List.mem_of_getElem? (i := 101) (by decide +kernel)))) (by decide +kernel)) wn_Mo_wake wv_Mo_wake wi_Mo
theorem g_Mo_85 : GoodIn wAl (wsV R_Mo 85 R_Mo y_Mo_many (Cond.code y_Mo_many b_Mo_many 6 (some .int) :: wAl)) := wAl_V wc_Mo_many (wAl_in (List.mem_append_right _ (List.mem_append_right _ (List.mem_of_getElem? (i := 109) (by decide +kernel)))) (by decide +kernel)) wn_Mo_many wv_Mo_many wi_Mo
theorem g_Mo_89 : GoodIn wAl (wsV R_Mo 89 R_Mo y_Mo_noRoom (Cond.code y_Mo_noRoom b_Mo_noRoom 4 (some .boolean) :: wAl)) := wAl_V wc_Mo_noRoom (wAl_in (List.mem_append_right _ (List.mem_append_right _ (List.mem_of_getElem? (i := 113) (by decide +kernel)))) (by decide +kernel)) wn_Mo_noRoom wv_Mo_noRoom wi_Mo
theorem g_Mo_92 : GoodIn wAl (wsV R_Mo 92 R_Mo y_Mo_nth (Cond.code y_Mo_nth b_Mo_nth 7 (some .int) :: wAl)) := wAl_V wc_Mo_nth (wAl_in (List.mem_append_right _ (List.mem_append_right _ (List.mem_of_getElem? (i := 117) (by decide +kernel)))) (by decide +kernel)) wn_Mo_nth wv_Mo_nth wi_Mo
theorem g_Mo_96 : GoodIn wAl (wsV R_Mo 96 R_Mo y_Mo_next (Cond.code y_Mo_next b_Mo_next 4 (some .int) :: wAl)) := wAl_V wc_Mo_next (wAl_in (List.mem_append_right _ (List.mem_append_right _ (List.mem_of_getElem? (i := 121) (by decide +kernel)))) (by decide +kernel)) wn_Mo_next wv_Mo_next wi_Mo
theorem g_Mo_99 : GoodIn wAl (wsV R_Mo 99 R_Mo y_Mo_hasRight (Cond.code y_Mo_hasRight b_Mo_hasRight 5 (some .boolean) :: wAl)) := wAl_V wc_Mo_hasRight (wAl_in (List.mem_append_right _ (List.mem_append_right _ (List.mem_of_getElem? (i := 129) (by decide +kernel)))) (by decide +kernel)) wn_Mo_hasRight wv_Mo_hasRight wi_Mo
