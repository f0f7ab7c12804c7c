-- CONTRACTS: SideTreeText's public methods (laid by gen/conC.py)
set_option maxHeartbeats 4000000 in
set_option maxRecDepth 100000 in
theorem c_St_length_b (l : Launch) (D : va_G) (cA cR : ClassId) (ad : Nat → Nat) (hI : wI ad) (V : Nat → Nat → Int32) (x : Int32) (hb : z_bad x) : wM l D cA cR ad y_St_length (Cond.code y_St_length b_St_length 2 (some .int) :: wAl) 1 24 [.ref (ad 0), .int x] V (some (.int (-1))) V := by
  refine wM_of hI (by decide) (Nat.le_of_ble_eq_true rfl) ?_
  intro X ls h hM hl
  have hl : lv_has ls 2 [(0, .ref (ad 0)), (1, .int x)] := hl
  refine r_iload_n h d_St_length_0 rfl (lv_at hl 1 rfl) ?_
  refine r_callSi h (n := 1) (As := [.int x]) (c_St_isReplica l D cA cR ad hI V x) g_St_23 (by decide +kernel) rfl ⟨by decide, by decide⟩ hl rfl (Nat.le_of_ble_eq_true rfl) d_St_length_1 ?_
  refine r_if_eq_t h 21 d_St_length_4 (by decide) (z_B_0.mpr hb) ?_
  refine r_iconst h (v := (-1)) d_St_length_21 (by decide) ?_
  exact r_iret h hM d_St_length_22 rfl rfl
set_option maxHeartbeats 4000000 in
set_option maxRecDepth 100000 in
theorem c_St_shown_b (l : Launch) (D : va_G) (cA cR : ClassId) (ad : Nat → Nat) (hI : wI ad) (V : Nat → Nat → Int32) (x : Int32) (hb : z_bad x) (i0 : Int32) : wM l D cA cR ad y_St_shown (Cond.code y_St_shown b_St_shown 3 (some .int) :: wAl) 1 25 [.ref (ad 0), .int x, .int i0] V (some (.int (-1))) V := by
  refine wM_of hI (by decide) (Nat.le_of_ble_eq_true rfl) ?_
  intro X ls h hM hl
  have hl : lv_has ls 3 [(0, .ref (ad 0)), (1, .int x), (2, .int i0)] := hl
  refine r_iload_n h d_St_shown_0 rfl (lv_at hl 1 rfl) ?_
  refine r_callSi h (n := 1) (As := [.int x]) (c_St_isReplica l D cA cR ad hI V x) g_St_23 (by decide +kernel) rfl ⟨by decide, by decide⟩ hl rfl (Nat.le_of_ble_eq_true rfl) d_St_shown_1 ?_
  refine r_if_eq_t h 21 d_St_shown_4 (by decide) (z_B_0.mpr hb) ?_
  refine r_iconst h (v := (-1)) d_St_shown_21 (by decide) ?_
  exact r_iret h hM d_St_shown_22 rfl rfl
set_option maxHeartbeats 4000000 in
set_option maxRecDepth 100000 in
theorem c_St_ordered_b (l : Launch) (D : va_G) (cA cR : ClassId) (ad : Nat → Nat) (hI : wI ad) (V : Nat → Nat → Int32) (x : Int32) (hb : z_bad x) (i0 : Int32) : wM l D cA cR ad y_St_ordered (Cond.code y_St_ordered b_St_ordered 3 (some .int) :: wAl) 1 25 [.ref (ad 0), .int x, .int i0] V (some (.int (-1))) V := by
  refine wM_of hI (by decide) (Nat.le_of_ble_eq_true rfl) ?_
  intro X ls h hM hl
  have hl : lv_has ls 3 [(0, .ref (ad 0)), (1, .int x), (2, .int i0)] := hl
  refine r_iload_n h d_St_ordered_0 rfl (lv_at hl 1 rfl) ?_
  refine r_callSi h (n := 1) (As := [.int x]) (c_St_isReplica l D cA cR ad hI V x) g_St_23 (by decide +kernel) rfl ⟨by decide, by decide⟩ hl rfl (Nat.le_of_ble_eq_true rfl) d_St_ordered_1 ?_
  refine r_if_eq_t h 21 d_St_ordered_4 (by decide) (z_B_0.mpr hb) ?_
  refine r_iconst h (v := (-1)) d_St_ordered_21 (by decide) ?_
  exact r_iret h hM d_St_ordered_22 rfl rfl
set_option maxHeartbeats 4000000 in
set_option maxRecDepth 100000 in
theorem c_St_known_b (l : Launch) (D : va_G) (cA cR : ClassId) (ad : Nat → Nat) (hI : wI ad) (V : Nat → Nat → Int32) (x : Int32) (hb : z_bad x) : wM l D cA cR ad y_St_known (Cond.code y_St_known b_St_known 3 (some .int) :: wAl) 1 24 [.ref (ad 0), .int x] V (some (.int (-1))) V := by
  refine wM_of hI (by decide) (Nat.le_of_ble_eq_true rfl) ?_
  intro X ls h hM hl
  have hl : lv_has ls 3 [(0, .ref (ad 0)), (1, .int x)] := hl
  refine r_iload_n h d_St_known_0 rfl (lv_at hl 1 rfl) ?_
  refine r_callSi h (n := 1) (As := [.int x]) (c_St_isReplica l D cA cR ad hI V x) g_St_23 (by decide +kernel) rfl ⟨by decide, by decide⟩ hl rfl (Nat.le_of_ble_eq_true rfl) d_St_known_1 ?_
  refine r_if_ne_f h 9 d_St_known_4 (by decide) (z_B_0.mpr hb) ?_
  refine r_iconst h (v := (-1)) d_St_known_7 (by decide) ?_
  exact r_iret h hM d_St_known_8 rfl rfl
set_option maxHeartbeats 4000000 in
set_option maxRecDepth 100000 in
theorem c_St_state_b (l : Launch) (D : va_G) (cA cR : ClassId) (ad : Nat → Nat) (hI : wI ad) (V : Nat → Nat → Int32) (x : Int32) (hb : z_bad x) (i0 : Int32) : wM l D cA cR ad y_St_state (Cond.code y_St_state b_St_state 3 (some .int) :: wAl) 1 21 [.ref (ad 0), .int x, .int i0] V (some (.int (-1))) V := by
  refine wM_of hI (by decide) (Nat.le_of_ble_eq_true rfl) ?_
  intro X ls h hM hl
  have hl : lv_has ls 3 [(0, .ref (ad 0)), (1, .int x), (2, .int i0)] := hl
  refine r_iload_n h d_St_state_0 rfl (lv_at hl 1 rfl) ?_
  refine r_callSi h (n := 1) (As := [.int x]) (c_St_isReplica l D cA cR ad hI V x) g_St_23 (by decide +kernel) rfl ⟨by decide, by decide⟩ hl rfl (Nat.le_of_ble_eq_true rfl) d_St_state_1 ?_
  refine r_if_ne_f h 9 d_St_state_4 (by decide) (z_B_0.mpr hb) ?_
  refine r_iconst h (v := (-1)) d_St_state_7 (by decide) ?_
  exact r_iret h hM d_St_state_8 rfl rfl
set_option maxHeartbeats 4000000 in
set_option maxRecDepth 100000 in
theorem c_St_tray_b (l : Launch) (D : va_G) (cA cR : ClassId) (ad : Nat → Nat) (hI : wI ad) (V : Nat → Nat → Int32) (x : Int32) (hb : z_bad x) : wM l D cA cR ad y_St_tray (Cond.code y_St_tray b_St_tray 2 (some .int) :: wAl) 1 20 [.ref (ad 0), .int x] V (some (.int (-1))) V := by
  refine wM_of hI (by decide) (Nat.le_of_ble_eq_true rfl) ?_
  intro X ls h hM hl
  have hl : lv_has ls 2 [(0, .ref (ad 0)), (1, .int x)] := hl
  refine r_iload_n h d_St_tray_0 rfl (lv_at hl 1 rfl) ?_
  refine r_callSi h (n := 1) (As := [.int x]) (c_St_isReplica l D cA cR ad hI V x) g_St_23 (by decide +kernel) rfl ⟨by decide, by decide⟩ hl rfl (Nat.le_of_ble_eq_true rfl) d_St_tray_1 ?_
  refine r_if_eq_t h 22 d_St_tray_4 (by decide) (z_B_0.mpr hb) ?_
  refine r_iconst h (v := (-1)) d_St_tray_22 (by decide) ?_
  exact r_iret h hM d_St_tray_23 rfl rfl
set_option maxHeartbeats 4000000 in
set_option maxRecDepth 100000 in
theorem c_St_waiting_b (l : Launch) (D : va_G) (cA cR : ClassId) (ad : Nat → Nat) (hI : wI ad) (V : Nat → Nat → Int32) (x : Int32) (hb : z_bad x) : wM l D cA cR ad y_St_waiting (Cond.code y_St_waiting b_St_waiting 2 (some .int) :: wAl) 1 20 [.ref (ad 0), .int x] V (some (.int (-1))) V := by
  refine wM_of hI (by decide) (Nat.le_of_ble_eq_true rfl) ?_
  intro X ls h hM hl
  have hl : lv_has ls 2 [(0, .ref (ad 0)), (1, .int x)] := hl
  refine r_iload_n h d_St_waiting_0 rfl (lv_at hl 1 rfl) ?_
  refine r_callSi h (n := 1) (As := [.int x]) (c_St_isReplica l D cA cR ad hI V x) g_St_23 (by decide +kernel) rfl ⟨by decide, by decide⟩ hl rfl (Nat.le_of_ble_eq_true rfl) d_St_waiting_1 ?_
  refine r_if_eq_t h 22 d_St_waiting_4 (by decide) (z_B_0.mpr hb) ?_
  refine r_iconst h (v := (-1)) d_St_waiting_22 (by decide) ?_
  exact r_iret h hM d_St_waiting_23 rfl rfl
set_option maxHeartbeats 4000000 in
set_option maxRecDepth 100000 in
theorem c_St_message_b (l : Launch) (D : va_G) (cA cR : ClassId) (ad : Nat → Nat) (hI : wI ad) (V : Nat → Nat → Int32) (x : Int32) (hb : z_bad x) (i0 : Int32) : wM l D cA cR ad y_St_message (Cond.code y_St_message b_St_message 4 (some .int) :: wAl) 1 21 [.ref (ad 0), .int x, .int i0] V (some (.int (-1))) V := by
  refine wM_of hI (by decide) (Nat.le_of_ble_eq_true rfl) ?_
  intro X ls h hM hl
  have hl : lv_has ls 4 [(0, .ref (ad 0)), (1, .int x), (2, .int i0)] := hl
  refine r_iload_n h d_St_message_0 rfl (lv_at hl 1 rfl) ?_
  refine r_callSi h (n := 1) (As := [.int x]) (c_St_isReplica l D cA cR ad hI V x) g_St_23 (by decide +kernel) rfl ⟨by decide, by decide⟩ hl rfl (Nat.le_of_ble_eq_true rfl) d_St_message_1 ?_
  refine r_if_ne_f h 9 d_St_message_4 (by decide) (z_B_0.mpr hb) ?_
  refine r_iconst h (v := (-1)) d_St_message_7 (by decide) ?_
  exact r_iret h hM d_St_message_8 rfl rfl
set_option maxHeartbeats 4000000 in
set_option maxRecDepth 100000 in
theorem c_St_insert_b (l : Launch) (D : va_G) (cA cR : ClassId) (ad : Nat → Nat) (hI : wI ad) (V : Nat → Nat → Int32) (x : Int32) (hb : z_bad x) (i0 : Int32) (i1 : Int32) : wM l D cA cR ad y_St_insert (Cond.code y_St_insert b_St_insert 6 (some .int) :: wAl) 6 144 [.ref (ad 0), .int x, .int i0, .int i1] V (some (.int (-1))) V := by
  refine wM_of hI (by decide) (Nat.le_of_ble_eq_true rfl) ?_
  intro X ls h hM hl
  have hl : lv_has ls 6 [(0, .ref (ad 0)), (1, .int x), (2, .int i0), (3, .int i1)] := hl
  refine r_iload_n h d_St_insert_0 rfl (lv_at hl 1 rfl) ?_
  refine r_callSi h (n := 1) (As := [.int x]) (c_St_isReplica l D cA cR ad hI V x) g_St_23 (by decide +kernel) rfl ⟨by decide, by decide⟩ hl rfl (Nat.le_of_ble_eq_true rfl) d_St_insert_1 ?_
  refine r_if_ne_f h 9 d_St_insert_4 (by decide) (z_B_0.mpr hb) ?_
  refine r_iconst h (v := (-1)) d_St_insert_7 (by decide) ?_
  exact r_iret h hM d_St_insert_8 rfl rfl
set_option maxHeartbeats 4000000 in
set_option maxRecDepth 100000 in
theorem c_St_erase_b (l : Launch) (D : va_G) (cA cR : ClassId) (ad : Nat → Nat) (hI : wI ad) (V : Nat → Nat → Int32) (x : Int32) (hb : z_bad x) (i0 : Int32) : wM l D cA cR ad y_St_erase (Cond.code y_St_erase b_St_erase 5 (some .int) :: wAl) 3 64 [.ref (ad 0), .int x, .int i0] V (some (.int (-1))) V := by
  refine wM_of hI (by decide) (Nat.le_of_ble_eq_true rfl) ?_
  intro X ls h hM hl
  have hl : lv_has ls 5 [(0, .ref (ad 0)), (1, .int x), (2, .int i0)] := hl
  refine r_iload_n h d_St_erase_0 rfl (lv_at hl 1 rfl) ?_
  refine r_callSi h (n := 1) (As := [.int x]) (c_St_isReplica l D cA cR ad hI V x) g_St_23 (by decide +kernel) rfl ⟨by decide, by decide⟩ hl rfl (Nat.le_of_ble_eq_true rfl) d_St_erase_1 ?_
  refine r_if_ne_f h 9 d_St_erase_4 (by decide) (z_B_0.mpr hb) ?_
  refine r_iconst h (v := (-1)) d_St_erase_7 (by decide) ?_
  exact r_iret h hM d_St_erase_8 rfl rfl
set_option maxHeartbeats 4000000 in
set_option maxRecDepth 100000 in
theorem c_St_deliver_b (l : Launch) (D : va_G) (cA cR : ClassId) (ad : Nat → Nat) (hI : wI ad) (V : Nat → Nat → Int32) (x : Int32) (hb : z_bad x) (i0 : Int32) : wM l D cA cR ad y_St_deliver (Cond.code y_St_deliver b_St_deliver 5 (some .int) :: wAl) 4 89 [.ref (ad 0), .int x, .int i0] V (some (.int (-1))) V := by
  refine wM_of hI (by decide) (Nat.le_of_ble_eq_true rfl) ?_
  intro X ls h hM hl
  have hl : lv_has ls 5 [(0, .ref (ad 0)), (1, .int x), (2, .int i0)] := hl
  refine r_iload_n h d_St_deliver_0 rfl (lv_at hl 1 rfl) ?_
  refine r_callSi h (n := 1) (As := [.int x]) (c_St_isReplica l D cA cR ad hI V x) g_St_23 (by decide +kernel) rfl ⟨by decide, by decide⟩ hl rfl (Nat.le_of_ble_eq_true rfl) d_St_deliver_1 ?_
  refine r_if_ne_f h 9 d_St_deliver_4 (by decide) (z_B_0.mpr hb) ?_
  refine r_iconst h (v := (-1)) d_St_deliver_7 (by decide) ?_
  exact r_iret h hM d_St_deliver_8 rfl rfl
set_option maxHeartbeats 4000000 in
set_option maxRecDepth 100000 in
theorem c_St_length (l : Launch) (D : va_G) (cA cR : ClassId) (ad : Nat → Nat) (hI : wI ad) (V : Nat → Nat → Int32) (r : Nat) (hr : r < 3) (n : Nat) (ts wz : Nat → Nat) (hV : kV V n ts wz) : wM l D cA cR ad y_St_length (Cond.code y_St_length b_St_length 2 (some .int) :: wAl) 1 24 [.ref (ad 0), .int (nI r)] V (some (.int (nI (kCnt V n r 1)))) V := by
  refine wM_of hI (by decide) (Nat.le_of_ble_eq_true rfl) ?_
  intro X ls h hM hl
  have hl : lv_has ls 2 [(0, .ref (ad 0)), (1, .int (nI r))] := hl
  refine r_iload_n h d_St_length_0 rfl (lv_at hl 1 rfl) ?_
  refine r_callSi h (n := 1) (As := [.int (nI r)]) (c_St_isReplica l D cA cR ad hI V (nI r)) g_St_23 (by decide +kernel) rfl ⟨by decide, by decide⟩ hl rfl (Nat.le_of_ble_eq_true rfl) d_St_length_1 ?_
  refine r_if_eq_f h 21 d_St_length_4 (by decide) (z_B_n.mpr (z_rep hr)) ?_
  refine r_aload_n h d_St_length_7 rfl (lv_at hl 0 rfl) ?_
  refine r_aload_n h d_St_length_8 rfl (lv_at hl 0 rfl) ?_
  refine r_get h (k := 0) (j := 1) (by decide) rfl rfl iw_St (by decide) lk_St_18 rfl rfl d_St_length_9 ?_
  refine r_iload_n h d_St_length_12 rfl (lv_at hl 1 rfl) ?_
  refine r_aald h (r := r) (by omega) d_St_length_13 ?_
  refine r_iconst h (v := 1) d_St_length_14 (by decide) ?_
  refine r_callVi h (k := 0) (n := 2) (As := [.ref (ad (6 * r + 9)), .int 1]) (c_St_countMarked l D cA cR ad hI V 1 r hr n ts wz hV) g_St_27 (by decide +kernel) rfl ⟨by decide, by decide⟩ (by decide) rfl rfl hl rfl (Nat.le_of_ble_eq_true rfl) d_St_length_15 ?_
  refine r_goto h 22 d_St_length_18 (by decide) ?_
  exact r_iret h hM d_St_length_22 rfl rfl
set_option maxHeartbeats 4000000 in
set_option maxRecDepth 100000 in
theorem c_St_shown (l : Launch) (D : va_G) (cA cR : ClassId) (ad : Nat → Nat) (hI : wI ad) (V : Nat → Nat → Int32) (i : Int32) (r : Nat) (hr : r < 3) (n : Nat) (ts wz : Nat → Nat) (hV : kV V n ts wz) : wM l D cA cR ad y_St_shown (Cond.code y_St_shown b_St_shown 3 (some .int) :: wAl) 1 25 [.ref (ad 0), .int (nI r), .int i] V (some (.int (kShown V n r i))) V := by
  refine wM_of hI (by decide) (Nat.le_of_ble_eq_true rfl) ?_
  intro X ls h hM hl
  have hl : lv_has ls 3 [(0, .ref (ad 0)), (1, .int (nI r)), (2, .int i)] := hl
  refine r_iload_n h d_St_shown_0 rfl (lv_at hl 1 rfl) ?_
  refine r_callSi h (n := 1) (As := [.int (nI r)]) (c_St_isReplica l D cA cR ad hI V (nI r)) g_St_23 (by decide +kernel) rfl ⟨by decide, by decide⟩ hl rfl (Nat.le_of_ble_eq_true rfl) d_St_shown_1 ?_
  refine r_if_eq_f h 21 d_St_shown_4 (by decide) (z_B_n.mpr (z_rep hr)) ?_
  refine r_aload_n h d_St_shown_7 rfl (lv_at hl 0 rfl) ?_
  refine r_aload_n h d_St_shown_8 rfl (lv_at hl 0 rfl) ?_
  refine r_get h (k := 0) (j := 1) (by decide) rfl rfl iw_St (by decide) lk_St_18 rfl rfl d_St_shown_9 ?_
  refine r_iload_n h d_St_shown_12 rfl (lv_at hl 1 rfl) ?_
  refine r_aald h (r := r) (by omega) d_St_shown_13 ?_
  refine r_iload_n h d_St_shown_14 rfl (lv_at hl 2 rfl) ?_
  refine r_callVi h (k := 0) (n := 2) (As := [.ref (ad (6 * r + 9)), .int i]) (c_St_shownAt l D cA cR ad hI V i r hr n ts wz hV) g_St_38 (by decide +kernel) rfl ⟨by decide, by decide⟩ (by decide) rfl rfl hl rfl (Nat.le_of_ble_eq_true rfl) d_St_shown_15 ?_
  refine r_goto h 22 d_St_shown_18 (by decide) ?_
  exact r_iret h hM d_St_shown_22 rfl rfl
set_option maxHeartbeats 4000000 in
set_option maxRecDepth 100000 in
theorem c_St_ordered (l : Launch) (D : va_G) (cA cR : ClassId) (ad : Nat → Nat) (hI : wI ad) (V : Nat → Nat → Int32) (i : Int32) (r : Nat) (hr : r < 3) (n : Nat) (ts wz : Nat → Nat) (hV : kV V n ts wz) : wM l D cA cR ad y_St_ordered (Cond.code y_St_ordered b_St_ordered 3 (some .int) :: wAl) 1 25 [.ref (ad 0), .int (nI r), .int i] V (some (.int (kOrd V n r i))) V := by
  refine wM_of hI (by decide) (Nat.le_of_ble_eq_true rfl) ?_
  intro X ls h hM hl
  have hl : lv_has ls 3 [(0, .ref (ad 0)), (1, .int (nI r)), (2, .int i)] := hl
  refine r_iload_n h d_St_ordered_0 rfl (lv_at hl 1 rfl) ?_
  refine r_callSi h (n := 1) (As := [.int (nI r)]) (c_St_isReplica l D cA cR ad hI V (nI r)) g_St_23 (by decide +kernel) rfl ⟨by decide, by decide⟩ hl rfl (Nat.le_of_ble_eq_true rfl) d_St_ordered_1 ?_
  refine r_if_eq_f h 21 d_St_ordered_4 (by decide) (z_B_n.mpr (z_rep hr)) ?_
  refine r_aload_n h d_St_ordered_7 rfl (lv_at hl 0 rfl) ?_
  refine r_aload_n h d_St_ordered_8 rfl (lv_at hl 0 rfl) ?_
  refine r_get h (k := 0) (j := 1) (by decide) rfl rfl iw_St (by decide) lk_St_18 rfl rfl d_St_ordered_9 ?_
  refine r_iload_n h d_St_ordered_12 rfl (lv_at hl 1 rfl) ?_
  refine r_aald h (r := r) (by omega) d_St_ordered_13 ?_
  refine r_iload_n h d_St_ordered_14 rfl (lv_at hl 2 rfl) ?_
  refine r_callVi h (k := 0) (n := 2) (As := [.ref (ad (6 * r + 9)), .int i]) (c_St_orderedAt l D cA cR ad hI V i r hr n ts wz hV) g_St_85 (by decide +kernel) rfl ⟨by decide, by decide⟩ (by decide) rfl rfl hl rfl (Nat.le_of_ble_eq_true rfl) d_St_ordered_15 ?_
  refine r_goto h 22 d_St_ordered_18 (by decide) ?_
  exact r_iret h hM d_St_ordered_22 rfl rfl
set_option maxHeartbeats 4000000 in
set_option maxRecDepth 100000 in
theorem c_St_known (l : Launch) (D : va_G) (cA cR : ClassId) (ad : Nat → Nat) (hI : wI ad) (V : Nat → Nat → Int32) (r : Nat) (hr : r < 3) (n : Nat) (ts wz : Nat → Nat) (hV : kV V n ts wz) : wM l D cA cR ad y_St_known (Cond.code y_St_known b_St_known 3 (some .int) :: wAl) 1 24 [.ref (ad 0), .int (nI r)] V (some (.int (nI (kCnt V n r 1 + kCnt V n r 2)))) V := by
  refine wM_of hI (by decide) (Nat.le_of_ble_eq_true rfl) ?_
  intro X ls h hM hl
  have hl : lv_has ls 3 [(0, .ref (ad 0)), (1, .int (nI r))] := hl
  refine r_iload_n h d_St_known_0 rfl (lv_at hl 1 rfl) ?_
  refine r_callSi h (n := 1) (As := [.int (nI r)]) (c_St_isReplica l D cA cR ad hI V (nI r)) g_St_23 (by decide +kernel) rfl ⟨by decide, by decide⟩ hl rfl (Nat.le_of_ble_eq_true rfl) d_St_known_1 ?_
  refine r_if_ne_t h 9 d_St_known_4 (by decide) (z_B_n.mpr (z_rep hr)) ?_
  refine r_aload_n h d_St_known_9 rfl (lv_at hl 0 rfl) ?_
  refine r_get h (k := 0) (j := 1) (by decide) rfl rfl iw_St (by decide) lk_St_18 rfl rfl d_St_known_10 ?_
  refine r_iload_n h d_St_known_13 rfl (lv_at hl 1 rfl) ?_
  refine r_aald h (r := r) (by omega) d_St_known_14 ?_
  refine r_astore_n h (lv' := [(2, .ref (ad (6 * r + 9))), (0, .ref (ad 0)), (1, .int (nI r))]) d_St_known_15 rfl hl (by decide) rfl (fun ls hl => ?_)
  refine r_aload_n h d_St_known_16 rfl (lv_at hl 1 rfl) ?_
  refine r_aload_n h d_St_known_17 rfl (lv_at hl 0 rfl) ?_
  refine r_iconst h (v := 1) d_St_known_18 (by decide) ?_
  refine r_callVi h (k := 0) (n := 2) (As := [.ref (ad (6 * r + 9)), .int 1]) (c_St_countMarked l D cA cR ad hI V 1 r hr n ts wz hV) g_St_27 (by decide +kernel) rfl ⟨by decide, by decide⟩ (by decide) rfl rfl hl rfl (Nat.le_of_ble_eq_true rfl) d_St_known_19 ?_
  refine r_aload_n h d_St_known_22 rfl (lv_at hl 1 rfl) ?_
  refine r_aload_n h d_St_known_23 rfl (lv_at hl 0 rfl) ?_
  refine r_iconst h (v := 2) d_St_known_24 (by decide) ?_
  refine r_callVi h (k := 0) (n := 2) (As := [.ref (ad (6 * r + 9)), .int 2]) (c_St_countMarked l D cA cR ad hI V 2 r hr n ts wz hV) g_St_27 (by decide +kernel) rfl ⟨by decide, by decide⟩ (by decide) rfl rfl hl rfl (Nat.le_of_ble_eq_true rfl) d_St_known_25 ?_
  refine r_iadd h d_St_known_28 ?_
  refine r_top (nI (kCnt V n r 1 + kCnt V n r 2)) (nI_add _ _) ?_
  exact r_iret h hM d_St_known_29 rfl rfl
set_option maxHeartbeats 4000000 in
set_option maxRecDepth 100000 in
theorem c_St_state (l : Launch) (D : va_G) (cA cR : ClassId) (ad : Nat → Nat) (hI : wI ad) (V : Nat → Nat → Int32) (e : Int32) (r : Nat) (hr : r < 3) (n : Nat) (ts wz : Nat → Nat) (hV : kV V n ts wz) : wM l D cA cR ad y_St_state (Cond.code y_St_state b_St_state 3 (some .int) :: wAl) 1 21 [.ref (ad 0), .int (nI r), .int e] V (some (.int (if (decide (0 ≤ e) && decide (e < V 1 0)) = true then V (6 * r + 10) e.toNatClampNeg else 0))) V := by
  refine wM_of hI (by decide) (Nat.le_of_ble_eq_true rfl) ?_
  intro X ls h hM hl
  have hl : lv_has ls 3 [(0, .ref (ad 0)), (1, .int (nI r)), (2, .int e)] := hl
  refine r_iload_n h d_St_state_0 rfl (lv_at hl 1 rfl) ?_
  refine r_callSi h (n := 1) (As := [.int (nI r)]) (c_St_isReplica l D cA cR ad hI V (nI r)) g_St_23 (by decide +kernel) rfl ⟨by decide, by decide⟩ hl rfl (Nat.le_of_ble_eq_true rfl) d_St_state_1 ?_
  refine r_if_ne_t h 9 d_St_state_4 (by decide) (z_B_n.mpr (z_rep hr)) ?_
  refine r_aload_n h d_St_state_9 rfl (lv_at hl 0 rfl) ?_
  refine r_get h (k := 0) (j := 0) (by decide) rfl rfl iw_St (by decide) lk_St_12 rfl rfl d_St_state_10 ?_
  refine r_iload_n h d_St_state_13 rfl (lv_at hl 2 rfl) ?_
  refine r_callVi h (k := 1) (n := 1) (As := [.int e]) (c_Tr_has l D cA cR ad hI V e) g_St_88 (by decide +kernel) rfl ⟨by decide, by decide⟩ (by decide) rfl rfl hl rfl (Nat.le_of_ble_eq_true rfl) d_St_state_14 ?_
  refine r_if_eq h 34 d_St_state_17 (by decide) (fun c17 => ?_) (fun c17 => ?_)
  · skip
    refine r_iconst h (v := 0) d_St_state_34 (by decide) ?_
    exact r_iret h hM d_St_state_35 (rI (by rw [if_neg (by rw [z_B_0.mp c17]; decide)])) rfl
  · skip
    refine r_aload_n h d_St_state_20 rfl (lv_at hl 0 rfl) ?_
    refine r_get h (k := 0) (j := 1) (by decide) rfl rfl iw_St (by decide) lk_St_18 rfl rfl d_St_state_21 ?_
    refine r_iload_n h d_St_state_24 rfl (lv_at hl 1 rfl) ?_
    refine r_aald h (r := r) (by omega) d_St_state_25 ?_
    refine r_get h (k := 6 * r + 9) (j := 0) (wN_r hr 9 (by decide)) (wG_rep cA cR ad hr _) rfl iw_Re (by decide) lk_St_45 rfl rfl d_St_state_26 ?_
    refine r_iload_n h d_St_state_29 rfl (lv_at hl 2 rfl) ?_
    refine r_iald h (k := 6 * r + 10) (i := e) (wN_r hr 10 (by decide)) (wG_mk cA cR ad hr) (by obtain ⟨a, a1, a2⟩ := z_has hV.1 (by have := kV_n hV; omega) (z_B_n.mp c17); have := kV_n hV; rw [a2]; exact vp_in_nI (by omega) (by omega)) d_St_state_30 ?_
    refine r_goto h 35 d_St_state_31 (by decide) ?_
    exact r_iret h hM d_St_state_35 (rI (by rw [if_pos (z_B_n.mp c17)])) rfl
set_option maxHeartbeats 4000000 in
set_option maxRecDepth 100000 in
theorem c_St_tray (l : Launch) (D : va_G) (cA cR : ClassId) (ad : Nat → Nat) (hI : wI ad) (V : Nat → Nat → Int32) (r : Nat) (hr : r < 3) : wM l D cA cR ad y_St_tray (Cond.code y_St_tray b_St_tray 2 (some .int) :: wAl) 1 20 [.ref (ad 0), .int (nI r)] V (some (.int (V (6 * r + 11) 0))) V := by
  refine wM_of hI (by decide) (Nat.le_of_ble_eq_true rfl) ?_
  intro X ls h hM hl
  have hl : lv_has ls 2 [(0, .ref (ad 0)), (1, .int (nI r))] := hl
  refine r_iload_n h d_St_tray_0 rfl (lv_at hl 1 rfl) ?_
  refine r_callSi h (n := 1) (As := [.int (nI r)]) (c_St_isReplica l D cA cR ad hI V (nI r)) g_St_23 (by decide +kernel) rfl ⟨by decide, by decide⟩ hl rfl (Nat.le_of_ble_eq_true rfl) d_St_tray_1 ?_
  refine r_if_eq_f h 22 d_St_tray_4 (by decide) (z_B_n.mpr (z_rep hr)) ?_
  refine r_aload_n h d_St_tray_7 rfl (lv_at hl 0 rfl) ?_
  refine r_get h (k := 0) (j := 1) (by decide) rfl rfl iw_St (by decide) lk_St_18 rfl rfl d_St_tray_8 ?_
  refine r_iload_n h d_St_tray_11 rfl (lv_at hl 1 rfl) ?_
  refine r_aald h (r := r) (by omega) d_St_tray_12 ?_
  refine r_get h (k := 6 * r + 9) (j := 1) (wN_r hr 9 (by decide)) (wG_rep cA cR ad hr _) rfl iw_Re (by decide) lk_St_53 rfl rfl d_St_tray_13 ?_
  refine r_get h (k := 6 * r + 11) (j := 1) (wN_r hr 11 (by decide)) (wG_tm cA cR ad hr _) rfl iw_Me (by decide) lk_St_89 rfl rfl d_St_tray_16 ?_
  refine r_goto h 23 d_St_tray_19 (by decide) ?_
  exact r_iret h hM d_St_tray_23 rfl rfl
set_option maxHeartbeats 4000000 in
set_option maxRecDepth 100000 in
theorem c_St_waiting (l : Launch) (D : va_G) (cA cR : ClassId) (ad : Nat → Nat) (hI : wI ad) (V : Nat → Nat → Int32) (r : Nat) (hr : r < 3) : wM l D cA cR ad y_St_waiting (Cond.code y_St_waiting b_St_waiting 2 (some .int) :: wAl) 1 20 [.ref (ad 0), .int (nI r)] V (some (.int (V (6 * r + 13) 0))) V := by
  refine wM_of hI (by decide) (Nat.le_of_ble_eq_true rfl) ?_
  intro X ls h hM hl
  have hl : lv_has ls 2 [(0, .ref (ad 0)), (1, .int (nI r))] := hl
  refine r_iload_n h d_St_waiting_0 rfl (lv_at hl 1 rfl) ?_
  refine r_callSi h (n := 1) (As := [.int (nI r)]) (c_St_isReplica l D cA cR ad hI V (nI r)) g_St_23 (by decide +kernel) rfl ⟨by decide, by decide⟩ hl rfl (Nat.le_of_ble_eq_true rfl) d_St_waiting_1 ?_
  refine r_if_eq_f h 22 d_St_waiting_4 (by decide) (z_B_n.mpr (z_rep hr)) ?_
  refine r_aload_n h d_St_waiting_7 rfl (lv_at hl 0 rfl) ?_
  refine r_get h (k := 0) (j := 1) (by decide) rfl rfl iw_St (by decide) lk_St_18 rfl rfl d_St_waiting_8 ?_
  refine r_iload_n h d_St_waiting_11 rfl (lv_at hl 1 rfl) ?_
  refine r_aald h (r := r) (by omega) d_St_waiting_12 ?_
  refine r_get h (k := 6 * r + 9) (j := 2) (wN_r hr 9 (by decide)) (wG_rep cA cR ad hr _) rfl iw_Re (by decide) lk_St_70 rfl rfl d_St_waiting_13 ?_
  refine r_get h (k := 6 * r + 13) (j := 1) (wN_r hr 13 (by decide)) (wG_wm cA cR ad hr _) rfl iw_Me (by decide) lk_St_89 rfl rfl d_St_waiting_16 ?_
  refine r_goto h 23 d_St_waiting_19 (by decide) ?_
  exact r_iret h hM d_St_waiting_23 rfl rfl
set_option maxHeartbeats 4000000 in
set_option maxRecDepth 100000 in
theorem c_St_message (l : Launch) (D : va_G) (cA cR : ClassId) (ad : Nat → Nat) (hI : wI ad) (V : Nat → Nat → Int32) (k : Int32) (r : Nat) (hr : r < 3) (n : Nat) (ts wz : Nat → Nat) (hV : kV V n ts wz) : wM l D cA cR ad y_St_message (Cond.code y_St_message b_St_message 4 (some .int) :: wAl) 1 21 [.ref (ad 0), .int (nI r), .int k] V (some (.int (if (decide (0 ≤ k) && decide (k < V (6 * r + 11) 0)) = true then V (6 * r + 12) k.toNatClampNeg else -3))) V := by
  refine wM_of hI (by decide) (Nat.le_of_ble_eq_true rfl) ?_
  intro X ls h hM hl
  have hl : lv_has ls 4 [(0, .ref (ad 0)), (1, .int (nI r)), (2, .int k)] := hl
  refine r_iload_n h d_St_message_0 rfl (lv_at hl 1 rfl) ?_
  refine r_callSi h (n := 1) (As := [.int (nI r)]) (c_St_isReplica l D cA cR ad hI V (nI r)) g_St_23 (by decide +kernel) rfl ⟨by decide, by decide⟩ hl rfl (Nat.le_of_ble_eq_true rfl) d_St_message_1 ?_
  refine r_if_ne_t h 9 d_St_message_4 (by decide) (z_B_n.mpr (z_rep hr)) ?_
  refine r_aload_n h d_St_message_9 rfl (lv_at hl 0 rfl) ?_
  refine r_get h (k := 0) (j := 1) (by decide) rfl rfl iw_St (by decide) lk_St_18 rfl rfl d_St_message_10 ?_
  refine r_iload_n h d_St_message_13 rfl (lv_at hl 1 rfl) ?_
  refine r_aald h (r := r) (by omega) d_St_message_14 ?_
  refine r_get h (k := 6 * r + 9) (j := 1) (wN_r hr 9 (by decide)) (wG_rep cA cR ad hr _) rfl iw_Re (by decide) lk_St_53 rfl rfl d_St_message_15 ?_
  refine r_astore_n h (lv' := [(3, .ref (ad (6 * r + 11))), (0, .ref (ad 0)), (1, .int (nI r)), (2, .int k)]) d_St_message_18 rfl hl (by decide) rfl (fun ls hl => ?_)
  refine r_aload_n h d_St_message_19 rfl (lv_at hl 0 rfl) ?_
  refine r_iload_n h d_St_message_20 rfl (lv_at hl 3 rfl) ?_
  refine r_callVi h (k := 6 * r + 11) (n := 1) (As := [.int k]) (c_Me_has l D cA cR ad hI V k (6 * r + 11) (wN_r hr 11 (by decide)) (wG_tm cA cR ad hr)) g_St_57 (by decide +kernel) rfl ⟨by decide, by decide⟩ (wN_r hr 11 (by decide)) (wG_tm cA cR ad hr _) rfl hl rfl (Nat.le_of_ble_eq_true rfl) d_St_message_21 ?_
  refine r_if_eq h 36 d_St_message_24 (by decide) (fun c24 => ?_) (fun c24 => ?_)
  · skip
    refine r_bipush h (v := (-3)) d_St_message_36 (by decide) ?_
    exact r_iret h hM d_St_message_38 (rI (by rw [if_neg (by rw [z_B_0.mp c24]; decide)])) rfl
  · skip
    refine r_aload_n h d_St_message_27 rfl (lv_at hl 0 rfl) ?_
    refine r_get h (k := 6 * r + 11) (j := 0) (wN_r hr 11 (by decide)) (wG_tm cA cR ad hr _) rfl iw_Me (by decide) lk_St_93 rfl rfl d_St_message_28 ?_
    refine r_iload_n h d_St_message_31 rfl (lv_at hl 3 rfl) ?_
    refine r_iald h (k := 6 * r + 12) (i := k) (wN_r hr 12 (by decide)) (wG_tc cA cR ad hr) (by obtain ⟨a, a1, a2⟩ := z_has (kV_ts hV hr).1 (by have := (kV_ts hV hr).2; omega) (z_B_n.mp c24); have := (kV_ts hV hr).2; rw [a2]; exact vp_in_nI (by omega) (by omega)) d_St_message_32 ?_
    refine r_goto h 38 d_St_message_33 (by decide) ?_
    exact r_iret h hM d_St_message_38 (rI (by rw [if_pos (z_B_n.mp c24)])) rfl
set_option maxHeartbeats 4000000 in
set_option maxRecDepth 100000 in
theorem c_St_made (l : Launch) (D : va_G) (cA cR : ClassId) (ad : Nat → Nat) (hI : wI ad) (V : Nat → Nat → Int32)  : wM l D cA cR ad y_St_made (Cond.code y_St_made b_St_made 1 (some .int) :: wAl) 0 0 [.ref (ad 0)] V (some (.int (V 1 0))) V := by
  refine wM_of hI (by decide) (Nat.le_of_ble_eq_true rfl) ?_
  intro X ls h hM hl
  have hl : lv_has ls 1 [(0, .ref (ad 0))] := hl
  refine r_aload_n h d_St_made_0 rfl (lv_at hl 0 rfl) ?_
  refine r_get h (k := 0) (j := 0) (by decide) rfl rfl iw_St (by decide) lk_St_12 rfl rfl d_St_made_1 ?_
  refine r_get h (k := 1) (j := 6) (by decide) rfl rfl iw_Tr (by decide) lk_St_96 rfl rfl d_St_made_4 ?_
  exact r_iret h hM d_St_made_7 rfl rfl
set_option maxHeartbeats 4000000 in
set_option maxRecDepth 100000 in
theorem c_St_about (l : Launch) (D : va_G) (cA cR : ClassId) (ad : Nat → Nat) (hI : wI ad) (V : Nat → Nat → Int32) (e w : Int32) (n : Nat) (ts wz : Nat → Nat) (hV : kV V n ts wz) : wM l D cA cR ad y_St_about (Cond.code y_St_about b_St_about 3 (some .int) :: wAl) 1 21 [.ref (ad 0), .int e, .int w] V (some (.int (if (decide (0 ≤ e) && decide (e < V 1 0)) = true then kAbt V e w else -3))) V := by
  refine wM_of hI (by decide) (Nat.le_of_ble_eq_true rfl) ?_
  intro X ls h hM hl
  have hl : lv_has ls 3 [(0, .ref (ad 0)), (1, .int e), (2, .int w)] := hl
  refine r_aload_n h d_St_about_0 rfl (lv_at hl 0 rfl) ?_
  refine r_get h (k := 0) (j := 0) (by decide) rfl rfl iw_St (by decide) lk_St_12 rfl rfl d_St_about_1 ?_
  refine r_iload_n h d_St_about_4 rfl (lv_at hl 1 rfl) ?_
  refine r_callVi h (k := 1) (n := 1) (As := [.int e]) (c_Tr_has l D cA cR ad hI V e) g_St_88 (by decide +kernel) rfl ⟨by decide, by decide⟩ (by decide) rfl rfl hl rfl (Nat.le_of_ble_eq_true rfl) d_St_about_5 ?_
  refine r_if_ne h 14 d_St_about_8 (by decide) (fun c8 => ?_) (fun c8 => ?_)
  · skip
    refine r_iload_n h d_St_about_14 rfl (lv_at hl 2 rfl) ?_
    by_cases h0 : w = 0
    · subst h0
      refine r_tabIn h 48 d_St_about_15 (by decide) (by decide) rfl (by decide) ?_
      refine r_aload_n h d_St_about_48 rfl (lv_at hl 0 rfl) ?_
      refine r_get h (k := 0) (j := 0) (by decide) rfl rfl iw_St (by decide) lk_St_12 rfl rfl d_St_about_49 ?_
      refine r_get h (k := 1) (j := 0) (by decide) rfl rfl iw_Tr (by decide) lk_St_97 rfl rfl d_St_about_52 ?_
      refine r_iload_n h d_St_about_55 rfl (lv_at hl 1 rfl) ?_
      refine r_iald h (k := 2) (i := e) (by decide) rfl (by obtain ⟨a, a1, a2⟩ := z_has hV.1 (by have := kV_n hV; omega) (z_B_n.mp c8); have := kV_n hV; rw [a2]; exact vp_in_nI (by omega) (by omega)) d_St_about_56 ?_
      exact r_iret h hM d_St_about_57 (rI (by rw [if_pos (z_B_n.mp c8)]; rfl)) rfl
    by_cases h1 : w = 1
    · subst h1
      refine r_tabIn h 58 d_St_about_15 (by decide) (by decide) rfl (by decide) ?_
      refine r_aload_n h d_St_about_58 rfl (lv_at hl 0 rfl) ?_
      refine r_get h (k := 0) (j := 0) (by decide) rfl rfl iw_St (by decide) lk_St_12 rfl rfl d_St_about_59 ?_
      refine r_get h (k := 1) (j := 1) (by decide) rfl rfl iw_Tr (by decide) lk_St_100 rfl rfl d_St_about_62 ?_
      refine r_iload_n h d_St_about_65 rfl (lv_at hl 1 rfl) ?_
      refine r_iald h (k := 3) (i := e) (by decide) rfl (by obtain ⟨a, a1, a2⟩ := z_has hV.1 (by have := kV_n hV; omega) (z_B_n.mp c8); have := kV_n hV; rw [a2]; exact vp_in_nI (by omega) (by omega)) d_St_about_66 ?_
      exact r_iret h hM d_St_about_67 (rI (by rw [if_pos (z_B_n.mp c8)]; rfl)) rfl
    by_cases h2 : w = 2
    · subst h2
      refine r_tabIn h 68 d_St_about_15 (by decide) (by decide) rfl (by decide) ?_
      refine r_aload_n h d_St_about_68 rfl (lv_at hl 0 rfl) ?_
      refine r_get h (k := 0) (j := 0) (by decide) rfl rfl iw_St (by decide) lk_St_12 rfl rfl d_St_about_69 ?_
      refine r_get h (k := 1) (j := 2) (by decide) rfl rfl iw_Tr (by decide) lk_St_103 rfl rfl d_St_about_72 ?_
      refine r_iload_n h d_St_about_75 rfl (lv_at hl 1 rfl) ?_
      refine r_iald h (k := 4) (i := e) (by decide) rfl (by obtain ⟨a, a1, a2⟩ := z_has hV.1 (by have := kV_n hV; omega) (z_B_n.mp c8); have := kV_n hV; rw [a2]; exact vp_in_nI (by omega) (by omega)) d_St_about_76 ?_
      exact r_iret h hM d_St_about_77 (rI (by rw [if_pos (z_B_n.mp c8)]; rfl)) rfl
    by_cases h3 : w = 3
    · subst h3
      refine r_tabIn h 78 d_St_about_15 (by decide) (by decide) rfl (by decide) ?_
      refine r_aload_n h d_St_about_78 rfl (lv_at hl 0 rfl) ?_
      refine r_get h (k := 0) (j := 0) (by decide) rfl rfl iw_St (by decide) lk_St_12 rfl rfl d_St_about_79 ?_
      refine r_get h (k := 1) (j := 3) (by decide) rfl rfl iw_Tr (by decide) lk_St_106 rfl rfl d_St_about_82 ?_
      refine r_iload_n h d_St_about_85 rfl (lv_at hl 1 rfl) ?_
      refine r_iald h (k := 5) (i := e) (by decide) rfl (by obtain ⟨a, a1, a2⟩ := z_has hV.1 (by have := kV_n hV; omega) (z_B_n.mp c8); have := kV_n hV; rw [a2]; exact vp_in_nI (by omega) (by omega)) d_St_about_86 ?_
      exact r_iret h hM d_St_about_87 (rI (by rw [if_pos (z_B_n.mp c8)]; rfl)) rfl
    by_cases h4 : w = 4
    · subst h4
      refine r_tabIn h 88 d_St_about_15 (by decide) (by decide) rfl (by decide) ?_
      refine r_aload_n h d_St_about_88 rfl (lv_at hl 0 rfl) ?_
      refine r_get h (k := 0) (j := 0) (by decide) rfl rfl iw_St (by decide) lk_St_12 rfl rfl d_St_about_89 ?_
      refine r_get h (k := 1) (j := 4) (by decide) rfl rfl iw_Tr (by decide) lk_St_109 rfl rfl d_St_about_92 ?_
      refine r_iload_n h d_St_about_95 rfl (lv_at hl 1 rfl) ?_
      refine r_iald h (k := 6) (i := e) (by decide) rfl (by obtain ⟨a, a1, a2⟩ := z_has hV.1 (by have := kV_n hV; omega) (z_B_n.mp c8); have := kV_n hV; rw [a2]; exact vp_in_nI (by omega) (by omega)) d_St_about_96 ?_
      exact r_iret h hM d_St_about_97 (rI (by rw [if_pos (z_B_n.mp c8)]; rfl)) rfl
    refine r_tabOut h 98 d_St_about_15 (z_not5 h0 h1 h2 h3 h4) (by decide) ?_
    refine r_bipush h (v := (-3)) d_St_about_98 (by decide) ?_
    exact r_iret h hM d_St_about_100 (rI (by rw [if_pos (z_B_n.mp c8)]; unfold kAbt; rw [if_neg h0, if_neg h1, if_neg h2, if_neg h3, if_neg h4])) rfl
  · skip
    refine r_bipush h (v := (-3)) d_St_about_11 (by decide) ?_
    exact r_iret h hM d_St_about_13 (rI (by rw [if_neg (by rw [z_B_0.mp c8]; decide)])) rfl
set_option maxHeartbeats 4000000 in
set_option maxRecDepth 100000 in
theorem c_St_depth (l : Launch) (D : va_G) (cA cR : ClassId) (ad : Nat → Nat) (hI : wI ad) (V : Nat → Nat → Int32) (e : Int32) (n : Nat) (ts wz : Nat → Nat) (hV : kV V n ts wz) : wM l D cA cR ad y_St_depth (Cond.code y_St_depth b_St_depth 2 (some .int) :: wAl) 1 23 [.ref (ad 0), .int e] V (some (.int (if (decide (0 ≤ e) && decide (e < V 1 0)) = true then nI (z_abv (V 4) n (V 4 e.toNatClampNeg) 0) else -3))) V := by
  refine wM_of hI (by decide) (Nat.le_of_ble_eq_true rfl) ?_
  intro X ls h hM hl
  have hl : lv_has ls 2 [(0, .ref (ad 0)), (1, .int e)] := hl
  have hn := hV.1
  have hle := kV_n hV
  have hod := kV_hod hV
  have hpa := kV_hpa hV
  have hro := kV_hro hV
  refine r_aload_n h d_St_depth_0 rfl (lv_at hl 0 rfl) ?_
  refine r_get h (k := 0) (j := 0) (by decide) rfl rfl iw_St (by decide) lk_St_12 rfl rfl d_St_depth_1 ?_
  refine r_iload_n h d_St_depth_4 rfl (lv_at hl 1 rfl) ?_
  refine r_callVi h (k := 1) (n := 1) (As := [.int e]) (c_Tr_has l D cA cR ad hI V e) g_St_88 (by decide +kernel) rfl ⟨by decide, by decide⟩ (by decide) rfl rfl hl rfl (Nat.le_of_ble_eq_true rfl) d_St_depth_5 ?_
  refine r_if_eq h 22 d_St_depth_8 (by decide) (fun c8 => ?_) (fun c8 => ?_)
  · skip
    refine r_bipush h (v := (-3)) d_St_depth_22 (by decide) ?_
    exact r_iret h hM d_St_depth_24 (rI (by rw [if_neg (by rw [z_B_0.mp c8]; decide)])) rfl
  · skip
    obtain ⟨a, ha, rfl⟩ := z_has hn (by omega) (z_B_n.mp c8)
    refine r_aload_n h d_St_depth_11 rfl (lv_at hl 0 rfl) ?_
    refine r_get h (k := 0) (j := 0) (by decide) rfl rfl iw_St (by decide) lk_St_12 rfl rfl d_St_depth_12 ?_
    refine r_iload_n h d_St_depth_15 rfl (lv_at hl 1 rfl) ?_
    refine r_callVi h (k := 1) (n := 1) (As := [.int (nI a)]) (c_Tr_countAbove l D cA cR ad hI V n hn hle a ha hpa) g_St_112 (by decide +kernel) rfl ⟨by decide, by decide⟩ (by decide) rfl rfl hl rfl (Nat.le_of_ble_eq_true rfl) d_St_depth_16 ?_
    refine r_goto h 24 d_St_depth_19 (by decide) ?_
    exact r_iret h hM d_St_depth_24 (rI (by rw [if_pos (z_B_n.mp c8), nI_clamp (by omega)])) rfl
set_option maxHeartbeats 4000000 in
set_option maxRecDepth 100000 in
theorem c_St_differ_b (l : Launch) (D : va_G) (cA cR : ClassId) (ad : Nat → Nat) (hI : wI ad) (V : Nat → Nat → Int32) (x : Int32) (hb : z_bad x) (y : Int32) : wM l D cA cR ad y_St_differ (Cond.code y_St_differ b_St_differ 4 (some .int) :: wAl) 1 25 [.ref (ad 0), .int x, .int y] V (some (.int (-1))) V := by
  refine wM_of hI (by decide) (Nat.le_of_ble_eq_true rfl) ?_
  intro X ls h hM hl
  have hl : lv_has ls 4 [(0, .ref (ad 0)), (1, .int x), (2, .int y)] := hl
  refine r_iload_n h d_St_differ_0 rfl (lv_at hl 1 rfl) ?_
  refine r_callSi h (n := 1) (As := [.int x]) (c_St_isReplica l D cA cR ad hI V x) g_St_23 (by decide +kernel) rfl ⟨by decide, by decide⟩ hl rfl (Nat.le_of_ble_eq_true rfl) d_St_differ_1 ?_
  refine r_if_eq_t h 14 d_St_differ_4 (by decide) (z_B_0.mpr hb) ?_
  refine r_iconst h (v := (-1)) d_St_differ_14 (by decide) ?_
  exact r_iret h hM d_St_differ_15 rfl rfl
set_option maxHeartbeats 4000000 in
set_option maxRecDepth 100000 in
theorem c_St_differ_c (l : Launch) (D : va_G) (cA cR : ClassId) (ad : Nat → Nat) (hI : wI ad) (V : Nat → Nat → Int32) (r : Nat) (hr : r < 3) (x : Int32) (hb : z_bad x) : wM l D cA cR ad y_St_differ (Cond.code y_St_differ b_St_differ 4 (some .int) :: wAl) 1 25 [.ref (ad 0), .int (nI r), .int x] V (some (.int (-1))) V := by
  refine wM_of hI (by decide) (Nat.le_of_ble_eq_true rfl) ?_
  intro X ls h hM hl
  have hl : lv_has ls 4 [(0, .ref (ad 0)), (1, .int (nI r)), (2, .int x)] := hl
  refine r_iload_n h d_St_differ_0 rfl (lv_at hl 1 rfl) ?_
  refine r_callSi h (n := 1) (As := [.int (nI r)]) (c_St_isReplica l D cA cR ad hI V (nI r)) g_St_23 (by decide +kernel) rfl ⟨by decide, by decide⟩ hl rfl (Nat.le_of_ble_eq_true rfl) d_St_differ_1 ?_
  refine r_if_eq_f h 14 d_St_differ_4 (by decide) (z_B_n.mpr (z_rep hr)) ?_
  refine r_iload_n h d_St_differ_7 rfl (lv_at hl 2 rfl) ?_
  refine r_callSi h (n := 1) (As := [.int x]) (c_St_isReplica l D cA cR ad hI V x) g_St_23 (by decide +kernel) rfl ⟨by decide, by decide⟩ hl rfl (Nat.le_of_ble_eq_true rfl) d_St_differ_8 ?_
  refine r_if_ne_f h 16 d_St_differ_11 (by decide) (z_B_0.mpr hb) ?_
  refine r_iconst h (v := (-1)) d_St_differ_14 (by decide) ?_
  exact r_iret h hM d_St_differ_15 rfl rfl
set_option maxHeartbeats 4000000 in
set_option maxRecDepth 100000 in
theorem c_St_differ (l : Launch) (D : va_G) (cA cR : ClassId) (ad : Nat → Nat) (hI : wI ad) (V : Nat → Nat → Int32) (r : Nat) (hr : r < 3) (q : Nat) (hq : q < 3) (n : Nat) (ts wz : Nat → Nat) (hV : kV V n ts wz) : wM l D cA cR ad y_St_differ (Cond.code y_St_differ b_St_differ 4 (some .int) :: wAl) 1 25 [.ref (ad 0), .int (nI r), .int (nI q)] V (some (.int (kDa V n r q))) V := by
  refine wM_of hI (by decide) (Nat.le_of_ble_eq_true rfl) ?_
  intro X ls h hM hl
  have hl : lv_has ls 4 [(0, .ref (ad 0)), (1, .int (nI r)), (2, .int (nI q))] := hl
  have hn := hV.1
  have hle := kV_n hV
  have hod := kV_hod hV
  have hpa := kV_hpa hV
  have hro := kV_hro hV
  have loop : ∀ (k p : Nat) (ls : Array Slot), p + k = n → z_fnd (fun i => !decide (kShown V n r (nI i) = kShown V n q (nI i))) k p = kDf V n r q → lv_has ls 4 [(3, .int (nI p)), (0, .ref (ad 0)), (1, .int (nI r)), (2, .int (nI q))] → wv X cA cR ad V 18 ls [] := by
    intro k
    induction k with
    | zero =>
      intro p ls hp hz hl
      refine r_iload_n h d_St_differ_18 rfl (lv_at hl 0 rfl) ?_
      refine r_aload_n h d_St_differ_19 rfl (lv_at hl 1 rfl) ?_
      refine r_get h (k := 0) (j := 0) (by decide) rfl rfl iw_St (by decide) lk_St_12 rfl rfl d_St_differ_20 ?_
      refine r_get h (k := 1) (j := 6) (by decide) rfl rfl iw_Tr (by decide) lk_St_96 rfl rfl d_St_differ_23 ?_
      refine r_top (nI n) hn ?_
      refine r_icmp_ge_t h 62 d_St_differ_26 (by decide) (nI_sz (by omega) (by omega) (by omega)) ?_
      refine r_bipush h (v := (-3)) d_St_differ_62 (by decide) ?_
      exact r_iret h hM d_St_differ_64 (rI (by unfold kDa; rw [← hz]; show (-3 : Int32) = if p = n then -3 else nI p; rw [if_pos (by omega)])) rfl
    | succ k ih =>
      intro p ls hp hz hl
      refine r_iload_n h d_St_differ_18 rfl (lv_at hl 0 rfl) ?_
      refine r_aload_n h d_St_differ_19 rfl (lv_at hl 1 rfl) ?_
      refine r_get h (k := 0) (j := 0) (by decide) rfl rfl iw_St (by decide) lk_St_12 rfl rfl d_St_differ_20 ?_
      refine r_get h (k := 1) (j := 6) (by decide) rfl rfl iw_Tr (by decide) lk_St_96 rfl rfl d_St_differ_23 ?_
      refine r_top (nI n) hn ?_
      refine r_icmp_ge_f h 62 d_St_differ_26 (by decide) (nI_lz (by omega) (by omega) (by omega)) ?_
      refine r_aload_n h d_St_differ_29 rfl (lv_at hl 1 rfl) ?_
      refine r_aload_n h d_St_differ_30 rfl (lv_at hl 1 rfl) ?_
      refine r_get h (k := 0) (j := 1) (by decide) rfl rfl iw_St (by decide) lk_St_18 rfl rfl d_St_differ_31 ?_
      refine r_iload_n h d_St_differ_34 rfl (lv_at hl 2 rfl) ?_
      refine r_aald h (r := r) (by omega) d_St_differ_35 ?_
      refine r_iload_n h d_St_differ_36 rfl (lv_at hl 0 rfl) ?_
      refine r_callVi h (k := 0) (n := 2) (As := [.ref (ad (6 * r + 9)), .int (nI p)]) (c_St_shownAt l D cA cR ad hI V (nI p) r hr n ts wz hV) g_St_38 (by decide +kernel) rfl ⟨by decide, by decide⟩ (by decide) rfl rfl hl rfl (Nat.le_of_ble_eq_true rfl) d_St_differ_37 ?_
      refine r_aload_n h d_St_differ_40 rfl (lv_at hl 1 rfl) ?_
      refine r_aload_n h d_St_differ_41 rfl (lv_at hl 1 rfl) ?_
      refine r_get h (k := 0) (j := 1) (by decide) rfl rfl iw_St (by decide) lk_St_18 rfl rfl d_St_differ_42 ?_
      refine r_iload_n h d_St_differ_45 rfl (lv_at hl 3 rfl) ?_
      refine r_aald h (r := q) (by omega) d_St_differ_46 ?_
      refine r_iload_n h d_St_differ_47 rfl (lv_at hl 0 rfl) ?_
      refine r_callVi h (k := 0) (n := 2) (As := [.ref (ad (6 * q + 9)), .int (nI p)]) (c_St_shownAt l D cA cR ad hI V (nI p) q hq n ts wz hV) g_St_38 (by decide +kernel) rfl ⟨by decide, by decide⟩ (by decide) rfl rfl hl rfl (Nat.le_of_ble_eq_true rfl) d_St_differ_48 ?_
      refine r_icmp_eq h 56 d_St_differ_51 (by decide) (fun c51 => ?_) (fun c51 => ?_)
      · skip
        refine r_iinc h (v := nI (p + 1)) (lv' := [(3, .int (nI (p + 1))), (0, .ref (ad 0)), (1, .int (nI r)), (2, .int (nI q))]) d_St_differ_56 hl (k := 0) rfl (z_inc p) (by decide) rfl (fun ls hl => ?_)
        refine r_goto h 18 d_St_differ_59 (by decide) ?_
        exact ih (p + 1) ls (by omega) (by rw [← hz, z_fnd_f (P := fun i => !decide (kShown V n r (nI i) = kShown V n q (nI i))) (show (!decide (kShown V n r (nI p) = kShown V n q (nI p))) = false by rw [decide_eq_true c51]; rfl)]) hl
      · skip
        refine r_iload_n h d_St_differ_54 rfl (lv_at hl 0 rfl) ?_
        exact r_iret h hM d_St_differ_55 (rI (by unfold kDa; rw [← hz, z_fnd_t (P := fun i => !decide (kShown V n r (nI i) = kShown V n q (nI i))) (show (!decide (kShown V n r (nI p) = kShown V n q (nI p))) = true by rw [decide_eq_false c51]; rfl), if_neg (by omega)])) rfl
  refine r_iload_n h d_St_differ_0 rfl (lv_at hl 1 rfl) ?_
  refine r_callSi h (n := 1) (As := [.int (nI r)]) (c_St_isReplica l D cA cR ad hI V (nI r)) g_St_23 (by decide +kernel) rfl ⟨by decide, by decide⟩ hl rfl (Nat.le_of_ble_eq_true rfl) d_St_differ_1 ?_
  refine r_if_eq_f h 14 d_St_differ_4 (by decide) (z_B_n.mpr (z_rep hr)) ?_
  refine r_iload_n h d_St_differ_7 rfl (lv_at hl 2 rfl) ?_
  refine r_callSi h (n := 1) (As := [.int (nI q)]) (c_St_isReplica l D cA cR ad hI V (nI q)) g_St_23 (by decide +kernel) rfl ⟨by decide, by decide⟩ hl rfl (Nat.le_of_ble_eq_true rfl) d_St_differ_8 ?_
  refine r_if_ne_t h 16 d_St_differ_11 (by decide) (z_B_n.mpr (z_rep hq)) ?_
  refine r_iconst h (v := 0) d_St_differ_16 (by decide) ?_
  refine r_istore_n h (lv' := [(3, .int 0), (0, .ref (ad 0)), (1, .int (nI r)), (2, .int (nI q))]) d_St_differ_17 rfl hl (by decide) rfl (fun ls hl => ?_)
  exact loop n 0 ls (by omega) rfl hl
set_option maxHeartbeats 4000000 in
set_option maxRecDepth 100000 in
theorem c_St_insert_c (l : Launch) (D : va_G) (cA cR : ClassId) (ad : Nat → Nat) (hI : wI ad) (V : Nat → Nat → Int32) (i ch : Int32) (r : Nat) (hr : r < 3) (n : Nat) (ts wz : Nat → Nat) (hV : kV V n ts wz) (h1 : i < 0) : wM l D cA cR ad y_St_insert (Cond.code y_St_insert b_St_insert 6 (some .int) :: wAl) 6 144 [.ref (ad 0), .int (nI r), .int i, .int ch] V (some (.int (-1))) V := by
  refine wM_of hI (by decide) (Nat.le_of_ble_eq_true rfl) ?_
  intro X ls h hM hl
  have hl : lv_has ls 6 [(0, .ref (ad 0)), (1, .int (nI r)), (2, .int i), (3, .int ch)] := hl
  refine r_iload_n h d_St_insert_0 rfl (lv_at hl 1 rfl) ?_
  refine r_callSi h (n := 1) (As := [.int (nI r)]) (c_St_isReplica l D cA cR ad hI V (nI r)) g_St_23 (by decide +kernel) rfl ⟨by decide, by decide⟩ hl rfl (Nat.le_of_ble_eq_true rfl) d_St_insert_1 ?_
  refine r_if_ne_t h 9 d_St_insert_4 (by decide) (z_B_n.mpr (z_rep hr)) ?_
  refine r_aload_n h d_St_insert_9 rfl (lv_at hl 0 rfl) ?_
  refine r_get h (k := 0) (j := 1) (by decide) rfl rfl iw_St (by decide) lk_St_18 rfl rfl d_St_insert_10 ?_
  refine r_iload_n h d_St_insert_13 rfl (lv_at hl 1 rfl) ?_
  refine r_aald h (r := r) (by omega) d_St_insert_14 ?_
  refine r_astore h (lv' := [(4, .ref (ad (6 * r + 9))), (0, .ref (ad 0)), (1, .int (nI r)), (2, .int i), (3, .int ch)]) d_St_insert_15 hl (by decide) rfl (fun ls hl => ?_)
  refine r_iload_n h d_St_insert_17 rfl (lv_at hl 3 rfl) ?_
  refine r_if_lt_t h 32 d_St_insert_18 (by decide) h1 ?_
  refine r_iconst h (v := (-1)) d_St_insert_32 (by decide) ?_
  exact r_iret h hM d_St_insert_33 rfl rfl
set_option maxHeartbeats 4000000 in
set_option maxRecDepth 100000 in
theorem c_St_insert_d (l : Launch) (D : va_G) (cA cR : ClassId) (ad : Nat → Nat) (hI : wI ad) (V : Nat → Nat → Int32) (i ch : Int32) (r : Nat) (hr : r < 3) (n : Nat) (ts wz : Nat → Nat) (hV : kV V n ts wz) (h1 : 0 ≤ i) (h2 : nI (kCnt V n r 1) < i) : wM l D cA cR ad y_St_insert (Cond.code y_St_insert b_St_insert 6 (some .int) :: wAl) 6 144 [.ref (ad 0), .int (nI r), .int i, .int ch] V (some (.int (-1))) V := by
  refine wM_of hI (by decide) (Nat.le_of_ble_eq_true rfl) ?_
  intro X ls h hM hl
  have hl : lv_has ls 6 [(0, .ref (ad 0)), (1, .int (nI r)), (2, .int i), (3, .int ch)] := hl
  refine r_iload_n h d_St_insert_0 rfl (lv_at hl 1 rfl) ?_
  refine r_callSi h (n := 1) (As := [.int (nI r)]) (c_St_isReplica l D cA cR ad hI V (nI r)) g_St_23 (by decide +kernel) rfl ⟨by decide, by decide⟩ hl rfl (Nat.le_of_ble_eq_true rfl) d_St_insert_1 ?_
  refine r_if_ne_t h 9 d_St_insert_4 (by decide) (z_B_n.mpr (z_rep hr)) ?_
  refine r_aload_n h d_St_insert_9 rfl (lv_at hl 0 rfl) ?_
  refine r_get h (k := 0) (j := 1) (by decide) rfl rfl iw_St (by decide) lk_St_18 rfl rfl d_St_insert_10 ?_
  refine r_iload_n h d_St_insert_13 rfl (lv_at hl 1 rfl) ?_
  refine r_aald h (r := r) (by omega) d_St_insert_14 ?_
  refine r_astore h (lv' := [(4, .ref (ad (6 * r + 9))), (0, .ref (ad 0)), (1, .int (nI r)), (2, .int i), (3, .int ch)]) d_St_insert_15 hl (by decide) rfl (fun ls hl => ?_)
  refine r_iload_n h d_St_insert_17 rfl (lv_at hl 3 rfl) ?_
  refine r_if_lt_f h 32 d_St_insert_18 (by decide) h1 ?_
  refine r_iload_n h d_St_insert_21 rfl (lv_at hl 3 rfl) ?_
  refine r_aload_n h d_St_insert_22 rfl (lv_at hl 1 rfl) ?_
  refine r_aload h d_St_insert_23 (lv_at hl 0 rfl) ?_
  refine r_iconst h (v := 1) d_St_insert_25 (by decide) ?_
  refine r_callVi h (k := 0) (n := 2) (As := [.ref (ad (6 * r + 9)), .int 1]) (c_St_countMarked l D cA cR ad hI V 1 r hr n ts wz hV) g_St_27 (by decide +kernel) rfl ⟨by decide, by decide⟩ (by decide) rfl rfl hl rfl (Nat.le_of_ble_eq_true rfl) d_St_insert_26 ?_
  refine r_icmp_le_f h 34 d_St_insert_29 (by decide) h2 ?_
  refine r_iconst h (v := (-1)) d_St_insert_32 (by decide) ?_
  exact r_iret h hM d_St_insert_33 rfl rfl
set_option maxHeartbeats 4000000 in
set_option maxRecDepth 100000 in
theorem c_St_insert_e (l : Launch) (D : va_G) (cA cR : ClassId) (ad : Nat → Nat) (hI : wI ad) (V : Nat → Nat → Int32) (i ch : Int32) (r : Nat) (hr : r < 3) (n : Nat) (ts wz : Nat → Nat) (hV : kV V n ts wz) (h1 : 0 ≤ i) (h2 : i ≤ nI (kCnt V n r 1)) (h3 : 30 ≤ V 1 0) : wM l D cA cR ad y_St_insert (Cond.code y_St_insert b_St_insert 6 (some .int) :: wAl) 6 144 [.ref (ad 0), .int (nI r), .int i, .int ch] V (some (.int (-2))) V := by
  refine wM_of hI (by decide) (Nat.le_of_ble_eq_true rfl) ?_
  intro X ls h hM hl
  have hl : lv_has ls 6 [(0, .ref (ad 0)), (1, .int (nI r)), (2, .int i), (3, .int ch)] := hl
  refine r_iload_n h d_St_insert_0 rfl (lv_at hl 1 rfl) ?_
  refine r_callSi h (n := 1) (As := [.int (nI r)]) (c_St_isReplica l D cA cR ad hI V (nI r)) g_St_23 (by decide +kernel) rfl ⟨by decide, by decide⟩ hl rfl (Nat.le_of_ble_eq_true rfl) d_St_insert_1 ?_
  refine r_if_ne_t h 9 d_St_insert_4 (by decide) (z_B_n.mpr (z_rep hr)) ?_
  refine r_aload_n h d_St_insert_9 rfl (lv_at hl 0 rfl) ?_
  refine r_get h (k := 0) (j := 1) (by decide) rfl rfl iw_St (by decide) lk_St_18 rfl rfl d_St_insert_10 ?_
  refine r_iload_n h d_St_insert_13 rfl (lv_at hl 1 rfl) ?_
  refine r_aald h (r := r) (by omega) d_St_insert_14 ?_
  refine r_astore h (lv' := [(4, .ref (ad (6 * r + 9))), (0, .ref (ad 0)), (1, .int (nI r)), (2, .int i), (3, .int ch)]) d_St_insert_15 hl (by decide) rfl (fun ls hl => ?_)
  refine r_iload_n h d_St_insert_17 rfl (lv_at hl 3 rfl) ?_
  refine r_if_lt_f h 32 d_St_insert_18 (by decide) h1 ?_
  refine r_iload_n h d_St_insert_21 rfl (lv_at hl 3 rfl) ?_
  refine r_aload_n h d_St_insert_22 rfl (lv_at hl 1 rfl) ?_
  refine r_aload h d_St_insert_23 (lv_at hl 0 rfl) ?_
  refine r_iconst h (v := 1) d_St_insert_25 (by decide) ?_
  refine r_callVi h (k := 0) (n := 2) (As := [.ref (ad (6 * r + 9)), .int 1]) (c_St_countMarked l D cA cR ad hI V 1 r hr n ts wz hV) g_St_27 (by decide +kernel) rfl ⟨by decide, by decide⟩ (by decide) rfl rfl hl rfl (Nat.le_of_ble_eq_true rfl) d_St_insert_26 ?_
  refine r_icmp_le_t h 34 d_St_insert_29 (by decide) h2 ?_
  refine r_aload_n h d_St_insert_34 rfl (lv_at hl 1 rfl) ?_
  refine r_get h (k := 0) (j := 0) (by decide) rfl rfl iw_St (by decide) lk_St_12 rfl rfl d_St_insert_35 ?_
  refine r_callVi h (k := 1) (n := 0) (As := []) (c_Tr_isFull l D cA cR ad hI V) g_St_31 (by decide +kernel) rfl ⟨by decide, by decide⟩ (by decide) rfl rfl hl rfl (Nat.le_of_ble_eq_true rfl) d_St_insert_38 ?_
  refine r_if_ne_t h 52 d_St_insert_41 (by decide) (z_B_n.mpr (decide_eq_true h3)) ?_
  refine r_bipush h (v := (-2)) d_St_insert_52 (by decide) ?_
  exact r_iret h hM d_St_insert_54 rfl rfl
set_option maxHeartbeats 4000000 in
set_option maxRecDepth 100000 in
theorem c_St_insert_f (l : Launch) (D : va_G) (cA cR : ClassId) (ad : Nat → Nat) (hI : wI ad) (V : Nat → Nat → Int32) (i ch : Int32) (r : Nat) (hr : r < 3) (n : Nat) (ts wz : Nat → Nat) (hV : kV V n ts wz) (h1 : 0 ≤ i) (h2 : i ≤ nI (kCnt V n r 1)) (h3 : n < 30) (h4 : kFull V (nI r) = true) : wM l D cA cR ad y_St_insert (Cond.code y_St_insert b_St_insert 6 (some .int) :: wAl) 6 144 [.ref (ad 0), .int (nI r), .int i, .int ch] V (some (.int (-2))) V := by
  refine wM_of hI (by decide) (Nat.le_of_ble_eq_true rfl) ?_
  intro X ls h hM hl
  have hl : lv_has ls 6 [(0, .ref (ad 0)), (1, .int (nI r)), (2, .int i), (3, .int ch)] := hl
  refine r_iload_n h d_St_insert_0 rfl (lv_at hl 1 rfl) ?_
  refine r_callSi h (n := 1) (As := [.int (nI r)]) (c_St_isReplica l D cA cR ad hI V (nI r)) g_St_23 (by decide +kernel) rfl ⟨by decide, by decide⟩ hl rfl (Nat.le_of_ble_eq_true rfl) d_St_insert_1 ?_
  refine r_if_ne_t h 9 d_St_insert_4 (by decide) (z_B_n.mpr (z_rep hr)) ?_
  refine r_aload_n h d_St_insert_9 rfl (lv_at hl 0 rfl) ?_
  refine r_get h (k := 0) (j := 1) (by decide) rfl rfl iw_St (by decide) lk_St_18 rfl rfl d_St_insert_10 ?_
  refine r_iload_n h d_St_insert_13 rfl (lv_at hl 1 rfl) ?_
  refine r_aald h (r := r) (by omega) d_St_insert_14 ?_
  refine r_astore h (lv' := [(4, .ref (ad (6 * r + 9))), (0, .ref (ad 0)), (1, .int (nI r)), (2, .int i), (3, .int ch)]) d_St_insert_15 hl (by decide) rfl (fun ls hl => ?_)
  refine r_iload_n h d_St_insert_17 rfl (lv_at hl 3 rfl) ?_
  refine r_if_lt_f h 32 d_St_insert_18 (by decide) h1 ?_
  refine r_iload_n h d_St_insert_21 rfl (lv_at hl 3 rfl) ?_
  refine r_aload_n h d_St_insert_22 rfl (lv_at hl 1 rfl) ?_
  refine r_aload h d_St_insert_23 (lv_at hl 0 rfl) ?_
  refine r_iconst h (v := 1) d_St_insert_25 (by decide) ?_
  refine r_callVi h (k := 0) (n := 2) (As := [.ref (ad (6 * r + 9)), .int 1]) (c_St_countMarked l D cA cR ad hI V 1 r hr n ts wz hV) g_St_27 (by decide +kernel) rfl ⟨by decide, by decide⟩ (by decide) rfl rfl hl rfl (Nat.le_of_ble_eq_true rfl) d_St_insert_26 ?_
  refine r_icmp_le_t h 34 d_St_insert_29 (by decide) h2 ?_
  refine r_aload_n h d_St_insert_34 rfl (lv_at hl 1 rfl) ?_
  refine r_get h (k := 0) (j := 0) (by decide) rfl rfl iw_St (by decide) lk_St_12 rfl rfl d_St_insert_35 ?_
  refine r_callVi h (k := 1) (n := 0) (As := []) (c_Tr_isFull l D cA cR ad hI V) g_St_31 (by decide +kernel) rfl ⟨by decide, by decide⟩ (by decide) rfl rfl hl rfl (Nat.le_of_ble_eq_true rfl) d_St_insert_38 ?_
  refine r_if_ne_f h 52 d_St_insert_41 (by decide) (z_B_0.mpr (decide_eq_false (by rw [hV.1]; exact fun c => absurd (nI_szm (b := 30) (by omega) (by omega) c) (by omega)))) ?_
  refine r_aload_n h d_St_insert_44 rfl (lv_at hl 1 rfl) ?_
  refine r_iload_n h d_St_insert_45 rfl (lv_at hl 2 rfl) ?_
  refine r_callVi h (k := 0) (n := 1) (As := [.int (nI r)]) (c_St_isOtherTrayFull l D cA cR ad hI V (nI r)) g_St_35 (by decide +kernel) rfl ⟨by decide, by decide⟩ (by decide) rfl rfl hl rfl (Nat.le_of_ble_eq_true rfl) d_St_insert_46 ?_
  refine r_if_eq_f h 55 d_St_insert_49 (by decide) (z_B_n.mpr h4) ?_
  refine r_bipush h (v := (-2)) d_St_insert_52 (by decide) ?_
  exact r_iret h hM d_St_insert_54 rfl rfl
set_option maxHeartbeats 4000000 in
set_option maxRecDepth 100000 in
theorem c_St_insert (l : Launch) (D : va_G) (cA cR : ClassId) (ad : Nat → Nat) (hI : wI ad) (V : Nat → Nat → Int32) (i ch : Int32) (r : Nat) (hr : r < 3) (n : Nat) (ts wz : Nat → Nat) (hV : kV V n ts wz) (h1 : 0 ≤ i) (h2 : i ≤ nI (kCnt V n r 1)) (h3 : n < 30) (h4 : kFull V (nI r) = false) : wM l D cA cR ad y_St_insert (Cond.code y_St_insert b_St_insert 6 (some .int) :: wAl) 6 144 [.ref (ad 0), .int (nI r), .int i, .int ch] V (some (.int (nI n))) (kSnd (wU (kMake V n r (kA V n r i) ch) (6 * r + 10) n 1) r (nI n)) := by
  refine wM_of hI (by decide) (Nat.le_of_ble_eq_true rfl) ?_
  intro X ls h hM hl
  have hl : lv_has ls 6 [(0, .ref (ad 0)), (1, .int (nI r)), (2, .int i), (3, .int ch)] := hl
  have hel := kA_el hV h1 h2
  have hnx := kNxt_el hV r (kA V n r i) (z_beh_le hV hel)
  refine r_iload_n h d_St_insert_0 rfl (lv_at hl 1 rfl) ?_
  refine r_callSi h (n := 1) (As := [.int (nI r)]) (c_St_isReplica l D cA cR ad hI V (nI r)) g_St_23 (by decide +kernel) rfl ⟨by decide, by decide⟩ hl rfl (Nat.le_of_ble_eq_true rfl) d_St_insert_1 ?_
  refine r_if_ne_t h 9 d_St_insert_4 (by decide) (z_B_n.mpr (z_rep hr)) ?_
  refine r_aload_n h d_St_insert_9 rfl (lv_at hl 0 rfl) ?_
  refine r_get h (k := 0) (j := 1) (by decide) rfl rfl iw_St (by decide) lk_St_18 rfl rfl d_St_insert_10 ?_
  refine r_iload_n h d_St_insert_13 rfl (lv_at hl 1 rfl) ?_
  refine r_aald h (r := r) (by omega) d_St_insert_14 ?_
  refine r_astore h (lv' := [(4, .ref (ad (6 * r + 9))), (0, .ref (ad 0)), (1, .int (nI r)), (2, .int i), (3, .int ch)]) d_St_insert_15 hl (by decide) rfl (fun ls hl => ?_)
  refine r_iload_n h d_St_insert_17 rfl (lv_at hl 3 rfl) ?_
  refine r_if_lt_f h 32 d_St_insert_18 (by decide) h1 ?_
  refine r_iload_n h d_St_insert_21 rfl (lv_at hl 3 rfl) ?_
  refine r_aload_n h d_St_insert_22 rfl (lv_at hl 1 rfl) ?_
  refine r_aload h d_St_insert_23 (lv_at hl 0 rfl) ?_
  refine r_iconst h (v := 1) d_St_insert_25 (by decide) ?_
  refine r_callVi h (k := 0) (n := 2) (As := [.ref (ad (6 * r + 9)), .int 1]) (c_St_countMarked l D cA cR ad hI V 1 r hr n ts wz hV) g_St_27 (by decide +kernel) rfl ⟨by decide, by decide⟩ (by decide) rfl rfl hl rfl (Nat.le_of_ble_eq_true rfl) d_St_insert_26 ?_
  refine r_icmp_le_t h 34 d_St_insert_29 (by decide) h2 ?_
  refine r_aload_n h d_St_insert_34 rfl (lv_at hl 1 rfl) ?_
  refine r_get h (k := 0) (j := 0) (by decide) rfl rfl iw_St (by decide) lk_St_12 rfl rfl d_St_insert_35 ?_
  refine r_callVi h (k := 1) (n := 0) (As := []) (c_Tr_isFull l D cA cR ad hI V) g_St_31 (by decide +kernel) rfl ⟨by decide, by decide⟩ (by decide) rfl rfl hl rfl (Nat.le_of_ble_eq_true rfl) d_St_insert_38 ?_
  refine r_if_ne_f h 52 d_St_insert_41 (by decide) (z_B_0.mpr (decide_eq_false (by rw [hV.1]; exact fun c => absurd (nI_szm (b := 30) (by omega) (by omega) c) (by omega)))) ?_
  refine r_aload_n h d_St_insert_44 rfl (lv_at hl 1 rfl) ?_
  refine r_iload_n h d_St_insert_45 rfl (lv_at hl 2 rfl) ?_
  refine r_callVi h (k := 0) (n := 1) (As := [.int (nI r)]) (c_St_isOtherTrayFull l D cA cR ad hI V (nI r)) g_St_35 (by decide +kernel) rfl ⟨by decide, by decide⟩ (by decide) rfl rfl hl rfl (Nat.le_of_ble_eq_true rfl) d_St_insert_46 ?_
  refine r_if_eq_t h 55 d_St_insert_49 (by decide) (z_B_0.mpr h4) ?_
  refine r_aload_n h d_St_insert_55 rfl (lv_at hl 1 rfl) ?_
  refine r_iload_n h d_St_insert_56 rfl (lv_at hl 2 rfl) ?_
  refine r_iload_n h d_St_insert_57 rfl (lv_at hl 3 rfl) ?_
  refine r_if_ne h 65 d_St_insert_58 (by decide) (fun c58 => ?_) (fun c58 => ?_)
  · skip
    refine r_aload_n h d_St_insert_65 rfl (lv_at hl 1 rfl) ?_
    refine r_aload h d_St_insert_66 (lv_at hl 0 rfl) ?_
    refine r_iload_n h d_St_insert_68 rfl (lv_at hl 3 rfl) ?_
    refine r_iconst h (v := 1) d_St_insert_69 (by decide) ?_
    refine r_isub h d_St_insert_70 ?_
    refine r_callVi h (k := 0) (n := 2) (As := [.ref (ad (6 * r + 9)), .int (i - 1)]) (c_St_shownAt l D cA cR ad hI V (i - 1) r hr n ts wz hV) g_St_38 (by decide +kernel) rfl ⟨by decide, by decide⟩ (by decide) rfl rfl hl rfl (Nat.le_of_ble_eq_true rfl) d_St_insert_71 ?_
    refine r_top (kA V n r i) (by unfold kA; rw [if_neg c58]) ?_
    refine r_iload_n h d_St_insert_74 rfl (lv_at hl 4 rfl) ?_
    refine r_callVi h (k := 0) (n := 3) (As := [.int (nI r), .int (kA V n r i), .int ch]) (c_St_makeBehind l D cA cR ad hI V (kA V n r i) ch r hr n ts wz hV h3 hel (fun c => kAt_le hV h3 hr hnx (Or.inl rfl) hnx (fun _ => kHas_nxt hV c)) (kAt_le hV h3 hr hel (Or.inr rfl) hnx (fun c => absurd c (by decide)))) g_St_41 (by decide +kernel) rfl ⟨by decide, by decide⟩ (by decide) rfl rfl hl rfl (Nat.le_of_ble_eq_true rfl) d_St_insert_75 ?_
    refine r_istore h (lv' := [(5, .int (nI n)), (4, .ref (ad (6 * r + 9))), (0, .ref (ad 0)), (1, .int (nI r)), (2, .int i), (3, .int ch)]) d_St_insert_78 hl (by decide) rfl (fun ls hl => ?_)
    refine r_aload h d_St_insert_80 (lv_at hl 1 rfl) ?_
    refine r_get h (k := 6 * r + 9) (j := 0) (wN_r hr 9 (by decide)) (wG_rep cA cR ad hr _) rfl iw_Re (by decide) lk_St_45 rfl rfl d_St_insert_82 ?_
    refine r_iload h d_St_insert_85 (lv_at hl 0 rfl) ?_
    refine r_iconst h (v := 1) d_St_insert_87 (by decide) ?_
    refine r_iastN h (k := 6 * r + 10) (i := n) (wN_r hr 10 (by decide)) (wG_mk cA cR ad hr) (by omega) (by omega) d_St_insert_88 ?_
    refine r_aload_n h d_St_insert_89 rfl (lv_at hl 2 rfl) ?_
    refine r_iload_n h d_St_insert_90 rfl (lv_at hl 3 rfl) ?_
    refine r_iload h d_St_insert_91 (lv_at hl 0 rfl) ?_
    refine r_callVv h (k := 0) (n := 2) (As := [.int (nI r), .int (nI n)]) (c_St_send l D cA cR ad hI (wU (kMake V n r (kA V n r i) ch) (6 * r + 10) n 1) (nI n) r hr (fun q hq c => ⟨ts q, by rw [wU_n (by omega), kMake_o _ _ _ _ _ (by omega)]; exact (kV_ts hV hq).1, kFull_f hV h4 hr q hq c⟩)) g_St_49 (by decide +kernel) rfl ⟨by decide, by decide⟩ (by decide) rfl rfl hl rfl (Nat.le_of_ble_eq_true rfl) d_St_insert_93 ?_
    refine r_iload h d_St_insert_96 (lv_at hl 0 rfl) ?_
    exact r_iret h hM d_St_insert_98 rfl rfl
  · skip
    refine r_iconst h (v := (-1)) d_St_insert_61 (by decide) ?_
    refine r_top (kA V n r i) (by unfold kA; rw [if_pos c58]) ?_
    refine r_goto h 74 d_St_insert_62 (by decide) ?_
    refine r_iload_n h d_St_insert_74 rfl (lv_at hl 4 rfl) ?_
    refine r_callVi h (k := 0) (n := 3) (As := [.int (nI r), .int (kA V n r i), .int ch]) (c_St_makeBehind l D cA cR ad hI V (kA V n r i) ch r hr n ts wz hV h3 hel (fun c => kAt_le hV h3 hr hnx (Or.inl rfl) hnx (fun _ => kHas_nxt hV c)) (kAt_le hV h3 hr hel (Or.inr rfl) hnx (fun c => absurd c (by decide)))) g_St_41 (by decide +kernel) rfl ⟨by decide, by decide⟩ (by decide) rfl rfl hl rfl (Nat.le_of_ble_eq_true rfl) d_St_insert_75 ?_
    refine r_istore h (lv' := [(5, .int (nI n)), (4, .ref (ad (6 * r + 9))), (0, .ref (ad 0)), (1, .int (nI r)), (2, .int i), (3, .int ch)]) d_St_insert_78 hl (by decide) rfl (fun ls hl => ?_)
    refine r_aload h d_St_insert_80 (lv_at hl 1 rfl) ?_
    refine r_get h (k := 6 * r + 9) (j := 0) (wN_r hr 9 (by decide)) (wG_rep cA cR ad hr _) rfl iw_Re (by decide) lk_St_45 rfl rfl d_St_insert_82 ?_
    refine r_iload h d_St_insert_85 (lv_at hl 0 rfl) ?_
    refine r_iconst h (v := 1) d_St_insert_87 (by decide) ?_
    refine r_iastN h (k := 6 * r + 10) (i := n) (wN_r hr 10 (by decide)) (wG_mk cA cR ad hr) (by omega) (by omega) d_St_insert_88 ?_
    refine r_aload_n h d_St_insert_89 rfl (lv_at hl 2 rfl) ?_
    refine r_iload_n h d_St_insert_90 rfl (lv_at hl 3 rfl) ?_
    refine r_iload h d_St_insert_91 (lv_at hl 0 rfl) ?_
    refine r_callVv h (k := 0) (n := 2) (As := [.int (nI r), .int (nI n)]) (c_St_send l D cA cR ad hI (wU (kMake V n r (kA V n r i) ch) (6 * r + 10) n 1) (nI n) r hr (fun q hq c => ⟨ts q, by rw [wU_n (by omega), kMake_o _ _ _ _ _ (by omega)]; exact (kV_ts hV hq).1, kFull_f hV h4 hr q hq c⟩)) g_St_49 (by decide +kernel) rfl ⟨by decide, by decide⟩ (by decide) rfl rfl hl rfl (Nat.le_of_ble_eq_true rfl) d_St_insert_93 ?_
    refine r_iload h d_St_insert_96 (lv_at hl 0 rfl) ?_
    exact r_iret h hM d_St_insert_98 rfl rfl
set_option maxHeartbeats 4000000 in
set_option maxRecDepth 100000 in
theorem c_St_erase_c (l : Launch) (D : va_G) (cA cR : ClassId) (ad : Nat → Nat) (hI : wI ad) (V : Nat → Nat → Int32) (i : Int32) (r : Nat) (hr : r < 3) (n : Nat) (ts wz : Nat → Nat) (hV : kV V n ts wz) (h1 : kShown V n r i = -3) : wM l D cA cR ad y_St_erase (Cond.code y_St_erase b_St_erase 5 (some .int) :: wAl) 3 64 [.ref (ad 0), .int (nI r), .int i] V (some (.int (-1))) V := by
  refine wM_of hI (by decide) (Nat.le_of_ble_eq_true rfl) ?_
  intro X ls h hM hl
  have hl : lv_has ls 5 [(0, .ref (ad 0)), (1, .int (nI r)), (2, .int i)] := hl
  refine r_iload_n h d_St_erase_0 rfl (lv_at hl 1 rfl) ?_
  refine r_callSi h (n := 1) (As := [.int (nI r)]) (c_St_isReplica l D cA cR ad hI V (nI r)) g_St_23 (by decide +kernel) rfl ⟨by decide, by decide⟩ hl rfl (Nat.le_of_ble_eq_true rfl) d_St_erase_1 ?_
  refine r_if_ne_t h 9 d_St_erase_4 (by decide) (z_B_n.mpr (z_rep hr)) ?_
  refine r_aload_n h d_St_erase_9 rfl (lv_at hl 0 rfl) ?_
  refine r_get h (k := 0) (j := 1) (by decide) rfl rfl iw_St (by decide) lk_St_18 rfl rfl d_St_erase_10 ?_
  refine r_iload_n h d_St_erase_13 rfl (lv_at hl 1 rfl) ?_
  refine r_aald h (r := r) (by omega) d_St_erase_14 ?_
  refine r_astore_n h (lv' := [(3, .ref (ad (6 * r + 9))), (0, .ref (ad 0)), (1, .int (nI r)), (2, .int i)]) d_St_erase_15 rfl hl (by decide) rfl (fun ls hl => ?_)
  refine r_aload_n h d_St_erase_16 rfl (lv_at hl 1 rfl) ?_
  refine r_aload_n h d_St_erase_17 rfl (lv_at hl 0 rfl) ?_
  refine r_iload_n h d_St_erase_18 rfl (lv_at hl 3 rfl) ?_
  refine r_callVi h (k := 0) (n := 2) (As := [.ref (ad (6 * r + 9)), .int i]) (c_St_shownAt l D cA cR ad hI V i r hr n ts wz hV) g_St_38 (by decide +kernel) rfl ⟨by decide, by decide⟩ (by decide) rfl rfl hl rfl (Nat.le_of_ble_eq_true rfl) d_St_erase_19 ?_
  refine r_istore h (lv' := [(4, .int (kShown V n r i)), (3, .ref (ad (6 * r + 9))), (0, .ref (ad 0)), (1, .int (nI r)), (2, .int i)]) d_St_erase_22 hl (by decide) rfl (fun ls hl => ?_)
  refine r_iload h d_St_erase_24 (lv_at hl 0 rfl) ?_
  refine r_bipush h (v := (-3)) d_St_erase_26 (by decide) ?_
  refine r_icmp_ne_f h 33 d_St_erase_28 (by decide) h1 ?_
  refine r_iconst h (v := (-1)) d_St_erase_31 (by decide) ?_
  exact r_iret h hM d_St_erase_32 rfl rfl
set_option maxHeartbeats 4000000 in
set_option maxRecDepth 100000 in
theorem c_St_erase_d (l : Launch) (D : va_G) (cA cR : ClassId) (ad : Nat → Nat) (hI : wI ad) (V : Nat → Nat → Int32) (i : Int32) (r : Nat) (hr : r < 3) (n : Nat) (ts wz : Nat → Nat) (hV : kV V n ts wz) (h1 : ¬ kShown V n r i = -3) (h4 : kFull V (nI r) = true) : wM l D cA cR ad y_St_erase (Cond.code y_St_erase b_St_erase 5 (some .int) :: wAl) 3 64 [.ref (ad 0), .int (nI r), .int i] V (some (.int (-2))) V := by
  refine wM_of hI (by decide) (Nat.le_of_ble_eq_true rfl) ?_
  intro X ls h hM hl
  have hl : lv_has ls 5 [(0, .ref (ad 0)), (1, .int (nI r)), (2, .int i)] := hl
  refine r_iload_n h d_St_erase_0 rfl (lv_at hl 1 rfl) ?_
  refine r_callSi h (n := 1) (As := [.int (nI r)]) (c_St_isReplica l D cA cR ad hI V (nI r)) g_St_23 (by decide +kernel) rfl ⟨by decide, by decide⟩ hl rfl (Nat.le_of_ble_eq_true rfl) d_St_erase_1 ?_
  refine r_if_ne_t h 9 d_St_erase_4 (by decide) (z_B_n.mpr (z_rep hr)) ?_
  refine r_aload_n h d_St_erase_9 rfl (lv_at hl 0 rfl) ?_
  refine r_get h (k := 0) (j := 1) (by decide) rfl rfl iw_St (by decide) lk_St_18 rfl rfl d_St_erase_10 ?_
  refine r_iload_n h d_St_erase_13 rfl (lv_at hl 1 rfl) ?_
  refine r_aald h (r := r) (by omega) d_St_erase_14 ?_
  refine r_astore_n h (lv' := [(3, .ref (ad (6 * r + 9))), (0, .ref (ad 0)), (1, .int (nI r)), (2, .int i)]) d_St_erase_15 rfl hl (by decide) rfl (fun ls hl => ?_)
  refine r_aload_n h d_St_erase_16 rfl (lv_at hl 1 rfl) ?_
  refine r_aload_n h d_St_erase_17 rfl (lv_at hl 0 rfl) ?_
  refine r_iload_n h d_St_erase_18 rfl (lv_at hl 3 rfl) ?_
  refine r_callVi h (k := 0) (n := 2) (As := [.ref (ad (6 * r + 9)), .int i]) (c_St_shownAt l D cA cR ad hI V i r hr n ts wz hV) g_St_38 (by decide +kernel) rfl ⟨by decide, by decide⟩ (by decide) rfl rfl hl rfl (Nat.le_of_ble_eq_true rfl) d_St_erase_19 ?_
  refine r_istore h (lv' := [(4, .int (kShown V n r i)), (3, .ref (ad (6 * r + 9))), (0, .ref (ad 0)), (1, .int (nI r)), (2, .int i)]) d_St_erase_22 hl (by decide) rfl (fun ls hl => ?_)
  refine r_iload h d_St_erase_24 (lv_at hl 0 rfl) ?_
  refine r_bipush h (v := (-3)) d_St_erase_26 (by decide) ?_
  refine r_icmp_ne_t h 33 d_St_erase_28 (by decide) h1 ?_
  refine r_aload_n h d_St_erase_33 rfl (lv_at hl 2 rfl) ?_
  refine r_iload_n h d_St_erase_34 rfl (lv_at hl 3 rfl) ?_
  refine r_callVi h (k := 0) (n := 1) (As := [.int (nI r)]) (c_St_isOtherTrayFull l D cA cR ad hI V (nI r)) g_St_35 (by decide +kernel) rfl ⟨by decide, by decide⟩ (by decide) rfl rfl hl rfl (Nat.le_of_ble_eq_true rfl) d_St_erase_35 ?_
  refine r_if_eq_f h 44 d_St_erase_38 (by decide) (z_B_n.mpr h4) ?_
  refine r_bipush h (v := (-2)) d_St_erase_41 (by decide) ?_
  exact r_iret h hM d_St_erase_43 rfl rfl
set_option maxHeartbeats 4000000 in
set_option maxRecDepth 100000 in
theorem c_St_erase (l : Launch) (D : va_G) (cA cR : ClassId) (ad : Nat → Nat) (hI : wI ad) (V : Nat → Nat → Int32) (i : Int32) (r : Nat) (hr : r < 3) (n : Nat) (ts wz : Nat → Nat) (hV : kV V n ts wz) (e : Nat) (he : e < n) (h1 : kShown V n r i = nI e) (h4 : kFull V (nI r) = false) : wM l D cA cR ad y_St_erase (Cond.code y_St_erase b_St_erase 5 (some .int) :: wAl) 3 64 [.ref (ad 0), .int (nI r), .int i] V (some (.int (nI e))) (kSnd (wU V (6 * r + 10) e 2) r (-10 - nI e)) := by
  refine wM_of hI (by decide) (Nat.le_of_ble_eq_true rfl) ?_
  intro X ls h hM hl
  have hl : lv_has ls 5 [(0, .ref (ad 0)), (1, .int (nI r)), (2, .int i)] := hl
  have hle := kV_n hV
  refine r_iload_n h d_St_erase_0 rfl (lv_at hl 1 rfl) ?_
  refine r_callSi h (n := 1) (As := [.int (nI r)]) (c_St_isReplica l D cA cR ad hI V (nI r)) g_St_23 (by decide +kernel) rfl ⟨by decide, by decide⟩ hl rfl (Nat.le_of_ble_eq_true rfl) d_St_erase_1 ?_
  refine r_if_ne_t h 9 d_St_erase_4 (by decide) (z_B_n.mpr (z_rep hr)) ?_
  refine r_aload_n h d_St_erase_9 rfl (lv_at hl 0 rfl) ?_
  refine r_get h (k := 0) (j := 1) (by decide) rfl rfl iw_St (by decide) lk_St_18 rfl rfl d_St_erase_10 ?_
  refine r_iload_n h d_St_erase_13 rfl (lv_at hl 1 rfl) ?_
  refine r_aald h (r := r) (by omega) d_St_erase_14 ?_
  refine r_astore_n h (lv' := [(3, .ref (ad (6 * r + 9))), (0, .ref (ad 0)), (1, .int (nI r)), (2, .int i)]) d_St_erase_15 rfl hl (by decide) rfl (fun ls hl => ?_)
  refine r_aload_n h d_St_erase_16 rfl (lv_at hl 1 rfl) ?_
  refine r_aload_n h d_St_erase_17 rfl (lv_at hl 0 rfl) ?_
  refine r_iload_n h d_St_erase_18 rfl (lv_at hl 3 rfl) ?_
  refine r_callVi h (k := 0) (n := 2) (As := [.ref (ad (6 * r + 9)), .int i]) (c_St_shownAt l D cA cR ad hI V i r hr n ts wz hV) g_St_38 (by decide +kernel) rfl ⟨by decide, by decide⟩ (by decide) rfl rfl hl rfl (Nat.le_of_ble_eq_true rfl) d_St_erase_19 ?_
  refine r_top (nI e) h1 ?_
  refine r_istore h (lv' := [(4, .int (nI e)), (3, .ref (ad (6 * r + 9))), (0, .ref (ad 0)), (1, .int (nI r)), (2, .int i)]) d_St_erase_22 hl (by decide) rfl (fun ls hl => ?_)
  refine r_iload h d_St_erase_24 (lv_at hl 0 rfl) ?_
  refine r_bipush h (v := (-3)) d_St_erase_26 (by decide) ?_
  refine r_icmp_ne_t h 33 d_St_erase_28 (by decide) (z_n3 (by omega)) ?_
  refine r_aload_n h d_St_erase_33 rfl (lv_at hl 2 rfl) ?_
  refine r_iload_n h d_St_erase_34 rfl (lv_at hl 3 rfl) ?_
  refine r_callVi h (k := 0) (n := 1) (As := [.int (nI r)]) (c_St_isOtherTrayFull l D cA cR ad hI V (nI r)) g_St_35 (by decide +kernel) rfl ⟨by decide, by decide⟩ (by decide) rfl rfl hl rfl (Nat.le_of_ble_eq_true rfl) d_St_erase_35 ?_
  refine r_if_eq_t h 44 d_St_erase_38 (by decide) (z_B_0.mpr h4) ?_
  refine r_aload_n h d_St_erase_44 rfl (lv_at hl 1 rfl) ?_
  refine r_get h (k := 6 * r + 9) (j := 0) (wN_r hr 9 (by decide)) (wG_rep cA cR ad hr _) rfl iw_Re (by decide) lk_St_45 rfl rfl d_St_erase_45 ?_
  refine r_iload h d_St_erase_48 (lv_at hl 0 rfl) ?_
  refine r_iconst h (v := 2) d_St_erase_50 (by decide) ?_
  refine r_iastN h (k := 6 * r + 10) (i := e) (wN_r hr 10 (by decide)) (wG_mk cA cR ad hr) (by omega) (by omega) d_St_erase_51 ?_
  refine r_aload_n h d_St_erase_52 rfl (lv_at hl 2 rfl) ?_
  refine r_iload_n h d_St_erase_53 rfl (lv_at hl 3 rfl) ?_
  refine r_bipush h (v := (-10)) d_St_erase_54 (by decide) ?_
  refine r_iload h d_St_erase_56 (lv_at hl 0 rfl) ?_
  refine r_isub h d_St_erase_58 ?_
  refine r_callVv h (k := 0) (n := 2) (As := [.int (nI r), .int ((-10) - (nI e))]) (c_St_send l D cA cR ad hI (wU V (6 * r + 10) e 2) (-10 - nI e) r hr (fun q hq c => ⟨ts q, by rw [wU_n (by omega)]; exact (kV_ts hV hq).1, kFull_f hV h4 hr q hq c⟩)) g_St_49 (by decide +kernel) rfl ⟨by decide, by decide⟩ (by decide) rfl rfl hl rfl (Nat.le_of_ble_eq_true rfl) d_St_erase_59 ?_
  refine r_iload h d_St_erase_62 (lv_at hl 0 rfl) ?_
  exact r_iret h hM d_St_erase_64 rfl rfl
set_option maxHeartbeats 4000000 in
set_option maxRecDepth 100000 in
theorem c_St_deliver_c (l : Launch) (D : va_G) (cA cR : ClassId) (ad : Nat → Nat) (hI : wI ad) (V : Nat → Nat → Int32) (k : Int32) (r : Nat) (hr : r < 3) (h1 : (decide (0 ≤ k) && decide (k < V (6 * r + 11) 0)) = false) : wM l D cA cR ad y_St_deliver (Cond.code y_St_deliver b_St_deliver 5 (some .int) :: wAl) 4 89 [.ref (ad 0), .int (nI r), .int k] V (some (.int (-1))) V := by
  refine wM_of hI (by decide) (Nat.le_of_ble_eq_true rfl) ?_
  intro X ls h hM hl
  have hl : lv_has ls 5 [(0, .ref (ad 0)), (1, .int (nI r)), (2, .int k)] := hl
  refine r_iload_n h d_St_deliver_0 rfl (lv_at hl 1 rfl) ?_
  refine r_callSi h (n := 1) (As := [.int (nI r)]) (c_St_isReplica l D cA cR ad hI V (nI r)) g_St_23 (by decide +kernel) rfl ⟨by decide, by decide⟩ hl rfl (Nat.le_of_ble_eq_true rfl) d_St_deliver_1 ?_
  refine r_if_ne_t h 9 d_St_deliver_4 (by decide) (z_B_n.mpr (z_rep hr)) ?_
  refine r_aload_n h d_St_deliver_9 rfl (lv_at hl 0 rfl) ?_
  refine r_get h (k := 0) (j := 1) (by decide) rfl rfl iw_St (by decide) lk_St_18 rfl rfl d_St_deliver_10 ?_
  refine r_iload_n h d_St_deliver_13 rfl (lv_at hl 1 rfl) ?_
  refine r_aald h (r := r) (by omega) d_St_deliver_14 ?_
  refine r_astore_n h (lv' := [(3, .ref (ad (6 * r + 9))), (0, .ref (ad 0)), (1, .int (nI r)), (2, .int k)]) d_St_deliver_15 rfl hl (by decide) rfl (fun ls hl => ?_)
  refine r_aload_n h d_St_deliver_16 rfl (lv_at hl 0 rfl) ?_
  refine r_get h (k := 6 * r + 9) (j := 1) (wN_r hr 9 (by decide)) (wG_rep cA cR ad hr _) rfl iw_Re (by decide) lk_St_53 rfl rfl d_St_deliver_17 ?_
  refine r_iload_n h d_St_deliver_20 rfl (lv_at hl 3 rfl) ?_
  refine r_callVi h (k := 6 * r + 11) (n := 1) (As := [.int k]) (c_Me_has l D cA cR ad hI V k (6 * r + 11) (wN_r hr 11 (by decide)) (wG_tm cA cR ad hr)) g_St_57 (by decide +kernel) rfl ⟨by decide, by decide⟩ (wN_r hr 11 (by decide)) (wG_tm cA cR ad hr _) rfl hl rfl (Nat.le_of_ble_eq_true rfl) d_St_deliver_21 ?_
  refine r_if_ne_f h 29 d_St_deliver_24 (by decide) (z_B_0.mpr h1) ?_
  refine r_iconst h (v := (-1)) d_St_deliver_27 (by decide) ?_
  exact r_iret h hM d_St_deliver_28 rfl rfl
set_option maxHeartbeats 4000000 in
set_option maxRecDepth 100000 in
theorem c_St_deliver_d (l : Launch) (D : va_G) (cA cR : ClassId) (ad : Nat → Nat) (hI : wI ad) (V : Nat → Nat → Int32) (r : Nat) (hr : r < 3) (n : Nat) (ts wz : Nat → Nat) (W : Nat → Nat → Int32) (hZ : kZ V W n ts wz) (k : Nat) (hk : k < ts r) (hrd : kRdy (kTake V (6 * r + 11) (ts r) k) r (V (6 * r + 12) k) = false) : wM l D cA cR ad y_St_deliver (Cond.code y_St_deliver b_St_deliver 5 (some .int) :: wAl) 4 89 [.ref (ad 0), .int (nI r), .int (nI k)] V (some (.int 0)) (kPut (kTake V (6 * r + 11) (ts r) k) (6 * r + 13) (wz r) (V (6 * r + 12) k)) := by
  refine wM_of hI (by decide) (Nat.le_of_ble_eq_true rfl) ?_
  intro X ls h hM hl
  have hl : lv_has ls 5 [(0, .ref (ad 0)), (1, .int (nI r)), (2, .int (nI k))] := hl
  have hts := kV_ts hZ.1 hr
  have hkm := kV_tc hZ.1 hr hk
  have h90 := kZ_90 hZ.1 hZ.2.1 hr
  have hV1 := (M_take hZ.1 hZ.2.2 hr hk).1.1
  refine r_iload_n h d_St_deliver_0 rfl (lv_at hl 1 rfl) ?_
  refine r_callSi h (n := 1) (As := [.int (nI r)]) (c_St_isReplica l D cA cR ad hI V (nI r)) g_St_23 (by decide +kernel) rfl ⟨by decide, by decide⟩ hl rfl (Nat.le_of_ble_eq_true rfl) d_St_deliver_1 ?_
  refine r_if_ne_t h 9 d_St_deliver_4 (by decide) (z_B_n.mpr (z_rep hr)) ?_
  refine r_aload_n h d_St_deliver_9 rfl (lv_at hl 0 rfl) ?_
  refine r_get h (k := 0) (j := 1) (by decide) rfl rfl iw_St (by decide) lk_St_18 rfl rfl d_St_deliver_10 ?_
  refine r_iload_n h d_St_deliver_13 rfl (lv_at hl 1 rfl) ?_
  refine r_aald h (r := r) (by omega) d_St_deliver_14 ?_
  refine r_astore_n h (lv' := [(3, .ref (ad (6 * r + 9))), (0, .ref (ad 0)), (1, .int (nI r)), (2, .int (nI k))]) d_St_deliver_15 rfl hl (by decide) rfl (fun ls hl => ?_)
  refine r_aload_n h d_St_deliver_16 rfl (lv_at hl 0 rfl) ?_
  refine r_get h (k := 6 * r + 9) (j := 1) (wN_r hr 9 (by decide)) (wG_rep cA cR ad hr _) rfl iw_Re (by decide) lk_St_53 rfl rfl d_St_deliver_17 ?_
  refine r_iload_n h d_St_deliver_20 rfl (lv_at hl 3 rfl) ?_
  refine r_callVi h (k := 6 * r + 11) (n := 1) (As := [.int (nI k)]) (c_Me_has l D cA cR ad hI V (nI k) (6 * r + 11) (wN_r hr 11 (by decide)) (wG_tm cA cR ad hr)) g_St_57 (by decide +kernel) rfl ⟨by decide, by decide⟩ (wN_r hr 11 (by decide)) (wG_tm cA cR ad hr _) rfl hl rfl (Nat.le_of_ble_eq_true rfl) d_St_deliver_21 ?_
  refine r_if_ne_t h 29 d_St_deliver_24 (by decide) (z_B_n.mpr (z_hasT hts.1 (by omega) hk)) ?_
  refine r_aload_n h d_St_deliver_29 rfl (lv_at hl 0 rfl) ?_
  refine r_get h (k := 6 * r + 9) (j := 1) (wN_r hr 9 (by decide)) (wG_rep cA cR ad hr _) rfl iw_Re (by decide) lk_St_53 rfl rfl d_St_deliver_30 ?_
  refine r_iload_n h d_St_deliver_33 rfl (lv_at hl 3 rfl) ?_
  refine r_callVi h (k := 6 * r + 11) (n := 1) (As := [.int (nI k)]) (c_Me_take l D cA cR ad hI V k (6 * r + 11) (wN_r hr 11 (by decide)) (wG_tm cA cR ad hr) 50 (wN_r hr 12 (by decide)) (wG_tc cA cR ad hr) (by decide) (ts r) (kV_ts hZ.1 hr).1 hk (kV_ts hZ.1 hr).2) g_St_62 (by decide +kernel) rfl ⟨by decide, by decide⟩ (wN_r hr 11 (by decide)) (wG_tm cA cR ad hr _) rfl hl rfl (Nat.le_of_ble_eq_true rfl) d_St_deliver_34 ?_
  refine r_istore h (lv' := [(4, .int (V (6 * r + 12) k)), (3, .ref (ad (6 * r + 9))), (0, .ref (ad 0)), (1, .int (nI r)), (2, .int (nI k))]) d_St_deliver_37 hl (by decide) rfl (fun ls hl => ?_)
  refine r_aload_n h d_St_deliver_39 rfl (lv_at hl 2 rfl) ?_
  refine r_aload_n h d_St_deliver_40 rfl (lv_at hl 1 rfl) ?_
  refine r_iload h d_St_deliver_41 (lv_at hl 0 rfl) ?_
  refine r_callVi h (k := 0) (n := 2) (As := [.ref (ad (6 * r + 9)), .int (V (6 * r + 12) k)]) (c_St_isReady l D cA cR ad hI (kTake V (6 * r + 11) (ts r) k) (V (6 * r + 12) k) r hr n _ _ hV1 hkm) g_St_66 (by decide +kernel) rfl ⟨by decide, by decide⟩ (by decide) rfl rfl hl rfl (Nat.le_of_ble_eq_true rfl) d_St_deliver_43 ?_
  refine r_if_ne_f h 60 d_St_deliver_46 (by decide) (z_B_0.mpr hrd) ?_
  refine r_aload_n h d_St_deliver_49 rfl (lv_at hl 1 rfl) ?_
  refine r_get h (k := 6 * r + 9) (j := 2) (wN_r hr 9 (by decide)) (wG_rep cA cR ad hr _) rfl iw_Re (by decide) lk_St_70 rfl rfl d_St_deliver_50 ?_
  refine r_iload h d_St_deliver_53 (lv_at hl 0 rfl) ?_
  refine r_callVv h (k := 6 * r + 13) (n := 1) (As := [.int (V (6 * r + 12) k)]) (c_Me_add l D cA cR ad hI (kTake V (6 * r + 11) (ts r) k) (V (6 * r + 12) k) (6 * r + 13) (wN_r hr 13 (by decide)) (wG_wm cA cR ad hr) 90 (wN_r hr 14 (by decide)) (wG_wc cA cR ad hr) (by decide) (wz r) (kV_wz hV1 hr) (by omega)) g_St_73 (by decide +kernel) rfl ⟨by decide, by decide⟩ (wN_r hr 13 (by decide)) (wG_wm cA cR ad hr _) rfl hl rfl (Nat.le_of_ble_eq_true rfl) d_St_deliver_55 ?_
  refine r_iconst h (v := 0) d_St_deliver_58 (by decide) ?_
  exact r_iret h hM d_St_deliver_59 rfl rfl
set_option maxHeartbeats 4000000 in
set_option maxRecDepth 100000 in
theorem c_St_deliver (l : Launch) (D : va_G) (cA cR : ClassId) (ad : Nat → Nat) (hI : wI ad) (V : Nat → Nat → Int32) (r : Nat) (hr : r < 3) (n : Nat) (ts wz : Nat → Nat) (W : Nat → Nat → Int32) (hZ : kZ V W n ts wz) (k : Nat) (hk : k < ts r) (hrd : kRdy (kTake V (6 * r + 11) (ts r) k) r (V (6 * r + 12) k) = true) : wM l D cA cR ad y_St_deliver (Cond.code y_St_deliver b_St_deliver 5 (some .int) :: wAl) 4 89 [.ref (ad 0), .int (nI r), .int (nI k)] V (some (.int (nI ((kWk r (wz r) (kEff (kTake V (6 * r + 11) (ts r) k) r (V (6 * r + 12) k)) (wz r)).2 + 1)))) ((kWk r (wz r) (kEff (kTake V (6 * r + 11) (ts r) k) r (V (6 * r + 12) k)) (wz r)).1) := by
  refine wM_of hI (by decide) (Nat.le_of_ble_eq_true rfl) ?_
  intro X ls h hM hl
  have hl : lv_has ls 5 [(0, .ref (ad 0)), (1, .int (nI r)), (2, .int (nI k))] := hl
  have hts := kV_ts hZ.1 hr
  have hkm := kV_tc hZ.1 hr hk
  have h90 := kZ_90 hZ.1 hZ.2.1 hr
  have hV1 := (M_take hZ.1 hZ.2.2 hr hk).1.1
  refine r_iload_n h d_St_deliver_0 rfl (lv_at hl 1 rfl) ?_
  refine r_callSi h (n := 1) (As := [.int (nI r)]) (c_St_isReplica l D cA cR ad hI V (nI r)) g_St_23 (by decide +kernel) rfl ⟨by decide, by decide⟩ hl rfl (Nat.le_of_ble_eq_true rfl) d_St_deliver_1 ?_
  refine r_if_ne_t h 9 d_St_deliver_4 (by decide) (z_B_n.mpr (z_rep hr)) ?_
  refine r_aload_n h d_St_deliver_9 rfl (lv_at hl 0 rfl) ?_
  refine r_get h (k := 0) (j := 1) (by decide) rfl rfl iw_St (by decide) lk_St_18 rfl rfl d_St_deliver_10 ?_
  refine r_iload_n h d_St_deliver_13 rfl (lv_at hl 1 rfl) ?_
  refine r_aald h (r := r) (by omega) d_St_deliver_14 ?_
  refine r_astore_n h (lv' := [(3, .ref (ad (6 * r + 9))), (0, .ref (ad 0)), (1, .int (nI r)), (2, .int (nI k))]) d_St_deliver_15 rfl hl (by decide) rfl (fun ls hl => ?_)
  refine r_aload_n h d_St_deliver_16 rfl (lv_at hl 0 rfl) ?_
  refine r_get h (k := 6 * r + 9) (j := 1) (wN_r hr 9 (by decide)) (wG_rep cA cR ad hr _) rfl iw_Re (by decide) lk_St_53 rfl rfl d_St_deliver_17 ?_
  refine r_iload_n h d_St_deliver_20 rfl (lv_at hl 3 rfl) ?_
  refine r_callVi h (k := 6 * r + 11) (n := 1) (As := [.int (nI k)]) (c_Me_has l D cA cR ad hI V (nI k) (6 * r + 11) (wN_r hr 11 (by decide)) (wG_tm cA cR ad hr)) g_St_57 (by decide +kernel) rfl ⟨by decide, by decide⟩ (wN_r hr 11 (by decide)) (wG_tm cA cR ad hr _) rfl hl rfl (Nat.le_of_ble_eq_true rfl) d_St_deliver_21 ?_
  refine r_if_ne_t h 29 d_St_deliver_24 (by decide) (z_B_n.mpr (z_hasT hts.1 (by omega) hk)) ?_
  refine r_aload_n h d_St_deliver_29 rfl (lv_at hl 0 rfl) ?_
  refine r_get h (k := 6 * r + 9) (j := 1) (wN_r hr 9 (by decide)) (wG_rep cA cR ad hr _) rfl iw_Re (by decide) lk_St_53 rfl rfl d_St_deliver_30 ?_
  refine r_iload_n h d_St_deliver_33 rfl (lv_at hl 3 rfl) ?_
  refine r_callVi h (k := 6 * r + 11) (n := 1) (As := [.int (nI k)]) (c_Me_take l D cA cR ad hI V k (6 * r + 11) (wN_r hr 11 (by decide)) (wG_tm cA cR ad hr) 50 (wN_r hr 12 (by decide)) (wG_tc cA cR ad hr) (by decide) (ts r) (kV_ts hZ.1 hr).1 hk (kV_ts hZ.1 hr).2) g_St_62 (by decide +kernel) rfl ⟨by decide, by decide⟩ (wN_r hr 11 (by decide)) (wG_tm cA cR ad hr _) rfl hl rfl (Nat.le_of_ble_eq_true rfl) d_St_deliver_34 ?_
  refine r_istore h (lv' := [(4, .int (V (6 * r + 12) k)), (3, .ref (ad (6 * r + 9))), (0, .ref (ad 0)), (1, .int (nI r)), (2, .int (nI k))]) d_St_deliver_37 hl (by decide) rfl (fun ls hl => ?_)
  refine r_aload_n h d_St_deliver_39 rfl (lv_at hl 2 rfl) ?_
  refine r_aload_n h d_St_deliver_40 rfl (lv_at hl 1 rfl) ?_
  refine r_iload h d_St_deliver_41 (lv_at hl 0 rfl) ?_
  refine r_callVi h (k := 0) (n := 2) (As := [.ref (ad (6 * r + 9)), .int (V (6 * r + 12) k)]) (c_St_isReady l D cA cR ad hI (kTake V (6 * r + 11) (ts r) k) (V (6 * r + 12) k) r hr n _ _ hV1 hkm) g_St_66 (by decide +kernel) rfl ⟨by decide, by decide⟩ (by decide) rfl rfl hl rfl (Nat.le_of_ble_eq_true rfl) d_St_deliver_43 ?_
  refine r_if_ne_t h 60 d_St_deliver_46 (by decide) (z_B_n.mpr hrd) ?_
  refine r_aload_n h d_St_deliver_60 rfl (lv_at hl 1 rfl) ?_
  refine r_iload h d_St_deliver_61 (lv_at hl 0 rfl) ?_
  refine r_callSv h (n := 2) (As := [.ref (ad (6 * r + 9)), .int (V (6 * r + 12) k)]) (c_St_takeEffect l D cA cR ad hI (kTake V (6 * r + 11) (ts r) k) (V (6 * r + 12) k) r hr n (kV_n hZ.1) hkm) g_St_77 (by decide +kernel) rfl ⟨by decide, by decide⟩ hl rfl (Nat.le_of_ble_eq_true rfl) d_St_deliver_63 ?_
  refine r_iconst h (v := 1) d_St_deliver_66 (by decide) ?_
  refine r_aload_n h d_St_deliver_67 rfl (lv_at hl 2 rfl) ?_
  refine r_aload_n h d_St_deliver_68 rfl (lv_at hl 1 rfl) ?_
  refine r_callVi h (k := 0) (n := 1) (As := [.ref (ad (6 * r + 9))]) (c_St_wakeWaiting l D cA cR ad hI (kEff (kTake V (6 * r + 11) (ts r) k) r (V (6 * r + 12) k)) r hr n _ wz _ (Z_del1 hZ hr hk rfl hrd) (wz r) rfl) g_St_81 (by decide +kernel) rfl ⟨by decide, by decide⟩ (by decide) rfl rfl hl rfl (Nat.le_of_ble_eq_true rfl) d_St_deliver_69 ?_
  refine r_iadd h d_St_deliver_72 ?_
  refine r_top (nI ((kWk r (wz r) (kEff (kTake V (6 * r + 11) (ts r) k) r (V (6 * r + 12) k)) (wz r)).2 + 1)) (by rw [Int32.add_comm, nI_1]) ?_
  exact r_iret h hM d_St_deliver_73 rfl rfl
