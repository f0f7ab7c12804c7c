-- CONTRACTS: SideTreeText (laid by gen/conB.py)
set_option maxHeartbeats 4000000 in
set_option maxRecDepth 100000 in
theorem c_St_isReplica (l : Launch) (D : va_G) (cA cR : ClassId) (ad : Nat → Nat) (hI : wI ad) (V : Nat → Nat → Int32) (x : Int32) : wM l D cA cR ad y_St_isReplica (Cond.code y_St_isReplica b_St_isReplica 1 (some .boolean) :: wAl) 0 0 [.int x] V (some (.int (z_B (decide (0 ≤ x) && decide (x < 3))))) V := by
  refine wM_of hI (by decide) (Nat.le_of_ble_eq_true rfl) ?_
  intro X ls h hM hl
  have hl : lv_has ls 1 [(0, .int x)] := hl
  refine r_iload_n h d_St_isReplica_0 rfl (lv_at hl 0 rfl) ?_
  refine r_if_lt h 13 d_St_isReplica_1 (by decide) (fun c1 => ?_) (fun c1 => ?_)
  · skip
    refine r_iconst h (v := 0) d_St_isReplica_13 (by decide) ?_
    exact r_zret h hM (by decide) d_St_isReplica_14 (rF (by rw [decide_eq_false (Int32.not_le.mpr c1)]; rfl)) rfl
  · skip
    refine r_iload_n h d_St_isReplica_4 rfl (lv_at hl 0 rfl) ?_
    refine r_iconst h (v := 3) d_St_isReplica_5 (by decide) ?_
    refine r_icmp_ge h 13 d_St_isReplica_6 (by decide) (fun c6 => ?_) (fun c6 => ?_)
    · skip
      refine r_iconst h (v := 0) d_St_isReplica_13 (by decide) ?_
      exact r_zret h hM (by decide) d_St_isReplica_14 (rF (by rw [decide_eq_true c1, decide_eq_false (Int32.not_lt.mpr c6)]; rfl)) rfl
    · skip
      refine r_iconst h (v := 1) d_St_isReplica_9 (by decide) ?_
      refine r_goto h 14 d_St_isReplica_10 (by decide) ?_
      exact r_zret h hM (by decide) d_St_isReplica_14 (rT (by rw [decide_eq_true c1, decide_eq_true c6]; rfl)) rfl
theorem z_rep {r : Nat} (hr : r < 3) : (decide ((0 : Int32) ≤ nI r) && decide (nI r < 3)) = true := by
  rw [decide_eq_true (nI_pos' (by omega)), show decide (nI r < 3) = true from decide_eq_true (nI_lz (b := 3) (by omega) (by omega) hr)]
  rfl
def z_bad (x : Int32) : Prop := (decide ((0 : Int32) ≤ x) && decide (x < 3)) = false
theorem z_repc (x : Int32) : z_bad x ∨ ∃ r, r < 3 ∧ x = nI r := by
  unfold z_bad
  by_cases h0 : (0 : Int32) ≤ x
  · by_cases h3 : x < 3
    · right
      obtain ⟨j, j1, j2⟩ := nI_of (Int32.not_lt.mpr h0)
      refine ⟨j, ?_, j2⟩
      rw [j2] at h3
      exact (nI_ltI (b := 3) (by omega) (by omega)).mp h3
    · left
      rw [decide_eq_false h3, Bool.and_false]
  · left
    rw [decide_eq_false h0]
    rfl
set_option maxHeartbeats 4000000 in
set_option maxRecDepth 100000 in
theorem c_St_countMarked (l : Launch) (D : va_G) (cA cR : ClassId) (ad : Nat → Nat) (hI : wI ad) (V : Nat → Nat → Int32) (x : Int32) (r : Nat) (hr : r < 3) (n : Nat) (ts wz : Nat → Nat) (hV : kV V n ts wz) : wM l D cA cR ad y_St_countMarked (Cond.code y_St_countMarked b_St_countMarked 5 (some .int) :: wAl) 0 0 [.ref (ad 0), .ref (ad (6 * r + 9)), .int x] V (some (.int (nI (kCnt V n r x)))) V := by
  refine wM_of hI (by decide) (Nat.le_of_ble_eq_true rfl) ?_
  intro X ls h hM hl
  have hl : lv_has ls 5 [(0, .ref (ad 0)), (1, .ref (ad (6 * r + 9))), (2, .int x)] := hl
  have hn := hV.1
  have hle := kV_n hV
  have hod := kV_hod hV
  have hpa := kV_hpa hV
  have hro := kV_hro hV
  have loop : ∀ (k e c : Nat) (ls : Array Slot), e + k = n → z_cnt (fun e => decide (V (6 * r + 10) e = x)) k e c = kCnt V n r x → lv_has ls 5 [(4, .int (nI e)), (3, .int (nI c)), (0, .ref (ad 0)), (1, .ref (ad (6 * r + 9))), (2, .int x)] → wv X cA cR ad V 5 ls [] := by
    intro k
    induction k with
    | zero =>
      intro e c ls hp hz hl
      refine r_iload h d_St_countMarked_5 (lv_at hl 0 rfl) ?_
      refine r_aload_n h d_St_countMarked_7 rfl (lv_at hl 2 rfl) ?_
      refine r_get h (k := 0) (j := 0) (by decide) rfl rfl iw_St (by decide) lk_St_12 rfl rfl d_St_countMarked_8 ?_
      refine r_get h (k := 1) (j := 6) (by decide) rfl rfl iw_Tr (by decide) lk_St_96 rfl rfl d_St_countMarked_11 ?_
      refine r_top (nI n) hn ?_
      refine r_icmp_ge_t h 37 d_St_countMarked_14 (by decide) (nI_sz (by omega) (by omega) (by omega)) ?_
      refine r_iload_n h d_St_countMarked_37 rfl (lv_at hl 1 rfl) ?_
      exact r_iret h hM d_St_countMarked_38 (rI (by rw [← hz]; rfl)) rfl
    | succ k ih =>
      intro e c ls hp hz hl
      refine r_iload h d_St_countMarked_5 (lv_at hl 0 rfl) ?_
      refine r_aload_n h d_St_countMarked_7 rfl (lv_at hl 2 rfl) ?_
      refine r_get h (k := 0) (j := 0) (by decide) rfl rfl iw_St (by decide) lk_St_12 rfl rfl d_St_countMarked_8 ?_
      refine r_get h (k := 1) (j := 6) (by decide) rfl rfl iw_Tr (by decide) lk_St_96 rfl rfl d_St_countMarked_11 ?_
      refine r_top (nI n) hn ?_
      refine r_icmp_ge_f h 37 d_St_countMarked_14 (by decide) (nI_lz (by omega) (by omega) (by omega)) ?_
      refine r_aload_n h d_St_countMarked_17 rfl (lv_at hl 3 rfl) ?_
      refine r_get h (k := 6 * r + 9) (j := 0) (wN_r hr 9 (by decide)) (wG_rep cA cR ad hr _) rfl iw_Re (by decide) lk_St_45 rfl rfl d_St_countMarked_18 ?_
      refine r_iload h d_St_countMarked_21 (lv_at hl 0 rfl) ?_
      refine r_ialdN h (k := 6 * r + 10) (i := e) (wN_r hr 10 (by decide)) (wG_mk cA cR ad hr) (by omega) (by omega) d_St_countMarked_23 ?_
      refine r_iload_n h d_St_countMarked_24 rfl (lv_at hl 4 rfl) ?_
      refine r_icmp_ne h 31 d_St_countMarked_25 (by decide) (fun c25 => ?_) (fun c25 => ?_)
      · skip
        refine r_iinc h (v := nI (e + 1)) (lv' := [(4, .int (nI (e + 1))), (3, .int (nI c)), (0, .ref (ad 0)), (1, .ref (ad (6 * r + 9))), (2, .int x)]) d_St_countMarked_31 hl (k := 0) rfl (z_inc e) (by decide) rfl (fun ls hl => ?_)
        refine r_goto h 5 d_St_countMarked_34 (by decide) ?_
        exact ih (e + 1) c ls (by omega) (by rw [← hz, z_cnt_f (decide_eq_false c25)]) hl
      · skip
        refine r_iinc h (v := nI (c + 1)) (lv' := [(3, .int (nI (c + 1))), (4, .int (nI e)), (0, .ref (ad 0)), (1, .ref (ad (6 * r + 9))), (2, .int x)]) d_St_countMarked_28 hl (k := 1) rfl (z_inc c) (by decide) rfl (fun ls hl => ?_)
        refine r_iinc h (v := nI (e + 1)) (lv' := [(4, .int (nI (e + 1))), (3, .int (nI (c + 1))), (0, .ref (ad 0)), (1, .ref (ad (6 * r + 9))), (2, .int x)]) d_St_countMarked_31 hl (k := 1) rfl (z_inc e) (by decide) rfl (fun ls hl => ?_)
        refine r_goto h 5 d_St_countMarked_34 (by decide) ?_
        exact ih (e + 1) (c + 1) ls (by omega) (by rw [← hz, z_cnt_t (decide_eq_true c25)]) hl
  refine r_iconst h (v := 0) d_St_countMarked_0 (by decide) ?_
  refine r_istore_n h (lv' := [(3, .int 0), (0, .ref (ad 0)), (1, .ref (ad (6 * r + 9))), (2, .int x)]) d_St_countMarked_1 rfl hl (by decide) rfl (fun ls hl => ?_)
  refine r_iconst h (v := 0) d_St_countMarked_2 (by decide) ?_
  refine r_istore h (lv' := [(4, .int 0), (3, .int 0), (0, .ref (ad 0)), (1, .ref (ad (6 * r + 9))), (2, .int x)]) d_St_countMarked_3 hl (by decide) rfl (fun ls hl => ?_)
  exact loop n 0 0 ls (by omega) rfl hl
set_option maxHeartbeats 4000000 in
set_option maxRecDepth 100000 in
theorem c_St_shownAt (l : Launch) (D : va_G) (cA cR : ClassId) (ad : Nat → Nat) (hI : wI ad) (V : Nat → Nat → Int32) (i : Int32) (r : Nat) (hr : r < 3) (n : Nat) (ts wz : Nat → Nat) (hV : kV V n ts wz) : wM l D cA cR ad y_St_shownAt (Cond.code y_St_shownAt b_St_shownAt 6 (some .int) :: wAl) 0 0 [.ref (ad 0), .ref (ad (6 * r + 9)), .int i] V (some (.int (kShown V n r i))) V := by
  refine wM_of hI (by decide) (Nat.le_of_ble_eq_true rfl) ?_
  intro X ls h hM hl
  have hl : lv_has ls 6 [(0, .ref (ad 0)), (1, .ref (ad (6 * r + 9))), (2, .int i)] := hl
  have hn := hV.1
  have hle := kV_n hV
  have hod := kV_hod hV
  have hpa := kV_hpa hV
  have hro := kV_hro hV
  have loop : ∀ (k p : Nat) (y : Int32) (ls : Array Slot), p + k = n → z_nth (fun p => decide (V (6 * r + 10) (V 7 p).toNatClampNeg = 1)) (V 7) k p y = kShown V n r i → lv_has ls 6 [(4, .int (nI p)), (3, .int y), (0, .ref (ad 0)), (1, .ref (ad (6 * r + 9))), (2, .int i)] → wv X cA cR ad V 5 ls [] := by
    intro k
    induction k with
    | zero =>
      intro p y ls hp hz hl
      refine r_iload h d_St_shownAt_5 (lv_at hl 0 rfl) ?_
      refine r_aload_n h d_St_shownAt_7 rfl (lv_at hl 2 rfl) ?_
      refine r_get h (k := 0) (j := 0) (by decide) rfl rfl iw_St (by decide) lk_St_12 rfl rfl d_St_shownAt_8 ?_
      refine r_get h (k := 1) (j := 6) (by decide) rfl rfl iw_Tr (by decide) lk_St_96 rfl rfl d_St_shownAt_11 ?_
      refine r_top (nI n) hn ?_
      refine r_icmp_ge_t h 56 d_St_shownAt_14 (by decide) (nI_sz (by omega) (by omega) (by omega)) ?_
      refine r_bipush h (v := (-3)) d_St_shownAt_56 (by decide) ?_
      exact r_iret h hM d_St_shownAt_58 (rI (by rw [← hz]; rfl)) rfl
    | succ k ih =>
      intro p y ls hp hz hl
      obtain ⟨e, he, hoe⟩ := hod p (by omega)
      refine r_iload h d_St_shownAt_5 (lv_at hl 0 rfl) ?_
      refine r_aload_n h d_St_shownAt_7 rfl (lv_at hl 2 rfl) ?_
      refine r_get h (k := 0) (j := 0) (by decide) rfl rfl iw_St (by decide) lk_St_12 rfl rfl d_St_shownAt_8 ?_
      refine r_get h (k := 1) (j := 6) (by decide) rfl rfl iw_Tr (by decide) lk_St_96 rfl rfl d_St_shownAt_11 ?_
      refine r_top (nI n) hn ?_
      refine r_icmp_ge_f h 56 d_St_shownAt_14 (by decide) (nI_lz (by omega) (by omega) (by omega)) ?_
      refine r_aload_n h d_St_shownAt_17 rfl (lv_at hl 2 rfl) ?_
      refine r_get h (k := 0) (j := 0) (by decide) rfl rfl iw_St (by decide) lk_St_12 rfl rfl d_St_shownAt_18 ?_
      refine r_get h (k := 1) (j := 5) (by decide) rfl rfl iw_Tr (by decide) lk_St_115 rfl rfl d_St_shownAt_21 ?_
      refine r_iload h d_St_shownAt_24 (lv_at hl 0 rfl) ?_
      refine r_ialdN h (k := 7) (i := p) (by decide) rfl (by omega) (by omega) d_St_shownAt_26 ?_
      refine r_top (nI e) hoe ?_
      refine r_istore h (lv' := [(5, .int (nI e)), (4, .int (nI p)), (3, .int y), (0, .ref (ad 0)), (1, .ref (ad (6 * r + 9))), (2, .int i)]) d_St_shownAt_27 hl (by decide) rfl (fun ls hl => ?_)
      refine r_aload_n h d_St_shownAt_29 rfl (lv_at hl 4 rfl) ?_
      refine r_get h (k := 6 * r + 9) (j := 0) (wN_r hr 9 (by decide)) (wG_rep cA cR ad hr _) rfl iw_Re (by decide) lk_St_45 rfl rfl d_St_shownAt_30 ?_
      refine r_iload h d_St_shownAt_33 (lv_at hl 0 rfl) ?_
      refine r_ialdN h (k := 6 * r + 10) (i := e) (wN_r hr 10 (by decide)) (wG_mk cA cR ad hr) (by omega) (by omega) d_St_shownAt_35 ?_
      refine r_iconst h (v := 1) d_St_shownAt_36 (by decide) ?_
      refine r_icmp_ne h 50 d_St_shownAt_37 (by decide) (fun c37 => ?_) (fun c37 => ?_)
      · skip
        refine r_iinc h (v := nI (p + 1)) (lv' := [(4, .int (nI (p + 1))), (5, .int (nI e)), (3, .int y), (0, .ref (ad 0)), (1, .ref (ad (6 * r + 9))), (2, .int i)]) d_St_shownAt_50 hl (k := 1) rfl (z_inc p) (by decide) rfl (fun ls hl => ?_)
        refine r_goto h 5 d_St_shownAt_53 (by decide) ?_
        exact ih (p + 1) y ls (by omega) (by rw [← hz, z_nth_f (decide_eq_false (by rw [hoe, nI_clamp (by omega)]; exact c37))]) (lv_sub hl [0, 2, 3, 4, 5] rfl)
      · skip
        refine r_iload_n h d_St_shownAt_40 rfl (lv_at hl 2 rfl) ?_
        refine r_if_ne h 47 d_St_shownAt_41 (by decide) (fun c41 => ?_) (fun c41 => ?_)
        · skip
          refine r_iinc h (v := y - 1) (lv' := [(3, .int (y - 1)), (5, .int (nI e)), (4, .int (nI p)), (0, .ref (ad 0)), (1, .ref (ad (6 * r + 9))), (2, .int i)]) d_St_shownAt_47 hl (k := 2) rfl (z_dec y) (by decide) rfl (fun ls hl => ?_)
          refine r_iinc h (v := nI (p + 1)) (lv' := [(4, .int (nI (p + 1))), (3, .int (y - 1)), (5, .int (nI e)), (0, .ref (ad 0)), (1, .ref (ad (6 * r + 9))), (2, .int i)]) d_St_shownAt_50 hl (k := 2) rfl (z_inc p) (by decide) rfl (fun ls hl => ?_)
          refine r_goto h 5 d_St_shownAt_53 (by decide) ?_
          exact ih (p + 1) (y - 1) ls (by omega) (by rw [← hz, z_nth_t (decide_eq_true (by rw [hoe, nI_clamp (by omega)]; exact c37)) c41]) (lv_sub hl [0, 1, 3, 4, 5] rfl)
        · skip
          refine r_iload h d_St_shownAt_44 (lv_at hl 0 rfl) ?_
          exact r_iret h hM d_St_shownAt_46 (rI (by rw [← hz, z_nth_0 (decide_eq_true (by rw [hoe, nI_clamp (by omega)]; exact c37)) c41]; exact hoe.symm)) rfl
  refine r_iload_n h d_St_shownAt_0 rfl (lv_at hl 2 rfl) ?_
  refine r_istore_n h (lv' := [(3, .int i), (0, .ref (ad 0)), (1, .ref (ad (6 * r + 9))), (2, .int i)]) d_St_shownAt_1 rfl hl (by decide) rfl (fun ls hl => ?_)
  refine r_iconst h (v := 0) d_St_shownAt_2 (by decide) ?_
  refine r_istore h (lv' := [(4, .int 0), (3, .int i), (0, .ref (ad 0)), (1, .ref (ad (6 * r + 9))), (2, .int i)]) d_St_shownAt_3 hl (by decide) rfl (fun ls hl => ?_)
  exact loop n 0 i ls (by omega) rfl hl
set_option maxHeartbeats 4000000 in
set_option maxRecDepth 100000 in
theorem c_St_orderedAt (l : Launch) (D : va_G) (cA cR : ClassId) (ad : Nat → Nat) (hI : wI ad) (V : Nat → Nat → Int32) (i : Int32) (r : Nat) (hr : r < 3) (n : Nat) (ts wz : Nat → Nat) (hV : kV V n ts wz) : wM l D cA cR ad y_St_orderedAt (Cond.code y_St_orderedAt b_St_orderedAt 6 (some .int) :: wAl) 0 0 [.ref (ad 0), .ref (ad (6 * r + 9)), .int i] V (some (.int (kOrd V n r i))) V := by
  refine wM_of hI (by decide) (Nat.le_of_ble_eq_true rfl) ?_
  intro X ls h hM hl
  have hl : lv_has ls 6 [(0, .ref (ad 0)), (1, .ref (ad (6 * r + 9))), (2, .int i)] := hl
  have hn := hV.1
  have hle := kV_n hV
  have hod := kV_hod hV
  have hpa := kV_hpa hV
  have hro := kV_hro hV
  have loop : ∀ (k p : Nat) (y : Int32) (ls : Array Slot), p + k = n → z_nth (fun p => !decide (V (6 * r + 10) (V 7 p).toNatClampNeg = 0)) (V 7) k p y = kOrd V n r i → lv_has ls 6 [(4, .int (nI p)), (3, .int y), (0, .ref (ad 0)), (1, .ref (ad (6 * r + 9))), (2, .int i)] → wv X cA cR ad V 5 ls [] := by
    intro k
    induction k with
    | zero =>
      intro p y ls hp hz hl
      refine r_iload h d_St_orderedAt_5 (lv_at hl 0 rfl) ?_
      refine r_aload_n h d_St_orderedAt_7 rfl (lv_at hl 2 rfl) ?_
      refine r_get h (k := 0) (j := 0) (by decide) rfl rfl iw_St (by decide) lk_St_12 rfl rfl d_St_orderedAt_8 ?_
      refine r_get h (k := 1) (j := 6) (by decide) rfl rfl iw_Tr (by decide) lk_St_96 rfl rfl d_St_orderedAt_11 ?_
      refine r_top (nI n) hn ?_
      refine r_icmp_ge_t h 55 d_St_orderedAt_14 (by decide) (nI_sz (by omega) (by omega) (by omega)) ?_
      refine r_bipush h (v := (-3)) d_St_orderedAt_55 (by decide) ?_
      exact r_iret h hM d_St_orderedAt_57 (rI (by rw [← hz]; rfl)) rfl
    | succ k ih =>
      intro p y ls hp hz hl
      obtain ⟨e, he, hoe⟩ := hod p (by omega)
      refine r_iload h d_St_orderedAt_5 (lv_at hl 0 rfl) ?_
      refine r_aload_n h d_St_orderedAt_7 rfl (lv_at hl 2 rfl) ?_
      refine r_get h (k := 0) (j := 0) (by decide) rfl rfl iw_St (by decide) lk_St_12 rfl rfl d_St_orderedAt_8 ?_
      refine r_get h (k := 1) (j := 6) (by decide) rfl rfl iw_Tr (by decide) lk_St_96 rfl rfl d_St_orderedAt_11 ?_
      refine r_top (nI n) hn ?_
      refine r_icmp_ge_f h 55 d_St_orderedAt_14 (by decide) (nI_lz (by omega) (by omega) (by omega)) ?_
      refine r_aload_n h d_St_orderedAt_17 rfl (lv_at hl 2 rfl) ?_
      refine r_get h (k := 0) (j := 0) (by decide) rfl rfl iw_St (by decide) lk_St_12 rfl rfl d_St_orderedAt_18 ?_
      refine r_get h (k := 1) (j := 5) (by decide) rfl rfl iw_Tr (by decide) lk_St_115 rfl rfl d_St_orderedAt_21 ?_
      refine r_iload h d_St_orderedAt_24 (lv_at hl 0 rfl) ?_
      refine r_ialdN h (k := 7) (i := p) (by decide) rfl (by omega) (by omega) d_St_orderedAt_26 ?_
      refine r_top (nI e) hoe ?_
      refine r_istore h (lv' := [(5, .int (nI e)), (4, .int (nI p)), (3, .int y), (0, .ref (ad 0)), (1, .ref (ad (6 * r + 9))), (2, .int i)]) d_St_orderedAt_27 hl (by decide) rfl (fun ls hl => ?_)
      refine r_aload_n h d_St_orderedAt_29 rfl (lv_at hl 4 rfl) ?_
      refine r_get h (k := 6 * r + 9) (j := 0) (wN_r hr 9 (by decide)) (wG_rep cA cR ad hr _) rfl iw_Re (by decide) lk_St_45 rfl rfl d_St_orderedAt_30 ?_
      refine r_iload h d_St_orderedAt_33 (lv_at hl 0 rfl) ?_
      refine r_ialdN h (k := 6 * r + 10) (i := e) (wN_r hr 10 (by decide)) (wG_mk cA cR ad hr) (by omega) (by omega) d_St_orderedAt_35 ?_
      refine r_if_eq h 49 d_St_orderedAt_36 (by decide) (fun c36 => ?_) (fun c36 => ?_)
      · skip
        refine r_iinc h (v := nI (p + 1)) (lv' := [(4, .int (nI (p + 1))), (5, .int (nI e)), (3, .int y), (0, .ref (ad 0)), (1, .ref (ad (6 * r + 9))), (2, .int i)]) d_St_orderedAt_49 hl (k := 1) rfl (z_inc p) (by decide) rfl (fun ls hl => ?_)
        refine r_goto h 5 d_St_orderedAt_52 (by decide) ?_
        exact ih (p + 1) y ls (by omega) (by rw [← hz, z_nth_f (show (!decide (V (6 * r + 10) (V 7 p).toNatClampNeg = 0)) = false by rw [hoe, nI_clamp (by omega), decide_eq_true c36]; rfl)]) (lv_sub hl [0, 2, 3, 4, 5] rfl)
      · skip
        refine r_iload_n h d_St_orderedAt_39 rfl (lv_at hl 2 rfl) ?_
        refine r_if_ne h 46 d_St_orderedAt_40 (by decide) (fun c40 => ?_) (fun c40 => ?_)
        · skip
          refine r_iinc h (v := y - 1) (lv' := [(3, .int (y - 1)), (5, .int (nI e)), (4, .int (nI p)), (0, .ref (ad 0)), (1, .ref (ad (6 * r + 9))), (2, .int i)]) d_St_orderedAt_46 hl (k := 2) rfl (z_dec y) (by decide) rfl (fun ls hl => ?_)
          refine r_iinc h (v := nI (p + 1)) (lv' := [(4, .int (nI (p + 1))), (3, .int (y - 1)), (5, .int (nI e)), (0, .ref (ad 0)), (1, .ref (ad (6 * r + 9))), (2, .int i)]) d_St_orderedAt_49 hl (k := 2) rfl (z_inc p) (by decide) rfl (fun ls hl => ?_)
          refine r_goto h 5 d_St_orderedAt_52 (by decide) ?_
          exact ih (p + 1) (y - 1) ls (by omega) (by rw [← hz, z_nth_t (show (!decide (V (6 * r + 10) (V 7 p).toNatClampNeg = 0)) = true by rw [hoe, nI_clamp (by omega), decide_eq_false c36]; rfl) c40]) (lv_sub hl [0, 1, 3, 4, 5] rfl)
        · skip
          refine r_iload h d_St_orderedAt_43 (lv_at hl 0 rfl) ?_
          exact r_iret h hM d_St_orderedAt_45 (rI (by rw [← hz, z_nth_0 (show (!decide (V (6 * r + 10) (V 7 p).toNatClampNeg = 0)) = true by rw [hoe, nI_clamp (by omega), decide_eq_false c36]; rfl) c40]; exact hoe.symm)) rfl
  refine r_iload_n h d_St_orderedAt_0 rfl (lv_at hl 2 rfl) ?_
  refine r_istore_n h (lv' := [(3, .int i), (0, .ref (ad 0)), (1, .ref (ad (6 * r + 9))), (2, .int i)]) d_St_orderedAt_1 rfl hl (by decide) rfl (fun ls hl => ?_)
  refine r_iconst h (v := 0) d_St_orderedAt_2 (by decide) ?_
  refine r_istore h (lv' := [(4, .int 0), (3, .int i), (0, .ref (ad 0)), (1, .ref (ad (6 * r + 9))), (2, .int i)]) d_St_orderedAt_3 hl (by decide) rfl (fun ls hl => ?_)
  exact loop n 0 i ls (by omega) rfl hl
set_option maxHeartbeats 4000000 in
set_option maxRecDepth 100000 in
theorem c_St_nextBehind (l : Launch) (D : va_G) (cA cR : ClassId) (ad : Nat → Nat) (hI : wI ad) (V : Nat → Nat → Int32) (a : Int32) (r : Nat) (hr : r < 3) (n : Nat) (ts wz : Nat → Nat) (hV : kV V n ts wz) (hbe : z_beh (V 7) n a ≤ n) : wM l D cA cR ad y_St_nextBehind (Cond.code y_St_nextBehind b_St_nextBehind 4 (some .int) :: wAl) 2 43 [.ref (ad 0), .ref (ad (6 * r + 9)), .int a] V (some (.int (kNxt V n r a))) V := by
  refine wM_of hI (by decide) (Nat.le_of_ble_eq_true rfl) ?_
  intro X ls h hM hl
  have hl : lv_has ls 4 [(0, .ref (ad 0)), (1, .ref (ad (6 * r + 9))), (2, .int a)] := hl
  have hn := hV.1
  have hle := kV_n hV
  have hod := kV_hod hV
  have hpa := kV_hpa hV
  have hro := kV_hro hV
  have loop : ∀ (k p : Nat) (ls : Array Slot), p + k = n → z_fnd (fun p => !decide (V (6 * r + 10) (V 7 p).toNatClampNeg = 0)) k p = z_fnd (fun p => !decide (V (6 * r + 10) (V 7 p).toNatClampNeg = 0)) (n - z_beh (V 7) n a) (z_beh (V 7) n a) → lv_has ls 4 [(3, .int (nI p)), (0, .ref (ad 0)), (1, .ref (ad (6 * r + 9))), (2, .int a)] → wv X cA cR ad V 9 ls [] := by
    intro k
    induction k with
    | zero =>
      intro p ls hp hz hl
      refine r_iload_n h d_St_nextBehind_9 rfl (lv_at hl 0 rfl) ?_
      refine r_aload_n h d_St_nextBehind_10 rfl (lv_at hl 1 rfl) ?_
      refine r_get h (k := 0) (j := 0) (by decide) rfl rfl iw_St (by decide) lk_St_12 rfl rfl d_St_nextBehind_11 ?_
      refine r_get h (k := 1) (j := 6) (by decide) rfl rfl iw_Tr (by decide) lk_St_96 rfl rfl d_St_nextBehind_14 ?_
      refine r_top (nI n) hn ?_
      refine r_icmp_ge_t h 53 d_St_nextBehind_17 (by decide) (nI_sz (by omega) (by omega) (by omega)) ?_
      refine r_iconst h (v := (-1)) d_St_nextBehind_53 (by decide) ?_
      exact r_iret h hM d_St_nextBehind_54 (rI (by unfold kNxt; rw [← hz]; show (-1 : Int32) = if p = n then -1 else V 7 p; rw [if_pos (by omega)])) rfl
    | succ k ih =>
      intro p ls hp hz hl
      obtain ⟨e, he, hoe⟩ := hod p (by omega)
      refine r_iload_n h d_St_nextBehind_9 rfl (lv_at hl 0 rfl) ?_
      refine r_aload_n h d_St_nextBehind_10 rfl (lv_at hl 1 rfl) ?_
      refine r_get h (k := 0) (j := 0) (by decide) rfl rfl iw_St (by decide) lk_St_12 rfl rfl d_St_nextBehind_11 ?_
      refine r_get h (k := 1) (j := 6) (by decide) rfl rfl iw_Tr (by decide) lk_St_96 rfl rfl d_St_nextBehind_14 ?_
      refine r_top (nI n) hn ?_
      refine r_icmp_ge_f h 53 d_St_nextBehind_17 (by decide) (nI_lz (by omega) (by omega) (by omega)) ?_
      refine r_aload_n h d_St_nextBehind_20 rfl (lv_at hl 2 rfl) ?_
      refine r_get h (k := 6 * r + 9) (j := 0) (wN_r hr 9 (by decide)) (wG_rep cA cR ad hr _) rfl iw_Re (by decide) lk_St_45 rfl rfl d_St_nextBehind_21 ?_
      refine r_aload_n h d_St_nextBehind_24 rfl (lv_at hl 1 rfl) ?_
      refine r_get h (k := 0) (j := 0) (by decide) rfl rfl iw_St (by decide) lk_St_12 rfl rfl d_St_nextBehind_25 ?_
      refine r_get h (k := 1) (j := 5) (by decide) rfl rfl iw_Tr (by decide) lk_St_115 rfl rfl d_St_nextBehind_28 ?_
      refine r_iload_n h d_St_nextBehind_31 rfl (lv_at hl 0 rfl) ?_
      refine r_ialdN h (k := 7) (i := p) (by decide) rfl (by omega) (by omega) d_St_nextBehind_32 ?_
      refine r_top (nI e) hoe ?_
      refine r_ialdN h (k := 6 * r + 10) (i := e) (wN_r hr 10 (by decide)) (wG_mk cA cR ad hr) (by omega) (by omega) d_St_nextBehind_33 ?_
      refine r_if_eq h 47 d_St_nextBehind_34 (by decide) (fun c34 => ?_) (fun c34 => ?_)
      · skip
        refine r_iinc h (v := nI (p + 1)) (lv' := [(3, .int (nI (p + 1))), (0, .ref (ad 0)), (1, .ref (ad (6 * r + 9))), (2, .int a)]) d_St_nextBehind_47 hl (k := 0) rfl (z_inc p) (by decide) rfl (fun ls hl => ?_)
        refine r_goto h 9 d_St_nextBehind_50 (by decide) ?_
        exact ih (p + 1) ls (by omega) (by rw [← hz, z_fnd_f (P := fun p => !decide (V (6 * r + 10) (V 7 p).toNatClampNeg = 0)) (show (!decide (V (6 * r + 10) (V 7 p).toNatClampNeg = 0)) = false by rw [hoe, nI_clamp (by omega), decide_eq_true c34]; rfl)]) hl
      · skip
        refine r_aload_n h d_St_nextBehind_37 rfl (lv_at hl 1 rfl) ?_
        refine r_get h (k := 0) (j := 0) (by decide) rfl rfl iw_St (by decide) lk_St_12 rfl rfl d_St_nextBehind_38 ?_
        refine r_get h (k := 1) (j := 5) (by decide) rfl rfl iw_Tr (by decide) lk_St_115 rfl rfl d_St_nextBehind_41 ?_
        refine r_iload_n h d_St_nextBehind_44 rfl (lv_at hl 0 rfl) ?_
        refine r_ialdN h (k := 7) (i := p) (by decide) rfl (by omega) (by omega) d_St_nextBehind_45 ?_
        exact r_iret h hM d_St_nextBehind_46 (rI (by unfold kNxt; rw [← hz, z_fnd_t (P := fun p => !decide (V (6 * r + 10) (V 7 p).toNatClampNeg = 0)) (show (!decide (V (6 * r + 10) (V 7 p).toNatClampNeg = 0)) = true by rw [hoe, nI_clamp (by omega), decide_eq_false c34]; rfl), if_neg (by omega)])) rfl
  refine r_aload_n h d_St_nextBehind_0 rfl (lv_at hl 0 rfl) ?_
  refine r_get h (k := 0) (j := 0) (by decide) rfl rfl iw_St (by decide) lk_St_12 rfl rfl d_St_nextBehind_1 ?_
  refine r_iload_n h d_St_nextBehind_4 rfl (lv_at hl 2 rfl) ?_
  refine r_callVi h (k := 1) (n := 1) (As := [.int a]) (c_Tr_placeBehind l D cA cR ad hI V a n hn hle) g_St_127 (by decide +kernel) rfl ⟨by decide, by decide⟩ (by decide) rfl rfl hl rfl (Nat.le_of_ble_eq_true rfl) d_St_nextBehind_5 ?_
  refine r_istore_n h (lv' := [(3, .int (nI (z_beh (V 7) n a))), (0, .ref (ad 0)), (1, .ref (ad (6 * r + 9))), (2, .int a)]) d_St_nextBehind_8 rfl hl (by decide) rfl (fun ls hl => ?_)
  exact loop (n - z_beh (V 7) n a) (z_beh (V 7) n a) ls (by omega) rfl hl
set_option maxHeartbeats 4000000 in
set_option maxRecDepth 100000 in
theorem c_St_hasRightChild (l : Launch) (D : va_G) (cA cR : ClassId) (ad : Nat → Nat) (hI : wI ad) (V : Nat → Nat → Int32) (a : Int32) (r : Nat) (hr : r < 3) (n : Nat) (ts wz : Nat → Nat) (hV : kV V n ts wz) : wM l D cA cR ad y_St_hasRightChild (Cond.code y_St_hasRightChild b_St_hasRightChild 4 (some .boolean) :: wAl) 0 0 [.ref (ad 0), .ref (ad (6 * r + 9)), .int a] V (some (.int (z_B (kHas V n r a)))) V := by
  refine wM_of hI (by decide) (Nat.le_of_ble_eq_true rfl) ?_
  intro X ls h hM hl
  have hl : lv_has ls 4 [(0, .ref (ad 0)), (1, .ref (ad (6 * r + 9))), (2, .int a)] := hl
  have hn := hV.1
  have hle := kV_n hV
  have hod := kV_hod hV
  have hpa := kV_hpa hV
  have hro := kV_hro hV
  have loop : ∀ (k e : Nat) (ls : Array Slot), e + k = n → z_any (fun e => (!decide (V (6 * r + 10) e = 0) && decide (V 4 e = a)) && decide (V 5 e = 1)) k e = kHas V n r a → lv_has ls 4 [(3, .int (nI e)), (0, .ref (ad 0)), (1, .ref (ad (6 * r + 9))), (2, .int a)] → wv X cA cR ad V 2 ls [] := by
    intro k
    induction k with
    | zero =>
      intro e ls hp hz hl
      refine r_iload_n h d_St_hasRightChild_2 rfl (lv_at hl 0 rfl) ?_
      refine r_aload_n h d_St_hasRightChild_3 rfl (lv_at hl 1 rfl) ?_
      refine r_get h (k := 0) (j := 0) (by decide) rfl rfl iw_St (by decide) lk_St_12 rfl rfl d_St_hasRightChild_4 ?_
      refine r_get h (k := 1) (j := 6) (by decide) rfl rfl iw_Tr (by decide) lk_St_96 rfl rfl d_St_hasRightChild_7 ?_
      refine r_top (nI n) hn ?_
      refine r_icmp_ge_t h 56 d_St_hasRightChild_10 (by decide) (nI_sz (by omega) (by omega) (by omega)) ?_
      refine r_iconst h (v := 0) d_St_hasRightChild_56 (by decide) ?_
      exact r_zret h hM (by decide) d_St_hasRightChild_57 (rF (by rw [← hz]; rfl)) rfl
    | succ k ih =>
      intro e ls hp hz hl
      refine r_iload_n h d_St_hasRightChild_2 rfl (lv_at hl 0 rfl) ?_
      refine r_aload_n h d_St_hasRightChild_3 rfl (lv_at hl 1 rfl) ?_
      refine r_get h (k := 0) (j := 0) (by decide) rfl rfl iw_St (by decide) lk_St_12 rfl rfl d_St_hasRightChild_4 ?_
      refine r_get h (k := 1) (j := 6) (by decide) rfl rfl iw_Tr (by decide) lk_St_96 rfl rfl d_St_hasRightChild_7 ?_
      refine r_top (nI n) hn ?_
      refine r_icmp_ge_f h 56 d_St_hasRightChild_10 (by decide) (nI_lz (by omega) (by omega) (by omega)) ?_
      refine r_aload_n h d_St_hasRightChild_13 rfl (lv_at hl 2 rfl) ?_
      refine r_get h (k := 6 * r + 9) (j := 0) (wN_r hr 9 (by decide)) (wG_rep cA cR ad hr _) rfl iw_Re (by decide) lk_St_45 rfl rfl d_St_hasRightChild_14 ?_
      refine r_iload_n h d_St_hasRightChild_17 rfl (lv_at hl 0 rfl) ?_
      refine r_ialdN h (k := 6 * r + 10) (i := e) (wN_r hr 10 (by decide)) (wG_mk cA cR ad hr) (by omega) (by omega) d_St_hasRightChild_18 ?_
      refine r_if_eq h 50 d_St_hasRightChild_19 (by decide) (fun c19 => ?_) (fun c19 => ?_)
      · skip
        refine r_iinc h (v := nI (e + 1)) (lv' := [(3, .int (nI (e + 1))), (0, .ref (ad 0)), (1, .ref (ad (6 * r + 9))), (2, .int a)]) d_St_hasRightChild_50 hl (k := 0) rfl (z_inc e) (by decide) rfl (fun ls hl => ?_)
        refine r_goto h 2 d_St_hasRightChild_53 (by decide) ?_
        exact ih (e + 1) ls (by omega) (by rw [← hz, z_any_f (P := fun e => (!decide (V (6 * r + 10) e = 0) && decide (V 4 e = a)) && decide (V 5 e = 1)) (show ((!decide (V (6 * r + 10) e = 0) && decide (V 4 e = a)) && decide (V 5 e = 1)) = false by rw [decide_eq_true c19]; rfl)]) hl
      · skip
        refine r_aload_n h d_St_hasRightChild_22 rfl (lv_at hl 1 rfl) ?_
        refine r_get h (k := 0) (j := 0) (by decide) rfl rfl iw_St (by decide) lk_St_12 rfl rfl d_St_hasRightChild_23 ?_
        refine r_get h (k := 1) (j := 2) (by decide) rfl rfl iw_Tr (by decide) lk_St_103 rfl rfl d_St_hasRightChild_26 ?_
        refine r_iload_n h d_St_hasRightChild_29 rfl (lv_at hl 0 rfl) ?_
        refine r_ialdN h (k := 4) (i := e) (by decide) rfl (by omega) (by omega) d_St_hasRightChild_30 ?_
        refine r_iload_n h d_St_hasRightChild_31 rfl (lv_at hl 3 rfl) ?_
        refine r_icmp_ne h 50 d_St_hasRightChild_32 (by decide) (fun c32 => ?_) (fun c32 => ?_)
        · skip
          refine r_iinc h (v := nI (e + 1)) (lv' := [(3, .int (nI (e + 1))), (0, .ref (ad 0)), (1, .ref (ad (6 * r + 9))), (2, .int a)]) d_St_hasRightChild_50 hl (k := 0) rfl (z_inc e) (by decide) rfl (fun ls hl => ?_)
          refine r_goto h 2 d_St_hasRightChild_53 (by decide) ?_
          exact ih (e + 1) ls (by omega) (by rw [← hz, z_any_f (P := fun e => (!decide (V (6 * r + 10) e = 0) && decide (V 4 e = a)) && decide (V 5 e = 1)) (show ((!decide (V (6 * r + 10) e = 0) && decide (V 4 e = a)) && decide (V 5 e = 1)) = false by rw [decide_eq_false c32, Bool.and_false]; rfl)]) hl
        · skip
          refine r_aload_n h d_St_hasRightChild_35 rfl (lv_at hl 1 rfl) ?_
          refine r_get h (k := 0) (j := 0) (by decide) rfl rfl iw_St (by decide) lk_St_12 rfl rfl d_St_hasRightChild_36 ?_
          refine r_get h (k := 1) (j := 3) (by decide) rfl rfl iw_Tr (by decide) lk_St_106 rfl rfl d_St_hasRightChild_39 ?_
          refine r_iload_n h d_St_hasRightChild_42 rfl (lv_at hl 0 rfl) ?_
          refine r_ialdN h (k := 5) (i := e) (by decide) rfl (by omega) (by omega) d_St_hasRightChild_43 ?_
          refine r_iconst h (v := 1) d_St_hasRightChild_44 (by decide) ?_
          refine r_icmp_ne h 50 d_St_hasRightChild_45 (by decide) (fun c45 => ?_) (fun c45 => ?_)
          · skip
            refine r_iinc h (v := nI (e + 1)) (lv' := [(3, .int (nI (e + 1))), (0, .ref (ad 0)), (1, .ref (ad (6 * r + 9))), (2, .int a)]) d_St_hasRightChild_50 hl (k := 0) rfl (z_inc e) (by decide) rfl (fun ls hl => ?_)
            refine r_goto h 2 d_St_hasRightChild_53 (by decide) ?_
            exact ih (e + 1) ls (by omega) (by rw [← hz, z_any_f (P := fun e => (!decide (V (6 * r + 10) e = 0) && decide (V 4 e = a)) && decide (V 5 e = 1)) (show ((!decide (V (6 * r + 10) e = 0) && decide (V 4 e = a)) && decide (V 5 e = 1)) = false by rw [decide_eq_false c45, Bool.and_false])]) hl
          · skip
            refine r_iconst h (v := 1) d_St_hasRightChild_48 (by decide) ?_
            exact r_zret h hM (by decide) d_St_hasRightChild_49 (rT (by rw [← hz, z_any_t (P := fun e => (!decide (V (6 * r + 10) e = 0) && decide (V 4 e = a)) && decide (V 5 e = 1)) (show ((!decide (V (6 * r + 10) e = 0) && decide (V 4 e = a)) && decide (V 5 e = 1)) = true by rw [decide_eq_false c19, decide_eq_true c32, decide_eq_true c45]; rfl)])) rfl
  refine r_iconst h (v := 0) d_St_hasRightChild_0 (by decide) ?_
  refine r_istore_n h (lv' := [(3, .int 0), (0, .ref (ad 0)), (1, .ref (ad (6 * r + 9))), (2, .int a)]) d_St_hasRightChild_1 rfl hl (by decide) rfl (fun ls hl => ?_)
  exact loop n 0 ls (by omega) rfl hl
set_option maxHeartbeats 4000000 in
set_option maxRecDepth 100000 in
theorem c_St_isOtherTrayFull (l : Launch) (D : va_G) (cA cR : ClassId) (ad : Nat → Nat) (hI : wI ad) (V : Nat → Nat → Int32) (x : Int32) : wM l D cA cR ad y_St_isOtherTrayFull (Cond.code y_St_isOtherTrayFull b_St_isOtherTrayFull 3 (some .boolean) :: wAl) 1 20 [.ref (ad 0), .int x] V (some (.int (z_B (kFull V x)))) V := by
  refine wM_of hI (by decide) (Nat.le_of_ble_eq_true rfl) ?_
  intro X ls h hM hl
  have hl : lv_has ls 3 [(0, .ref (ad 0)), (1, .int x)] := hl
  have loop : ∀ (k q : Nat) (ls : Array Slot), q + k = 3 → z_any (fun q => !decide (nI q = x) && decide (50 ≤ V (6 * q + 11) 0)) k q = kFull V x → lv_has ls 3 [(2, .int (nI q)), (0, .ref (ad 0)), (1, .int x)] → wv X cA cR ad V 2 ls [] := by
    intro k
    induction k with
    | zero =>
      intro q ls hp hz hl
      refine r_iload_n h d_St_isOtherTrayFull_2 rfl (lv_at hl 0 rfl) ?_
      refine r_iconst h (v := 3) d_St_isOtherTrayFull_3 (by decide) ?_
      refine r_icmp_ge_t h 35 d_St_isOtherTrayFull_4 (by decide) (nI_sz (b := 3) (by omega) (by omega) (by omega)) ?_
      refine r_iconst h (v := 0) d_St_isOtherTrayFull_35 (by decide) ?_
      exact r_zret h hM (by decide) d_St_isOtherTrayFull_36 (rF (by rw [← hz]; rfl)) rfl
    | succ k ih =>
      intro q ls hp hz hl
      have hq : q < 3 := by omega
      refine r_iload_n h d_St_isOtherTrayFull_2 rfl (lv_at hl 0 rfl) ?_
      refine r_iconst h (v := 3) d_St_isOtherTrayFull_3 (by decide) ?_
      refine r_icmp_ge_f h 35 d_St_isOtherTrayFull_4 (by decide) (nI_lz (b := 3) (by omega) (by omega) (by omega)) ?_
      refine r_iload_n h d_St_isOtherTrayFull_7 rfl (lv_at hl 0 rfl) ?_
      refine r_iload_n h d_St_isOtherTrayFull_8 rfl (lv_at hl 2 rfl) ?_
      refine r_icmp_eq h 29 d_St_isOtherTrayFull_9 (by decide) (fun c9 => ?_) (fun c9 => ?_)
      · skip
        refine r_iinc h (v := nI (q + 1)) (lv' := [(2, .int (nI (q + 1))), (0, .ref (ad 0)), (1, .int x)]) d_St_isOtherTrayFull_29 hl (k := 0) rfl (z_inc q) (by decide) rfl (fun ls hl => ?_)
        refine r_goto h 2 d_St_isOtherTrayFull_32 (by decide) ?_
        exact ih (q + 1) ls (by omega) (by rw [← hz, z_any_f (P := fun q => !decide (nI q = x) && decide (50 ≤ V (6 * q + 11) 0)) (show (!decide (nI q = x) && decide (50 ≤ V (6 * q + 11) 0)) = false by rw [decide_eq_true c9]; rfl)]) hl
      · skip
        refine r_aload_n h d_St_isOtherTrayFull_12 rfl (lv_at hl 1 rfl) ?_
        refine r_get h (k := 0) (j := 1) (by decide) rfl rfl iw_St (by decide) lk_St_18 rfl rfl d_St_isOtherTrayFull_13 ?_
        refine r_iload_n h d_St_isOtherTrayFull_16 rfl (lv_at hl 0 rfl) ?_
        refine r_aald h (r := q) (by omega) d_St_isOtherTrayFull_17 ?_
        refine r_get h (k := 6 * q + 9) (j := 1) (wN_r hq 9 (by decide)) (wG_rep cA cR ad hq _) rfl iw_Re (by decide) lk_St_53 rfl rfl d_St_isOtherTrayFull_18 ?_
        refine r_callVi h (k := 6 * q + 11) (n := 0) (As := []) (c_Me_isFull l D cA cR ad hI V (6 * q + 11) (wN_r hq 11 (by decide)) (wG_tm cA cR ad hq) 50 (wN_r hq 12 (by decide)) (wG_tc cA cR ad hq) (by decide)) g_St_130 (by decide +kernel) rfl ⟨by decide, by decide⟩ (wN_r hq 11 (by decide)) (wG_tm cA cR ad hq _) rfl hl rfl (Nat.le_of_ble_eq_true rfl) d_St_isOtherTrayFull_21 ?_
        refine r_if_eq h 29 d_St_isOtherTrayFull_24 (by decide) (fun c24 => ?_) (fun c24 => ?_)
        · skip
          refine r_iinc h (v := nI (q + 1)) (lv' := [(2, .int (nI (q + 1))), (0, .ref (ad 0)), (1, .int x)]) d_St_isOtherTrayFull_29 hl (k := 0) rfl (z_inc q) (by decide) rfl (fun ls hl => ?_)
          refine r_goto h 2 d_St_isOtherTrayFull_32 (by decide) ?_
          exact ih (q + 1) ls (by omega) (by rw [← hz, z_any_f (P := fun q => !decide (nI q = x) && decide (50 ≤ V (6 * q + 11) 0)) (show (!decide (nI q = x) && decide (50 ≤ V (6 * q + 11) 0)) = false by rw [show decide (50 ≤ V (6 * q + 11) 0) = false from z_B_0.mp c24, Bool.and_false])]) hl
        · skip
          refine r_iconst h (v := 1) d_St_isOtherTrayFull_27 (by decide) ?_
          exact r_zret h hM (by decide) d_St_isOtherTrayFull_28 (rT (by rw [← hz, z_any_t (P := fun q => !decide (nI q = x) && decide (50 ≤ V (6 * q + 11) 0)) (show (!decide (nI q = x) && decide (50 ≤ V (6 * q + 11) 0)) = true by rw [decide_eq_false c9, show decide (50 ≤ V (6 * q + 11) 0) = true from z_B_n.mp c24]; rfl)])) rfl
  refine r_iconst h (v := 0) d_St_isOtherTrayFull_0 (by decide) ?_
  refine r_istore_n h (lv' := [(2, .int 0), (0, .ref (ad 0)), (1, .int x)]) d_St_isOtherTrayFull_1 rfl hl (by decide) rfl (fun ls hl => ?_)
  exact loop 3 0 ls (by omega) rfl hl
set_option maxHeartbeats 4000000 in
set_option maxRecDepth 100000 in
theorem c_St_send (l : Launch) (D : va_G) (cA cR : ClassId) (ad : Nat → Nat) (hI : wI ad) (V : Nat → Nat → Int32) (m : Int32) (r : Nat) (hr : r < 3) (hts : ∀ q, q < 3 → ¬ q = r → ∃ s, V (6 * q + 11) 0 = nI s ∧ s < 50) : wM l D cA cR ad y_St_send (Cond.code y_St_send b_St_send 4 none :: wAl) 2 41 [.ref (ad 0), .int (nI r), .int m] V none (kSnd V r m) := by
  refine wM_of hI (by decide) (Nat.le_of_ble_eq_true rfl) ?_
  intro X ls h hM hl
  have hl : lv_has ls 4 [(0, .ref (ad 0)), (1, .int (nI r)), (2, .int m)] := hl
  have step : ∀ (q : Nat) (Vc : Nat → Nat → Int32) (ls : Array Slot), q < 3 → (¬ q = r → ∃ s, Vc (6 * q + 11) 0 = nI s ∧ s < 50) → (∀ ls : Array Slot, lv_has ls 4 [(3, .int (nI (q + 1))), (0, .ref (ad 0)), (1, .int (nI r)), (2, .int m)] → wv X cA cR ad (kSnd1 Vc q r m) 2 ls []) → lv_has ls 4 [(3, .int (nI q)), (0, .ref (ad 0)), (1, .int (nI r)), (2, .int m)] → wv X cA cR ad Vc 2 ls [] := by
    intro q Vc ls hq hs kk hl
    refine r_iload_n h d_St_send_2 rfl (lv_at hl 0 rfl) ?_
    refine r_iconst h (v := 3) d_St_send_3 (by decide) ?_
    refine r_icmp_ge_f h 31 d_St_send_4 (by decide) (nI_lz (b := 3) (by omega) (by omega) (by omega)) ?_
    refine r_iload_n h d_St_send_7 rfl (lv_at hl 0 rfl) ?_
    refine r_iload_n h d_St_send_8 rfl (lv_at hl 2 rfl) ?_
    refine r_icmp_eq h 25 d_St_send_9 (by decide) (fun c9 => ?_) (fun c9 => ?_)
    · skip
      refine r_iinc h (v := nI (q + 1)) (lv' := [(3, .int (nI (q + 1))), (0, .ref (ad 0)), (1, .int (nI r)), (2, .int m)]) d_St_send_25 hl (k := 0) rfl (z_inc q) (by decide) rfl (fun ls hl => ?_)
      refine r_goto h 2 d_St_send_28 (by decide) ?_
      refine r_V (V' := kSnd1 Vc q r m) (kSnd1_t (z_inj (by omega) (by omega) c9)) ?_
      exact kk ls hl
    · skip
      have hqr : ¬ q = r := fun z => c9 (by rw [z])
      obtain ⟨s, hs1, hs2⟩ := hs hqr
      refine r_aload_n h d_St_send_12 rfl (lv_at hl 1 rfl) ?_
      refine r_get h (k := 0) (j := 1) (by decide) rfl rfl iw_St (by decide) lk_St_18 rfl rfl d_St_send_13 ?_
      refine r_iload_n h d_St_send_16 rfl (lv_at hl 0 rfl) ?_
      refine r_aald h (r := q) (by omega) d_St_send_17 ?_
      refine r_get h (k := 6 * q + 9) (j := 1) (wN_r hq 9 (by decide)) (wG_rep cA cR ad hq _) rfl iw_Re (by decide) lk_St_53 rfl rfl d_St_send_18 ?_
      refine r_iload_n h d_St_send_21 rfl (lv_at hl 3 rfl) ?_
      refine r_callVv h (k := 6 * q + 11) (n := 1) (As := [.int m]) (c_Me_add l D cA cR ad hI Vc m (6 * q + 11) (wN_r hq 11 (by decide)) (wG_tm cA cR ad hq) 50 (wN_r hq 12 (by decide)) (wG_tc cA cR ad hq) (by decide) s hs1 hs2) g_St_73 (by decide +kernel) rfl ⟨by decide, by decide⟩ (wN_r hq 11 (by decide)) (wG_tm cA cR ad hq _) rfl hl rfl (Nat.le_of_ble_eq_true rfl) d_St_send_22 ?_
      refine r_iinc h (v := nI (q + 1)) (lv' := [(3, .int (nI (q + 1))), (0, .ref (ad 0)), (1, .int (nI r)), (2, .int m)]) d_St_send_25 hl (k := 0) rfl (z_inc q) (by decide) rfl (fun ls hl => ?_)
      refine r_goto h 2 d_St_send_28 (by decide) ?_
      refine r_V (V' := kSnd1 Vc q r m) (kSnd1_f hqr hs1 (by omega)) ?_
      exact kk ls hl
  refine r_iconst h (v := 0) d_St_send_0 (by decide) ?_
  refine r_istore_n h (lv' := [(3, .int 0), (0, .ref (ad 0)), (1, .int (nI r)), (2, .int m)]) d_St_send_1 rfl hl (by decide) rfl (fun ls hl => ?_)
  refine step 0 V ls (by decide) (hts 0 (by decide)) (fun ls hl => ?_) hl
  refine step 1 _ ls (by decide) (fun c => by rw [kSnd1_o (by decide) (by decide)]; exact hts 1 (by decide) c) (fun ls hl => ?_) hl
  refine step 2 _ ls (by decide) (fun c => by rw [kSnd1_o (by decide) (by decide), kSnd1_o (by decide) (by decide)]; exact hts 2 (by decide) c) (fun ls hl => ?_) hl
  refine r_iload_n h d_St_send_2 rfl (lv_at hl 0 rfl) ?_
  refine r_iconst h (v := 3) d_St_send_3 (by decide) ?_
  refine r_icmp_ge_t h 31 d_St_send_4 (by decide) (by decide) ?_
  exact r_vret h hM d_St_send_31 rfl rfl
set_option maxHeartbeats 4000000 in
set_option maxRecDepth 100000 in
theorem c_St_isErasing (l : Launch) (D : va_G) (cA cR : ClassId) (ad : Nat → Nat) (hI : wI ad) (V : Nat → Nat → Int32) (m : Int32) : wM l D cA cR ad y_St_isErasing (Cond.code y_St_isErasing b_St_isErasing 1 (some .boolean) :: wAl) 0 0 [.int m] V (some (.int (z_B (decide (m ≤ -10))))) V := by
  refine wM_of hI (by decide) (Nat.le_of_ble_eq_true rfl) ?_
  intro X ls h hM hl
  have hl : lv_has ls 1 [(0, .int m)] := hl
  refine r_iload_n h d_St_isErasing_0 rfl (lv_at hl 0 rfl) ?_
  refine r_bipush h (v := (-10)) d_St_isErasing_1 (by decide) ?_
  refine r_icmp_gt h 10 d_St_isErasing_3 (by decide) (fun c3 => ?_) (fun c3 => ?_)
  · skip
    refine r_iconst h (v := 0) d_St_isErasing_10 (by decide) ?_
    exact r_zret h hM (by decide) d_St_isErasing_11 (rF (decide_eq_false (Int32.not_le.mpr c3))) rfl
  · skip
    refine r_iconst h (v := 1) d_St_isErasing_6 (by decide) ?_
    refine r_goto h 11 d_St_isErasing_7 (by decide) ?_
    exact r_zret h hM (by decide) d_St_isErasing_11 (rT (decide_eq_true c3)) rfl
set_option maxHeartbeats 4000000 in
set_option maxRecDepth 100000 in
theorem c_St_isReady (l : Launch) (D : va_G) (cA cR : ClassId) (ad : Nat → Nat) (hI : wI ad) (V : Nat → Nat → Int32) (m : Int32) (r : Nat) (hr : r < 3) (n : Nat) (ts wz : Nat → Nat) (hV : kV V n ts wz) (hm : kM n m) : wM l D cA cR ad y_St_isReady (Cond.code y_St_isReady b_St_isReady 3 (some .boolean) :: wAl) 1 21 [.ref (ad 0), .ref (ad (6 * r + 9)), .int m] V (some (.int (z_B (kRdy V r m)))) V := by
  refine wM_of hI (by decide) (Nat.le_of_ble_eq_true rfl) ?_
  intro X ls h hM hl
  have hl : lv_has ls 3 [(0, .ref (ad 0)), (1, .ref (ad (6 * r + 9))), (2, .int m)] := hl
  have hn := hV.1
  have hle := kV_n hV
  have hod := kV_hod hV
  have hpa := kV_hpa hV
  have hro := kV_hro hV
  refine r_iload_n h d_St_isReady_0 rfl (lv_at hl 2 rfl) ?_
  refine r_callSi h (n := 1) (As := [.int m]) (c_St_isErasing l D cA cR ad hI V m) g_St_131 (by decide +kernel) rfl ⟨by decide, by decide⟩ hl rfl (Nat.le_of_ble_eq_true rfl) d_St_isReady_1 ?_
  refine r_if_eq h 16 d_St_isReady_4 (by decide) (fun c4 => ?_) (fun c4 => ?_)
  · skip
    obtain ⟨e, he, rfl⟩ := kM_z hm hle (of_decide_eq_false (z_B_0.mp c4))
    refine r_aload_n h d_St_isReady_16 rfl (lv_at hl 1 rfl) ?_
    refine r_aload_n h d_St_isReady_17 rfl (lv_at hl 0 rfl) ?_
    refine r_get h (k := 0) (j := 0) (by decide) rfl rfl iw_St (by decide) lk_St_12 rfl rfl d_St_isReady_18 ?_
    refine r_get h (k := 1) (j := 2) (by decide) rfl rfl iw_Tr (by decide) lk_St_103 rfl rfl d_St_isReady_21 ?_
    refine r_iload_n h d_St_isReady_24 rfl (lv_at hl 2 rfl) ?_
    refine r_ialdN h (k := 4) (i := e) (by decide) rfl (by omega) (by omega) d_St_isReady_25 ?_
    refine r_callVi h (k := 6 * r + 9) (n := 1) (As := [.int (V 4 e)]) (c_Re_isSettled l D cA cR ad hI V (V 4 e) r hr (z_el_mono (hpa e he) (by omega))) g_St_134 (by decide +kernel) rfl ⟨by decide, by decide⟩ (wN_r hr 9 (by decide)) (wG_rep cA cR ad hr _) rfl hl rfl (Nat.le_of_ble_eq_true rfl) d_St_isReady_26 ?_
    refine r_if_eq h 52 d_St_isReady_29 (by decide) (fun c29 => ?_) (fun c29 => ?_)
    · skip
      refine r_iconst h (v := 0) d_St_isReady_52 (by decide) ?_
      exact r_zret h hM (by decide) d_St_isReady_53 (rF (by rw [kRdy_n (by omega), z_B_0.mp c29]; rfl)) rfl
    · skip
      refine r_aload_n h d_St_isReady_32 rfl (lv_at hl 1 rfl) ?_
      refine r_aload_n h d_St_isReady_33 rfl (lv_at hl 0 rfl) ?_
      refine r_get h (k := 0) (j := 0) (by decide) rfl rfl iw_St (by decide) lk_St_12 rfl rfl d_St_isReady_34 ?_
      refine r_get h (k := 1) (j := 4) (by decide) rfl rfl iw_Tr (by decide) lk_St_109 rfl rfl d_St_isReady_37 ?_
      refine r_iload_n h d_St_isReady_40 rfl (lv_at hl 2 rfl) ?_
      refine r_ialdN h (k := 6) (i := e) (by decide) rfl (by omega) (by omega) d_St_isReady_41 ?_
      refine r_callVi h (k := 6 * r + 9) (n := 1) (As := [.int (V 6 e)]) (c_Re_isSettled l D cA cR ad hI V (V 6 e) r hr (z_el_mono (hro e he) (by omega))) g_St_134 (by decide +kernel) rfl ⟨by decide, by decide⟩ (wN_r hr 9 (by decide)) (wG_rep cA cR ad hr _) rfl hl rfl (Nat.le_of_ble_eq_true rfl) d_St_isReady_42 ?_
      refine r_if_eq h 52 d_St_isReady_45 (by decide) (fun c45 => ?_) (fun c45 => ?_)
      · skip
        refine r_iconst h (v := 0) d_St_isReady_52 (by decide) ?_
        exact r_zret h hM (by decide) d_St_isReady_53 (rF (by rw [kRdy_n (by omega), z_B_0.mp c45, Bool.and_false])) rfl
      · skip
        refine r_iconst h (v := 1) d_St_isReady_48 (by decide) ?_
        refine r_goto h 53 d_St_isReady_49 (by decide) ?_
        exact r_zret h hM (by decide) d_St_isReady_53 (rT (by rw [kRdy_n (by omega), z_B_n.mp c29, z_B_n.mp c45]; rfl)) rfl
  · skip
    obtain ⟨e, he, rfl⟩ := kM_e hm hle (of_decide_eq_true (z_B_n.mp c4))
    refine r_aload_n h d_St_isReady_7 rfl (lv_at hl 1 rfl) ?_
    refine r_bipush h (v := (-10)) d_St_isReady_8 (by decide) ?_
    refine r_iload_n h d_St_isReady_10 rfl (lv_at hl 2 rfl) ?_
    refine r_isub h d_St_isReady_11 ?_
    refine r_callVi h (k := 6 * r + 9) (n := 1) (As := [.int ((-10) - (-10 - nI e))]) (c_Re_isSettled l D cA cR ad hI V (-10 - (-10 - nI e)) r hr (by rw [kM_back (by omega)]; exact Or.inr ⟨e, by omega, rfl⟩)) g_St_134 (by decide +kernel) rfl ⟨by decide, by decide⟩ (wN_r hr 9 (by decide)) (wG_rep cA cR ad hr _) rfl hl rfl (Nat.le_of_ble_eq_true rfl) d_St_isReady_12 ?_
    exact r_zret h hM (z_B_na _) d_St_isReady_15 (rI (by rw [kRdy_m (by omega)])) rfl
set_option maxHeartbeats 4000000 in
set_option maxRecDepth 100000 in
theorem c_St_takeEffect (l : Launch) (D : va_G) (cA cR : ClassId) (ad : Nat → Nat) (hI : wI ad) (V : Nat → Nat → Int32) (m : Int32) (r : Nat) (hr : r < 3) (n : Nat) (hle : n ≤ 30) (hm : kM n m) : wM l D cA cR ad y_St_takeEffect (Cond.code y_St_takeEffect b_St_takeEffect 2 none :: wAl) 1 20 [.ref (ad (6 * r + 9)), .int m] V none (kEff V r m) := by
  refine wM_of hI (by decide) (Nat.le_of_ble_eq_true rfl) ?_
  intro X ls h hM hl
  have hl : lv_has ls 2 [(0, .ref (ad (6 * r + 9))), (1, .int m)] := hl
  refine r_iload_n h d_St_takeEffect_0 rfl (lv_at hl 1 rfl) ?_
  refine r_callSi h (n := 1) (As := [.int m]) (c_St_isErasing l D cA cR ad hI V m) g_St_131 (by decide +kernel) rfl ⟨by decide, by decide⟩ hl rfl (Nat.le_of_ble_eq_true rfl) d_St_takeEffect_1 ?_
  refine r_if_eq h 20 d_St_takeEffect_4 (by decide) (fun c4 => ?_) (fun c4 => ?_)
  · skip
    obtain ⟨e, he, rfl⟩ := kM_z hm hle (of_decide_eq_false (z_B_0.mp c4))
    refine r_aload_n h d_St_takeEffect_20 rfl (lv_at hl 0 rfl) ?_
    refine r_get h (k := 6 * r + 9) (j := 0) (wN_r hr 9 (by decide)) (wG_rep cA cR ad hr _) rfl iw_Re (by decide) lk_St_45 rfl rfl d_St_takeEffect_21 ?_
    refine r_iload_n h d_St_takeEffect_24 rfl (lv_at hl 1 rfl) ?_
    refine r_iconst h (v := 1) d_St_takeEffect_25 (by decide) ?_
    refine r_iastN h (k := 6 * r + 10) (i := e) (wN_r hr 10 (by decide)) (wG_mk cA cR ad hr) (by omega) (by omega) d_St_takeEffect_26 ?_
    exact r_vret h hM d_St_takeEffect_27 rfl (kEff_n (by omega))
  · skip
    obtain ⟨e, he, rfl⟩ := kM_e hm hle (of_decide_eq_true (z_B_n.mp c4))
    refine r_aload_n h d_St_takeEffect_7 rfl (lv_at hl 0 rfl) ?_
    refine r_get h (k := 6 * r + 9) (j := 0) (wN_r hr 9 (by decide)) (wG_rep cA cR ad hr _) rfl iw_Re (by decide) lk_St_45 rfl rfl d_St_takeEffect_8 ?_
    refine r_bipush h (v := (-10)) d_St_takeEffect_11 (by decide) ?_
    refine r_iload_n h d_St_takeEffect_13 rfl (lv_at hl 1 rfl) ?_
    refine r_isub h d_St_takeEffect_14 ?_
    refine r_top (nI e) (kM_back (by omega)) ?_
    refine r_iconst h (v := 2) d_St_takeEffect_15 (by decide) ?_
    refine r_iastN h (k := 6 * r + 10) (i := e) (wN_r hr 10 (by decide)) (wG_mk cA cR ad hr) (by omega) (by omega) d_St_takeEffect_16 ?_
    refine r_goto h 27 d_St_takeEffect_17 (by decide) ?_
    exact r_vret h hM d_St_takeEffect_27 rfl (kEff_m (by omega))
set_option maxHeartbeats 4000000 in
set_option maxRecDepth 100000 in
theorem c_St_firstReady (l : Launch) (D : va_G) (cA cR : ClassId) (ad : Nat → Nat) (hI : wI ad) (V : Nat → Nat → Int32) (r : Nat) (hr : r < 3) (n : Nat) (ts wz : Nat → Nat) (hV : kV V n ts wz) (h90 : wz r ≤ 90) : wM l D cA cR ad y_St_firstReady (Cond.code y_St_firstReady b_St_firstReady 3 (some .int) :: wAl) 2 43 [.ref (ad 0), .ref (ad (6 * r + 9))] V (some (.int (kFa V r (wz r)))) V := by
  refine wM_of hI (by decide) (Nat.le_of_ble_eq_true rfl) ?_
  intro X ls h hM hl
  have hl : lv_has ls 3 [(0, .ref (ad 0)), (1, .ref (ad (6 * r + 9)))] := hl
  have hn := hV.1
  have hle := kV_n hV
  have hod := kV_hod hV
  have hpa := kV_hpa hV
  have hro := kV_hro hV
  have hw := kV_wz hV hr
  have loop : ∀ (k p : Nat) (ls : Array Slot), p + k = wz r → z_fnd (fun k => kRdy V r (V (6 * r + 14) k)) k p = kFst V r (wz r) → lv_has ls 3 [(2, .int (nI p)), (0, .ref (ad 0)), (1, .ref (ad (6 * r + 9)))] → wv X cA cR ad V 2 ls [] := by
    intro k
    induction k with
    | zero =>
      intro p ls hp hz hl
      refine r_iload_n h d_St_firstReady_2 rfl (lv_at hl 0 rfl) ?_
      refine r_aload_n h d_St_firstReady_3 rfl (lv_at hl 2 rfl) ?_
      refine r_get h (k := 6 * r + 9) (j := 2) (wN_r hr 9 (by decide)) (wG_rep cA cR ad hr _) rfl iw_Re (by decide) lk_St_70 rfl rfl d_St_firstReady_4 ?_
      refine r_get h (k := 6 * r + 13) (j := 1) (wN_r hr 13 (by decide)) (wG_wm cA cR ad hr _) rfl iw_Me (by decide) lk_St_89 rfl rfl d_St_firstReady_7 ?_
      refine r_top (nI (wz r)) hw ?_
      refine r_icmp_ge_t h 38 d_St_firstReady_10 (by decide) (nI_sz (by omega) (by omega) (by omega)) ?_
      refine r_bipush h (v := (-3)) d_St_firstReady_38 (by decide) ?_
      exact r_iret h hM d_St_firstReady_40 (rI (by unfold kFa; rw [← hz]; show (-3 : Int32) = if p = wz r then -3 else nI p; rw [if_pos (by omega)])) rfl
    | succ k ih =>
      intro p ls hp hz hl
      refine r_iload_n h d_St_firstReady_2 rfl (lv_at hl 0 rfl) ?_
      refine r_aload_n h d_St_firstReady_3 rfl (lv_at hl 2 rfl) ?_
      refine r_get h (k := 6 * r + 9) (j := 2) (wN_r hr 9 (by decide)) (wG_rep cA cR ad hr _) rfl iw_Re (by decide) lk_St_70 rfl rfl d_St_firstReady_4 ?_
      refine r_get h (k := 6 * r + 13) (j := 1) (wN_r hr 13 (by decide)) (wG_wm cA cR ad hr _) rfl iw_Me (by decide) lk_St_89 rfl rfl d_St_firstReady_7 ?_
      refine r_top (nI (wz r)) hw ?_
      refine r_icmp_ge_f h 38 d_St_firstReady_10 (by decide) (nI_lz (by omega) (by omega) (by omega)) ?_
      refine r_aload_n h d_St_firstReady_13 rfl (lv_at hl 1 rfl) ?_
      refine r_aload_n h d_St_firstReady_14 rfl (lv_at hl 2 rfl) ?_
      refine r_aload_n h d_St_firstReady_15 rfl (lv_at hl 2 rfl) ?_
      refine r_get h (k := 6 * r + 9) (j := 2) (wN_r hr 9 (by decide)) (wG_rep cA cR ad hr _) rfl iw_Re (by decide) lk_St_70 rfl rfl d_St_firstReady_16 ?_
      refine r_get h (k := 6 * r + 13) (j := 0) (wN_r hr 13 (by decide)) (wG_wm cA cR ad hr _) rfl iw_Me (by decide) lk_St_93 rfl rfl d_St_firstReady_19 ?_
      refine r_iload_n h d_St_firstReady_22 rfl (lv_at hl 0 rfl) ?_
      refine r_ialdN h (k := 6 * r + 14) (i := p) (wN_r hr 14 (by decide)) (wG_wc cA cR ad hr) (by omega) (by omega) d_St_firstReady_23 ?_
      refine r_callVi h (k := 0) (n := 2) (As := [.ref (ad (6 * r + 9)), .int (V (6 * r + 14) p)]) (c_St_isReady l D cA cR ad hI V (V (6 * r + 14) p) r hr n ts wz hV (kV_wc hV hr (by omega))) g_St_66 (by decide +kernel) rfl ⟨by decide, by decide⟩ (by decide) rfl rfl hl rfl (Nat.le_of_ble_eq_true rfl) d_St_firstReady_24 ?_
      refine r_if_eq h 32 d_St_firstReady_27 (by decide) (fun c27 => ?_) (fun c27 => ?_)
      · skip
        refine r_iinc h (v := nI (p + 1)) (lv' := [(2, .int (nI (p + 1))), (0, .ref (ad 0)), (1, .ref (ad (6 * r + 9)))]) d_St_firstReady_32 hl (k := 0) rfl (z_inc p) (by decide) rfl (fun ls hl => ?_)
        refine r_goto h 2 d_St_firstReady_35 (by decide) ?_
        exact ih (p + 1) ls (by omega) (by rw [← hz, z_fnd_f (P := fun k => kRdy V r (V (6 * r + 14) k)) (z_B_0.mp c27)]) hl
      · skip
        refine r_iload_n h d_St_firstReady_30 rfl (lv_at hl 0 rfl) ?_
        exact r_iret h hM d_St_firstReady_31 (rI (by unfold kFa; rw [← hz, z_fnd_t (P := fun k => kRdy V r (V (6 * r + 14) k)) (z_B_n.mp c27), if_neg (by omega)])) rfl
  refine r_iconst h (v := 0) d_St_firstReady_0 (by decide) ?_
  refine r_istore_n h (lv' := [(2, .int 0), (0, .ref (ad 0)), (1, .ref (ad (6 * r + 9)))]) d_St_firstReady_1 rfl hl (by decide) rfl (fun ls hl => ?_)
  exact loop (wz r) 0 ls (by omega) rfl hl
set_option maxHeartbeats 4000000 in
set_option maxRecDepth 100000 in
theorem c_St_wakeWaiting (l : Launch) (D : va_G) (cA cR : ClassId) (ad : Nat → Nat) (hI : wI ad) (V : Nat → Nat → Int32) (r : Nat) (hr : r < 3) (n : Nat) (ts wz : Nat → Nat) (W : Nat → Nat → Int32) (hZ : kZ V W n ts wz) (w : Nat) (hww : wz r = w) : wM l D cA cR ad y_St_wakeWaiting (Cond.code y_St_wakeWaiting b_St_wakeWaiting 5 (some .int) :: wAl) 3 65 [.ref (ad 0), .ref (ad (6 * r + 9))] V (some (.int (nI (kWk r w V w).2))) ((kWk r w V w).1) := by
  refine wM_of hI (by decide) (Nat.le_of_ble_eq_true rfl) ?_
  intro X ls h hM hl
  have hl : lv_has ls 5 [(0, .ref (ad 0)), (1, .ref (ad (6 * r + 9)))] := hl
  have hw : V (6 * r + 13) 0 = nI w := by rw [← hww]; exact kV_wz hZ.1 hr
  have h90w : w ≤ 90 := by have := kZ_90 hZ.1 hZ.2.1 hr; omega
  have loop : ∀ (f j : Nat) (Vc Wc : Nat → Nat → Int32) (wc : Nat → Nat) (ls : Array Slot), j + f = w → wc r = f → kZ Vc Wc n ts wc → (kWk r f Vc f).1 = (kWk r w V w).1 → j + (kWk r f Vc f).2 = (kWk r w V w).2 → lv_has ls 5 [(3, .int (nI j)), (2, .int (nI w)), (0, .ref (ad 0)), (1, .ref (ad (6 * r + 9)))] → wv X cA cR ad Vc 10 ls [] := by
    intro f
    induction f with
    | zero =>
      intro j Vc Wc wc ls hj hwc hZ h1 h2 hl
      refine r_iload_n h d_St_wakeWaiting_10 rfl (lv_at hl 0 rfl) ?_
      refine r_iload_n h d_St_wakeWaiting_11 rfl (lv_at hl 1 rfl) ?_
      refine r_icmp_ge_t h 50 d_St_wakeWaiting_12 (by decide) (nI_sz (by omega) (by omega) (by omega)) ?_
      refine r_iload_n h d_St_wakeWaiting_50 rfl (lv_at hl 1 rfl) ?_
      exact r_iret h hM d_St_wakeWaiting_51 (rI (by rw [← h2]; show nI w = nI (j + 0); rw [show j + 0 = w by omega])) h1
    | succ f ih =>
      intro j Vc Wc wc ls hj hwc hZ h1 h2 hl
      have h90 : wc r ≤ 90 := by have := kZ_90 hZ.1 hZ.2.1 hr; omega
      refine r_iload_n h d_St_wakeWaiting_10 rfl (lv_at hl 0 rfl) ?_
      refine r_iload_n h d_St_wakeWaiting_11 rfl (lv_at hl 1 rfl) ?_
      refine r_icmp_ge_f h 50 d_St_wakeWaiting_12 (by decide) (nI_lz (by omega) (by omega) (by omega)) ?_
      refine r_aload_n h d_St_wakeWaiting_15 rfl (lv_at hl 2 rfl) ?_
      refine r_aload_n h d_St_wakeWaiting_16 rfl (lv_at hl 3 rfl) ?_
      refine r_callVi h (k := 0) (n := 1) (As := [.ref (ad (6 * r + 9))]) (c_St_firstReady l D cA cR ad hI Vc r hr n ts wc hZ.1 h90) g_St_137 (by decide +kernel) rfl ⟨by decide, by decide⟩ (by decide) rfl rfl hl rfl (Nat.le_of_ble_eq_true rfl) d_St_wakeWaiting_17 ?_
      refine r_istore h (lv' := [(4, .int (kFa Vc r (wc r))), (3, .int (nI j)), (2, .int (nI w)), (0, .ref (ad 0)), (1, .ref (ad (6 * r + 9)))]) d_St_wakeWaiting_20 hl (by decide) rfl (fun ls hl => ?_)
      refine r_iload h d_St_wakeWaiting_22 (lv_at hl 0 rfl) ?_
      refine r_bipush h (v := (-3)) d_St_wakeWaiting_24 (by decide) ?_
      refine r_icmp_ne h 31 d_St_wakeWaiting_26 (by decide) (fun c26 => ?_) (fun c26 => ?_)
      · skip
        have hne : ¬ kFst Vc r (wc r) = wc r := fun z => c26 (by unfold kFa; rw [if_pos z])
        have hfa : kFa Vc r (wc r) = nI (kFst Vc r (wc r)) := by unfold kFa; rw [if_neg hne]
        obtain ⟨hlt, hZ2⟩ := Z_wake1 hr hZ hne
        refine r_aload_n h d_St_wakeWaiting_31 rfl (lv_at hl 4 rfl) ?_
        refine r_aload_n h d_St_wakeWaiting_32 rfl (lv_at hl 4 rfl) ?_
        refine r_get h (k := 6 * r + 9) (j := 2) (wN_r hr 9 (by decide)) (wG_rep cA cR ad hr _) rfl iw_Re (by decide) lk_St_70 rfl rfl d_St_wakeWaiting_33 ?_
        refine r_iload h d_St_wakeWaiting_36 (lv_at hl 0 rfl) ?_
        refine r_top (nI (kFst Vc r (wc r))) hfa ?_
        refine r_callVi h (k := 6 * r + 13) (n := 1) (As := [.int (nI (kFst Vc r (wc r)))]) (c_Me_take l D cA cR ad hI Vc (kFst Vc r (wc r)) (6 * r + 13) (wN_r hr 13 (by decide)) (wG_wm cA cR ad hr) 90 (wN_r hr 14 (by decide)) (wG_wc cA cR ad hr) (by decide) (wc r) (kV_wz hZ.1 hr) hlt h90) g_St_62 (by decide +kernel) rfl ⟨by decide, by decide⟩ (wN_r hr 13 (by decide)) (wG_wm cA cR ad hr _) rfl hl rfl (Nat.le_of_ble_eq_true rfl) d_St_wakeWaiting_38 ?_
        refine r_callSv h (n := 2) (As := [.ref (ad (6 * r + 9)), .int (Vc (6 * r + 14) (kFst Vc r (wc r)))]) (c_St_takeEffect l D cA cR ad hI (kTake Vc (6 * r + 13) (wc r) (kFst Vc r (wc r))) (Vc (6 * r + 14) (kFst Vc r (wc r))) r hr n (kV_n hZ.1) (kV_wc hZ.1 hr hlt)) g_St_77 (by decide +kernel) rfl ⟨by decide, by decide⟩ hl rfl (Nat.le_of_ble_eq_true rfl) d_St_wakeWaiting_41 ?_
        refine r_iinc h (v := nI (j + 1)) (lv' := [(3, .int (nI (j + 1))), (4, .int (kFa Vc r (wc r))), (2, .int (nI w)), (0, .ref (ad 0)), (1, .ref (ad (6 * r + 9)))]) d_St_wakeWaiting_44 hl (k := 1) rfl (z_inc j) (by decide) rfl (fun ls hl => ?_)
        refine r_goto h 10 d_St_wakeWaiting_47 (by decide) ?_
        exact ih (j + 1) _ _ _ ls (by omega) (by rw [if_pos rfl]; omega) hZ2 (by rw [← h1, ← hwc]; rw [hwc, kWk_s (by rw [← hwc]; exact hne)]; rfl) (by rw [← h2]; rw [kWk_s (by rw [← hwc]; exact hne), hwc]; show j + 1 + _ = j + (_ + 1); rw [Nat.add_assoc, Nat.add_comm 1]; rfl) (lv_sub hl [0, 2, 3, 4] rfl)
      · skip
        have hf : kFst Vc r (wc r) = wc r := Classical.byContradiction fun z => by
          unfold kFa at c26
          rw [if_neg z] at c26
          have := kFst_le Vc r (wc r)
          exact z_n3 (by omega) c26
        refine r_iload_n h d_St_wakeWaiting_29 rfl (lv_at hl 1 rfl) ?_
        exact r_iret h hM d_St_wakeWaiting_30 (rI (by rw [← h2, ← hwc, kWk_0 hf]; rfl)) (by rw [← h1, ← hwc, kWk_0 hf])
  refine r_aload_n h d_St_wakeWaiting_0 rfl (lv_at hl 1 rfl) ?_
  refine r_get h (k := 6 * r + 9) (j := 2) (wN_r hr 9 (by decide)) (wG_rep cA cR ad hr _) rfl iw_Re (by decide) lk_St_70 rfl rfl d_St_wakeWaiting_1 ?_
  refine r_get h (k := 6 * r + 13) (j := 1) (wN_r hr 13 (by decide)) (wG_wm cA cR ad hr _) rfl iw_Me (by decide) lk_St_89 rfl rfl d_St_wakeWaiting_4 ?_
  refine r_top (nI w) hw ?_
  refine r_istore_n h (lv' := [(2, .int (nI w)), (0, .ref (ad 0)), (1, .ref (ad (6 * r + 9)))]) d_St_wakeWaiting_7 rfl hl (by decide) rfl (fun ls hl => ?_)
  refine r_iconst h (v := 0) d_St_wakeWaiting_8 (by decide) ?_
  refine r_istore_n h (lv' := [(3, .int 0), (2, .int (nI w)), (0, .ref (ad 0)), (1, .ref (ad (6 * r + 9)))]) d_St_wakeWaiting_9 rfl hl (by decide) rfl (fun ls hl => ?_)
  exact loop w 0 V W wz ls (by omega) hww hZ rfl (Nat.zero_add _) hl
set_option maxHeartbeats 4000000 in
set_option maxRecDepth 100000 in
theorem c_St_makeBehind (l : Launch) (D : va_G) (cA cR : ClassId) (ad : Nat → Nat) (hI : wI ad) (V : Nat → Nat → Int32) (a ch : Int32) (r : Nat) (hr : r < 3) (n : Nat) (ts wz : Nat → Nat) (hV : kV V n ts wz) (hlt : n < 30) (ha : z_el a n) (hA1 : kHas V n r a = true → kAt V n (nI r) (kNxt V n r a) 0 (kNxt V n r a) ≤ n) (hA2 : kAt V n (nI r) a 1 (kNxt V n r a) ≤ n) : wM l D cA cR ad y_St_makeBehind (Cond.code y_St_makeBehind b_St_makeBehind 6 (some .int) :: wAl) 5 119 [.ref (ad 0), .int (nI r), .int a, .int ch] V (some (.int (nI n))) (kMake V n r a ch) := by
  refine wM_of hI (by decide) (Nat.le_of_ble_eq_true rfl) ?_
  intro X ls h hM hl
  have hl : lv_has ls 6 [(0, .ref (ad 0)), (1, .int (nI r)), (2, .int a), (3, .int ch)] := hl
  have hn := hV.1
  have hle := kV_n hV
  have hod := kV_hod hV
  have hpa := kV_hpa hV
  have hro := kV_hro hV
  have hbl := z_beh_le hV ha
  refine r_aload_n h d_St_makeBehind_0 rfl (lv_at hl 0 rfl) ?_
  refine r_get h (k := 0) (j := 1) (by decide) rfl rfl iw_St (by decide) lk_St_18 rfl rfl d_St_makeBehind_1 ?_
  refine r_iload_n h d_St_makeBehind_4 rfl (lv_at hl 1 rfl) ?_
  refine r_aald h (r := r) (by omega) d_St_makeBehind_5 ?_
  refine r_astore h (lv' := [(4, .ref (ad (6 * r + 9))), (0, .ref (ad 0)), (1, .int (nI r)), (2, .int a), (3, .int ch)]) d_St_makeBehind_6 hl (by decide) rfl (fun ls hl => ?_)
  refine r_aload_n h d_St_makeBehind_8 rfl (lv_at hl 1 rfl) ?_
  refine r_aload h d_St_makeBehind_9 (lv_at hl 0 rfl) ?_
  refine r_iload_n h d_St_makeBehind_11 rfl (lv_at hl 3 rfl) ?_
  refine r_callVi h (k := 0) (n := 2) (As := [.ref (ad (6 * r + 9)), .int a]) (c_St_nextBehind l D cA cR ad hI V a r hr n ts wz hV hbl) g_St_118 (by decide +kernel) rfl ⟨by decide, by decide⟩ (by decide) rfl rfl hl rfl (Nat.le_of_ble_eq_true rfl) d_St_makeBehind_12 ?_
  refine r_istore h (lv' := [(5, .int (kNxt V n r a)), (4, .ref (ad (6 * r + 9))), (0, .ref (ad 0)), (1, .int (nI r)), (2, .int a), (3, .int ch)]) d_St_makeBehind_15 hl (by decide) rfl (fun ls hl => ?_)
  refine r_aload_n h d_St_makeBehind_17 rfl (lv_at hl 2 rfl) ?_
  refine r_aload h d_St_makeBehind_18 (lv_at hl 1 rfl) ?_
  refine r_iload_n h d_St_makeBehind_20 rfl (lv_at hl 4 rfl) ?_
  refine r_callVi h (k := 0) (n := 2) (As := [.ref (ad (6 * r + 9)), .int a]) (c_St_hasRightChild l D cA cR ad hI V a r hr n ts wz hV) g_St_121 (by decide +kernel) rfl ⟨by decide, by decide⟩ (by decide) rfl rfl hl rfl (Nat.le_of_ble_eq_true rfl) d_St_makeBehind_21 ?_
  refine r_if_eq h 42 d_St_makeBehind_24 (by decide) (fun c24 => ?_) (fun c24 => ?_)
  · skip
    refine r_aload_n h d_St_makeBehind_42 rfl (lv_at hl 2 rfl) ?_
    refine r_get h (k := 0) (j := 0) (by decide) rfl rfl iw_St (by decide) lk_St_12 rfl rfl d_St_makeBehind_43 ?_
    refine r_iload_n h d_St_makeBehind_46 rfl (lv_at hl 3 rfl) ?_
    refine r_iload_n h d_St_makeBehind_47 rfl (lv_at hl 5 rfl) ?_
    refine r_iload_n h d_St_makeBehind_48 rfl (lv_at hl 4 rfl) ?_
    refine r_iconst h (v := 1) d_St_makeBehind_49 (by decide) ?_
    refine r_iload h d_St_makeBehind_50 (lv_at hl 0 rfl) ?_
    refine r_callVi h (k := 1) (n := 5) (As := [.int (nI r), .int ch, .int a, .int 1, .int (kNxt V n r a)]) (c_Tr_add l D cA cR ad hI V n hn hlt (nI r) ch a 1 (kNxt V n r a) hpa hod hbl hA2) g_St_124 (by decide +kernel) rfl ⟨by decide, by decide⟩ (by decide) rfl rfl hl rfl (Nat.le_of_ble_eq_true rfl) d_St_makeBehind_52 ?_
    exact r_iret h hM d_St_makeBehind_55 rfl (by unfold kMake; rw [if_neg (by rw [z_B_0.mp c24]; decide)])
  · skip
    refine r_aload_n h d_St_makeBehind_27 rfl (lv_at hl 2 rfl) ?_
    refine r_get h (k := 0) (j := 0) (by decide) rfl rfl iw_St (by decide) lk_St_12 rfl rfl d_St_makeBehind_28 ?_
    refine r_iload_n h d_St_makeBehind_31 rfl (lv_at hl 3 rfl) ?_
    refine r_iload_n h d_St_makeBehind_32 rfl (lv_at hl 5 rfl) ?_
    refine r_iload h d_St_makeBehind_33 (lv_at hl 0 rfl) ?_
    refine r_iconst h (v := 0) d_St_makeBehind_35 (by decide) ?_
    refine r_iload h d_St_makeBehind_36 (lv_at hl 0 rfl) ?_
    refine r_callVi h (k := 1) (n := 5) (As := [.int (nI r), .int ch, .int (kNxt V n r a), .int 0, .int (kNxt V n r a)]) (c_Tr_add l D cA cR ad hI V n hn hlt (nI r) ch (kNxt V n r a) 0 (kNxt V n r a) hpa hod (z_beh_le hV (kNxt_el hV r a hbl)) (hA1 (z_B_n.mp c24))) g_St_124 (by decide +kernel) rfl ⟨by decide, by decide⟩ (by decide) rfl rfl hl rfl (Nat.le_of_ble_eq_true rfl) d_St_makeBehind_38 ?_
    exact r_iret h hM d_St_makeBehind_41 rfl (by unfold kMake; rw [if_pos (z_B_n.mp c24)])
