-- CONTRACTS: SideTreeTextModel, what reads (laid by gen/conD.py)
set_option maxHeartbeats 4000000 in
set_option maxRecDepth 100000 in
theorem c_Mo_isReplica (l : Launch) (D : va_G) (cA cR : ClassId) (ad : Nat → Nat) (hI : wI ad) (V : Nat → Nat → Int32) (x : Int32) : wM l D cA cR ad y_Mo_isReplica (Cond.code y_Mo_isReplica b_Mo_isReplica 1 (some .boolean) :: wAl) 0 0 [.int x] V (some (.int (z_B (decide (0 ≤ x) && decide (x < 3))))) V := by
  refine wM_of hI (by decide) (Nat.le_of_ble_eq_true rfl) ?_
  intro X ls h hM hl
  have hl : lv_has ls 1 [(0, .int x)] := hl
  refine r_iload_n h d_Mo_isReplica_0 rfl (lv_at hl 0 rfl) ?_
  refine r_if_lt h 13 d_Mo_isReplica_1 (by decide) (fun c1 => ?_) (fun c1 => ?_)
  · skip
    refine r_iconst h (v := 0) d_Mo_isReplica_13 (by decide) ?_
    exact r_zret h hM (by decide) d_Mo_isReplica_14 (rF (by rw [decide_eq_false (Int32.not_le.mpr c1)]; rfl)) rfl
  · skip
    refine r_iload_n h d_Mo_isReplica_4 rfl (lv_at hl 0 rfl) ?_
    refine r_iconst h (v := 2) d_Mo_isReplica_5 (by decide) ?_
    refine r_icmp_gt h 13 d_Mo_isReplica_6 (by decide) (fun c6 => ?_) (fun c6 => ?_)
    · skip
      refine r_iconst h (v := 0) d_Mo_isReplica_13 (by decide) ?_
      exact r_zret h hM (by decide) d_Mo_isReplica_14 (rF (by rw [decide_eq_true c1, decide_eq_false (fun q => Int32.not_le.mpr c6 ((i23 x).mp q))]; rfl)) rfl
    · skip
      refine r_iconst h (v := 1) d_Mo_isReplica_9 (by decide) ?_
      refine r_goto h 14 d_Mo_isReplica_10 (by decide) ?_
      exact r_zret h hM (by decide) d_Mo_isReplica_14 (rT (by rw [decide_eq_true c1, decide_eq_true ((i23 x).mpr c6)]; rfl)) rfl
set_option maxHeartbeats 4000000 in
set_option maxRecDepth 100000 in
theorem c_Mo_isElement (l : Launch) (D : va_G) (cA cR : ClassId) (ad : Nat → Nat) (hI : wI ad) (V : Nat → Nat → Int32) (x : Int32) : wM l D cA cR ad y_Mo_isElement (Cond.code y_Mo_isElement b_Mo_isElement 2 (some .boolean) :: wAl) 0 0 [.ref (ad 27), .int x] V (some (.int (z_B (decide (0 ≤ x) && decide (x < V 27 0))))) V := by
  refine wM_of hI (by decide) (Nat.le_of_ble_eq_true rfl) ?_
  intro X ls h hM hl
  have hl : lv_has ls 2 [(0, .ref (ad 27)), (1, .int x)] := hl
  refine r_iload_n h d_Mo_isElement_0 rfl (lv_at hl 1 rfl) ?_
  refine r_if_lt h 16 d_Mo_isElement_1 (by decide) (fun c1 => ?_) (fun c1 => ?_)
  · skip
    refine r_iconst h (v := 0) d_Mo_isElement_16 (by decide) ?_
    exact r_zret h hM (by decide) d_Mo_isElement_17 (rF (by rw [decide_eq_false (Int32.not_le.mpr c1)]; rfl)) rfl
  · skip
    refine r_iload_n h d_Mo_isElement_4 rfl (lv_at hl 1 rfl) ?_
    refine r_aload_n h d_Mo_isElement_5 rfl (lv_at hl 0 rfl) ?_
    refine r_get h (k := 27) (j := 0) (by decide) rfl rfl iw_Mo (by decide) lk_Mo_43 rfl rfl d_Mo_isElement_6 ?_
    refine r_icmp_ge h 16 d_Mo_isElement_9 (by decide) (fun c9 => ?_) (fun c9 => ?_)
    · skip
      refine r_iconst h (v := 0) d_Mo_isElement_16 (by decide) ?_
      exact r_zret h hM (by decide) d_Mo_isElement_17 (rF (by rw [decide_eq_true c1, decide_eq_false (Int32.not_lt.mpr c9)]; rfl)) rfl
    · skip
      refine r_iconst h (v := 1) d_Mo_isElement_12 (by decide) ?_
      refine r_goto h 17 d_Mo_isElement_13 (by decide) ?_
      exact r_zret h hM (by decide) d_Mo_isElement_17 (rT (by rw [decide_eq_true c1, decide_eq_true c9]; rfl)) rfl
set_option maxHeartbeats 4000000 in
set_option maxRecDepth 100000 in
theorem c_Mo_placeOf (l : Launch) (D : va_G) (cA cR : ClassId) (ad : Nat → Nat) (hI : wI ad) (V : Nat → Nat → Int32) (x : Int32) (n : Nat) (hn : V 27 0 = nI n) (hle : n ≤ 30) : wM l D cA cR ad y_Mo_placeOf (Cond.code y_Mo_placeOf b_Mo_placeOf 3 (some .int) :: wAl) 0 0 [.ref (ad 27), .int x] V (some (.int (nI (z_pl (V 33) n x)))) V := by
  refine wM_of hI (by decide) (Nat.le_of_ble_eq_true rfl) ?_
  intro X ls h hM hl
  have hl : lv_has ls 3 [(0, .ref (ad 27)), (1, .int x)] := hl
  have loop : ∀ (k p : Nat) (ls : Array Slot), p + k = n → z_fnd (fun p => decide (V 33 p = x)) k p = z_pl (V 33) n x → lv_has ls 3 [(2, .int (nI p)), (0, .ref (ad 27)), (1, .int x)] → wv X cA cR ad V 2 ls [] := by
    intro k
    induction k with
    | zero =>
      intro p ls hp hz hl
      refine r_iload_n h d_Mo_placeOf_2 rfl (lv_at hl 0 rfl) ?_
      refine r_aload_n h d_Mo_placeOf_3 rfl (lv_at hl 1 rfl) ?_
      refine r_get h (k := 27) (j := 0) (by decide) rfl rfl iw_Mo (by decide) lk_Mo_43 rfl rfl d_Mo_placeOf_4 ?_
      refine r_top (nI n) hn ?_
      refine r_icmp_ge_t h 26 d_Mo_placeOf_7 (by decide) (nI_sz (by omega) (by omega) (by omega)) ?_
      refine r_iload_n h d_Mo_placeOf_26 rfl (lv_at hl 0 rfl) ?_
      exact r_iret h hM d_Mo_placeOf_27 (rI (by rw [← hz]; rfl)) rfl
    | succ k ih =>
      intro p ls hp hz hl
      refine r_iload_n h d_Mo_placeOf_2 rfl (lv_at hl 0 rfl) ?_
      refine r_aload_n h d_Mo_placeOf_3 rfl (lv_at hl 1 rfl) ?_
      refine r_get h (k := 27) (j := 0) (by decide) rfl rfl iw_Mo (by decide) lk_Mo_43 rfl rfl d_Mo_placeOf_4 ?_
      refine r_top (nI n) hn ?_
      refine r_icmp_ge_f h 26 d_Mo_placeOf_7 (by decide) (nI_lz (by omega) (by omega) (by omega)) ?_
      refine r_aload_n h d_Mo_placeOf_10 rfl (lv_at hl 1 rfl) ?_
      refine r_get h (k := 27) (j := 6) (by decide) rfl rfl iw_Mo (by decide) lk_Mo_25 rfl rfl d_Mo_placeOf_11 ?_
      refine r_iload_n h d_Mo_placeOf_14 rfl (lv_at hl 0 rfl) ?_
      refine r_ialdN h (k := 33) (i := p) (by decide) rfl (by omega) (by omega) d_Mo_placeOf_15 ?_
      refine r_iload_n h d_Mo_placeOf_16 rfl (lv_at hl 2 rfl) ?_
      refine r_icmp_eq h 26 d_Mo_placeOf_17 (by decide) (fun c17 => ?_) (fun c17 => ?_)
      · skip
        refine r_iload_n h d_Mo_placeOf_26 rfl (lv_at hl 0 rfl) ?_
        exact r_iret h hM d_Mo_placeOf_27 (rI (by rw [← hz, z_fnd_t (decide_eq_true c17)])) rfl
      · skip
        refine r_iinc h (v := nI (p + 1)) (lv' := [(2, .int (nI (p + 1))), (0, .ref (ad 27)), (1, .int x)]) d_Mo_placeOf_20 hl (k := 0) rfl (z_inc p) (by decide) rfl (fun ls hl => ?_)
        refine r_goto h 2 d_Mo_placeOf_23 (by decide) ?_
        exact ih (p + 1) ls (by omega) (by rw [← hz, z_fnd_f (decide_eq_false c17)]) hl
  refine r_iconst h (v := 0) d_Mo_placeOf_0 (by decide) ?_
  refine r_istore_n h (lv' := [(2, .int 0), (0, .ref (ad 27)), (1, .int x)]) d_Mo_placeOf_1 rfl hl (by decide) rfl (fun ls hl => ?_)
  exact loop n 0 ls (by omega) rfl hl
set_option maxHeartbeats 4000000 in
set_option maxRecDepth 100000 in
theorem c_Mo_below (l : Launch) (D : va_G) (cA cR : ClassId) (ad : Nat → Nat) (hI : wI ad) (V : Nat → Nat → Int32) (x t : Int32) (n : Nat) (hle : n ≤ 30) (hpa : ∀ e, e < n → z_el (V 30 e) e) (hx : z_el x n) : wM l D cA cR ad y_Mo_below (Cond.code y_Mo_below b_Mo_below 4 (some .boolean) :: wAl) 0 0 [.ref (ad 27), .int x, .int t] V (some (.int (z_B (z_bl (V 30) t 31 x)))) V := by
  refine wM_of hI (by decide) (Nat.le_of_ble_eq_true rfl) ?_
  intro X ls h hM hl
  have hl : lv_has ls 4 [(0, .ref (ad 27)), (1, .int x), (2, .int t)] := hl
  have loop : ∀ (k : Nat) (y : Int32) (ls : Array Slot), z_el y n → z_nd y ≤ k → z_bl (V 30) t k y = z_bl (V 30) t 31 x → lv_has ls 4 [(3, .int y), (0, .ref (ad 27)), (1, .int x), (2, .int t)] → wv X cA cR ad V 2 ls [] := by
    intro k
    induction k with
    | zero =>
      intro y ls hy hk hz hl
      have hy1 : y = -1 := (z_el_nd hy (by omega)).2.mpr (by omega)
      have hy0 : y < 0 := by rw [hy1]; decide
      refine r_iload_n h d_Mo_below_2 rfl (lv_at hl 0 rfl) ?_
      refine r_if_lt_t h 21 d_Mo_below_3 (by decide) hy0 ?_
      refine r_iload_n h d_Mo_below_21 rfl (lv_at hl 0 rfl) ?_
      refine r_iload_n h d_Mo_below_22 rfl (lv_at hl 3 rfl) ?_
      refine r_icmp_ne h 30 d_Mo_below_23 (by decide) (fun c23 => ?_) (fun c23 => ?_)
      · skip
        refine r_iconst h (v := 0) d_Mo_below_30 (by decide) ?_
        exact r_zret h hM (by decide) d_Mo_below_31 (rF (by rw [← hz, z_bl_neg hy0]; exact decide_eq_false c23)) rfl
      · skip
        refine r_iconst h (v := 1) d_Mo_below_26 (by decide) ?_
        refine r_goto h 31 d_Mo_below_27 (by decide) ?_
        exact r_zret h hM (by decide) d_Mo_below_31 (rT (by rw [← hz, z_bl_neg hy0]; exact decide_eq_true c23)) rfl
    | succ k ih =>
      intro y ls hy hk hz hl
      refine r_iload_n h d_Mo_below_2 rfl (lv_at hl 0 rfl) ?_
      refine r_if_lt h 21 d_Mo_below_3 (by decide) (fun c3 => ?_) (fun c3 => ?_)
      · skip
        refine r_iload_n h d_Mo_below_21 rfl (lv_at hl 0 rfl) ?_
        refine r_iload_n h d_Mo_below_22 rfl (lv_at hl 3 rfl) ?_
        refine r_icmp_ne h 30 d_Mo_below_23 (by decide) (fun c23 => ?_) (fun c23 => ?_)
        · skip
          refine r_iconst h (v := 0) d_Mo_below_30 (by decide) ?_
          exact r_zret h hM (by decide) d_Mo_below_31 (rF (by rw [← hz, z_bl_neg c3]; exact decide_eq_false c23)) rfl
        · skip
          refine r_iconst h (v := 1) d_Mo_below_26 (by decide) ?_
          refine r_goto h 31 d_Mo_below_27 (by decide) ?_
          exact r_zret h hM (by decide) d_Mo_below_31 (rT (by rw [← hz, z_bl_neg c3]; exact decide_eq_true c23)) rfl
      · skip
        obtain ⟨a, ha, rfl⟩ := z_el_ge hy c3
        rw [z_nd_n (by omega)] at hk
        refine r_iload_n h d_Mo_below_6 rfl (lv_at hl 0 rfl) ?_
        refine r_iload_n h d_Mo_below_7 rfl (lv_at hl 3 rfl) ?_
        refine r_icmp_eq h 21 d_Mo_below_8 (by decide) (fun c8 => ?_) (fun c8 => ?_)
        · skip
          refine r_iload_n h d_Mo_below_21 rfl (lv_at hl 0 rfl) ?_
          refine r_iload_n h d_Mo_below_22 rfl (lv_at hl 3 rfl) ?_
          refine r_icmp_ne_f h 30 d_Mo_below_23 (by decide) c8 ?_
          refine r_iconst h (v := 1) d_Mo_below_26 (by decide) ?_
          refine r_goto h 31 d_Mo_below_27 (by decide) ?_
          exact r_zret h hM (by decide) d_Mo_below_31 (rT (by rw [← hz, z_bl_e c8])) rfl
        · skip
          refine r_aload_n h d_Mo_below_11 rfl (lv_at hl 1 rfl) ?_
          refine r_get h (k := 27) (j := 3) (by decide) rfl rfl iw_Mo (by decide) lk_Mo_16 rfl rfl d_Mo_below_12 ?_
          refine r_iload_n h d_Mo_below_15 rfl (lv_at hl 0 rfl) ?_
          refine r_ialdN h (k := 30) (i := a) (by decide) rfl (by omega) (by omega) d_Mo_below_16 ?_
          refine r_istore_n h (lv' := [(3, .int (V 30 a)), (0, .ref (ad 27)), (1, .int x), (2, .int t)]) d_Mo_below_17 rfl hl (by decide) rfl (fun ls hl => ?_)
          refine r_goto h 2 d_Mo_below_18 (by decide) ?_
          exact ih (V 30 a) ls (z_el_mono (hpa a ha) (by omega)) (by have := (z_el_nd (hpa a ha) (by omega)).1; omega) (by rw [← hz, z_bl_n (by omega) c8]) hl
  refine r_iload_n h d_Mo_below_0 rfl (lv_at hl 1 rfl) ?_
  refine r_istore_n h (lv' := [(3, .int x), (0, .ref (ad 27)), (1, .int x), (2, .int t)]) d_Mo_below_1 rfl hl (by decide) rfl (fun ls hl => ?_)
  exact loop 31 x ls hx (by have := (z_el_nd hx (by omega)).1; omega) rfl hl
set_option maxHeartbeats 4000000 in
set_option maxRecDepth 100000 in
theorem c_Mo_begin (l : Launch) (D : va_G) (cA cR : ClassId) (ad : Nat → Nat) (hI : wI ad) (V : Nat → Nat → Int32) (y : Int32) (n : Nat) (hn : V 27 0 = nI n) (hle : n ≤ 30) (hod : ∀ p, p < n → ∃ e, e < n ∧ V 33 p = nI e) (hpa : ∀ e, e < n → z_el (V 30 e) e) : wM l D cA cR ad y_Mo_begin (Cond.code y_Mo_begin b_Mo_begin 3 (some .int) :: wAl) 1 23 [.ref (ad 27), .int y] V (some (.int (nI (z_bgn (V 33) (V 30) n y)))) V := by
  refine wM_of hI (by decide) (Nat.le_of_ble_eq_true rfl) ?_
  intro X ls h hM hl
  have hl : lv_has ls 3 [(0, .ref (ad 27)), (1, .int y)] := hl
  have loop : ∀ (k p : Nat) (ls : Array Slot), p + k = n → z_fnd (fun p => z_bl (V 30) y 31 (V 33 p)) k p = z_bgn (V 33) (V 30) n y → lv_has ls 3 [(2, .int (nI p)), (0, .ref (ad 27)), (1, .int y)] → wv X cA cR ad V 2 ls [] := by
    intro k
    induction k with
    | zero =>
      intro p ls hp hz hl
      refine r_iload_n h d_Mo_begin_2 rfl (lv_at hl 0 rfl) ?_
      refine r_aload_n h d_Mo_begin_3 rfl (lv_at hl 1 rfl) ?_
      refine r_get h (k := 27) (j := 0) (by decide) rfl rfl iw_Mo (by decide) lk_Mo_43 rfl rfl d_Mo_begin_4 ?_
      refine r_top (nI n) hn ?_
      refine r_icmp_ge_t h 30 d_Mo_begin_7 (by decide) (nI_sz (by omega) (by omega) (by omega)) ?_
      refine r_iload_n h d_Mo_begin_30 rfl (lv_at hl 0 rfl) ?_
      exact r_iret h hM d_Mo_begin_31 (rI (by rw [← hz]; rfl)) rfl
    | succ k ih =>
      intro p ls hp hz hl
      refine r_iload_n h d_Mo_begin_2 rfl (lv_at hl 0 rfl) ?_
      refine r_aload_n h d_Mo_begin_3 rfl (lv_at hl 1 rfl) ?_
      refine r_get h (k := 27) (j := 0) (by decide) rfl rfl iw_Mo (by decide) lk_Mo_43 rfl rfl d_Mo_begin_4 ?_
      refine r_top (nI n) hn ?_
      refine r_icmp_ge_f h 30 d_Mo_begin_7 (by decide) (nI_lz (by omega) (by omega) (by omega)) ?_
      refine r_aload_n h d_Mo_begin_10 rfl (lv_at hl 1 rfl) ?_
      refine r_aload_n h d_Mo_begin_11 rfl (lv_at hl 1 rfl) ?_
      refine r_get h (k := 27) (j := 6) (by decide) rfl rfl iw_Mo (by decide) lk_Mo_25 rfl rfl d_Mo_begin_12 ?_
      refine r_iload_n h d_Mo_begin_15 rfl (lv_at hl 0 rfl) ?_
      refine r_ialdN h (k := 33) (i := p) (by decide) rfl (by omega) (by omega) d_Mo_begin_16 ?_
      refine r_iload_n h d_Mo_begin_17 rfl (lv_at hl 2 rfl) ?_
      refine r_callVi h (k := 27) (n := 2) (As := [.int (V 33 p), .int y]) (c_Mo_below l D cA cR ad hI V (V 33 p) y n hle hpa (Or.inr (hod p (by omega)))) g_Mo_47 (by decide +kernel) rfl ⟨by decide, by decide⟩ (by decide) rfl rfl hl rfl (Nat.le_of_ble_eq_true rfl) d_Mo_begin_18 ?_
      refine r_if_ne h 30 d_Mo_begin_21 (by decide) (fun c21 => ?_) (fun c21 => ?_)
      · skip
        refine r_iload_n h d_Mo_begin_30 rfl (lv_at hl 0 rfl) ?_
        exact r_iret h hM d_Mo_begin_31 (rI (by rw [← hz, z_fnd_t (P := fun p => z_bl (V 30) y 31 (V 33 p)) (z_B_n.mp c21)])) rfl
      · skip
        refine r_iinc h (v := nI (p + 1)) (lv' := [(2, .int (nI (p + 1))), (0, .ref (ad 27)), (1, .int y)]) d_Mo_begin_24 hl (k := 0) rfl (z_inc p) (by decide) rfl (fun ls hl => ?_)
        refine r_goto h 2 d_Mo_begin_27 (by decide) ?_
        exact ih (p + 1) ls (by omega) (by rw [← hz, z_fnd_f (P := fun p => z_bl (V 30) y 31 (V 33 p)) (z_B_0.mp c21)]) hl
  refine r_iconst h (v := 0) d_Mo_begin_0 (by decide) ?_
  refine r_istore_n h (lv' := [(2, .int 0), (0, .ref (ad 27)), (1, .int y)]) d_Mo_begin_1 rfl hl (by decide) rfl (fun ls hl => ?_)
  exact loop n 0 ls (by omega) rfl hl
set_option maxHeartbeats 4000000 in
set_option maxRecDepth 100000 in
theorem c_Mo_end (l : Launch) (D : va_G) (cA cR : ClassId) (ad : Nat → Nat) (hI : wI ad) (V : Nat → Nat → Int32) (y : Int32) (n : Nat) (hn : V 27 0 = nI n) (hle : n ≤ 30) (hod : ∀ p, p < n → ∃ e, e < n ∧ V 33 p = nI e) (hpa : ∀ e, e < n → z_el (V 30 e) e) : wM l D cA cR ad y_Mo_end (Cond.code y_Mo_end b_Mo_end 4 (some .int) :: wAl) 1 23 [.ref (ad 27), .int y] V (some (.int (nI (z_end (V 33) (V 30) n y)))) V := by
  refine wM_of hI (by decide) (Nat.le_of_ble_eq_true rfl) ?_
  intro X ls h hM hl
  have hl : lv_has ls 4 [(0, .ref (ad 27)), (1, .int y)] := hl
  have loop : ∀ (k p a : Nat) (ls : Array Slot), p + k = n → z_lst (fun p => z_bl (V 30) y 31 (V 33 p)) k p a = z_end (V 33) (V 30) n y → lv_has ls 4 [(3, .int (nI p)), (2, .int (nI a)), (0, .ref (ad 27)), (1, .int y)] → wv X cA cR ad V 4 ls [] := by
    intro k
    induction k with
    | zero =>
      intro p a ls hp hz hl
      refine r_iload_n h d_Mo_end_4 rfl (lv_at hl 0 rfl) ?_
      refine r_aload_n h d_Mo_end_5 rfl (lv_at hl 2 rfl) ?_
      refine r_get h (k := 27) (j := 0) (by decide) rfl rfl iw_Mo (by decide) lk_Mo_43 rfl rfl d_Mo_end_6 ?_
      refine r_top (nI n) hn ?_
      refine r_icmp_ge_t h 40 d_Mo_end_9 (by decide) (nI_sz (by omega) (by omega) (by omega)) ?_
      refine r_iload_n h d_Mo_end_40 rfl (lv_at hl 1 rfl) ?_
      exact r_iret h hM d_Mo_end_41 (rI (by rw [← hz]; rfl)) rfl
    | succ k ih =>
      intro p a ls hp hz hl
      refine r_iload_n h d_Mo_end_4 rfl (lv_at hl 0 rfl) ?_
      refine r_aload_n h d_Mo_end_5 rfl (lv_at hl 2 rfl) ?_
      refine r_get h (k := 27) (j := 0) (by decide) rfl rfl iw_Mo (by decide) lk_Mo_43 rfl rfl d_Mo_end_6 ?_
      refine r_top (nI n) hn ?_
      refine r_icmp_ge_f h 40 d_Mo_end_9 (by decide) (nI_lz (by omega) (by omega) (by omega)) ?_
      refine r_aload_n h d_Mo_end_12 rfl (lv_at hl 2 rfl) ?_
      refine r_aload_n h d_Mo_end_13 rfl (lv_at hl 2 rfl) ?_
      refine r_get h (k := 27) (j := 6) (by decide) rfl rfl iw_Mo (by decide) lk_Mo_25 rfl rfl d_Mo_end_14 ?_
      refine r_iload_n h d_Mo_end_17 rfl (lv_at hl 0 rfl) ?_
      refine r_ialdN h (k := 33) (i := p) (by decide) rfl (by omega) (by omega) d_Mo_end_18 ?_
      refine r_iload_n h d_Mo_end_19 rfl (lv_at hl 3 rfl) ?_
      refine r_callVi h (k := 27) (n := 2) (As := [.int (V 33 p), .int y]) (c_Mo_below l D cA cR ad hI V (V 33 p) y n hle hpa (Or.inr (hod p (by omega)))) g_Mo_47 (by decide +kernel) rfl ⟨by decide, by decide⟩ (by decide) rfl rfl hl rfl (Nat.le_of_ble_eq_true rfl) d_Mo_end_20 ?_
      refine r_if_eq h 32 d_Mo_end_23 (by decide) (fun c23 => ?_) (fun c23 => ?_)
      · skip
        refine r_iload_n h d_Mo_end_32 rfl (lv_at hl 1 rfl) ?_
        refine r_istore_n h (lv' := [(2, .int (nI a)), (3, .int (nI p)), (0, .ref (ad 27)), (1, .int y)]) d_Mo_end_33 rfl hl (by decide) rfl (fun ls hl => ?_)
        refine r_iinc h (v := nI (p + 1)) (lv' := [(3, .int (nI (p + 1))), (2, .int (nI a)), (0, .ref (ad 27)), (1, .int y)]) d_Mo_end_34 hl (k := 1) rfl (z_inc p) (by decide) rfl (fun ls hl => ?_)
        refine r_goto h 4 d_Mo_end_37 (by decide) ?_
        exact ih (p + 1) a ls (by omega) (by rw [← hz, z_lst_f (P := fun p => z_bl (V 30) y 31 (V 33 p)) (z_B_0.mp c23)]) hl
      · skip
        refine r_iload_n h d_Mo_end_26 rfl (lv_at hl 0 rfl) ?_
        refine r_iconst h (v := 1) d_Mo_end_27 (by decide) ?_
        refine r_iadd h d_Mo_end_28 ?_
        refine r_top (nI (p + 1)) (nI_1 p) ?_
        refine r_goto h 33 d_Mo_end_29 (by decide) ?_
        refine r_istore_n h (lv' := [(2, .int (nI (p + 1))), (3, .int (nI p)), (0, .ref (ad 27)), (1, .int y)]) d_Mo_end_33 rfl hl (by decide) rfl (fun ls hl => ?_)
        refine r_iinc h (v := nI (p + 1)) (lv' := [(3, .int (nI (p + 1))), (2, .int (nI (p + 1))), (0, .ref (ad 27)), (1, .int y)]) d_Mo_end_34 hl (k := 1) rfl (z_inc p) (by decide) rfl (fun ls hl => ?_)
        refine r_goto h 4 d_Mo_end_37 (by decide) ?_
        exact ih (p + 1) (p + 1) ls (by omega) (by rw [← hz, z_lst_t (P := fun p => z_bl (V 30) y 31 (V 33 p)) (z_B_n.mp c23)]) hl
  refine r_iconst h (v := 0) d_Mo_end_0 (by decide) ?_
  refine r_istore_n h (lv' := [(2, .int 0), (0, .ref (ad 27)), (1, .int y)]) d_Mo_end_1 rfl hl (by decide) rfl (fun ls hl => ?_)
  refine r_iconst h (v := 0) d_Mo_end_2 (by decide) ?_
  refine r_istore_n h (lv' := [(3, .int 0), (2, .int 0), (0, .ref (ad 27)), (1, .int y)]) d_Mo_end_3 rfl hl (by decide) rfl (fun ls hl => ?_)
  exact loop n 0 0 ls (by omega) rfl hl
set_option maxHeartbeats 4000000 in
set_option maxRecDepth 100000 in
theorem c_Mo_ahead (l : Launch) (D : va_G) (cA cR : ClassId) (ad : Nat → Nat) (hI : wI ad) (V : Nat → Nat → Int32) (x y : Nat) (hx : x < 30) (hy : y < 30) (n : Nat) (hn : V 27 0 = nI n) (hle : n ≤ 30) : wM l D cA cR ad y_Mo_ahead (Cond.code y_Mo_ahead b_Mo_ahead 5 (some .boolean) :: wAl) 1 22 [.ref (ad 27), .int (nI x), .int (nI y)] V (some (.int (z_B (z_ahd (V 33) (V 31) (V 32) (V 28) n x y)))) V := by
  refine wM_of hI (by decide) (Nat.le_of_ble_eq_true rfl) ?_
  intro X ls h hM hl
  have hl : lv_has ls 5 [(0, .ref (ad 27)), (1, .int (nI x)), (2, .int (nI y))] := hl
  have hpx : (if V 32 x < 0 then n else z_pl (V 33) n (V 32 x)) ≤ n := by
    split
    · exact Nat.le_refl n
    · exact z_pl_le _ _ _
  have hpy : (if V 32 y < 0 then n else z_pl (V 33) n (V 32 y)) ≤ n := by
    split
    · exact Nat.le_refl n
    · exact z_pl_le _ _ _
  refine r_aload_n h d_Mo_ahead_0 rfl (lv_at hl 0 rfl) ?_
  refine r_get h (k := 27) (j := 4) (by decide) rfl rfl iw_Mo (by decide) lk_Mo_19 rfl rfl d_Mo_ahead_1 ?_
  refine r_iload_n h d_Mo_ahead_4 rfl (lv_at hl 1 rfl) ?_
  refine r_ialdN h (k := 31) (i := x) (by decide) rfl (by omega) (by omega) d_Mo_ahead_5 ?_
  refine r_iconst h (v := 1) d_Mo_ahead_6 (by decide) ?_
  refine r_icmp_ne h 92 d_Mo_ahead_7 (by decide) (fun c7 => ?_) (fun c7 => ?_)
  · skip
    have hq : ¬ (V 31 x = 1 ∧ ¬ V 32 x = V 32 y) := fun q => c7 q.1
    refine r_aload_n h d_Mo_ahead_92 rfl (lv_at hl 0 rfl) ?_
    refine r_get h (k := 27) (j := 1) (by decide) rfl rfl iw_Mo (by decide) lk_Mo_7 rfl rfl d_Mo_ahead_93 ?_
    refine r_iload_n h d_Mo_ahead_96 rfl (lv_at hl 1 rfl) ?_
    refine r_ialdN h (k := 28) (i := x) (by decide) rfl (by omega) (by omega) d_Mo_ahead_97 ?_
    refine r_aload_n h d_Mo_ahead_98 rfl (lv_at hl 0 rfl) ?_
    refine r_get h (k := 27) (j := 1) (by decide) rfl rfl iw_Mo (by decide) lk_Mo_7 rfl rfl d_Mo_ahead_99 ?_
    refine r_iload_n h d_Mo_ahead_102 rfl (lv_at hl 2 rfl) ?_
    refine r_ialdN h (k := 28) (i := y) (by decide) rfl (by omega) (by omega) d_Mo_ahead_103 ?_
    refine r_icmp_lt h 127 d_Mo_ahead_104 (by decide) (fun c104 => ?_) (fun c104 => ?_)
    · skip
      refine r_iconst h (v := 1) d_Mo_ahead_127 (by decide) ?_
      refine r_goto h 132 d_Mo_ahead_128 (by decide) ?_
      exact r_zret h hM (by decide) d_Mo_ahead_132 (rT (by rw [z_ahd_2 hq, decide_eq_true c104]; rfl)) rfl
    · skip
      refine r_aload_n h d_Mo_ahead_107 rfl (lv_at hl 0 rfl) ?_
      refine r_get h (k := 27) (j := 1) (by decide) rfl rfl iw_Mo (by decide) lk_Mo_7 rfl rfl d_Mo_ahead_108 ?_
      refine r_iload_n h d_Mo_ahead_111 rfl (lv_at hl 1 rfl) ?_
      refine r_ialdN h (k := 28) (i := x) (by decide) rfl (by omega) (by omega) d_Mo_ahead_112 ?_
      refine r_aload_n h d_Mo_ahead_113 rfl (lv_at hl 0 rfl) ?_
      refine r_get h (k := 27) (j := 1) (by decide) rfl rfl iw_Mo (by decide) lk_Mo_7 rfl rfl d_Mo_ahead_114 ?_
      refine r_iload_n h d_Mo_ahead_117 rfl (lv_at hl 2 rfl) ?_
      refine r_ialdN h (k := 28) (i := y) (by decide) rfl (by omega) (by omega) d_Mo_ahead_118 ?_
      refine r_icmp_ne h 131 d_Mo_ahead_119 (by decide) (fun c119 => ?_) (fun c119 => ?_)
      · skip
        refine r_iconst h (v := 0) d_Mo_ahead_131 (by decide) ?_
        exact r_zret h hM (by decide) d_Mo_ahead_132 (rF (by rw [z_ahd_2 hq, decide_eq_false (Int32.not_lt.mpr c104), decide_eq_false c119]; rfl)) rfl
      · skip
        refine r_iload_n h d_Mo_ahead_122 rfl (lv_at hl 1 rfl) ?_
        refine r_iload_n h d_Mo_ahead_123 rfl (lv_at hl 2 rfl) ?_
        refine r_icmp_ge h 131 d_Mo_ahead_124 (by decide) (fun c124 => ?_) (fun c124 => ?_)
        · skip
          refine r_iconst h (v := 0) d_Mo_ahead_131 (by decide) ?_
          exact r_zret h hM (by decide) d_Mo_ahead_132 (rF (by rw [z_ahd_2 hq, decide_eq_false (Int32.not_lt.mpr c104), decide_eq_false (show ¬ x < y from fun q => absurd (nI_szm (by omega) (by omega) c124) (by omega)), Bool.and_false]; rfl)) rfl
        · skip
          refine r_iconst h (v := 1) d_Mo_ahead_127 (by decide) ?_
          refine r_goto h 132 d_Mo_ahead_128 (by decide) ?_
          exact r_zret h hM (by decide) d_Mo_ahead_132 (rT (by rw [z_ahd_2 hq, decide_eq_true c119, decide_eq_true (nI_lzm (by omega) (by omega) c124)]; simp)) rfl
  · skip
    refine r_aload_n h d_Mo_ahead_10 rfl (lv_at hl 0 rfl) ?_
    refine r_get h (k := 27) (j := 5) (by decide) rfl rfl iw_Mo (by decide) lk_Mo_22 rfl rfl d_Mo_ahead_11 ?_
    refine r_iload_n h d_Mo_ahead_14 rfl (lv_at hl 1 rfl) ?_
    refine r_ialdN h (k := 32) (i := x) (by decide) rfl (by omega) (by omega) d_Mo_ahead_15 ?_
    refine r_aload_n h d_Mo_ahead_16 rfl (lv_at hl 0 rfl) ?_
    refine r_get h (k := 27) (j := 5) (by decide) rfl rfl iw_Mo (by decide) lk_Mo_22 rfl rfl d_Mo_ahead_17 ?_
    refine r_iload_n h d_Mo_ahead_20 rfl (lv_at hl 2 rfl) ?_
    refine r_ialdN h (k := 32) (i := y) (by decide) rfl (by omega) (by omega) d_Mo_ahead_21 ?_
    refine r_icmp_eq h 92 d_Mo_ahead_22 (by decide) (fun c22 => ?_) (fun c22 => ?_)
    · skip
      have hq : ¬ (V 31 x = 1 ∧ ¬ V 32 x = V 32 y) := fun q => q.2 c22
      refine r_aload_n h d_Mo_ahead_92 rfl (lv_at hl 0 rfl) ?_
      refine r_get h (k := 27) (j := 1) (by decide) rfl rfl iw_Mo (by decide) lk_Mo_7 rfl rfl d_Mo_ahead_93 ?_
      refine r_iload_n h d_Mo_ahead_96 rfl (lv_at hl 1 rfl) ?_
      refine r_ialdN h (k := 28) (i := x) (by decide) rfl (by omega) (by omega) d_Mo_ahead_97 ?_
      refine r_aload_n h d_Mo_ahead_98 rfl (lv_at hl 0 rfl) ?_
      refine r_get h (k := 27) (j := 1) (by decide) rfl rfl iw_Mo (by decide) lk_Mo_7 rfl rfl d_Mo_ahead_99 ?_
      refine r_iload_n h d_Mo_ahead_102 rfl (lv_at hl 2 rfl) ?_
      refine r_ialdN h (k := 28) (i := y) (by decide) rfl (by omega) (by omega) d_Mo_ahead_103 ?_
      refine r_icmp_lt h 127 d_Mo_ahead_104 (by decide) (fun c104 => ?_) (fun c104 => ?_)
      · skip
        refine r_iconst h (v := 1) d_Mo_ahead_127 (by decide) ?_
        refine r_goto h 132 d_Mo_ahead_128 (by decide) ?_
        exact r_zret h hM (by decide) d_Mo_ahead_132 (rT (by rw [z_ahd_2 hq, decide_eq_true c104]; rfl)) rfl
      · skip
        refine r_aload_n h d_Mo_ahead_107 rfl (lv_at hl 0 rfl) ?_
        refine r_get h (k := 27) (j := 1) (by decide) rfl rfl iw_Mo (by decide) lk_Mo_7 rfl rfl d_Mo_ahead_108 ?_
        refine r_iload_n h d_Mo_ahead_111 rfl (lv_at hl 1 rfl) ?_
        refine r_ialdN h (k := 28) (i := x) (by decide) rfl (by omega) (by omega) d_Mo_ahead_112 ?_
        refine r_aload_n h d_Mo_ahead_113 rfl (lv_at hl 0 rfl) ?_
        refine r_get h (k := 27) (j := 1) (by decide) rfl rfl iw_Mo (by decide) lk_Mo_7 rfl rfl d_Mo_ahead_114 ?_
        refine r_iload_n h d_Mo_ahead_117 rfl (lv_at hl 2 rfl) ?_
        refine r_ialdN h (k := 28) (i := y) (by decide) rfl (by omega) (by omega) d_Mo_ahead_118 ?_
        refine r_icmp_ne h 131 d_Mo_ahead_119 (by decide) (fun c119 => ?_) (fun c119 => ?_)
        · skip
          refine r_iconst h (v := 0) d_Mo_ahead_131 (by decide) ?_
          exact r_zret h hM (by decide) d_Mo_ahead_132 (rF (by rw [z_ahd_2 hq, decide_eq_false (Int32.not_lt.mpr c104), decide_eq_false c119]; rfl)) rfl
        · skip
          refine r_iload_n h d_Mo_ahead_122 rfl (lv_at hl 1 rfl) ?_
          refine r_iload_n h d_Mo_ahead_123 rfl (lv_at hl 2 rfl) ?_
          refine r_icmp_ge h 131 d_Mo_ahead_124 (by decide) (fun c124 => ?_) (fun c124 => ?_)
          · skip
            refine r_iconst h (v := 0) d_Mo_ahead_131 (by decide) ?_
            exact r_zret h hM (by decide) d_Mo_ahead_132 (rF (by rw [z_ahd_2 hq, decide_eq_false (Int32.not_lt.mpr c104), decide_eq_false (show ¬ x < y from fun q => absurd (nI_szm (by omega) (by omega) c124) (by omega)), Bool.and_false]; rfl)) rfl
          · skip
            refine r_iconst h (v := 1) d_Mo_ahead_127 (by decide) ?_
            refine r_goto h 132 d_Mo_ahead_128 (by decide) ?_
            exact r_zret h hM (by decide) d_Mo_ahead_132 (rT (by rw [z_ahd_2 hq, decide_eq_true c119, decide_eq_true (nI_lzm (by omega) (by omega) c124)]; simp)) rfl
    · skip
      refine r_aload_n h d_Mo_ahead_25 rfl (lv_at hl 0 rfl) ?_
      refine r_get h (k := 27) (j := 5) (by decide) rfl rfl iw_Mo (by decide) lk_Mo_22 rfl rfl d_Mo_ahead_26 ?_
      refine r_iload_n h d_Mo_ahead_29 rfl (lv_at hl 1 rfl) ?_
      refine r_ialdN h (k := 32) (i := x) (by decide) rfl (by omega) (by omega) d_Mo_ahead_30 ?_
      refine r_if_ge h 41 d_Mo_ahead_31 (by decide) (fun c31 => ?_) (fun c31 => ?_)
      · skip
        refine r_aload_n h d_Mo_ahead_41 rfl (lv_at hl 0 rfl) ?_
        refine r_aload_n h d_Mo_ahead_42 rfl (lv_at hl 0 rfl) ?_
        refine r_get h (k := 27) (j := 5) (by decide) rfl rfl iw_Mo (by decide) lk_Mo_22 rfl rfl d_Mo_ahead_43 ?_
        refine r_iload_n h d_Mo_ahead_46 rfl (lv_at hl 1 rfl) ?_
        refine r_ialdN h (k := 32) (i := x) (by decide) rfl (by omega) (by omega) d_Mo_ahead_47 ?_
        refine r_callVi h (k := 27) (n := 1) (As := [.int (V 32 x)]) (c_Mo_placeOf l D cA cR ad hI V (V 32 x) n hn hle) g_Mo_51 (by decide +kernel) rfl ⟨by decide, by decide⟩ (by decide) rfl rfl hl rfl (Nat.le_of_ble_eq_true rfl) d_Mo_ahead_48 ?_
        refine r_top (nI (if V 32 x < 0 then n else z_pl (V 33) n (V 32 x))) (by rw [if_neg (Int32.not_lt.mpr c31)]) ?_
        refine r_istore_n h (lv' := [(3, .int (nI (if V 32 x < 0 then n else z_pl (V 33) n (V 32 x)))), (0, .ref (ad 27)), (1, .int (nI x)), (2, .int (nI y))]) d_Mo_ahead_51 rfl hl (by decide) rfl (fun ls hl => ?_)
        refine r_aload_n h d_Mo_ahead_52 rfl (lv_at hl 1 rfl) ?_
        refine r_get h (k := 27) (j := 5) (by decide) rfl rfl iw_Mo (by decide) lk_Mo_22 rfl rfl d_Mo_ahead_53 ?_
        refine r_iload_n h d_Mo_ahead_56 rfl (lv_at hl 3 rfl) ?_
        refine r_ialdN h (k := 32) (i := y) (by decide) rfl (by omega) (by omega) d_Mo_ahead_57 ?_
        refine r_if_ge h 68 d_Mo_ahead_58 (by decide) (fun c58 => ?_) (fun c58 => ?_)
        · skip
          refine r_aload_n h d_Mo_ahead_68 rfl (lv_at hl 1 rfl) ?_
          refine r_aload_n h d_Mo_ahead_69 rfl (lv_at hl 1 rfl) ?_
          refine r_get h (k := 27) (j := 5) (by decide) rfl rfl iw_Mo (by decide) lk_Mo_22 rfl rfl d_Mo_ahead_70 ?_
          refine r_iload_n h d_Mo_ahead_73 rfl (lv_at hl 3 rfl) ?_
          refine r_ialdN h (k := 32) (i := y) (by decide) rfl (by omega) (by omega) d_Mo_ahead_74 ?_
          refine r_callVi h (k := 27) (n := 1) (As := [.int (V 32 y)]) (c_Mo_placeOf l D cA cR ad hI V (V 32 y) n hn hle) g_Mo_51 (by decide +kernel) rfl ⟨by decide, by decide⟩ (by decide) rfl rfl hl rfl (Nat.le_of_ble_eq_true rfl) d_Mo_ahead_75 ?_
          refine r_top (nI (if V 32 y < 0 then n else z_pl (V 33) n (V 32 y))) (by rw [if_neg (Int32.not_lt.mpr c58)]) ?_
          refine r_istore h (lv' := [(4, .int (nI (if V 32 y < 0 then n else z_pl (V 33) n (V 32 y)))), (3, .int (nI (if V 32 x < 0 then n else z_pl (V 33) n (V 32 x)))), (0, .ref (ad 27)), (1, .int (nI x)), (2, .int (nI y))]) d_Mo_ahead_78 hl (by decide) rfl (fun ls hl => ?_)
          refine r_iload_n h d_Mo_ahead_80 rfl (lv_at hl 1 rfl) ?_
          refine r_iload h d_Mo_ahead_81 (lv_at hl 0 rfl) ?_
          refine r_icmp_le h 90 d_Mo_ahead_83 (by decide) (fun c83 => ?_) (fun c83 => ?_)
          · skip
            refine r_iconst h (v := 0) d_Mo_ahead_90 (by decide) ?_
            exact r_zret h hM (by decide) d_Mo_ahead_91 (rF (by rw [z_ahd_1 c7 c22]; exact decide_eq_false (fun q => absurd (nI_szm (by omega) (by omega) c83) (by omega)))) rfl
          · skip
            refine r_iconst h (v := 1) d_Mo_ahead_86 (by decide) ?_
            refine r_goto h 91 d_Mo_ahead_87 (by decide) ?_
            exact r_zret h hM (by decide) d_Mo_ahead_91 (rT (by rw [z_ahd_1 c7 c22]; exact decide_eq_true (nI_lzm (by omega) (by omega) c83))) rfl
        · skip
          refine r_aload_n h d_Mo_ahead_61 rfl (lv_at hl 1 rfl) ?_
          refine r_get h (k := 27) (j := 0) (by decide) rfl rfl iw_Mo (by decide) lk_Mo_43 rfl rfl d_Mo_ahead_62 ?_
          refine r_top (nI (if V 32 y < 0 then n else z_pl (V 33) n (V 32 y))) (by rw [if_pos c58]; exact hn) ?_
          refine r_goto h 78 d_Mo_ahead_65 (by decide) ?_
          refine r_istore h (lv' := [(4, .int (nI (if V 32 y < 0 then n else z_pl (V 33) n (V 32 y)))), (3, .int (nI (if V 32 x < 0 then n else z_pl (V 33) n (V 32 x)))), (0, .ref (ad 27)), (1, .int (nI x)), (2, .int (nI y))]) d_Mo_ahead_78 hl (by decide) rfl (fun ls hl => ?_)
          refine r_iload_n h d_Mo_ahead_80 rfl (lv_at hl 1 rfl) ?_
          refine r_iload h d_Mo_ahead_81 (lv_at hl 0 rfl) ?_
          refine r_icmp_le h 90 d_Mo_ahead_83 (by decide) (fun c83 => ?_) (fun c83 => ?_)
          · skip
            refine r_iconst h (v := 0) d_Mo_ahead_90 (by decide) ?_
            exact r_zret h hM (by decide) d_Mo_ahead_91 (rF (by rw [z_ahd_1 c7 c22]; exact decide_eq_false (fun q => absurd (nI_szm (by omega) (by omega) c83) (by omega)))) rfl
          · skip
            refine r_iconst h (v := 1) d_Mo_ahead_86 (by decide) ?_
            refine r_goto h 91 d_Mo_ahead_87 (by decide) ?_
            exact r_zret h hM (by decide) d_Mo_ahead_91 (rT (by rw [z_ahd_1 c7 c22]; exact decide_eq_true (nI_lzm (by omega) (by omega) c83))) rfl
      · skip
        refine r_aload_n h d_Mo_ahead_34 rfl (lv_at hl 0 rfl) ?_
        refine r_get h (k := 27) (j := 0) (by decide) rfl rfl iw_Mo (by decide) lk_Mo_43 rfl rfl d_Mo_ahead_35 ?_
        refine r_top (nI (if V 32 x < 0 then n else z_pl (V 33) n (V 32 x))) (by rw [if_pos c31]; exact hn) ?_
        refine r_goto h 51 d_Mo_ahead_38 (by decide) ?_
        refine r_istore_n h (lv' := [(3, .int (nI (if V 32 x < 0 then n else z_pl (V 33) n (V 32 x)))), (0, .ref (ad 27)), (1, .int (nI x)), (2, .int (nI y))]) d_Mo_ahead_51 rfl hl (by decide) rfl (fun ls hl => ?_)
        refine r_aload_n h d_Mo_ahead_52 rfl (lv_at hl 1 rfl) ?_
        refine r_get h (k := 27) (j := 5) (by decide) rfl rfl iw_Mo (by decide) lk_Mo_22 rfl rfl d_Mo_ahead_53 ?_
        refine r_iload_n h d_Mo_ahead_56 rfl (lv_at hl 3 rfl) ?_
        refine r_ialdN h (k := 32) (i := y) (by decide) rfl (by omega) (by omega) d_Mo_ahead_57 ?_
        refine r_if_ge h 68 d_Mo_ahead_58 (by decide) (fun c58 => ?_) (fun c58 => ?_)
        · skip
          refine r_aload_n h d_Mo_ahead_68 rfl (lv_at hl 1 rfl) ?_
          refine r_aload_n h d_Mo_ahead_69 rfl (lv_at hl 1 rfl) ?_
          refine r_get h (k := 27) (j := 5) (by decide) rfl rfl iw_Mo (by decide) lk_Mo_22 rfl rfl d_Mo_ahead_70 ?_
          refine r_iload_n h d_Mo_ahead_73 rfl (lv_at hl 3 rfl) ?_
          refine r_ialdN h (k := 32) (i := y) (by decide) rfl (by omega) (by omega) d_Mo_ahead_74 ?_
          refine r_callVi h (k := 27) (n := 1) (As := [.int (V 32 y)]) (c_Mo_placeOf l D cA cR ad hI V (V 32 y) n hn hle) g_Mo_51 (by decide +kernel) rfl ⟨by decide, by decide⟩ (by decide) rfl rfl hl rfl (Nat.le_of_ble_eq_true rfl) d_Mo_ahead_75 ?_
          refine r_top (nI (if V 32 y < 0 then n else z_pl (V 33) n (V 32 y))) (by rw [if_neg (Int32.not_lt.mpr c58)]) ?_
          refine r_istore h (lv' := [(4, .int (nI (if V 32 y < 0 then n else z_pl (V 33) n (V 32 y)))), (3, .int (nI (if V 32 x < 0 then n else z_pl (V 33) n (V 32 x)))), (0, .ref (ad 27)), (1, .int (nI x)), (2, .int (nI y))]) d_Mo_ahead_78 hl (by decide) rfl (fun ls hl => ?_)
          refine r_iload_n h d_Mo_ahead_80 rfl (lv_at hl 1 rfl) ?_
          refine r_iload h d_Mo_ahead_81 (lv_at hl 0 rfl) ?_
          refine r_icmp_le h 90 d_Mo_ahead_83 (by decide) (fun c83 => ?_) (fun c83 => ?_)
          · skip
            refine r_iconst h (v := 0) d_Mo_ahead_90 (by decide) ?_
            exact r_zret h hM (by decide) d_Mo_ahead_91 (rF (by rw [z_ahd_1 c7 c22]; exact decide_eq_false (fun q => absurd (nI_szm (by omega) (by omega) c83) (by omega)))) rfl
          · skip
            refine r_iconst h (v := 1) d_Mo_ahead_86 (by decide) ?_
            refine r_goto h 91 d_Mo_ahead_87 (by decide) ?_
            exact r_zret h hM (by decide) d_Mo_ahead_91 (rT (by rw [z_ahd_1 c7 c22]; exact decide_eq_true (nI_lzm (by omega) (by omega) c83))) rfl
        · skip
          refine r_aload_n h d_Mo_ahead_61 rfl (lv_at hl 1 rfl) ?_
          refine r_get h (k := 27) (j := 0) (by decide) rfl rfl iw_Mo (by decide) lk_Mo_43 rfl rfl d_Mo_ahead_62 ?_
          refine r_top (nI (if V 32 y < 0 then n else z_pl (V 33) n (V 32 y))) (by rw [if_pos c58]; exact hn) ?_
          refine r_goto h 78 d_Mo_ahead_65 (by decide) ?_
          refine r_istore h (lv' := [(4, .int (nI (if V 32 y < 0 then n else z_pl (V 33) n (V 32 y)))), (3, .int (nI (if V 32 x < 0 then n else z_pl (V 33) n (V 32 x)))), (0, .ref (ad 27)), (1, .int (nI x)), (2, .int (nI y))]) d_Mo_ahead_78 hl (by decide) rfl (fun ls hl => ?_)
          refine r_iload_n h d_Mo_ahead_80 rfl (lv_at hl 1 rfl) ?_
          refine r_iload h d_Mo_ahead_81 (lv_at hl 0 rfl) ?_
          refine r_icmp_le h 90 d_Mo_ahead_83 (by decide) (fun c83 => ?_) (fun c83 => ?_)
          · skip
            refine r_iconst h (v := 0) d_Mo_ahead_90 (by decide) ?_
            exact r_zret h hM (by decide) d_Mo_ahead_91 (rF (by rw [z_ahd_1 c7 c22]; exact decide_eq_false (fun q => absurd (nI_szm (by omega) (by omega) c83) (by omega)))) rfl
          · skip
            refine r_iconst h (v := 1) d_Mo_ahead_86 (by decide) ?_
            refine r_goto h 91 d_Mo_ahead_87 (by decide) ?_
            exact r_zret h hM (by decide) d_Mo_ahead_91 (rT (by rw [z_ahd_1 c7 c22]; exact decide_eq_true (nI_lzm (by omega) (by omega) c83))) rfl
set_option maxHeartbeats 4000000 in
set_option maxRecDepth 100000 in
theorem c_Mo_home (l : Launch) (D : va_G) (cA cR : ClassId) (ad : Nat → Nat) (hI : wI ad) (V : Nat → Nat → Int32) (x : Nat) (hx : x < 30) (n : Nat) (hn : V 27 0 = nI n) (hle : n ≤ 30) (hod : ∀ p, p < n → ∃ e, e < n ∧ V 33 p = nI e) (hpa : ∀ e, e < n → z_el (V 30 e) e) : wM l D cA cR ad y_Mo_home (Cond.code y_Mo_home b_Mo_home 6 (some .int) :: wAl) 2 46 [.ref (ad 27), .int (nI x)] V (some (.int (nI (z_plR (V 33) (V 30) (V 31) (V 32) (V 28) n x)))) V := by
  refine wM_of hI (by decide) (Nat.le_of_ble_eq_true rfl) ?_
  intro X ls h hM hl
  have hl : lv_has ls 6 [(0, .ref (ad 27)), (1, .int (nI x))] := hl
  have ha0 : (if V 31 x = 0 then z_pl (V 33) n (V 30 x) else if V 30 x < 0 then n else z_end (V 33) (V 30) n (V 30 x)) ≤ n := by
    split
    · exact z_pl_le _ _ _
    · split
      · exact Nat.le_refl n
      · exact z_end_le _ _ _ _
  have loop : ∀ (k a : Nat) (ls : Array Slot), k ≤ n → a ≤ n → z_hom (fun k => (decide (V 30 (V 33 k).toNatClampNeg = V 30 x) && decide (V 31 (V 33 k).toNatClampNeg = V 31 x)) && z_ahd (V 33) (V 31) (V 32) (V 28) n x (V 33 k).toNatClampNeg) (fun k => z_bgn (V 33) (V 30) n (V 33 k)) k a = z_plR (V 33) (V 30) (V 31) (V 32) (V 28) n x → lv_has ls 6 [(3, .int (nI k - 1)), (2, .int (nI a)), (0, .ref (ad 27)), (1, .int (nI x))] → wv X cA cR ad V 56 ls [] := by
    intro k
    induction k with
    | zero =>
      intro a ls hk ha hz hl
      refine r_iload_n h d_Mo_home_56 rfl (lv_at hl 0 rfl) ?_
      refine r_if_lt_t h 149 d_Mo_home_57 (by decide) (by decide) ?_
      refine r_iload_n h d_Mo_home_149 rfl (lv_at hl 1 rfl) ?_
      exact r_iret h hM d_Mo_home_150 (rI (by rw [← hz]; rfl)) rfl
    | succ k ih =>
      intro a ls hk ha hz hl
      rw [nI_pred] at hl
      obtain ⟨e, he, hoe⟩ := hod k (by omega)
      have hoc : (V 33 k).toNatClampNeg = e := by rw [hoe]; exact nI_clamp (by omega)
      have hbl := z_bgn_le (V 33) (V 30) n (nI e)
      refine r_iload_n h d_Mo_home_56 rfl (lv_at hl 0 rfl) ?_
      refine r_if_lt_f h 149 d_Mo_home_57 (by decide) (nI_pos' (by omega)) ?_
      refine r_aload_n h d_Mo_home_60 rfl (lv_at hl 2 rfl) ?_
      refine r_get h (k := 27) (j := 6) (by decide) rfl rfl iw_Mo (by decide) lk_Mo_25 rfl rfl d_Mo_home_61 ?_
      refine r_iload_n h d_Mo_home_64 rfl (lv_at hl 0 rfl) ?_
      refine r_ialdN h (k := 33) (i := k) (by decide) rfl (by omega) (by omega) d_Mo_home_65 ?_
      refine r_top (nI e) hoe ?_
      refine r_istore h (lv' := [(4, .int (nI e)), (3, .int (nI k)), (2, .int (nI a)), (0, .ref (ad 27)), (1, .int (nI x))]) d_Mo_home_66 hl (by decide) rfl (fun ls hl => ?_)
      refine r_aload_n h d_Mo_home_68 rfl (lv_at hl 3 rfl) ?_
      refine r_get h (k := 27) (j := 3) (by decide) rfl rfl iw_Mo (by decide) lk_Mo_16 rfl rfl d_Mo_home_69 ?_
      refine r_iload h d_Mo_home_72 (lv_at hl 0 rfl) ?_
      refine r_ialdN h (k := 30) (i := e) (by decide) rfl (by omega) (by omega) d_Mo_home_74 ?_
      refine r_aload_n h d_Mo_home_75 rfl (lv_at hl 3 rfl) ?_
      refine r_get h (k := 27) (j := 3) (by decide) rfl rfl iw_Mo (by decide) lk_Mo_16 rfl rfl d_Mo_home_76 ?_
      refine r_iload_n h d_Mo_home_79 rfl (lv_at hl 4 rfl) ?_
      refine r_ialdN h (k := 30) (i := x) (by decide) rfl (by omega) (by omega) d_Mo_home_80 ?_
      refine r_icmp_ne h 104 d_Mo_home_81 (by decide) (fun c81 => ?_) (fun c81 => ?_)
      · skip
        refine r_iconst h (v := 0) d_Mo_home_104 (by decide) ?_
        refine r_istore h (lv' := [(5, .int 0), (4, .int (nI e)), (3, .int (nI k)), (2, .int (nI a)), (0, .ref (ad 27)), (1, .int (nI x))]) d_Mo_home_105 hl (by decide) rfl (fun ls hl => ?_)
        refine r_iload h d_Mo_home_107 (lv_at hl 0 rfl) ?_
        refine r_if_eq_t h 141 d_Mo_home_109 (by decide) rfl ?_
        refine r_iload_n h d_Mo_home_141 rfl (lv_at hl 3 rfl) ?_
        refine r_istore_n h (lv' := [(2, .int (nI a)), (5, .int 0), (4, .int (nI e)), (3, .int (nI k)), (0, .ref (ad 27)), (1, .int (nI x))]) d_Mo_home_142 rfl hl (by decide) rfl (fun ls hl => ?_)
        refine r_iinc h (v := (nI k) - 1) (lv' := [(3, .int ((nI k) - 1)), (2, .int (nI a)), (5, .int 0), (4, .int (nI e)), (0, .ref (ad 27)), (1, .int (nI x))]) d_Mo_home_143 hl (k := 3) rfl (z_dec (nI k)) (by decide) rfl (fun ls hl => ?_)
        refine r_goto h 56 d_Mo_home_146 (by decide) ?_
        have hno : ¬ ((fun k => (decide (V 30 (V 33 k).toNatClampNeg = V 30 x) && decide (V 31 (V 33 k).toNatClampNeg = V 31 x)) && z_ahd (V 33) (V 31) (V 32) (V 28) n x (V 33 k).toNatClampNeg) k = true ∧ (fun k => z_bgn (V 33) (V 30) n (V 33 k)) k < a) := fun q => by
          have q1 := q.1
          dsimp only at q1
          rw [hoc, decide_eq_false c81, Bool.false_and, Bool.false_and] at q1
          cases q1
        exact ih a ls (by omega) ha (by rw [← hz, z_hom_f hno]) (lv_sub hl [0, 1, 4, 5] rfl)
      · skip
        refine r_aload_n h d_Mo_home_84 rfl (lv_at hl 3 rfl) ?_
        refine r_get h (k := 27) (j := 4) (by decide) rfl rfl iw_Mo (by decide) lk_Mo_19 rfl rfl d_Mo_home_85 ?_
        refine r_iload h d_Mo_home_88 (lv_at hl 0 rfl) ?_
        refine r_ialdN h (k := 31) (i := e) (by decide) rfl (by omega) (by omega) d_Mo_home_90 ?_
        refine r_aload_n h d_Mo_home_91 rfl (lv_at hl 3 rfl) ?_
        refine r_get h (k := 27) (j := 4) (by decide) rfl rfl iw_Mo (by decide) lk_Mo_19 rfl rfl d_Mo_home_92 ?_
        refine r_iload_n h d_Mo_home_95 rfl (lv_at hl 4 rfl) ?_
        refine r_ialdN h (k := 31) (i := x) (by decide) rfl (by omega) (by omega) d_Mo_home_96 ?_
        refine r_icmp_ne h 104 d_Mo_home_97 (by decide) (fun c97 => ?_) (fun c97 => ?_)
        · skip
          refine r_iconst h (v := 0) d_Mo_home_104 (by decide) ?_
          refine r_istore h (lv' := [(5, .int 0), (4, .int (nI e)), (3, .int (nI k)), (2, .int (nI a)), (0, .ref (ad 27)), (1, .int (nI x))]) d_Mo_home_105 hl (by decide) rfl (fun ls hl => ?_)
          refine r_iload h d_Mo_home_107 (lv_at hl 0 rfl) ?_
          refine r_if_eq_t h 141 d_Mo_home_109 (by decide) rfl ?_
          refine r_iload_n h d_Mo_home_141 rfl (lv_at hl 3 rfl) ?_
          refine r_istore_n h (lv' := [(2, .int (nI a)), (5, .int 0), (4, .int (nI e)), (3, .int (nI k)), (0, .ref (ad 27)), (1, .int (nI x))]) d_Mo_home_142 rfl hl (by decide) rfl (fun ls hl => ?_)
          refine r_iinc h (v := (nI k) - 1) (lv' := [(3, .int ((nI k) - 1)), (2, .int (nI a)), (5, .int 0), (4, .int (nI e)), (0, .ref (ad 27)), (1, .int (nI x))]) d_Mo_home_143 hl (k := 3) rfl (z_dec (nI k)) (by decide) rfl (fun ls hl => ?_)
          refine r_goto h 56 d_Mo_home_146 (by decide) ?_
          have hno : ¬ ((fun k => (decide (V 30 (V 33 k).toNatClampNeg = V 30 x) && decide (V 31 (V 33 k).toNatClampNeg = V 31 x)) && z_ahd (V 33) (V 31) (V 32) (V 28) n x (V 33 k).toNatClampNeg) k = true ∧ (fun k => z_bgn (V 33) (V 30) n (V 33 k)) k < a) := fun q => by
            have q1 := q.1
            dsimp only at q1
            rw [hoc, decide_eq_false c97, Bool.and_false, Bool.false_and] at q1
            cases q1
          exact ih a ls (by omega) ha (by rw [← hz, z_hom_f hno]) (lv_sub hl [0, 1, 4, 5] rfl)
        · skip
          refine r_iconst h (v := 1) d_Mo_home_100 (by decide) ?_
          refine r_goto h 105 d_Mo_home_101 (by decide) ?_
          refine r_istore h (lv' := [(5, .int 1), (4, .int (nI e)), (3, .int (nI k)), (2, .int (nI a)), (0, .ref (ad 27)), (1, .int (nI x))]) d_Mo_home_105 hl (by decide) rfl (fun ls hl => ?_)
          refine r_iload h d_Mo_home_107 (lv_at hl 0 rfl) ?_
          refine r_if_eq_f h 141 d_Mo_home_109 (by decide) (by decide) ?_
          refine r_aload_n h d_Mo_home_112 rfl (lv_at hl 4 rfl) ?_
          refine r_iload_n h d_Mo_home_113 rfl (lv_at hl 5 rfl) ?_
          refine r_iload h d_Mo_home_114 (lv_at hl 1 rfl) ?_
          refine r_callVi h (k := 27) (n := 2) (As := [.int (nI x), .int (nI e)]) (c_Mo_ahead l D cA cR ad hI V x e hx (by omega) n hn hle) g_Mo_58 (by decide +kernel) rfl ⟨by decide, by decide⟩ (by decide) rfl rfl hl rfl (Nat.le_of_ble_eq_true rfl) d_Mo_home_116 ?_
          refine r_if_eq h 141 d_Mo_home_119 (by decide) (fun c119 => ?_) (fun c119 => ?_)
          · skip
            refine r_iload_n h d_Mo_home_141 rfl (lv_at hl 3 rfl) ?_
            refine r_istore_n h (lv' := [(2, .int (nI a)), (5, .int 1), (4, .int (nI e)), (3, .int (nI k)), (0, .ref (ad 27)), (1, .int (nI x))]) d_Mo_home_142 rfl hl (by decide) rfl (fun ls hl => ?_)
            refine r_iinc h (v := (nI k) - 1) (lv' := [(3, .int ((nI k) - 1)), (2, .int (nI a)), (5, .int 1), (4, .int (nI e)), (0, .ref (ad 27)), (1, .int (nI x))]) d_Mo_home_143 hl (k := 3) rfl (z_dec (nI k)) (by decide) rfl (fun ls hl => ?_)
            refine r_goto h 56 d_Mo_home_146 (by decide) ?_
            have hno : ¬ ((fun k => (decide (V 30 (V 33 k).toNatClampNeg = V 30 x) && decide (V 31 (V 33 k).toNatClampNeg = V 31 x)) && z_ahd (V 33) (V 31) (V 32) (V 28) n x (V 33 k).toNatClampNeg) k = true ∧ (fun k => z_bgn (V 33) (V 30) n (V 33 k)) k < a) := fun q => by
              have q1 := q.1
              dsimp only at q1
              rw [hoc, z_B_0.mp c119, Bool.and_false] at q1
              cases q1
            exact ih a ls (by omega) ha (by rw [← hz, z_hom_f hno]) (lv_sub hl [0, 1, 4, 5] rfl)
          · skip
            refine r_aload_n h d_Mo_home_122 rfl (lv_at hl 4 rfl) ?_
            refine r_iload h d_Mo_home_123 (lv_at hl 1 rfl) ?_
            refine r_callVi h (k := 27) (n := 1) (As := [.int (nI e)]) (c_Mo_begin l D cA cR ad hI V (nI e) n hn hle hod hpa) g_Mo_61 (by decide +kernel) rfl ⟨by decide, by decide⟩ (by decide) rfl rfl hl rfl (Nat.le_of_ble_eq_true rfl) d_Mo_home_125 ?_
            refine r_iload_n h d_Mo_home_128 rfl (lv_at hl 3 rfl) ?_
            refine r_icmp_ge h 141 d_Mo_home_129 (by decide) (fun c129 => ?_) (fun c129 => ?_)
            · skip
              refine r_iload_n h d_Mo_home_141 rfl (lv_at hl 3 rfl) ?_
              refine r_istore_n h (lv' := [(2, .int (nI a)), (5, .int 1), (4, .int (nI e)), (3, .int (nI k)), (0, .ref (ad 27)), (1, .int (nI x))]) d_Mo_home_142 rfl hl (by decide) rfl (fun ls hl => ?_)
              refine r_iinc h (v := (nI k) - 1) (lv' := [(3, .int ((nI k) - 1)), (2, .int (nI a)), (5, .int 1), (4, .int (nI e)), (0, .ref (ad 27)), (1, .int (nI x))]) d_Mo_home_143 hl (k := 3) rfl (z_dec (nI k)) (by decide) rfl (fun ls hl => ?_)
              refine r_goto h 56 d_Mo_home_146 (by decide) ?_
              have hno : ¬ ((fun k => (decide (V 30 (V 33 k).toNatClampNeg = V 30 x) && decide (V 31 (V 33 k).toNatClampNeg = V 31 x)) && z_ahd (V 33) (V 31) (V 32) (V 28) n x (V 33 k).toNatClampNeg) k = true ∧ (fun k => z_bgn (V 33) (V 30) n (V 33 k)) k < a) := fun q => by
                have q2 := q.2
                dsimp only at q2
                rw [hoe] at q2
                exact absurd (nI_szm (by omega) (by omega) c129) (by omega)
              exact ih a ls (by omega) ha (by rw [← hz, z_hom_f hno]) (lv_sub hl [0, 1, 4, 5] rfl)
            · skip
              refine r_aload_n h d_Mo_home_132 rfl (lv_at hl 4 rfl) ?_
              refine r_iload h d_Mo_home_133 (lv_at hl 1 rfl) ?_
              refine r_callVi h (k := 27) (n := 1) (As := [.int (nI e)]) (c_Mo_begin l D cA cR ad hI V (nI e) n hn hle hod hpa) g_Mo_61 (by decide +kernel) rfl ⟨by decide, by decide⟩ (by decide) rfl rfl hl rfl (Nat.le_of_ble_eq_true rfl) d_Mo_home_135 ?_
              refine r_goto h 142 d_Mo_home_138 (by decide) ?_
              refine r_istore_n h (lv' := [(2, .int (nI (z_bgn (V 33) (V 30) n (nI e)))), (5, .int 1), (4, .int (nI e)), (3, .int (nI k)), (0, .ref (ad 27)), (1, .int (nI x))]) d_Mo_home_142 rfl hl (by decide) rfl (fun ls hl => ?_)
              refine r_iinc h (v := (nI k) - 1) (lv' := [(3, .int ((nI k) - 1)), (2, .int (nI (z_bgn (V 33) (V 30) n (nI e)))), (5, .int 1), (4, .int (nI e)), (0, .ref (ad 27)), (1, .int (nI x))]) d_Mo_home_143 hl (k := 3) rfl (z_dec (nI k)) (by decide) rfl (fun ls hl => ?_)
              refine r_goto h 56 d_Mo_home_146 (by decide) ?_
              exact ih (z_bgn (V 33) (V 30) n (nI e)) ls (by omega) (by omega) (by rw [← hz, z_hom_t (Y := fun k => (decide (V 30 (V 33 k).toNatClampNeg = V 30 x) && decide (V 31 (V 33 k).toNatClampNeg = V 31 x)) && z_ahd (V 33) (V 31) (V 32) (V 28) n x (V 33 k).toNatClampNeg) (B := fun k => z_bgn (V 33) (V 30) n (V 33 k)) (by rw [hoc, decide_eq_true c81, decide_eq_true c97, z_B_n.mp c119]; rfl) (by rw [hoe]; exact nI_lzm (by omega) (by omega) c129)]; rw [hoe]) (lv_sub hl [0, 1, 4, 5] rfl)
  have tail : ∀ (ls : Array Slot), lv_has ls 6 [(2, .int (nI (if V 31 x = 0 then z_pl (V 33) n (V 30 x) else if V 30 x < 0 then n else z_end (V 33) (V 30) n (V 30 x)))), (0, .ref (ad 27)), (1, .int (nI x))] → wv X cA cR ad V 49 ls [] := by
    intro ls hl
    refine r_aload_n h d_Mo_home_49 rfl (lv_at hl 1 rfl) ?_
    refine r_get h (k := 27) (j := 0) (by decide) rfl rfl iw_Mo (by decide) lk_Mo_43 rfl rfl d_Mo_home_50 ?_
    refine r_top (nI n) hn ?_
    refine r_iconst h (v := 1) d_Mo_home_53 (by decide) ?_
    refine r_isub h d_Mo_home_54 ?_
    refine r_istore_n h (lv' := [(3, .int ((nI n) - 1)), (2, .int (nI (if V 31 x = 0 then z_pl (V 33) n (V 30 x) else if V 30 x < 0 then n else z_end (V 33) (V 30) n (V 30 x)))), (0, .ref (ad 27)), (1, .int (nI x))]) d_Mo_home_55 rfl hl (by decide) rfl (fun ls hl => ?_)
    exact loop n (if V 31 x = 0 then z_pl (V 33) n (V 30 x) else if V 30 x < 0 then n else z_end (V 33) (V 30) n (V 30 x)) ls (Nat.le_refl n) ha0 rfl hl
  refine r_aload_n h d_Mo_home_0 rfl (lv_at hl 0 rfl) ?_
  refine r_get h (k := 27) (j := 4) (by decide) rfl rfl iw_Mo (by decide) lk_Mo_19 rfl rfl d_Mo_home_1 ?_
  refine r_iload_n h d_Mo_home_4 rfl (lv_at hl 1 rfl) ?_
  refine r_ialdN h (k := 31) (i := x) (by decide) rfl (by omega) (by omega) d_Mo_home_5 ?_
  refine r_if_ne h 22 d_Mo_home_6 (by decide) (fun c6 => ?_) (fun c6 => ?_)
  · skip
    refine r_aload_n h d_Mo_home_22 rfl (lv_at hl 0 rfl) ?_
    refine r_get h (k := 27) (j := 3) (by decide) rfl rfl iw_Mo (by decide) lk_Mo_16 rfl rfl d_Mo_home_23 ?_
    refine r_iload_n h d_Mo_home_26 rfl (lv_at hl 1 rfl) ?_
    refine r_ialdN h (k := 30) (i := x) (by decide) rfl (by omega) (by omega) d_Mo_home_27 ?_
    refine r_if_ge h 38 d_Mo_home_28 (by decide) (fun c28 => ?_) (fun c28 => ?_)
    · skip
      refine r_aload_n h d_Mo_home_38 rfl (lv_at hl 0 rfl) ?_
      refine r_aload_n h d_Mo_home_39 rfl (lv_at hl 0 rfl) ?_
      refine r_get h (k := 27) (j := 3) (by decide) rfl rfl iw_Mo (by decide) lk_Mo_16 rfl rfl d_Mo_home_40 ?_
      refine r_iload_n h d_Mo_home_43 rfl (lv_at hl 1 rfl) ?_
      refine r_ialdN h (k := 30) (i := x) (by decide) rfl (by omega) (by omega) d_Mo_home_44 ?_
      refine r_callVi h (k := 27) (n := 1) (As := [.int (V 30 x)]) (c_Mo_end l D cA cR ad hI V (V 30 x) n hn hle hod hpa) g_Mo_55 (by decide +kernel) rfl ⟨by decide, by decide⟩ (by decide) rfl rfl hl rfl (Nat.le_of_ble_eq_true rfl) d_Mo_home_45 ?_
      refine r_top (nI (if V 31 x = 0 then z_pl (V 33) n (V 30 x) else if V 30 x < 0 then n else z_end (V 33) (V 30) n (V 30 x))) (by rw [if_neg c6, if_neg (Int32.not_lt.mpr c28)]) ?_
      refine r_istore_n h (lv' := [(2, .int (nI (if V 31 x = 0 then z_pl (V 33) n (V 30 x) else if V 30 x < 0 then n else z_end (V 33) (V 30) n (V 30 x)))), (0, .ref (ad 27)), (1, .int (nI x))]) d_Mo_home_48 rfl hl (by decide) rfl (fun ls hl => ?_)
      exact tail ls hl
    · skip
      refine r_aload_n h d_Mo_home_31 rfl (lv_at hl 0 rfl) ?_
      refine r_get h (k := 27) (j := 0) (by decide) rfl rfl iw_Mo (by decide) lk_Mo_43 rfl rfl d_Mo_home_32 ?_
      refine r_top (nI (if V 31 x = 0 then z_pl (V 33) n (V 30 x) else if V 30 x < 0 then n else z_end (V 33) (V 30) n (V 30 x))) (by rw [if_neg c6, if_pos c28]; exact hn) ?_
      refine r_goto h 48 d_Mo_home_35 (by decide) ?_
      refine r_istore_n h (lv' := [(2, .int (nI (if V 31 x = 0 then z_pl (V 33) n (V 30 x) else if V 30 x < 0 then n else z_end (V 33) (V 30) n (V 30 x)))), (0, .ref (ad 27)), (1, .int (nI x))]) d_Mo_home_48 rfl hl (by decide) rfl (fun ls hl => ?_)
      exact tail ls hl
  · skip
    refine r_aload_n h d_Mo_home_9 rfl (lv_at hl 0 rfl) ?_
    refine r_aload_n h d_Mo_home_10 rfl (lv_at hl 0 rfl) ?_
    refine r_get h (k := 27) (j := 3) (by decide) rfl rfl iw_Mo (by decide) lk_Mo_16 rfl rfl d_Mo_home_11 ?_
    refine r_iload_n h d_Mo_home_14 rfl (lv_at hl 1 rfl) ?_
    refine r_ialdN h (k := 30) (i := x) (by decide) rfl (by omega) (by omega) d_Mo_home_15 ?_
    refine r_callVi h (k := 27) (n := 1) (As := [.int (V 30 x)]) (c_Mo_placeOf l D cA cR ad hI V (V 30 x) n hn hle) g_Mo_51 (by decide +kernel) rfl ⟨by decide, by decide⟩ (by decide) rfl rfl hl rfl (Nat.le_of_ble_eq_true rfl) d_Mo_home_16 ?_
    refine r_top (nI (if V 31 x = 0 then z_pl (V 33) n (V 30 x) else if V 30 x < 0 then n else z_end (V 33) (V 30) n (V 30 x))) (by rw [if_pos c6]) ?_
    refine r_goto h 48 d_Mo_home_19 (by decide) ?_
    refine r_istore_n h (lv' := [(2, .int (nI (if V 31 x = 0 then z_pl (V 33) n (V 30 x) else if V 30 x < 0 then n else z_end (V 33) (V 30) n (V 30 x)))), (0, .ref (ad 27)), (1, .int (nI x))]) d_Mo_home_48 rfl hl (by decide) rfl (fun ls hl => ?_)
    exact tail ls hl
set_option maxHeartbeats 4000000 in
set_option maxRecDepth 100000 in
theorem c_Mo_state0 (l : Launch) (D : va_G) (cA cR : ClassId) (ad : Nat → Nat) (hI : wI ad) (V : Nat → Nat → Int32) (e : Nat) (he : e < 30) (r : Nat) (hr : r < 3) : wM l D cA cR ad y_Mo_state0 (Cond.code y_Mo_state0 b_Mo_state0 3 (some .int) :: wAl) 0 0 [.ref (ad 27), .int (nI r), .int (nI e)] V (some (.int (V 34 (30 * r + e)))) V := by
  refine wM_of hI (by decide) (Nat.le_of_ble_eq_true rfl) ?_
  intro X ls h hM hl
  have hl : lv_has ls 3 [(0, .ref (ad 27)), (1, .int (nI r)), (2, .int (nI e))] := hl
  refine r_aload_n h d_Mo_state0_0 rfl (lv_at hl 0 rfl) ?_
  refine r_get h (k := 27) (j := 7) (by decide) rfl rfl iw_Mo (by decide) lk_Mo_28 rfl rfl d_Mo_state0_1 ?_
  refine r_bipush h (v := 30) d_Mo_state0_4 (by decide) ?_
  refine r_iload_n h d_Mo_state0_6 rfl (lv_at hl 1 rfl) ?_
  refine r_imul h d_Mo_state0_7 ?_
  refine r_top (nI (30 * r)) (pk_mul 30 r) ?_
  refine r_iload_n h d_Mo_state0_8 rfl (lv_at hl 2 rfl) ?_
  refine r_iadd h d_Mo_state0_9 ?_
  refine r_top (nI (30 * r + e)) (nI_add _ _) ?_
  refine r_ialdN h (k := 34) (i := (30 * r + e)) (by decide) rfl (by omega) (by omega) d_Mo_state0_10 ?_
  exact r_iret h hM d_Mo_state0_11 rfl rfl
set_option maxHeartbeats 4000000 in
set_option maxRecDepth 100000 in
theorem c_Mo_nth (l : Launch) (D : va_G) (cA cR : ClassId) (ad : Nat → Nat) (hI : wI ad) (V : Nat → Nat → Int32) (i tv : Int32) (t : Bool) (htv : tv = z_B t) (r : Nat) (hr : r < 3) (n : Nat) (hK : mK V n) : wM l D cA cR ad y_Mo_nth (Cond.code y_Mo_nth b_Mo_nth 7 (some .int) :: wAl) 1 22 [.ref (ad 27), .int (nI r), .int i, .int tv] V (some (.int (mNth V n r i t))) V := by
  refine wM_of hI (by decide) (Nat.le_of_ble_eq_true rfl) ?_
  intro X ls h hM hl
  have hl : lv_has ls 7 [(0, .ref (ad 27)), (1, .int (nI r)), (2, .int i), (3, .int tv)] := hl
  obtain ⟨hn, hle, hod, hpa, hro⟩ := hK
  have loop : ∀ (k p : Nat) (y : Int32) (ls : Array Slot), p + k = n → z_nth (fun p => decide (V 34 (30 * r + (V 33 p).toNatClampNeg) = 1) || (decide (V 34 (30 * r + (V 33 p).toNatClampNeg) = 2) && !t)) (V 33) k p y = mNth V n r i t → lv_has ls 7 [(5, .int (nI p)), (4, .int y), (0, .ref (ad 27)), (1, .int (nI r)), (2, .int i), (3, .int tv)] → wv X cA cR ad V 6 ls [] := by
    intro k
    induction k with
    | zero =>
      intro p y ls hp hz hl
      refine r_iload h d_Mo_nth_6 (lv_at hl 0 rfl) ?_
      refine r_aload_n h d_Mo_nth_8 rfl (lv_at hl 2 rfl) ?_
      refine r_get h (k := 27) (j := 0) (by decide) rfl rfl iw_Mo (by decide) lk_Mo_43 rfl rfl d_Mo_nth_9 ?_
      refine r_top (nI n) hn ?_
      refine r_icmp_ge_t h 67 d_Mo_nth_12 (by decide) (nI_sz (by omega) (by omega) (by omega)) ?_
      refine r_bipush h (v := (-3)) d_Mo_nth_67 (by decide) ?_
      exact r_iret h hM d_Mo_nth_69 (rI (by rw [← hz]; rfl)) rfl
    | succ k ih =>
      intro p y ls hp hz hl
      obtain ⟨e, he, hoe⟩ := hod p (by omega)
      have hoc : (V 33 p).toNatClampNeg = e := by rw [hoe]; exact nI_clamp (by omega)
      refine r_iload h d_Mo_nth_6 (lv_at hl 0 rfl) ?_
      refine r_aload_n h d_Mo_nth_8 rfl (lv_at hl 2 rfl) ?_
      refine r_get h (k := 27) (j := 0) (by decide) rfl rfl iw_Mo (by decide) lk_Mo_43 rfl rfl d_Mo_nth_9 ?_
      refine r_top (nI n) hn ?_
      refine r_icmp_ge_f h 67 d_Mo_nth_12 (by decide) (nI_lz (by omega) (by omega) (by omega)) ?_
      refine r_aload_n h d_Mo_nth_15 rfl (lv_at hl 2 rfl) ?_
      refine r_iload_n h d_Mo_nth_16 rfl (lv_at hl 3 rfl) ?_
      refine r_aload_n h d_Mo_nth_17 rfl (lv_at hl 2 rfl) ?_
      refine r_get h (k := 27) (j := 6) (by decide) rfl rfl iw_Mo (by decide) lk_Mo_25 rfl rfl d_Mo_nth_18 ?_
      refine r_iload h d_Mo_nth_21 (lv_at hl 0 rfl) ?_
      refine r_ialdN h (k := 33) (i := p) (by decide) rfl (by omega) (by omega) d_Mo_nth_23 ?_
      refine r_top (nI e) hoe ?_
      refine r_callVi h (k := 27) (n := 2) (As := [.int (nI r), .int (nI e)]) (c_Mo_state0 l D cA cR ad hI V e (by omega) r hr) g_Mo_64 (by decide +kernel) rfl ⟨by decide, by decide⟩ (by decide) rfl rfl hl rfl (Nat.le_of_ble_eq_true rfl) d_Mo_nth_24 ?_
      refine r_istore h (lv' := [(6, .int (V 34 (30 * r + e))), (5, .int (nI p)), (4, .int y), (0, .ref (ad 27)), (1, .int (nI r)), (2, .int i), (3, .int tv)]) d_Mo_nth_27 hl (by decide) rfl (fun ls hl => ?_)
      refine r_iload h d_Mo_nth_29 (lv_at hl 0 rfl) ?_
      refine r_iconst h (v := 1) d_Mo_nth_31 (by decide) ?_
      refine r_icmp_eq h 45 d_Mo_nth_32 (by decide) (fun c32 => ?_) (fun c32 => ?_)
      · skip
        refine r_iload h d_Mo_nth_45 (lv_at hl 2 rfl) ?_
        refine r_if_ne h 58 d_Mo_nth_47 (by decide) (fun c47 => ?_) (fun c47 => ?_)
        · skip
          refine r_iinc h (v := y - 1) (lv' := [(4, .int (y - 1)), (6, .int (V 34 (30 * r + e))), (5, .int (nI p)), (0, .ref (ad 27)), (1, .int (nI r)), (2, .int i), (3, .int tv)]) d_Mo_nth_58 hl (k := 2) rfl (z_dec y) (by decide) rfl (fun ls hl => ?_)
          refine r_iinc h (v := nI (p + 1)) (lv' := [(5, .int (nI (p + 1))), (4, .int (y - 1)), (6, .int (V 34 (30 * r + e))), (0, .ref (ad 27)), (1, .int (nI r)), (2, .int i), (3, .int tv)]) d_Mo_nth_61 hl (k := 2) rfl (z_inc p) (by decide) rfl (fun ls hl => ?_)
          refine r_goto h 6 d_Mo_nth_64 (by decide) ?_
          exact ih (p + 1) (y - 1) ls (by omega) (by rw [← hz, z_nth_t (P := fun p => decide (V 34 (30 * r + (V 33 p).toNatClampNeg) = 1) || (decide (V 34 (30 * r + (V 33 p).toNatClampNeg) = 2) && !t)) (show (decide (V 34 (30 * r + (V 33 p).toNatClampNeg) = 1) || (decide (V 34 (30 * r + (V 33 p).toNatClampNeg) = 2) && !t)) = true by rw [hoc, decide_eq_true c32]; rfl) c47]) (lv_sub hl [0, 1, 3, 4, 5, 6] rfl)
        · skip
          refine r_aload_n h d_Mo_nth_50 rfl (lv_at hl 3 rfl) ?_
          refine r_get h (k := 27) (j := 6) (by decide) rfl rfl iw_Mo (by decide) lk_Mo_25 rfl rfl d_Mo_nth_51 ?_
          refine r_iload h d_Mo_nth_54 (lv_at hl 1 rfl) ?_
          refine r_ialdN h (k := 33) (i := p) (by decide) rfl (by omega) (by omega) d_Mo_nth_56 ?_
          exact r_iret h hM d_Mo_nth_57 (rI (by rw [← hz, z_nth_0 (P := fun p => decide (V 34 (30 * r + (V 33 p).toNatClampNeg) = 1) || (decide (V 34 (30 * r + (V 33 p).toNatClampNeg) = 2) && !t)) (show (decide (V 34 (30 * r + (V 33 p).toNatClampNeg) = 1) || (decide (V 34 (30 * r + (V 33 p).toNatClampNeg) = 2) && !t)) = true by rw [hoc, decide_eq_true c32]; rfl) c47])) rfl
      · skip
        refine r_iload h d_Mo_nth_35 (lv_at hl 0 rfl) ?_
        refine r_iconst h (v := 2) d_Mo_nth_37 (by decide) ?_
        refine r_icmp_ne h 61 d_Mo_nth_38 (by decide) (fun c38 => ?_) (fun c38 => ?_)
        · skip
          refine r_iinc h (v := nI (p + 1)) (lv' := [(5, .int (nI (p + 1))), (6, .int (V 34 (30 * r + e))), (4, .int y), (0, .ref (ad 27)), (1, .int (nI r)), (2, .int i), (3, .int tv)]) d_Mo_nth_61 hl (k := 1) rfl (z_inc p) (by decide) rfl (fun ls hl => ?_)
          refine r_goto h 6 d_Mo_nth_64 (by decide) ?_
          exact ih (p + 1) y ls (by omega) (by rw [← hz, z_nth_f (P := fun p => decide (V 34 (30 * r + (V 33 p).toNatClampNeg) = 1) || (decide (V 34 (30 * r + (V 33 p).toNatClampNeg) = 2) && !t)) (show (decide (V 34 (30 * r + (V 33 p).toNatClampNeg) = 1) || (decide (V 34 (30 * r + (V 33 p).toNatClampNeg) = 2) && !t)) = false by rw [hoc, decide_eq_false c32, decide_eq_false c38]; rfl)]) (lv_sub hl [0, 2, 3, 4, 5, 6] rfl)
        · skip
          refine r_iload_n h d_Mo_nth_41 rfl (lv_at hl 6 rfl) ?_
          refine r_if_ne h 61 d_Mo_nth_42 (by decide) (fun c42 => ?_) (fun c42 => ?_)
          · skip
            refine r_iinc h (v := nI (p + 1)) (lv' := [(5, .int (nI (p + 1))), (6, .int (V 34 (30 * r + e))), (4, .int y), (0, .ref (ad 27)), (1, .int (nI r)), (2, .int i), (3, .int tv)]) d_Mo_nth_61 hl (k := 1) rfl (z_inc p) (by decide) rfl (fun ls hl => ?_)
            refine r_goto h 6 d_Mo_nth_64 (by decide) ?_
            exact ih (p + 1) y ls (by omega) (by rw [← hz, z_nth_f (P := fun p => decide (V 34 (30 * r + (V 33 p).toNatClampNeg) = 1) || (decide (V 34 (30 * r + (V 33 p).toNatClampNeg) = 2) && !t)) (show (decide (V 34 (30 * r + (V 33 p).toNatClampNeg) = 1) || (decide (V 34 (30 * r + (V 33 p).toNatClampNeg) = 2) && !t)) = false by rw [hoc, decide_eq_false c32, z_B_n.mp (fun q => c42 (htv.trans q)), Bool.not_true, Bool.and_false]; rfl)]) (lv_sub hl [0, 2, 3, 4, 5, 6] rfl)
          · skip
            refine r_iload h d_Mo_nth_45 (lv_at hl 2 rfl) ?_
            refine r_if_ne h 58 d_Mo_nth_47 (by decide) (fun c47 => ?_) (fun c47 => ?_)
            · skip
              refine r_iinc h (v := y - 1) (lv' := [(4, .int (y - 1)), (6, .int (V 34 (30 * r + e))), (5, .int (nI p)), (0, .ref (ad 27)), (1, .int (nI r)), (2, .int i), (3, .int tv)]) d_Mo_nth_58 hl (k := 2) rfl (z_dec y) (by decide) rfl (fun ls hl => ?_)
              refine r_iinc h (v := nI (p + 1)) (lv' := [(5, .int (nI (p + 1))), (4, .int (y - 1)), (6, .int (V 34 (30 * r + e))), (0, .ref (ad 27)), (1, .int (nI r)), (2, .int i), (3, .int tv)]) d_Mo_nth_61 hl (k := 2) rfl (z_inc p) (by decide) rfl (fun ls hl => ?_)
              refine r_goto h 6 d_Mo_nth_64 (by decide) ?_
              exact ih (p + 1) (y - 1) ls (by omega) (by rw [← hz, z_nth_t (P := fun p => decide (V 34 (30 * r + (V 33 p).toNatClampNeg) = 1) || (decide (V 34 (30 * r + (V 33 p).toNatClampNeg) = 2) && !t)) (show (decide (V 34 (30 * r + (V 33 p).toNatClampNeg) = 1) || (decide (V 34 (30 * r + (V 33 p).toNatClampNeg) = 2) && !t)) = true by rw [hoc, decide_eq_true c38, z_B_0.mp (htv.symm.trans c42)]; simp) c47]) (lv_sub hl [0, 1, 3, 4, 5, 6] rfl)
            · skip
              refine r_aload_n h d_Mo_nth_50 rfl (lv_at hl 3 rfl) ?_
              refine r_get h (k := 27) (j := 6) (by decide) rfl rfl iw_Mo (by decide) lk_Mo_25 rfl rfl d_Mo_nth_51 ?_
              refine r_iload h d_Mo_nth_54 (lv_at hl 1 rfl) ?_
              refine r_ialdN h (k := 33) (i := p) (by decide) rfl (by omega) (by omega) d_Mo_nth_56 ?_
              exact r_iret h hM d_Mo_nth_57 (rI (by rw [← hz, z_nth_0 (P := fun p => decide (V 34 (30 * r + (V 33 p).toNatClampNeg) = 1) || (decide (V 34 (30 * r + (V 33 p).toNatClampNeg) = 2) && !t)) (show (decide (V 34 (30 * r + (V 33 p).toNatClampNeg) = 1) || (decide (V 34 (30 * r + (V 33 p).toNatClampNeg) = 2) && !t)) = true by rw [hoc, decide_eq_true c38, z_B_0.mp (htv.symm.trans c42)]; simp) c47])) rfl
  refine r_iload_n h d_Mo_nth_0 rfl (lv_at hl 2 rfl) ?_
  refine r_istore h (lv' := [(4, .int i), (0, .ref (ad 27)), (1, .int (nI r)), (2, .int i), (3, .int tv)]) d_Mo_nth_1 hl (by decide) rfl (fun ls hl => ?_)
  refine r_iconst h (v := 0) d_Mo_nth_3 (by decide) ?_
  refine r_istore h (lv' := [(5, .int 0), (4, .int i), (0, .ref (ad 27)), (1, .int (nI r)), (2, .int i), (3, .int tv)]) d_Mo_nth_4 hl (by decide) rfl (fun ls hl => ?_)
  exact loop n 0 i ls (by omega) rfl hl
set_option maxHeartbeats 4000000 in
set_option maxRecDepth 100000 in
theorem c_Mo_many (l : Launch) (D : va_G) (cA cR : ClassId) (ad : Nat → Nat) (hI : wI ad) (V : Nat → Nat → Int32) (a b : Int32) (r : Nat) (hr : r < 3) (n : Nat) (hn : V 27 0 = nI n) (hle : n ≤ 30) : wM l D cA cR ad y_Mo_many (Cond.code y_Mo_many b_Mo_many 6 (some .int) :: wAl) 1 22 [.ref (ad 27), .int (nI r), .int a, .int b] V (some (.int (nI (mCnt V n r a b)))) V := by
  refine wM_of hI (by decide) (Nat.le_of_ble_eq_true rfl) ?_
  intro X ls h hM hl
  have hl : lv_has ls 6 [(0, .ref (ad 27)), (1, .int (nI r)), (2, .int a), (3, .int b)] := hl
  have loop : ∀ (k e c : Nat) (ls : Array Slot), e + k = n → z_cnt (fun e => decide (a ≤ V 34 (30 * r + e)) && decide (V 34 (30 * r + e) ≤ b)) k e c = mCnt V n r a b → lv_has ls 6 [(5, .int (nI e)), (4, .int (nI c)), (0, .ref (ad 27)), (1, .int (nI r)), (2, .int a), (3, .int b)] → wv X cA cR ad V 6 ls [] := by
    intro k
    induction k with
    | zero =>
      intro e c ls hp hz hl
      refine r_iload h d_Mo_many_6 (lv_at hl 0 rfl) ?_
      refine r_aload_n h d_Mo_many_8 rfl (lv_at hl 2 rfl) ?_
      refine r_get h (k := 27) (j := 0) (by decide) rfl rfl iw_Mo (by decide) lk_Mo_43 rfl rfl d_Mo_many_9 ?_
      refine r_top (nI n) hn ?_
      refine r_icmp_ge_t h 54 d_Mo_many_12 (by decide) (nI_sz (by omega) (by omega) (by omega)) ?_
      refine r_iload h d_Mo_many_54 (lv_at hl 1 rfl) ?_
      exact r_iret h hM d_Mo_many_56 (rI (by rw [← hz]; rfl)) rfl
    | succ k ih =>
      intro e c ls hp hz hl
      refine r_iload h d_Mo_many_6 (lv_at hl 0 rfl) ?_
      refine r_aload_n h d_Mo_many_8 rfl (lv_at hl 2 rfl) ?_
      refine r_get h (k := 27) (j := 0) (by decide) rfl rfl iw_Mo (by decide) lk_Mo_43 rfl rfl d_Mo_many_9 ?_
      refine r_top (nI n) hn ?_
      refine r_icmp_ge_f h 54 d_Mo_many_12 (by decide) (nI_lz (by omega) (by omega) (by omega)) ?_
      refine r_aload_n h d_Mo_many_15 rfl (lv_at hl 2 rfl) ?_
      refine r_iload_n h d_Mo_many_16 rfl (lv_at hl 3 rfl) ?_
      refine r_iload h d_Mo_many_17 (lv_at hl 0 rfl) ?_
      refine r_callVi h (k := 27) (n := 2) (As := [.int (nI r), .int (nI e)]) (c_Mo_state0 l D cA cR ad hI V e (by omega) r hr) g_Mo_64 (by decide +kernel) rfl ⟨by decide, by decide⟩ (by decide) rfl rfl hl rfl (Nat.le_of_ble_eq_true rfl) d_Mo_many_19 ?_
      refine r_iload_n h d_Mo_many_22 rfl (lv_at hl 4 rfl) ?_
      refine r_icmp_lt h 44 d_Mo_many_23 (by decide) (fun c23 => ?_) (fun c23 => ?_)
      · skip
        refine r_iload h d_Mo_many_44 (lv_at hl 1 rfl) ?_
        refine r_istore h (lv' := [(4, .int (nI c)), (5, .int (nI e)), (0, .ref (ad 27)), (1, .int (nI r)), (2, .int a), (3, .int b)]) d_Mo_many_46 hl (by decide) rfl (fun ls hl => ?_)
        refine r_iinc h (v := nI (e + 1)) (lv' := [(5, .int (nI (e + 1))), (4, .int (nI c)), (0, .ref (ad 27)), (1, .int (nI r)), (2, .int a), (3, .int b)]) d_Mo_many_48 hl (k := 1) rfl (z_inc e) (by decide) rfl (fun ls hl => ?_)
        refine r_goto h 6 d_Mo_many_51 (by decide) ?_
        exact ih (e + 1) c ls (by omega) (by rw [← hz, z_cnt_f (P := fun e => decide (a ≤ V 34 (30 * r + e)) && decide (V 34 (30 * r + e) ≤ b)) (show (decide (a ≤ V 34 (30 * r + e)) && decide (V 34 (30 * r + e) ≤ b)) = false by rw [decide_eq_false (Int32.not_le.mpr c23)]; rfl)]) hl
      · skip
        refine r_aload_n h d_Mo_many_26 rfl (lv_at hl 2 rfl) ?_
        refine r_iload_n h d_Mo_many_27 rfl (lv_at hl 3 rfl) ?_
        refine r_iload h d_Mo_many_28 (lv_at hl 0 rfl) ?_
        refine r_callVi h (k := 27) (n := 2) (As := [.int (nI r), .int (nI e)]) (c_Mo_state0 l D cA cR ad hI V e (by omega) r hr) g_Mo_64 (by decide +kernel) rfl ⟨by decide, by decide⟩ (by decide) rfl rfl hl rfl (Nat.le_of_ble_eq_true rfl) d_Mo_many_30 ?_
        refine r_iload_n h d_Mo_many_33 rfl (lv_at hl 5 rfl) ?_
        refine r_icmp_gt h 44 d_Mo_many_34 (by decide) (fun c34 => ?_) (fun c34 => ?_)
        · skip
          refine r_iload h d_Mo_many_44 (lv_at hl 1 rfl) ?_
          refine r_istore h (lv' := [(4, .int (nI c)), (5, .int (nI e)), (0, .ref (ad 27)), (1, .int (nI r)), (2, .int a), (3, .int b)]) d_Mo_many_46 hl (by decide) rfl (fun ls hl => ?_)
          refine r_iinc h (v := nI (e + 1)) (lv' := [(5, .int (nI (e + 1))), (4, .int (nI c)), (0, .ref (ad 27)), (1, .int (nI r)), (2, .int a), (3, .int b)]) d_Mo_many_48 hl (k := 1) rfl (z_inc e) (by decide) rfl (fun ls hl => ?_)
          refine r_goto h 6 d_Mo_many_51 (by decide) ?_
          exact ih (e + 1) c ls (by omega) (by rw [← hz, z_cnt_f (P := fun e => decide (a ≤ V 34 (30 * r + e)) && decide (V 34 (30 * r + e) ≤ b)) (show (decide (a ≤ V 34 (30 * r + e)) && decide (V 34 (30 * r + e) ≤ b)) = false by rw [decide_eq_false (Int32.not_le.mpr c34), Bool.and_false])]) hl
        · skip
          refine r_iload h d_Mo_many_37 (lv_at hl 1 rfl) ?_
          refine r_iconst h (v := 1) d_Mo_many_39 (by decide) ?_
          refine r_iadd h d_Mo_many_40 ?_
          refine r_top (nI (c + 1)) (nI_1 c) ?_
          refine r_goto h 46 d_Mo_many_41 (by decide) ?_
          refine r_istore h (lv' := [(4, .int (nI (c + 1))), (5, .int (nI e)), (0, .ref (ad 27)), (1, .int (nI r)), (2, .int a), (3, .int b)]) d_Mo_many_46 hl (by decide) rfl (fun ls hl => ?_)
          refine r_iinc h (v := nI (e + 1)) (lv' := [(5, .int (nI (e + 1))), (4, .int (nI (c + 1))), (0, .ref (ad 27)), (1, .int (nI r)), (2, .int a), (3, .int b)]) d_Mo_many_48 hl (k := 1) rfl (z_inc e) (by decide) rfl (fun ls hl => ?_)
          refine r_goto h 6 d_Mo_many_51 (by decide) ?_
          exact ih (e + 1) (c + 1) ls (by omega) (by rw [← hz, z_cnt_t (P := fun e => decide (a ≤ V 34 (30 * r + e)) && decide (V 34 (30 * r + e) ≤ b)) (show (decide (a ≤ V 34 (30 * r + e)) && decide (V 34 (30 * r + e) ≤ b)) = true by rw [decide_eq_true c23, decide_eq_true c34]; rfl)]) hl
  refine r_iconst h (v := 0) d_Mo_many_0 (by decide) ?_
  refine r_istore h (lv' := [(4, .int 0), (0, .ref (ad 27)), (1, .int (nI r)), (2, .int a), (3, .int b)]) d_Mo_many_1 hl (by decide) rfl (fun ls hl => ?_)
  refine r_iconst h (v := 0) d_Mo_many_3 (by decide) ?_
  refine r_istore h (lv' := [(5, .int 0), (4, .int 0), (0, .ref (ad 27)), (1, .int (nI r)), (2, .int a), (3, .int b)]) d_Mo_many_4 hl (by decide) rfl (fun ls hl => ?_)
  exact loop n 0 0 ls (by omega) rfl hl
set_option maxHeartbeats 4000000 in
set_option maxRecDepth 100000 in
theorem c_Mo_next (l : Launch) (D : va_G) (cA cR : ClassId) (ad : Nat → Nat) (hI : wI ad) (V : Nat → Nat → Int32) (a : Int32) (r : Nat) (hr : r < 3) (n : Nat) (hK : mK V n) (ha : z_el a n) (hbe : z_beh (V 33) n a ≤ n) : wM l D cA cR ad y_Mo_next (Cond.code y_Mo_next b_Mo_next 4 (some .int) :: wAl) 1 22 [.ref (ad 27), .int (nI r), .int a] V (some (.int (mNxt V n r a))) V := by
  refine wM_of hI (by decide) (Nat.le_of_ble_eq_true rfl) ?_
  intro X ls h hM hl
  have hl : lv_has ls 4 [(0, .ref (ad 27)), (1, .int (nI r)), (2, .int a)] := hl
  obtain ⟨hn, hle, hod, hpa, hro⟩ := hK
  have loop : ∀ (k p : Nat) (ls : Array Slot), p + k = n → z_fnd (fun p => decide (0 < V 34 (30 * r + (V 33 p).toNatClampNeg))) k p = z_fnd (fun p => decide (0 < V 34 (30 * r + (V 33 p).toNatClampNeg))) (n - z_beh (V 33) n a) (z_beh (V 33) n a) → lv_has ls 4 [(3, .int (nI p)), (0, .ref (ad 27)), (1, .int (nI r)), (2, .int a)] → wv X cA cR ad V 16 ls [] := by
    intro k
    induction k with
    | zero =>
      intro p ls hp hz hl
      refine r_iload_n h d_Mo_next_16 rfl (lv_at hl 0 rfl) ?_
      refine r_aload_n h d_Mo_next_17 rfl (lv_at hl 1 rfl) ?_
      refine r_get h (k := 27) (j := 0) (by decide) rfl rfl iw_Mo (by decide) lk_Mo_43 rfl rfl d_Mo_next_18 ?_
      refine r_top (nI n) hn ?_
      refine r_icmp_ge_t h 51 d_Mo_next_21 (by decide) (nI_sz (by omega) (by omega) (by omega)) ?_
      refine r_iconst h (v := (-1)) d_Mo_next_51 (by decide) ?_
      exact r_iret h hM d_Mo_next_52 (rI (by unfold mNxt; rw [← hz]; show (-1 : Int32) = if p = n then -1 else V 33 p; rw [if_pos (by omega)])) rfl
    | succ k ih =>
      intro p ls hp hz hl
      obtain ⟨e, he, hoe⟩ := hod p (by omega)
      have hoc : (V 33 p).toNatClampNeg = e := by rw [hoe]; exact nI_clamp (by omega)
      refine r_iload_n h d_Mo_next_16 rfl (lv_at hl 0 rfl) ?_
      refine r_aload_n h d_Mo_next_17 rfl (lv_at hl 1 rfl) ?_
      refine r_get h (k := 27) (j := 0) (by decide) rfl rfl iw_Mo (by decide) lk_Mo_43 rfl rfl d_Mo_next_18 ?_
      refine r_top (nI n) hn ?_
      refine r_icmp_ge_f h 51 d_Mo_next_21 (by decide) (nI_lz (by omega) (by omega) (by omega)) ?_
      refine r_aload_n h d_Mo_next_24 rfl (lv_at hl 1 rfl) ?_
      refine r_iload_n h d_Mo_next_25 rfl (lv_at hl 2 rfl) ?_
      refine r_aload_n h d_Mo_next_26 rfl (lv_at hl 1 rfl) ?_
      refine r_get h (k := 27) (j := 6) (by decide) rfl rfl iw_Mo (by decide) lk_Mo_25 rfl rfl d_Mo_next_27 ?_
      refine r_iload_n h d_Mo_next_30 rfl (lv_at hl 0 rfl) ?_
      refine r_ialdN h (k := 33) (i := p) (by decide) rfl (by omega) (by omega) d_Mo_next_31 ?_
      refine r_top (nI e) hoe ?_
      refine r_callVi h (k := 27) (n := 2) (As := [.int (nI r), .int (nI e)]) (c_Mo_state0 l D cA cR ad hI V e (by omega) r hr) g_Mo_64 (by decide +kernel) rfl ⟨by decide, by decide⟩ (by decide) rfl rfl hl rfl (Nat.le_of_ble_eq_true rfl) d_Mo_next_32 ?_
      refine r_if_le h 45 d_Mo_next_35 (by decide) (fun c35 => ?_) (fun c35 => ?_)
      · skip
        refine r_iinc h (v := nI (p + 1)) (lv' := [(3, .int (nI (p + 1))), (0, .ref (ad 27)), (1, .int (nI r)), (2, .int a)]) d_Mo_next_45 hl (k := 0) rfl (z_inc p) (by decide) rfl (fun ls hl => ?_)
        refine r_goto h 16 d_Mo_next_48 (by decide) ?_
        exact ih (p + 1) ls (by omega) (by rw [← hz, z_fnd_f (P := fun p => decide (0 < V 34 (30 * r + (V 33 p).toNatClampNeg))) (decide_eq_false (by rw [hoc]; exact Int32.not_lt.mpr c35))]) hl
      · skip
        refine r_aload_n h d_Mo_next_38 rfl (lv_at hl 1 rfl) ?_
        refine r_get h (k := 27) (j := 6) (by decide) rfl rfl iw_Mo (by decide) lk_Mo_25 rfl rfl d_Mo_next_39 ?_
        refine r_iload_n h d_Mo_next_42 rfl (lv_at hl 0 rfl) ?_
        refine r_ialdN h (k := 33) (i := p) (by decide) rfl (by omega) (by omega) d_Mo_next_43 ?_
        exact r_iret h hM d_Mo_next_44 (rI (by unfold mNxt; rw [← hz, z_fnd_t (P := fun p => decide (0 < V 34 (30 * r + (V 33 p).toNatClampNeg))) (decide_eq_true (by rw [hoc]; exact c35)), if_neg (by omega)])) rfl
  have tail : ∀ (ls : Array Slot), lv_has ls 4 [(3, .int (nI (z_beh (V 33) n a))), (0, .ref (ad 27)), (1, .int (nI r)), (2, .int a)] → wv X cA cR ad V 16 ls [] := fun ls hl => loop (n - z_beh (V 33) n a) (z_beh (V 33) n a) ls (by omega) rfl hl
  refine r_iload_n h d_Mo_next_0 rfl (lv_at hl 2 rfl) ?_
  refine r_if_ge h 8 d_Mo_next_1 (by decide) (fun c1 => ?_) (fun c1 => ?_)
  · skip
    refine r_aload_n h d_Mo_next_8 rfl (lv_at hl 0 rfl) ?_
    refine r_iload_n h d_Mo_next_9 rfl (lv_at hl 2 rfl) ?_
    refine r_callVi h (k := 27) (n := 1) (As := [.int a]) (c_Mo_placeOf l D cA cR ad hI V a n hn hle) g_Mo_51 (by decide +kernel) rfl ⟨by decide, by decide⟩ (by decide) rfl rfl hl rfl (Nat.le_of_ble_eq_true rfl) d_Mo_next_10 ?_
    refine r_iconst h (v := 1) d_Mo_next_13 (by decide) ?_
    refine r_iadd h d_Mo_next_14 ?_
    refine r_top (nI (z_beh (V 33) n a)) (by unfold z_beh; rw [if_neg (z_el_nn ha c1)]; exact nI_1 _) ?_
    refine r_istore_n h (lv' := [(3, .int (nI (z_beh (V 33) n a))), (0, .ref (ad 27)), (1, .int (nI r)), (2, .int a)]) d_Mo_next_15 rfl hl (by decide) rfl (fun ls hl => ?_)
    exact tail ls hl
  · skip
    refine r_iconst h (v := 0) d_Mo_next_4 (by decide) ?_
    refine r_top (nI (z_beh (V 33) n a)) (by unfold z_beh; rw [if_pos (z_el_m1 ha c1 (by omega))]; rfl) ?_
    refine r_goto h 15 d_Mo_next_5 (by decide) ?_
    refine r_istore_n h (lv' := [(3, .int (nI (z_beh (V 33) n a))), (0, .ref (ad 27)), (1, .int (nI r)), (2, .int a)]) d_Mo_next_15 rfl hl (by decide) rfl (fun ls hl => ?_)
    exact tail ls hl
set_option maxHeartbeats 4000000 in
set_option maxRecDepth 100000 in
theorem c_Mo_hasRight (l : Launch) (D : va_G) (cA cR : ClassId) (ad : Nat → Nat) (hI : wI ad) (V : Nat → Nat → Int32) (a : Int32) (r : Nat) (hr : r < 3) (n : Nat) (hn : V 27 0 = nI n) (hle : n ≤ 30) : wM l D cA cR ad y_Mo_hasRight (Cond.code y_Mo_hasRight b_Mo_hasRight 5 (some .boolean) :: wAl) 1 22 [.ref (ad 27), .int (nI r), .int a] V (some (.int (z_B (mHas V n r a)))) V := by
  refine wM_of hI (by decide) (Nat.le_of_ble_eq_true rfl) ?_
  intro X ls h hM hl
  have hl : lv_has ls 5 [(0, .ref (ad 27)), (1, .int (nI r)), (2, .int a)] := hl
  have loop : ∀ (k e : Nat) (b : Bool) (ls : Array Slot), e + k = n → (b || z_any (fun e => (decide (0 < V 34 (30 * r + e)) && decide (V 30 e = a)) && decide (V 31 e = 1)) k e) = mHas V n r a → lv_has ls 5 [(4, .int (nI e)), (3, .int (z_B b)), (0, .ref (ad 27)), (1, .int (nI r)), (2, .int a)] → wv X cA cR ad V 5 ls [] := by
    intro k
    induction k with
    | zero =>
      intro e b ls hp hz hl
      refine r_iload h d_Mo_hasRight_5 (lv_at hl 0 rfl) ?_
      refine r_aload_n h d_Mo_hasRight_7 rfl (lv_at hl 2 rfl) ?_
      refine r_get h (k := 27) (j := 0) (by decide) rfl rfl iw_Mo (by decide) lk_Mo_43 rfl rfl d_Mo_hasRight_8 ?_
      refine r_top (nI n) hn ?_
      refine r_icmp_ge_t h 62 d_Mo_hasRight_11 (by decide) (nI_sz (by omega) (by omega) (by omega)) ?_
      refine r_iload_n h d_Mo_hasRight_62 rfl (lv_at hl 1 rfl) ?_
      exact r_zret h hM (z_B_na _) d_Mo_hasRight_63 (rI (by rw [← hz]; show z_B b = z_B (b || false); rw [Bool.or_false])) rfl
    | succ k ih =>
      intro e b ls hp hz hl
      refine r_iload h d_Mo_hasRight_5 (lv_at hl 0 rfl) ?_
      refine r_aload_n h d_Mo_hasRight_7 rfl (lv_at hl 2 rfl) ?_
      refine r_get h (k := 27) (j := 0) (by decide) rfl rfl iw_Mo (by decide) lk_Mo_43 rfl rfl d_Mo_hasRight_8 ?_
      refine r_top (nI n) hn ?_
      refine r_icmp_ge_f h 62 d_Mo_hasRight_11 (by decide) (nI_lz (by omega) (by omega) (by omega)) ?_
      refine r_iload_n h d_Mo_hasRight_14 rfl (lv_at hl 1 rfl) ?_
      refine r_if_ne h 50 d_Mo_hasRight_15 (by decide) (fun c15 => ?_) (fun c15 => ?_)
      · skip
        refine r_iconst h (v := 1) d_Mo_hasRight_50 (by decide) ?_
        refine r_goto h 55 d_Mo_hasRight_51 (by decide) ?_
        refine r_istore_n h (lv' := [(3, .int 1), (4, .int (nI e)), (0, .ref (ad 27)), (1, .int (nI r)), (2, .int a)]) d_Mo_hasRight_55 rfl hl (by decide) rfl (fun ls hl => ?_)
        refine r_iinc h (v := nI (e + 1)) (lv' := [(4, .int (nI (e + 1))), (3, .int 1), (0, .ref (ad 27)), (1, .int (nI r)), (2, .int a)]) d_Mo_hasRight_56 hl (k := 1) rfl (z_inc e) (by decide) rfl (fun ls hl => ?_)
        refine r_goto h 5 d_Mo_hasRight_59 (by decide) ?_
        exact ih (e + 1) true ls (by omega) (by rw [← hz, z_B_n.mp c15]; rfl) hl
      · skip
        refine r_aload_n h d_Mo_hasRight_18 rfl (lv_at hl 2 rfl) ?_
        refine r_iload_n h d_Mo_hasRight_19 rfl (lv_at hl 3 rfl) ?_
        refine r_iload h d_Mo_hasRight_20 (lv_at hl 0 rfl) ?_
        refine r_callVi h (k := 27) (n := 2) (As := [.int (nI r), .int (nI e)]) (c_Mo_state0 l D cA cR ad hI V e (by omega) r hr) g_Mo_64 (by decide +kernel) rfl ⟨by decide, by decide⟩ (by decide) rfl rfl hl rfl (Nat.le_of_ble_eq_true rfl) d_Mo_hasRight_22 ?_
        refine r_if_le h 54 d_Mo_hasRight_25 (by decide) (fun c25 => ?_) (fun c25 => ?_)
        · skip
          refine r_iconst h (v := 0) d_Mo_hasRight_54 (by decide) ?_
          refine r_istore_n h (lv' := [(3, .int 0), (4, .int (nI e)), (0, .ref (ad 27)), (1, .int (nI r)), (2, .int a)]) d_Mo_hasRight_55 rfl hl (by decide) rfl (fun ls hl => ?_)
          refine r_iinc h (v := nI (e + 1)) (lv' := [(4, .int (nI (e + 1))), (3, .int 0), (0, .ref (ad 27)), (1, .int (nI r)), (2, .int a)]) d_Mo_hasRight_56 hl (k := 1) rfl (z_inc e) (by decide) rfl (fun ls hl => ?_)
          refine r_goto h 5 d_Mo_hasRight_59 (by decide) ?_
          exact ih (e + 1) false ls (by omega) (by rw [← hz, z_any_f (P := fun e => (decide (0 < V 34 (30 * r + e)) && decide (V 30 e = a)) && decide (V 31 e = 1)) (show ((decide (0 < V 34 (30 * r + e)) && decide (V 30 e = a)) && decide (V 31 e = 1)) = false by rw [decide_eq_false (Int32.not_lt.mpr c25)]; rfl), z_B_0.mp c15]) hl
        · skip
          refine r_aload_n h d_Mo_hasRight_28 rfl (lv_at hl 2 rfl) ?_
          refine r_get h (k := 27) (j := 3) (by decide) rfl rfl iw_Mo (by decide) lk_Mo_16 rfl rfl d_Mo_hasRight_29 ?_
          refine r_iload h d_Mo_hasRight_32 (lv_at hl 0 rfl) ?_
          refine r_ialdN h (k := 30) (i := e) (by decide) rfl (by omega) (by omega) d_Mo_hasRight_34 ?_
          refine r_iload_n h d_Mo_hasRight_35 rfl (lv_at hl 4 rfl) ?_
          refine r_icmp_ne h 54 d_Mo_hasRight_36 (by decide) (fun c36 => ?_) (fun c36 => ?_)
          · skip
            refine r_iconst h (v := 0) d_Mo_hasRight_54 (by decide) ?_
            refine r_istore_n h (lv' := [(3, .int 0), (4, .int (nI e)), (0, .ref (ad 27)), (1, .int (nI r)), (2, .int a)]) d_Mo_hasRight_55 rfl hl (by decide) rfl (fun ls hl => ?_)
            refine r_iinc h (v := nI (e + 1)) (lv' := [(4, .int (nI (e + 1))), (3, .int 0), (0, .ref (ad 27)), (1, .int (nI r)), (2, .int a)]) d_Mo_hasRight_56 hl (k := 1) rfl (z_inc e) (by decide) rfl (fun ls hl => ?_)
            refine r_goto h 5 d_Mo_hasRight_59 (by decide) ?_
            exact ih (e + 1) false ls (by omega) (by rw [← hz, z_any_f (P := fun e => (decide (0 < V 34 (30 * r + e)) && decide (V 30 e = a)) && decide (V 31 e = 1)) (show ((decide (0 < V 34 (30 * r + e)) && decide (V 30 e = a)) && decide (V 31 e = 1)) = false by rw [decide_eq_false c36, Bool.and_false]; rfl), z_B_0.mp c15]) hl
          · skip
            refine r_aload_n h d_Mo_hasRight_39 rfl (lv_at hl 2 rfl) ?_
            refine r_get h (k := 27) (j := 4) (by decide) rfl rfl iw_Mo (by decide) lk_Mo_19 rfl rfl d_Mo_hasRight_40 ?_
            refine r_iload h d_Mo_hasRight_43 (lv_at hl 0 rfl) ?_
            refine r_ialdN h (k := 31) (i := e) (by decide) rfl (by omega) (by omega) d_Mo_hasRight_45 ?_
            refine r_iconst h (v := 1) d_Mo_hasRight_46 (by decide) ?_
            refine r_icmp_ne h 54 d_Mo_hasRight_47 (by decide) (fun c47 => ?_) (fun c47 => ?_)
            · skip
              refine r_iconst h (v := 0) d_Mo_hasRight_54 (by decide) ?_
              refine r_istore_n h (lv' := [(3, .int 0), (4, .int (nI e)), (0, .ref (ad 27)), (1, .int (nI r)), (2, .int a)]) d_Mo_hasRight_55 rfl hl (by decide) rfl (fun ls hl => ?_)
              refine r_iinc h (v := nI (e + 1)) (lv' := [(4, .int (nI (e + 1))), (3, .int 0), (0, .ref (ad 27)), (1, .int (nI r)), (2, .int a)]) d_Mo_hasRight_56 hl (k := 1) rfl (z_inc e) (by decide) rfl (fun ls hl => ?_)
              refine r_goto h 5 d_Mo_hasRight_59 (by decide) ?_
              exact ih (e + 1) false ls (by omega) (by rw [← hz, z_any_f (P := fun e => (decide (0 < V 34 (30 * r + e)) && decide (V 30 e = a)) && decide (V 31 e = 1)) (show ((decide (0 < V 34 (30 * r + e)) && decide (V 30 e = a)) && decide (V 31 e = 1)) = false by rw [decide_eq_false c47, Bool.and_false]), z_B_0.mp c15]) hl
            · skip
              refine r_iconst h (v := 1) d_Mo_hasRight_50 (by decide) ?_
              refine r_goto h 55 d_Mo_hasRight_51 (by decide) ?_
              refine r_istore_n h (lv' := [(3, .int 1), (4, .int (nI e)), (0, .ref (ad 27)), (1, .int (nI r)), (2, .int a)]) d_Mo_hasRight_55 rfl hl (by decide) rfl (fun ls hl => ?_)
              refine r_iinc h (v := nI (e + 1)) (lv' := [(4, .int (nI (e + 1))), (3, .int 1), (0, .ref (ad 27)), (1, .int (nI r)), (2, .int a)]) d_Mo_hasRight_56 hl (k := 1) rfl (z_inc e) (by decide) rfl (fun ls hl => ?_)
              refine r_goto h 5 d_Mo_hasRight_59 (by decide) ?_
              exact ih (e + 1) true ls (by omega) (by rw [← hz, z_any_t (P := fun e => (decide (0 < V 34 (30 * r + e)) && decide (V 30 e = a)) && decide (V 31 e = 1)) (show ((decide (0 < V 34 (30 * r + e)) && decide (V 30 e = a)) && decide (V 31 e = 1)) = true by rw [decide_eq_true c25, decide_eq_true c36, decide_eq_true c47]; rfl), Bool.or_true]; rfl) hl
  refine r_iconst h (v := 0) d_Mo_hasRight_0 (by decide) ?_
  refine r_istore_n h (lv' := [(3, .int 0), (0, .ref (ad 27)), (1, .int (nI r)), (2, .int a)]) d_Mo_hasRight_1 rfl hl (by decide) rfl (fun ls hl => ?_)
  refine r_iconst h (v := 0) d_Mo_hasRight_2 (by decide) ?_
  refine r_istore h (lv' := [(4, .int 0), (3, .int 0), (0, .ref (ad 27)), (1, .int (nI r)), (2, .int a)]) d_Mo_hasRight_3 hl (by decide) rfl (fun ls hl => ?_)
  exact loop n 0 false ls (by omega) (Bool.false_or _) hl
set_option maxHeartbeats 4000000 in
set_option maxRecDepth 100000 in
theorem c_Mo_noRoom (l : Launch) (D : va_G) (cA cR : ClassId) (ad : Nat → Nat) (hI : wI ad) (V : Nat → Nat → Int32) (x : Int32) : wM l D cA cR ad y_Mo_noRoom (Cond.code y_Mo_noRoom b_Mo_noRoom 4 (some .boolean) :: wAl) 0 0 [.ref (ad 27), .int x] V (some (.int (z_B (mFull V x)))) V := by
  refine wM_of hI (by decide) (Nat.le_of_ble_eq_true rfl) ?_
  intro X ls h hM hl
  have hl : lv_has ls 4 [(0, .ref (ad 27)), (1, .int x)] := hl
  have loop : ∀ (k q : Nat) (b : Bool) (ls : Array Slot), q + k = 3 → (b || z_any (fun q => !decide (nI q = x) && decide (V 36 q = 50)) k q) = mFull V x → lv_has ls 4 [(3, .int (nI q)), (2, .int (z_B b)), (0, .ref (ad 27)), (1, .int x)] → wv X cA cR ad V 4 ls [] := by
    intro k
    induction k with
    | zero =>
      intro q b ls hp hz hl
      refine r_iload_n h d_Mo_noRoom_4 rfl (lv_at hl 0 rfl) ?_
      refine r_iconst h (v := 3) d_Mo_noRoom_5 (by decide) ?_
      refine r_icmp_ge_t h 41 d_Mo_noRoom_6 (by decide) (nI_sz (b := 3) (by omega) (by omega) (by omega)) ?_
      refine r_iload_n h d_Mo_noRoom_41 rfl (lv_at hl 1 rfl) ?_
      exact r_zret h hM (z_B_na _) d_Mo_noRoom_42 (rI (by rw [← hz]; show z_B b = z_B (b || false); rw [Bool.or_false])) rfl
    | succ k ih =>
      intro q b ls hp hz hl
      refine r_iload_n h d_Mo_noRoom_4 rfl (lv_at hl 0 rfl) ?_
      refine r_iconst h (v := 3) d_Mo_noRoom_5 (by decide) ?_
      refine r_icmp_ge_f h 41 d_Mo_noRoom_6 (by decide) (nI_lz (b := 3) (by omega) (by omega) (by omega)) ?_
      refine r_iload_n h d_Mo_noRoom_9 rfl (lv_at hl 1 rfl) ?_
      refine r_if_ne h 29 d_Mo_noRoom_10 (by decide) (fun c10 => ?_) (fun c10 => ?_)
      · skip
        refine r_iconst h (v := 1) d_Mo_noRoom_29 (by decide) ?_
        refine r_goto h 34 d_Mo_noRoom_30 (by decide) ?_
        refine r_istore_n h (lv' := [(2, .int 1), (3, .int (nI q)), (0, .ref (ad 27)), (1, .int x)]) d_Mo_noRoom_34 rfl hl (by decide) rfl (fun ls hl => ?_)
        refine r_iinc h (v := nI (q + 1)) (lv' := [(3, .int (nI (q + 1))), (2, .int 1), (0, .ref (ad 27)), (1, .int x)]) d_Mo_noRoom_35 hl (k := 1) rfl (z_inc q) (by decide) rfl (fun ls hl => ?_)
        refine r_goto h 4 d_Mo_noRoom_38 (by decide) ?_
        exact ih (q + 1) true ls (by omega) (by rw [← hz, z_B_n.mp c10]; rfl) hl
      · skip
        refine r_iload_n h d_Mo_noRoom_13 rfl (lv_at hl 0 rfl) ?_
        refine r_iload_n h d_Mo_noRoom_14 rfl (lv_at hl 3 rfl) ?_
        refine r_icmp_eq h 33 d_Mo_noRoom_15 (by decide) (fun c15 => ?_) (fun c15 => ?_)
        · skip
          refine r_iconst h (v := 0) d_Mo_noRoom_33 (by decide) ?_
          refine r_istore_n h (lv' := [(2, .int 0), (3, .int (nI q)), (0, .ref (ad 27)), (1, .int x)]) d_Mo_noRoom_34 rfl hl (by decide) rfl (fun ls hl => ?_)
          refine r_iinc h (v := nI (q + 1)) (lv' := [(3, .int (nI (q + 1))), (2, .int 0), (0, .ref (ad 27)), (1, .int x)]) d_Mo_noRoom_35 hl (k := 1) rfl (z_inc q) (by decide) rfl (fun ls hl => ?_)
          refine r_goto h 4 d_Mo_noRoom_38 (by decide) ?_
          exact ih (q + 1) false ls (by omega) (by rw [← hz, z_any_f (P := fun q => !decide (nI q = x) && decide (V 36 q = 50)) (show (!decide (nI q = x) && decide (V 36 q = 50)) = false by rw [decide_eq_true c15]; rfl), z_B_0.mp c10]) hl
        · skip
          refine r_aload_n h d_Mo_noRoom_18 rfl (lv_at hl 2 rfl) ?_
          refine r_get h (k := 27) (j := 9) (by decide) rfl rfl iw_Mo (by decide) lk_Mo_34 rfl rfl d_Mo_noRoom_19 ?_
          refine r_iload_n h d_Mo_noRoom_22 rfl (lv_at hl 0 rfl) ?_
          refine r_ialdN h (k := 36) (i := q) (by decide) rfl (by omega) (by omega) d_Mo_noRoom_23 ?_
          refine r_bipush h (v := 50) d_Mo_noRoom_24 (by decide) ?_
          refine r_icmp_ne h 33 d_Mo_noRoom_26 (by decide) (fun c26 => ?_) (fun c26 => ?_)
          · skip
            refine r_iconst h (v := 0) d_Mo_noRoom_33 (by decide) ?_
            refine r_istore_n h (lv' := [(2, .int 0), (3, .int (nI q)), (0, .ref (ad 27)), (1, .int x)]) d_Mo_noRoom_34 rfl hl (by decide) rfl (fun ls hl => ?_)
            refine r_iinc h (v := nI (q + 1)) (lv' := [(3, .int (nI (q + 1))), (2, .int 0), (0, .ref (ad 27)), (1, .int x)]) d_Mo_noRoom_35 hl (k := 1) rfl (z_inc q) (by decide) rfl (fun ls hl => ?_)
            refine r_goto h 4 d_Mo_noRoom_38 (by decide) ?_
            exact ih (q + 1) false ls (by omega) (by rw [← hz, z_any_f (P := fun q => !decide (nI q = x) && decide (V 36 q = 50)) (show (!decide (nI q = x) && decide (V 36 q = 50)) = false by rw [decide_eq_false c26, Bool.and_false]), z_B_0.mp c10]) hl
          · skip
            refine r_iconst h (v := 1) d_Mo_noRoom_29 (by decide) ?_
            refine r_goto h 34 d_Mo_noRoom_30 (by decide) ?_
            refine r_istore_n h (lv' := [(2, .int 1), (3, .int (nI q)), (0, .ref (ad 27)), (1, .int x)]) d_Mo_noRoom_34 rfl hl (by decide) rfl (fun ls hl => ?_)
            refine r_iinc h (v := nI (q + 1)) (lv' := [(3, .int (nI (q + 1))), (2, .int 1), (0, .ref (ad 27)), (1, .int x)]) d_Mo_noRoom_35 hl (k := 1) rfl (z_inc q) (by decide) rfl (fun ls hl => ?_)
            refine r_goto h 4 d_Mo_noRoom_38 (by decide) ?_
            exact ih (q + 1) true ls (by omega) (by rw [← hz, z_any_t (P := fun q => !decide (nI q = x) && decide (V 36 q = 50)) (show (!decide (nI q = x) && decide (V 36 q = 50)) = true by rw [decide_eq_false c15, decide_eq_true c26]; rfl), Bool.or_true]; rfl) hl
  refine r_iconst h (v := 0) d_Mo_noRoom_0 (by decide) ?_
  refine r_istore_n h (lv' := [(2, .int 0), (0, .ref (ad 27)), (1, .int x)]) d_Mo_noRoom_1 rfl hl (by decide) rfl (fun ls hl => ?_)
  refine r_iconst h (v := 0) d_Mo_noRoom_2 (by decide) ?_
  refine r_istore_n h (lv' := [(3, .int 0), (2, .int 0), (0, .ref (ad 27)), (1, .int x)]) d_Mo_noRoom_3 rfl hl (by decide) rfl (fun ls hl => ?_)
  exact loop 3 0 false ls (by omega) (Bool.false_or _) hl
set_option maxHeartbeats 4000000 in
set_option maxRecDepth 100000 in
theorem c_Mo_known0 (l : Launch) (D : va_G) (cA cR : ClassId) (ad : Nat → Nat) (hI : wI ad) (V : Nat → Nat → Int32) (x : Int32) (r : Nat) (hr : r < 3) (hx : z_el x 30) : wM l D cA cR ad y_Mo_known0 (Cond.code y_Mo_known0 b_Mo_known0 3 (some .boolean) :: wAl) 1 22 [.ref (ad 27), .int (nI r), .int x] V (some (.int (z_B (mSt V r x)))) V := by
  refine wM_of hI (by decide) (Nat.le_of_ble_eq_true rfl) ?_
  intro X ls h hM hl
  have hl : lv_has ls 3 [(0, .ref (ad 27)), (1, .int (nI r)), (2, .int x)] := hl
  refine r_iload_n h d_Mo_known0_0 rfl (lv_at hl 2 rfl) ?_
  refine r_if_lt h 13 d_Mo_known0_1 (by decide) (fun c1 => ?_) (fun c1 => ?_)
  · skip
    refine r_iconst h (v := 1) d_Mo_known0_13 (by decide) ?_
    refine r_goto h 18 d_Mo_known0_14 (by decide) ?_
    exact r_zret h hM (by decide) d_Mo_known0_18 (rT (by unfold mSt; rw [decide_eq_true c1]; rfl)) rfl
  · skip
    obtain ⟨e, he, rfl⟩ := z_el_ge hx c1
    refine r_aload_n h d_Mo_known0_4 rfl (lv_at hl 0 rfl) ?_
    refine r_iload_n h d_Mo_known0_5 rfl (lv_at hl 1 rfl) ?_
    refine r_iload_n h d_Mo_known0_6 rfl (lv_at hl 2 rfl) ?_
    refine r_callVi h (k := 27) (n := 2) (As := [.int (nI r), .int (nI e)]) (c_Mo_state0 l D cA cR ad hI V e (by omega) r hr) g_Mo_64 (by decide +kernel) rfl ⟨by decide, by decide⟩ (by decide) rfl rfl hl rfl (Nat.le_of_ble_eq_true rfl) d_Mo_known0_7 ?_
    refine r_if_le h 17 d_Mo_known0_10 (by decide) (fun c10 => ?_) (fun c10 => ?_)
    · skip
      refine r_iconst h (v := 0) d_Mo_known0_17 (by decide) ?_
      exact r_zret h hM (by decide) d_Mo_known0_18 (rF (by unfold mSt; rw [decide_eq_false (nI_pos (by omega)), nI_clamp (by omega), decide_eq_false (Int32.not_lt.mpr c10)]; rfl)) rfl
    · skip
      refine r_iconst h (v := 1) d_Mo_known0_13 (by decide) ?_
      refine r_goto h 18 d_Mo_known0_14 (by decide) ?_
      exact r_zret h hM (by decide) d_Mo_known0_18 (rT (by unfold mSt; rw [nI_clamp (by omega), decide_eq_true c10, Bool.or_true])) rfl
set_option maxHeartbeats 4000000 in
set_option maxRecDepth 100000 in
theorem c_Mo_ready (l : Launch) (D : va_G) (cA cR : ClassId) (ad : Nat → Nat) (hI : wI ad) (V : Nat → Nat → Int32) (m : Int32) (r : Nat) (hr : r < 3) (n : Nat) (hK : mK V n) (hm : kM n m) : wM l D cA cR ad y_Mo_ready (Cond.code y_Mo_ready b_Mo_ready 3 (some .boolean) :: wAl) 2 44 [.ref (ad 27), .int (nI r), .int m] V (some (.int (z_B (mRdy V r m)))) V := by
  refine wM_of hI (by decide) (Nat.le_of_ble_eq_true rfl) ?_
  intro X ls h hM hl
  have hl : lv_has ls 3 [(0, .ref (ad 27)), (1, .int (nI r)), (2, .int m)] := hl
  obtain ⟨hn, hle, hod, hpa, hro⟩ := hK
  refine r_iload_n h d_Mo_ready_0 rfl (lv_at hl 2 rfl) ?_
  refine r_bipush h (v := (-10)) d_Mo_ready_1 (by decide) ?_
  refine r_icmp_gt h 18 d_Mo_ready_3 (by decide) (fun c3 => ?_) (fun c3 => ?_)
  · skip
    obtain ⟨e, he, rfl⟩ := kM_z hm hle (Int32.not_le.mpr c3)
    refine r_aload_n h d_Mo_ready_18 rfl (lv_at hl 0 rfl) ?_
    refine r_iload_n h d_Mo_ready_19 rfl (lv_at hl 1 rfl) ?_
    refine r_aload_n h d_Mo_ready_20 rfl (lv_at hl 0 rfl) ?_
    refine r_get h (k := 27) (j := 3) (by decide) rfl rfl iw_Mo (by decide) lk_Mo_16 rfl rfl d_Mo_ready_21 ?_
    refine r_iload_n h d_Mo_ready_24 rfl (lv_at hl 2 rfl) ?_
    refine r_ialdN h (k := 30) (i := e) (by decide) rfl (by omega) (by omega) d_Mo_ready_25 ?_
    refine r_callVi h (k := 27) (n := 2) (As := [.int (nI r), .int (V 30 e)]) (c_Mo_known0 l D cA cR ad hI V (V 30 e) r hr (z_el_mono (hpa e he) (by omega))) g_Mo_68 (by decide +kernel) rfl ⟨by decide, by decide⟩ (by decide) rfl rfl hl rfl (Nat.le_of_ble_eq_true rfl) d_Mo_ready_26 ?_
    refine r_if_eq h 50 d_Mo_ready_29 (by decide) (fun c29 => ?_) (fun c29 => ?_)
    · skip
      refine r_iconst h (v := 0) d_Mo_ready_50 (by decide) ?_
      exact r_zret h hM (by decide) d_Mo_ready_51 (rF (by rw [mRdy_n (by omega), z_B_0.mp c29]; rfl)) rfl
    · skip
      refine r_aload_n h d_Mo_ready_32 rfl (lv_at hl 0 rfl) ?_
      refine r_iload_n h d_Mo_ready_33 rfl (lv_at hl 1 rfl) ?_
      refine r_aload_n h d_Mo_ready_34 rfl (lv_at hl 0 rfl) ?_
      refine r_get h (k := 27) (j := 5) (by decide) rfl rfl iw_Mo (by decide) lk_Mo_22 rfl rfl d_Mo_ready_35 ?_
      refine r_iload_n h d_Mo_ready_38 rfl (lv_at hl 2 rfl) ?_
      refine r_ialdN h (k := 32) (i := e) (by decide) rfl (by omega) (by omega) d_Mo_ready_39 ?_
      refine r_callVi h (k := 27) (n := 2) (As := [.int (nI r), .int (V 32 e)]) (c_Mo_known0 l D cA cR ad hI V (V 32 e) r hr (z_el_mono (hro e he) (by omega))) g_Mo_68 (by decide +kernel) rfl ⟨by decide, by decide⟩ (by decide) rfl rfl hl rfl (Nat.le_of_ble_eq_true rfl) d_Mo_ready_40 ?_
      refine r_if_eq h 50 d_Mo_ready_43 (by decide) (fun c43 => ?_) (fun c43 => ?_)
      · skip
        refine r_iconst h (v := 0) d_Mo_ready_50 (by decide) ?_
        exact r_zret h hM (by decide) d_Mo_ready_51 (rF (by rw [mRdy_n (by omega), z_B_0.mp c43, Bool.and_false])) rfl
      · skip
        refine r_iconst h (v := 1) d_Mo_ready_46 (by decide) ?_
        refine r_goto h 51 d_Mo_ready_47 (by decide) ?_
        exact r_zret h hM (by decide) d_Mo_ready_51 (rT (by rw [mRdy_n (by omega), z_B_n.mp c29, z_B_n.mp c43]; rfl)) rfl
  · skip
    obtain ⟨e, he, rfl⟩ := kM_e hm hle c3
    refine r_aload_n h d_Mo_ready_6 rfl (lv_at hl 0 rfl) ?_
    refine r_iload_n h d_Mo_ready_7 rfl (lv_at hl 1 rfl) ?_
    refine r_bipush h (v := (-10)) d_Mo_ready_8 (by decide) ?_
    refine r_iload_n h d_Mo_ready_10 rfl (lv_at hl 2 rfl) ?_
    refine r_isub h d_Mo_ready_11 ?_
    refine r_callVi h (k := 27) (n := 2) (As := [.int (nI r), .int ((-10) - (-10 - nI e))]) (c_Mo_known0 l D cA cR ad hI V (-10 - (-10 - nI e)) r hr (by rw [kM_back (by omega)]; exact Or.inr ⟨e, by omega, rfl⟩)) g_Mo_68 (by decide +kernel) rfl ⟨by decide, by decide⟩ (by decide) rfl rfl hl rfl (Nat.le_of_ble_eq_true rfl) d_Mo_ready_12 ?_
    refine r_goto h 51 d_Mo_ready_15 (by decide) ?_
    exact r_zret h hM (z_B_na _) d_Mo_ready_51 (rI (by rw [mRdy_m (by omega)])) rfl
