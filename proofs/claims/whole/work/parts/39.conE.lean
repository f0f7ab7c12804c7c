-- CONTRACTS: SideTreeTextModel, what writes, and its public methods (laid by gen/conE.py)
set_option maxHeartbeats 4000000 in
set_option maxRecDepth 100000 in
theorem c_Mo_send (l : Launch) (D : va_G) (cA cR : ClassId) (ad : Nat → Nat) (hI : wI ad) (V : Nat → Nat → Int32) (m : Int32) (r : Nat) (hr : r < 3) (hts : ∀ q, q < 3 → ¬ q = r → ∃ s, V 36 q = nI s ∧ s < 50) : wM l D cA cR ad y_Mo_send (Cond.code y_Mo_send b_Mo_send 4 none :: wAl) 0 0 [.ref (ad 27), .int (nI r), .int m] V none (mSnd V r m) := by
  refine wM_of hI (by decide) (Nat.le_of_ble_eq_true rfl) ?_
  intro X ls h hM hl
  have hl : lv_has ls 4 [(0, .ref (ad 27)), (1, .int (nI r)), (2, .int m)] := hl
  have step : ∀ (q : Nat) (Vc : Nat → Nat → Int32) (ls : Array Slot), q < 3 → (¬ q = r → ∃ s, Vc 36 q = nI s ∧ s < 50) → (∀ ls : Array Slot, lv_has ls 4 [(3, .int (nI (q + 1))), (0, .ref (ad 27)), (1, .int (nI r)), (2, .int m)] → wv X cA cR ad (mSnd1 Vc q r m) 2 ls []) → lv_has ls 4 [(3, .int (nI q)), (0, .ref (ad 27)), (1, .int (nI r)), (2, .int m)] → wv X cA cR ad Vc 2 ls [] := by
    intro q Vc ls hq hs kk hl
    refine r_iload_n h d_Mo_send_2 rfl (lv_at hl 0 rfl) ?_
    refine r_iconst h (v := 3) d_Mo_send_3 (by decide) ?_
    refine r_icmp_ge_f h 49 d_Mo_send_4 (by decide) (nI_lz (b := 3) (by omega) (by omega) (by omega)) ?_
    refine r_iload_n h d_Mo_send_7 rfl (lv_at hl 0 rfl) ?_
    refine r_iload_n h d_Mo_send_8 rfl (lv_at hl 2 rfl) ?_
    refine r_icmp_eq h 43 d_Mo_send_9 (by decide) (fun c9 => ?_) (fun c9 => ?_)
    · skip
      refine r_iinc h (v := nI (q + 1)) (lv' := [(3, .int (nI (q + 1))), (0, .ref (ad 27)), (1, .int (nI r)), (2, .int m)]) d_Mo_send_43 hl (k := 0) rfl (z_inc q) (by decide) rfl (fun ls hl => ?_)
      refine r_goto h 2 d_Mo_send_46 (by decide) ?_
      refine r_V (V' := mSnd1 Vc q r m) (mSnd1_t (z_inj (by omega) (by omega) c9)) ?_
      exact kk ls hl
    · skip
      have hqr : ¬ q = r := fun z => c9 (by rw [z])
      obtain ⟨s, hs1, hs2⟩ := hs hqr
      refine r_aload_n h d_Mo_send_12 rfl (lv_at hl 1 rfl) ?_
      refine r_get h (k := 27) (j := 8) (by decide) rfl rfl iw_Mo (by decide) lk_Mo_31 rfl rfl d_Mo_send_13 ?_
      refine r_bipush h (v := 90) d_Mo_send_16 (by decide) ?_
      refine r_iload_n h d_Mo_send_18 rfl (lv_at hl 0 rfl) ?_
      refine r_imul h d_Mo_send_19 ?_
      refine r_top (nI (90 * q)) (pk_mul 90 q) ?_
      refine r_aload_n h d_Mo_send_20 rfl (lv_at hl 1 rfl) ?_
      refine r_get h (k := 27) (j := 9) (by decide) rfl rfl iw_Mo (by decide) lk_Mo_34 rfl rfl d_Mo_send_21 ?_
      refine r_iload_n h d_Mo_send_24 rfl (lv_at hl 0 rfl) ?_
      refine r_ialdN h (k := 36) (i := q) (by decide) rfl (by omega) (by omega) d_Mo_send_25 ?_
      refine r_top (nI s) hs1 ?_
      refine r_iadd h d_Mo_send_26 ?_
      refine r_top (nI (90 * q + s)) (nI_add _ _) ?_
      refine r_iload_n h d_Mo_send_27 rfl (lv_at hl 3 rfl) ?_
      refine r_iastN h (k := 35) (i := (90 * q + s)) (by decide) rfl (by omega) (by omega) d_Mo_send_28 ?_
      refine r_aload_n h d_Mo_send_29 rfl (lv_at hl 1 rfl) ?_
      refine r_get h (k := 27) (j := 9) (by decide) rfl rfl iw_Mo (by decide) lk_Mo_34 rfl rfl d_Mo_send_30 ?_
      refine r_iload_n h d_Mo_send_33 rfl (lv_at hl 0 rfl) ?_
      refine r_aload_n h d_Mo_send_34 rfl (lv_at hl 1 rfl) ?_
      refine r_get h (k := 27) (j := 9) (by decide) rfl rfl iw_Mo (by decide) lk_Mo_34 rfl rfl d_Mo_send_35 ?_
      refine r_iload_n h d_Mo_send_38 rfl (lv_at hl 0 rfl) ?_
      refine r_ialdN h (k := 36) (i := q) (by decide) rfl (by omega) (by omega) d_Mo_send_39 ?_
      refine r_top (nI s) (by rw [wU_n (by decide)]; exact hs1) ?_
      refine r_iconst h (v := 1) d_Mo_send_40 (by decide) ?_
      refine r_iadd h d_Mo_send_41 ?_
      refine r_top (nI (s + 1)) (nI_1 s) ?_
      refine r_iastN h (k := 36) (i := q) (by decide) rfl (by omega) (by omega) d_Mo_send_42 ?_
      refine r_iinc h (v := nI (q + 1)) (lv' := [(3, .int (nI (q + 1))), (0, .ref (ad 27)), (1, .int (nI r)), (2, .int m)]) d_Mo_send_43 hl (k := 0) rfl (z_inc q) (by decide) rfl (fun ls hl => ?_)
      refine r_goto h 2 d_Mo_send_46 (by decide) ?_
      refine r_V (V' := mSnd1 Vc q r m) (mSnd1_f hqr hs1 (by omega)) ?_
      exact kk ls hl
  refine r_iconst h (v := 0) d_Mo_send_0 (by decide) ?_
  refine r_istore_n h (lv' := [(3, .int 0), (0, .ref (ad 27)), (1, .int (nI r)), (2, .int m)]) d_Mo_send_1 rfl hl (by decide) rfl (fun ls hl => ?_)
  refine step 0 V ls (by decide) (hts 0 (by decide)) (fun ls hl => ?_) hl
  refine step 1 _ ls (by decide) (fun c => by rw [mSnd1_36 (by decide)]; exact hts 1 (by decide) c) (fun ls hl => ?_) hl
  refine step 2 _ ls (by decide) (fun c => by rw [mSnd1_36 (by decide), mSnd1_36 (by decide)]; exact hts 2 (by decide) c) (fun ls hl => ?_) hl
  refine r_iload_n h d_Mo_send_2 rfl (lv_at hl 0 rfl) ?_
  refine r_iconst h (v := 3) d_Mo_send_3 (by decide) ?_
  refine r_icmp_ge_t h 49 d_Mo_send_4 (by decide) (by decide) ?_
  exact r_vret h hM d_Mo_send_49 rfl rfl
set_option maxHeartbeats 4000000 in
set_option maxRecDepth 100000 in
theorem c_Mo_effect (l : Launch) (D : va_G) (cA cR : ClassId) (ad : Nat → Nat) (hI : wI ad) (V : Nat → Nat → Int32) (m : Int32) (r : Nat) (hr : r < 3) (n : Nat) (hle : n ≤ 30) (hm : kM n m) : wM l D cA cR ad y_Mo_effect (Cond.code y_Mo_effect b_Mo_effect 4 none :: wAl) 0 0 [.ref (ad 27), .int (nI r), .int m] V none (mEff V r m) := by
  refine wM_of hI (by decide) (Nat.le_of_ble_eq_true rfl) ?_
  intro X ls h hM hl
  have hl : lv_has ls 4 [(0, .ref (ad 27)), (1, .int (nI r)), (2, .int m)] := hl
  refine r_iload_n h d_Mo_effect_0 rfl (lv_at hl 2 rfl) ?_
  refine r_bipush h (v := (-10)) d_Mo_effect_1 (by decide) ?_
  refine r_icmp_gt h 13 d_Mo_effect_3 (by decide) (fun c3 => ?_) (fun c3 => ?_)
  · skip
    obtain ⟨e, he, rfl⟩ := kM_z hm hle (Int32.not_le.mpr c3)
    refine r_iload_n h d_Mo_effect_13 rfl (lv_at hl 2 rfl) ?_
    refine r_istore_n h (lv' := [(3, .int (nI e)), (0, .ref (ad 27)), (1, .int (nI r)), (2, .int (nI e))]) d_Mo_effect_14 rfl hl (by decide) rfl (fun ls hl => ?_)
    refine r_aload_n h d_Mo_effect_15 rfl (lv_at hl 1 rfl) ?_
    refine r_get h (k := 27) (j := 7) (by decide) rfl rfl iw_Mo (by decide) lk_Mo_28 rfl rfl d_Mo_effect_16 ?_
    refine r_bipush h (v := 30) d_Mo_effect_19 (by decide) ?_
    refine r_iload_n h d_Mo_effect_21 rfl (lv_at hl 2 rfl) ?_
    refine r_imul h d_Mo_effect_22 ?_
    refine r_top (nI (30 * r)) (pk_mul 30 r) ?_
    refine r_iload_n h d_Mo_effect_23 rfl (lv_at hl 0 rfl) ?_
    refine r_iadd h d_Mo_effect_24 ?_
    refine r_top (nI (30 * r + e)) (nI_add _ _) ?_
    refine r_iload_n h d_Mo_effect_25 rfl (lv_at hl 3 rfl) ?_
    refine r_bipush h (v := (-10)) d_Mo_effect_26 (by decide) ?_
    refine r_icmp_gt_t h 35 d_Mo_effect_28 (by decide) c3 ?_
    refine r_iconst h (v := 1) d_Mo_effect_35 (by decide) ?_
    refine r_iastN h (k := 34) (i := (30 * r + e)) (by decide) rfl (by omega) (by omega) d_Mo_effect_36 ?_
    exact r_vret h hM d_Mo_effect_37 rfl (mEff_n (by omega))
  · skip
    obtain ⟨e, he, rfl⟩ := kM_e hm hle c3
    refine r_bipush h (v := (-10)) d_Mo_effect_6 (by decide) ?_
    refine r_iload_n h d_Mo_effect_8 rfl (lv_at hl 2 rfl) ?_
    refine r_isub h d_Mo_effect_9 ?_
    refine r_top (nI e) (kM_back (by omega)) ?_
    refine r_goto h 14 d_Mo_effect_10 (by decide) ?_
    refine r_istore_n h (lv' := [(3, .int (nI e)), (0, .ref (ad 27)), (1, .int (nI r)), (2, .int (-10 - nI e))]) d_Mo_effect_14 rfl hl (by decide) rfl (fun ls hl => ?_)
    refine r_aload_n h d_Mo_effect_15 rfl (lv_at hl 1 rfl) ?_
    refine r_get h (k := 27) (j := 7) (by decide) rfl rfl iw_Mo (by decide) lk_Mo_28 rfl rfl d_Mo_effect_16 ?_
    refine r_bipush h (v := 30) d_Mo_effect_19 (by decide) ?_
    refine r_iload_n h d_Mo_effect_21 rfl (lv_at hl 2 rfl) ?_
    refine r_imul h d_Mo_effect_22 ?_
    refine r_top (nI (30 * r)) (pk_mul 30 r) ?_
    refine r_iload_n h d_Mo_effect_23 rfl (lv_at hl 0 rfl) ?_
    refine r_iadd h d_Mo_effect_24 ?_
    refine r_top (nI (30 * r + e)) (nI_add _ _) ?_
    refine r_iload_n h d_Mo_effect_25 rfl (lv_at hl 3 rfl) ?_
    refine r_bipush h (v := (-10)) d_Mo_effect_26 (by decide) ?_
    refine r_icmp_gt_f h 35 d_Mo_effect_28 (by decide) c3 ?_
    refine r_iconst h (v := 2) d_Mo_effect_31 (by decide) ?_
    refine r_goto h 36 d_Mo_effect_32 (by decide) ?_
    refine r_iastN h (k := 34) (i := (30 * r + e)) (by decide) rfl (by omega) (by omega) d_Mo_effect_36 ?_
    exact r_vret h hM d_Mo_effect_37 rfl (mEff_m (by omega))
set_option maxHeartbeats 4000000 in
set_option maxRecDepth 100000 in
theorem c_Mo_wake (l : Launch) (D : va_G) (cA cR : ClassId) (ad : Nat → Nat) (hI : wI ad) (V : Nat → Nat → Int32) (r : Nat) (hr : r < 3) (Va : Nat → Nat → Int32) (n : Nat) (ts wz : Nat → Nat) (hV : kV Va n ts wz) (hR : kR Va V ts wz) (h90 : wz r ≤ 90) : wM l D cA cR ad y_Mo_wake (Cond.code y_Mo_wake b_Mo_wake 5 (some .boolean) :: wAl) 3 66 [.ref (ad 27), .int (nI r)] V (some (.int (z_B (!decide (mFst V r (wz r) = wz r))))) (mWa V r (wz r)) := by
  refine wM_of hI (by decide) (Nat.le_of_ble_eq_true rfl) ?_
  intro X ls h hM hl
  have hl : lv_has ls 5 [(0, .ref (ad 27)), (1, .int (nI r))] := hl
  have hK := mK_of hV hR
  have hw := (kR_ts hV hR hr).2
  obtain ⟨hn, hle, hod, hpa, hro⟩ := id hK
  have loop : ∀ (k p : Nat) (ls : Array Slot), p + k = wz r → z_fnd (fun k => mRdy V r (V 37 (90 * r + k))) k p = mFst V r (wz r) → lv_has ls 5 [(2, .int (nI p)), (0, .ref (ad 27)), (1, .int (nI r))] → wv X cA cR ad V 2 ls [] := by
    intro k
    induction k with
    | zero =>
      intro p ls hp hz hl
      refine r_iload_n h d_Mo_wake_2 rfl (lv_at hl 0 rfl) ?_
      refine r_aload_n h d_Mo_wake_3 rfl (lv_at hl 1 rfl) ?_
      refine r_get h (k := 27) (j := 11) (by decide) rfl rfl iw_Mo (by decide) lk_Mo_40 rfl rfl d_Mo_wake_4 ?_
      refine r_iload_n h d_Mo_wake_7 rfl (lv_at hl 2 rfl) ?_
      refine r_ialdN h (k := 38) (i := r) (by decide) rfl (by omega) (by omega) d_Mo_wake_8 ?_
      refine r_top (nI (wz r)) hw ?_
      refine r_icmp_ge_t h 107 d_Mo_wake_9 (by decide) (nI_sz (by omega) (by omega) (by omega)) ?_
      refine r_iconst h (v := 0) d_Mo_wake_107 (by decide) ?_
      exact r_zret h hM (by decide) d_Mo_wake_108 (rF (by rw [← hz]; show (!decide (p = wz r)) = false; rw [decide_eq_true (show p = wz r by omega)]; rfl)) (by unfold mWa; rw [← hz]; show V = if p = wz r then V else _; rw [if_pos (by omega)])
    | succ k ih =>
      intro p ls hp hz hl
      refine r_iload_n h d_Mo_wake_2 rfl (lv_at hl 0 rfl) ?_
      refine r_aload_n h d_Mo_wake_3 rfl (lv_at hl 1 rfl) ?_
      refine r_get h (k := 27) (j := 11) (by decide) rfl rfl iw_Mo (by decide) lk_Mo_40 rfl rfl d_Mo_wake_4 ?_
      refine r_iload_n h d_Mo_wake_7 rfl (lv_at hl 2 rfl) ?_
      refine r_ialdN h (k := 38) (i := r) (by decide) rfl (by omega) (by omega) d_Mo_wake_8 ?_
      refine r_top (nI (wz r)) hw ?_
      refine r_icmp_ge_f h 107 d_Mo_wake_9 (by decide) (nI_lz (by omega) (by omega) (by omega)) ?_
      refine r_aload_n h d_Mo_wake_12 rfl (lv_at hl 1 rfl) ?_
      refine r_get h (k := 27) (j := 10) (by decide) rfl rfl iw_Mo (by decide) lk_Mo_37 rfl rfl d_Mo_wake_13 ?_
      refine r_bipush h (v := 90) d_Mo_wake_16 (by decide) ?_
      refine r_iload_n h d_Mo_wake_18 rfl (lv_at hl 2 rfl) ?_
      refine r_imul h d_Mo_wake_19 ?_
      refine r_top (nI (90 * r)) (pk_mul 90 r) ?_
      refine r_iload_n h d_Mo_wake_20 rfl (lv_at hl 0 rfl) ?_
      refine r_iadd h d_Mo_wake_21 ?_
      refine r_top (nI (90 * r + p)) (nI_add _ _) ?_
      refine r_ialdN h (k := 37) (i := (90 * r + p)) (by decide) rfl (by omega) (by omega) d_Mo_wake_22 ?_
      refine r_istore_n h (lv' := [(3, .int (V 37 (90 * r + p))), (2, .int (nI p)), (0, .ref (ad 27)), (1, .int (nI r))]) d_Mo_wake_23 rfl hl (by decide) rfl (fun ls hl => ?_)
      refine r_aload_n h d_Mo_wake_24 rfl (lv_at hl 2 rfl) ?_
      refine r_iload_n h d_Mo_wake_25 rfl (lv_at hl 3 rfl) ?_
      refine r_iload_n h d_Mo_wake_26 rfl (lv_at hl 0 rfl) ?_
      refine r_callVi h (k := 27) (n := 2) (As := [.int (nI r), .int (V 37 (90 * r + p))]) (c_Mo_ready l D cA cR ad hI V (V 37 (90 * r + p)) r hr n hK (kR_wc hV hR hr (by omega))) g_Mo_71 (by decide +kernel) rfl ⟨by decide, by decide⟩ (by decide) rfl rfl hl rfl (Nat.le_of_ble_eq_true rfl) d_Mo_wake_27 ?_
      refine r_if_eq h 101 d_Mo_wake_30 (by decide) (fun c30 => ?_) (fun c30 => ?_)
      · skip
        refine r_iinc h (v := nI (p + 1)) (lv' := [(2, .int (nI (p + 1))), (3, .int (V 37 (90 * r + p))), (0, .ref (ad 27)), (1, .int (nI r))]) d_Mo_wake_101 hl (k := 1) rfl (z_inc p) (by decide) rfl (fun ls hl => ?_)
        refine r_goto h 2 d_Mo_wake_104 (by decide) ?_
        exact ih (p + 1) ls (by omega) (by rw [← hz, z_fnd_f (P := fun k => mRdy V r (V 37 (90 * r + k))) (z_B_0.mp c30)]) (lv_sub hl [0, 2, 3] rfl)
      · skip
        have hfp : mFst V r (wz r) = p := by rw [← hz, z_fnd_t (P := fun k => mRdy V r (V 37 (90 * r + k))) (z_B_n.mp c30)]
        have fin : ∀ (j : Nat) (ls : Array Slot), lv_has ls 5 [(4, .int (nI j)), (3, .int (V 37 (90 * r + p))), (2, .int (nI p)), (0, .ref (ad 27)), (1, .int (nI r))] → wv X cA cR ad (wS (wU V 38 r (nI (wz r - 1))) 37 (z_shl (wz r - 1 - p) (90 * r + p) (V 37))) 93 ls [] := by
          intro j ls hl
          refine r_aload_n h d_Mo_wake_93 rfl (lv_at hl 3 rfl) ?_
          refine r_iload_n h d_Mo_wake_94 rfl (lv_at hl 4 rfl) ?_
          refine r_iload_n h d_Mo_wake_95 rfl (lv_at hl 1 rfl) ?_
          refine r_callVv h (k := 27) (n := 2) (As := [.int (nI r), .int (V 37 (90 * r + p))]) (c_Mo_effect l D cA cR ad hI (mTakeW V r (wz r) p) (V 37 (90 * r + p)) r hr n hle (kR_wc hV hR hr (by omega))) g_Mo_74 (by decide +kernel) rfl ⟨by decide, by decide⟩ (by decide) rfl rfl hl rfl (Nat.le_of_ble_eq_true rfl) d_Mo_wake_96 ?_
          refine r_iconst h (v := 1) d_Mo_wake_99 (by decide) ?_
          exact r_zret h hM (by decide) d_Mo_wake_100 (rT (by rw [hfp, decide_eq_false (show ¬ p = wz r by omega)]; rfl)) (by unfold mWa; rw [hfp, if_neg (by omega)])
        have shl : ∀ (t j : Nat) (f : Nat → Int32) (ls : Array Slot), j + t = wz r - 1 → z_shl t (90 * r + j) f = z_shl (wz r - 1 - p) (90 * r + p) (V 37) → lv_has ls 5 [(4, .int (nI j)), (3, .int (V 37 (90 * r + p))), (2, .int (nI p)), (0, .ref (ad 27)), (1, .int (nI r))] → wv X cA cR ad (wS (wU V 38 r (nI (wz r - 1))) 37 f) 50 ls [] := by
          intro t
          induction t with
          | zero =>
            intro j f ls hj hz hl
            refine r_iload h d_Mo_wake_50 (lv_at hl 0 rfl) ?_
            refine r_aload_n h d_Mo_wake_52 rfl (lv_at hl 3 rfl) ?_
            refine r_get h (k := 27) (j := 11) (by decide) rfl rfl iw_Mo (by decide) lk_Mo_40 rfl rfl d_Mo_wake_53 ?_
            refine r_iload_n h d_Mo_wake_56 rfl (lv_at hl 4 rfl) ?_
            refine r_ialdN h (k := 38) (i := r) (by decide) rfl (by omega) (by omega) d_Mo_wake_57 ?_
            refine r_top (nI (wz r - 1)) (by rw [wS_n (by decide), wU_s, pk_us]) ?_
            refine r_icmp_ge_t h 93 d_Mo_wake_58 (by decide) (nI_sz (by omega) (by omega) (by omega)) ?_
            refine r_V (V' := wS (wU V 38 r (nI (wz r - 1))) 37 (z_shl (wz r - 1 - p) (90 * r + p) (V 37))) (by rw [← hz]; rfl) ?_
            exact fin j ls hl
          | succ t ih =>
            intro j f ls hj hz hl
            refine r_iload h d_Mo_wake_50 (lv_at hl 0 rfl) ?_
            refine r_aload_n h d_Mo_wake_52 rfl (lv_at hl 3 rfl) ?_
            refine r_get h (k := 27) (j := 11) (by decide) rfl rfl iw_Mo (by decide) lk_Mo_40 rfl rfl d_Mo_wake_53 ?_
            refine r_iload_n h d_Mo_wake_56 rfl (lv_at hl 4 rfl) ?_
            refine r_ialdN h (k := 38) (i := r) (by decide) rfl (by omega) (by omega) d_Mo_wake_57 ?_
            refine r_top (nI (wz r - 1)) (by rw [wS_n (by decide), wU_s, pk_us]) ?_
            refine r_icmp_ge_f h 93 d_Mo_wake_58 (by decide) (nI_lz (by omega) (by omega) (by omega)) ?_
            refine r_aload_n h d_Mo_wake_61 rfl (lv_at hl 3 rfl) ?_
            refine r_get h (k := 27) (j := 10) (by decide) rfl rfl iw_Mo (by decide) lk_Mo_37 rfl rfl d_Mo_wake_62 ?_
            refine r_bipush h (v := 90) d_Mo_wake_65 (by decide) ?_
            refine r_iload_n h d_Mo_wake_67 rfl (lv_at hl 4 rfl) ?_
            refine r_imul h d_Mo_wake_68 ?_
            refine r_top (nI (90 * r)) (pk_mul 90 r) ?_
            refine r_iload h d_Mo_wake_69 (lv_at hl 0 rfl) ?_
            refine r_iadd h d_Mo_wake_71 ?_
            refine r_top (nI (90 * r + j)) (nI_add _ _) ?_
            refine r_aload_n h d_Mo_wake_72 rfl (lv_at hl 3 rfl) ?_
            refine r_get h (k := 27) (j := 10) (by decide) rfl rfl iw_Mo (by decide) lk_Mo_37 rfl rfl d_Mo_wake_73 ?_
            refine r_bipush h (v := 90) d_Mo_wake_76 (by decide) ?_
            refine r_iload_n h d_Mo_wake_78 rfl (lv_at hl 4 rfl) ?_
            refine r_imul h d_Mo_wake_79 ?_
            refine r_top (nI (90 * r)) (pk_mul 90 r) ?_
            refine r_iload h d_Mo_wake_80 (lv_at hl 0 rfl) ?_
            refine r_iadd h d_Mo_wake_82 ?_
            refine r_top (nI (90 * r + j)) (nI_add _ _) ?_
            refine r_iconst h (v := 1) d_Mo_wake_83 (by decide) ?_
            refine r_iadd h d_Mo_wake_84 ?_
            refine r_top (nI (90 * r + j + 1)) (nI_1 _) ?_
            refine r_ialdN h (k := 37) (i := (90 * r + j + 1)) (by decide) rfl (by omega) (by omega) d_Mo_wake_85 ?_
            refine r_top (f (90 * r + j + 1)) (by rw [wS_s]) ?_
            refine r_iastN h (k := 37) (i := (90 * r + j)) (by decide) rfl (by omega) (by omega) d_Mo_wake_86 ?_
            refine r_V (V' := wS (wU V 38 r (nI (wz r - 1))) 37 (upd f (90 * r + j) (f (90 * r + j + 1)))) (wU_wS _ _ _ _ _) ?_
            refine r_iinc h (v := nI (j + 1)) (lv' := [(4, .int (nI (j + 1))), (3, .int (V 37 (90 * r + p))), (2, .int (nI p)), (0, .ref (ad 27)), (1, .int (nI r))]) d_Mo_wake_87 hl (k := 0) rfl (z_inc j) (by decide) rfl (fun ls hl => ?_)
            refine r_goto h 50 d_Mo_wake_90 (by decide) ?_
            exact ih (j + 1) _ ls (by omega) hz hl
        refine r_aload_n h d_Mo_wake_33 rfl (lv_at hl 2 rfl) ?_
        refine r_get h (k := 27) (j := 11) (by decide) rfl rfl iw_Mo (by decide) lk_Mo_40 rfl rfl d_Mo_wake_34 ?_
        refine r_iload_n h d_Mo_wake_37 rfl (lv_at hl 3 rfl) ?_
        refine r_aload_n h d_Mo_wake_38 rfl (lv_at hl 2 rfl) ?_
        refine r_get h (k := 27) (j := 11) (by decide) rfl rfl iw_Mo (by decide) lk_Mo_40 rfl rfl d_Mo_wake_39 ?_
        refine r_iload_n h d_Mo_wake_42 rfl (lv_at hl 3 rfl) ?_
        refine r_ialdN h (k := 38) (i := r) (by decide) rfl (by omega) (by omega) d_Mo_wake_43 ?_
        refine r_top (nI (wz r)) hw ?_
        refine r_iconst h (v := 1) d_Mo_wake_44 (by decide) ?_
        refine r_isub h d_Mo_wake_45 ?_
        refine r_top (nI (wz r - 1)) (nI_m1 (by omega)) ?_
        refine r_iastN h (k := 38) (i := r) (by decide) rfl (by omega) (by omega) d_Mo_wake_46 ?_
        refine r_iload_n h d_Mo_wake_47 rfl (lv_at hl 1 rfl) ?_
        refine r_istore h (lv' := [(4, .int (nI p)), (3, .int (V 37 (90 * r + p))), (2, .int (nI p)), (0, .ref (ad 27)), (1, .int (nI r))]) d_Mo_wake_48 hl (by decide) rfl (fun ls hl => ?_)
        refine r_V (V' := wS (wU V 38 r (nI (wz r - 1))) 37 (V 37)) (by rw [show V 37 = (wU V 38 r (nI (wz r - 1))) 37 from (wU_n (by decide)).symm, wS_id]) ?_
        exact shl (wz r - 1 - p) p (V 37) ls (by omega) rfl hl
  refine r_iconst h (v := 0) d_Mo_wake_0 (by decide) ?_
  refine r_istore_n h (lv' := [(2, .int 0), (0, .ref (ad 27)), (1, .int (nI r))]) d_Mo_wake_1 rfl hl (by decide) rfl (fun ls hl => ?_)
  exact loop (wz r) 0 ls (by omega) rfl hl
set_option maxHeartbeats 4000000 in
set_option maxRecDepth 100000 in
theorem c_Mo_length_b (l : Launch) (D : va_G) (cA cR : ClassId) (ad : Nat → Nat) (hI : wI ad) (V : Nat → Nat → Int32) (x : Int32) (hb : z_bad x) : wM l D cA cR ad y_Mo_length (Cond.code y_Mo_length b_Mo_length 2 (some .int) :: wAl) 2 47 [.ref (ad 27), .int x] V (some (.int (-1))) V := by
  refine wM_of hI (by decide) (Nat.le_of_ble_eq_true rfl) ?_
  intro X ls h hM hl
  have hl : lv_has ls 2 [(0, .ref (ad 27)), (1, .int x)] := hl
  refine r_iload_n h d_Mo_length_0 rfl (lv_at hl 1 rfl) ?_
  refine r_callSi h (n := 1) (As := [.int x]) (c_Mo_isReplica l D cA cR ad hI V x) g_Mo_78 (by decide +kernel) rfl ⟨by decide, by decide⟩ hl rfl (Nat.le_of_ble_eq_true rfl) d_Mo_length_1 ?_
  refine r_if_eq_t h 17 d_Mo_length_4 (by decide) (z_B_0.mpr hb) ?_
  refine r_iconst h (v := (-1)) d_Mo_length_17 (by decide) ?_
  exact r_iret h hM d_Mo_length_18 rfl rfl
set_option maxHeartbeats 4000000 in
set_option maxRecDepth 100000 in
theorem c_Mo_shown_b (l : Launch) (D : va_G) (cA cR : ClassId) (ad : Nat → Nat) (hI : wI ad) (V : Nat → Nat → Int32) (x : Int32) (hb : z_bad x) (i0 : Int32) : wM l D cA cR ad y_Mo_shown (Cond.code y_Mo_shown b_Mo_shown 3 (some .int) :: wAl) 2 48 [.ref (ad 27), .int x, .int i0] V (some (.int (-1))) V := by
  refine wM_of hI (by decide) (Nat.le_of_ble_eq_true rfl) ?_
  intro X ls h hM hl
  have hl : lv_has ls 3 [(0, .ref (ad 27)), (1, .int x), (2, .int i0)] := hl
  refine r_iload_n h d_Mo_shown_0 rfl (lv_at hl 1 rfl) ?_
  refine r_callSi h (n := 1) (As := [.int x]) (c_Mo_isReplica l D cA cR ad hI V x) g_Mo_78 (by decide +kernel) rfl ⟨by decide, by decide⟩ hl rfl (Nat.le_of_ble_eq_true rfl) d_Mo_shown_1 ?_
  refine r_if_eq_t h 17 d_Mo_shown_4 (by decide) (z_B_0.mpr hb) ?_
  refine r_iconst h (v := (-1)) d_Mo_shown_17 (by decide) ?_
  exact r_iret h hM d_Mo_shown_18 rfl rfl
set_option maxHeartbeats 4000000 in
set_option maxRecDepth 100000 in
theorem c_Mo_ordered_b (l : Launch) (D : va_G) (cA cR : ClassId) (ad : Nat → Nat) (hI : wI ad) (V : Nat → Nat → Int32) (x : Int32) (hb : z_bad x) (i0 : Int32) : wM l D cA cR ad y_Mo_ordered (Cond.code y_Mo_ordered b_Mo_ordered 3 (some .int) :: wAl) 2 48 [.ref (ad 27), .int x, .int i0] V (some (.int (-1))) V := by
  refine wM_of hI (by decide) (Nat.le_of_ble_eq_true rfl) ?_
  intro X ls h hM hl
  have hl : lv_has ls 3 [(0, .ref (ad 27)), (1, .int x), (2, .int i0)] := hl
  refine r_iload_n h d_Mo_ordered_0 rfl (lv_at hl 1 rfl) ?_
  refine r_callSi h (n := 1) (As := [.int x]) (c_Mo_isReplica l D cA cR ad hI V x) g_Mo_78 (by decide +kernel) rfl ⟨by decide, by decide⟩ hl rfl (Nat.le_of_ble_eq_true rfl) d_Mo_ordered_1 ?_
  refine r_if_eq_t h 17 d_Mo_ordered_4 (by decide) (z_B_0.mpr hb) ?_
  refine r_iconst h (v := (-1)) d_Mo_ordered_17 (by decide) ?_
  exact r_iret h hM d_Mo_ordered_18 rfl rfl
set_option maxHeartbeats 4000000 in
set_option maxRecDepth 100000 in
theorem c_Mo_known_b (l : Launch) (D : va_G) (cA cR : ClassId) (ad : Nat → Nat) (hI : wI ad) (V : Nat → Nat → Int32) (x : Int32) (hb : z_bad x) : wM l D cA cR ad y_Mo_known (Cond.code y_Mo_known b_Mo_known 2 (some .int) :: wAl) 2 47 [.ref (ad 27), .int x] V (some (.int (-1))) V := by
  refine wM_of hI (by decide) (Nat.le_of_ble_eq_true rfl) ?_
  intro X ls h hM hl
  have hl : lv_has ls 2 [(0, .ref (ad 27)), (1, .int x)] := hl
  refine r_iload_n h d_Mo_known_0 rfl (lv_at hl 1 rfl) ?_
  refine r_callSi h (n := 1) (As := [.int x]) (c_Mo_isReplica l D cA cR ad hI V x) g_Mo_78 (by decide +kernel) rfl ⟨by decide, by decide⟩ hl rfl (Nat.le_of_ble_eq_true rfl) d_Mo_known_1 ?_
  refine r_if_eq_t h 17 d_Mo_known_4 (by decide) (z_B_0.mpr hb) ?_
  refine r_iconst h (v := (-1)) d_Mo_known_17 (by decide) ?_
  exact r_iret h hM d_Mo_known_18 rfl rfl
set_option maxHeartbeats 4000000 in
set_option maxRecDepth 100000 in
theorem c_Mo_state_b (l : Launch) (D : va_G) (cA cR : ClassId) (ad : Nat → Nat) (hI : wI ad) (V : Nat → Nat → Int32) (x : Int32) (hb : z_bad x) (i0 : Int32) : wM l D cA cR ad y_Mo_state (Cond.code y_Mo_state b_Mo_state 3 (some .int) :: wAl) 1 22 [.ref (ad 27), .int x, .int i0] V (some (.int (-1))) V := by
  refine wM_of hI (by decide) (Nat.le_of_ble_eq_true rfl) ?_
  intro X ls h hM hl
  have hl : lv_has ls 3 [(0, .ref (ad 27)), (1, .int x), (2, .int i0)] := hl
  refine r_iload_n h d_Mo_state_0 rfl (lv_at hl 1 rfl) ?_
  refine r_callSi h (n := 1) (As := [.int x]) (c_Mo_isReplica l D cA cR ad hI V x) g_Mo_78 (by decide +kernel) rfl ⟨by decide, by decide⟩ hl rfl (Nat.le_of_ble_eq_true rfl) d_Mo_state_1 ?_
  refine r_if_ne_f h 11 d_Mo_state_4 (by decide) (z_B_0.mpr hb) ?_
  refine r_iconst h (v := (-1)) d_Mo_state_7 (by decide) ?_
  refine r_goto h 29 d_Mo_state_8 (by decide) ?_
  exact r_iret h hM d_Mo_state_29 rfl rfl
set_option maxHeartbeats 4000000 in
set_option maxRecDepth 100000 in
theorem c_Mo_tray_b (l : Launch) (D : va_G) (cA cR : ClassId) (ad : Nat → Nat) (hI : wI ad) (V : Nat → Nat → Int32) (x : Int32) (hb : z_bad x) : wM l D cA cR ad y_Mo_tray (Cond.code y_Mo_tray b_Mo_tray 2 (some .int) :: wAl) 1 20 [.ref (ad 27), .int x] V (some (.int (-1))) V := by
  refine wM_of hI (by decide) (Nat.le_of_ble_eq_true rfl) ?_
  intro X ls h hM hl
  have hl : lv_has ls 2 [(0, .ref (ad 27)), (1, .int x)] := hl
  refine r_iload_n h d_Mo_tray_0 rfl (lv_at hl 1 rfl) ?_
  refine r_callSi h (n := 1) (As := [.int x]) (c_Mo_isReplica l D cA cR ad hI V x) g_Mo_78 (by decide +kernel) rfl ⟨by decide, by decide⟩ hl rfl (Nat.le_of_ble_eq_true rfl) d_Mo_tray_1 ?_
  refine r_if_eq_t h 16 d_Mo_tray_4 (by decide) (z_B_0.mpr hb) ?_
  refine r_iconst h (v := (-1)) d_Mo_tray_16 (by decide) ?_
  exact r_iret h hM d_Mo_tray_17 rfl rfl
set_option maxHeartbeats 4000000 in
set_option maxRecDepth 100000 in
theorem c_Mo_waiting_b (l : Launch) (D : va_G) (cA cR : ClassId) (ad : Nat → Nat) (hI : wI ad) (V : Nat → Nat → Int32) (x : Int32) (hb : z_bad x) : wM l D cA cR ad y_Mo_waiting (Cond.code y_Mo_waiting b_Mo_waiting 2 (some .int) :: wAl) 1 20 [.ref (ad 27), .int x] V (some (.int (-1))) V := by
  refine wM_of hI (by decide) (Nat.le_of_ble_eq_true rfl) ?_
  intro X ls h hM hl
  have hl : lv_has ls 2 [(0, .ref (ad 27)), (1, .int x)] := hl
  refine r_iload_n h d_Mo_waiting_0 rfl (lv_at hl 1 rfl) ?_
  refine r_callSi h (n := 1) (As := [.int x]) (c_Mo_isReplica l D cA cR ad hI V x) g_Mo_78 (by decide +kernel) rfl ⟨by decide, by decide⟩ hl rfl (Nat.le_of_ble_eq_true rfl) d_Mo_waiting_1 ?_
  refine r_if_eq_t h 16 d_Mo_waiting_4 (by decide) (z_B_0.mpr hb) ?_
  refine r_iconst h (v := (-1)) d_Mo_waiting_16 (by decide) ?_
  exact r_iret h hM d_Mo_waiting_17 rfl rfl
set_option maxHeartbeats 4000000 in
set_option maxRecDepth 100000 in
theorem c_Mo_message_b (l : Launch) (D : va_G) (cA cR : ClassId) (ad : Nat → Nat) (hI : wI ad) (V : Nat → Nat → Int32) (x : Int32) (hb : z_bad x) (i0 : Int32) : wM l D cA cR ad y_Mo_message (Cond.code y_Mo_message b_Mo_message 3 (some .int) :: wAl) 1 20 [.ref (ad 27), .int x, .int i0] V (some (.int (-1))) V := by
  refine wM_of hI (by decide) (Nat.le_of_ble_eq_true rfl) ?_
  intro X ls h hM hl
  have hl : lv_has ls 3 [(0, .ref (ad 27)), (1, .int x), (2, .int i0)] := hl
  refine r_iload_n h d_Mo_message_0 rfl (lv_at hl 1 rfl) ?_
  refine r_callSi h (n := 1) (As := [.int x]) (c_Mo_isReplica l D cA cR ad hI V x) g_Mo_78 (by decide +kernel) rfl ⟨by decide, by decide⟩ hl rfl (Nat.le_of_ble_eq_true rfl) d_Mo_message_1 ?_
  refine r_if_ne_f h 11 d_Mo_message_4 (by decide) (z_B_0.mpr hb) ?_
  refine r_iconst h (v := (-1)) d_Mo_message_7 (by decide) ?_
  refine r_goto h 41 d_Mo_message_8 (by decide) ?_
  exact r_iret h hM d_Mo_message_41 rfl rfl
set_option maxHeartbeats 4000000 in
set_option maxRecDepth 100000 in
theorem c_Mo_insert_b (l : Launch) (D : va_G) (cA cR : ClassId) (ad : Nat → Nat) (hI : wI ad) (V : Nat → Nat → Int32) (x : Int32) (hb : z_bad x) (i0 : Int32) (i1 : Int32) : wM l D cA cR ad y_Mo_insert (Cond.code y_Mo_insert b_Mo_insert 10 (some .int) :: wAl) 3 71 [.ref (ad 27), .int x, .int i0, .int i1] V (some (.int (-1))) V := by
  refine wM_of hI (by decide) (Nat.le_of_ble_eq_true rfl) ?_
  intro X ls h hM hl
  have hl : lv_has ls 10 [(0, .ref (ad 27)), (1, .int x), (2, .int i0), (3, .int i1)] := hl
  refine r_iload_n h d_Mo_insert_0 rfl (lv_at hl 1 rfl) ?_
  refine r_callSi h (n := 1) (As := [.int x]) (c_Mo_isReplica l D cA cR ad hI V x) g_Mo_78 (by decide +kernel) rfl ⟨by decide, by decide⟩ hl rfl (Nat.le_of_ble_eq_true rfl) d_Mo_insert_1 ?_
  refine r_if_eq_t h 22 d_Mo_insert_4 (by decide) (z_B_0.mpr hb) ?_
  refine r_iconst h (v := (-1)) d_Mo_insert_22 (by decide) ?_
  exact r_iret h hM d_Mo_insert_23 rfl rfl
set_option maxHeartbeats 4000000 in
set_option maxRecDepth 100000 in
theorem c_Mo_erase_b (l : Launch) (D : va_G) (cA cR : ClassId) (ad : Nat → Nat) (hI : wI ad) (V : Nat → Nat → Int32) (x : Int32) (hb : z_bad x) (i0 : Int32) : wM l D cA cR ad y_Mo_erase (Cond.code y_Mo_erase b_Mo_erase 4 (some .int) :: wAl) 2 48 [.ref (ad 27), .int x, .int i0] V (some (.int (-1))) V := by
  refine wM_of hI (by decide) (Nat.le_of_ble_eq_true rfl) ?_
  intro X ls h hM hl
  have hl : lv_has ls 4 [(0, .ref (ad 27)), (1, .int x), (2, .int i0)] := hl
  refine r_iload_n h d_Mo_erase_0 rfl (lv_at hl 1 rfl) ?_
  refine r_callSi h (n := 1) (As := [.int x]) (c_Mo_isReplica l D cA cR ad hI V x) g_Mo_78 (by decide +kernel) rfl ⟨by decide, by decide⟩ hl rfl (Nat.le_of_ble_eq_true rfl) d_Mo_erase_1 ?_
  refine r_if_eq_t h 22 d_Mo_erase_4 (by decide) (z_B_0.mpr hb) ?_
  refine r_iconst h (v := (-1)) d_Mo_erase_22 (by decide) ?_
  exact r_iret h hM d_Mo_erase_23 rfl rfl
set_option maxHeartbeats 4000000 in
set_option maxRecDepth 100000 in
theorem c_Mo_deliver_b (l : Launch) (D : va_G) (cA cR : ClassId) (ad : Nat → Nat) (hI : wI ad) (V : Nat → Nat → Int32) (x : Int32) (hb : z_bad x) (i0 : Int32) : wM l D cA cR ad y_Mo_deliver (Cond.code y_Mo_deliver b_Mo_deliver 5 (some .int) :: wAl) 4 90 [.ref (ad 27), .int x, .int i0] V (some (.int (-1))) V := by
  refine wM_of hI (by decide) (Nat.le_of_ble_eq_true rfl) ?_
  intro X ls h hM hl
  have hl : lv_has ls 5 [(0, .ref (ad 27)), (1, .int x), (2, .int i0)] := hl
  refine r_iload_n h d_Mo_deliver_0 rfl (lv_at hl 1 rfl) ?_
  refine r_callSi h (n := 1) (As := [.int x]) (c_Mo_isReplica l D cA cR ad hI V x) g_Mo_78 (by decide +kernel) rfl ⟨by decide, by decide⟩ hl rfl (Nat.le_of_ble_eq_true rfl) d_Mo_deliver_1 ?_
  refine r_if_eq_t h 21 d_Mo_deliver_4 (by decide) (z_B_0.mpr hb) ?_
  refine r_iconst h (v := (-1)) d_Mo_deliver_21 (by decide) ?_
  exact r_iret h hM d_Mo_deliver_22 rfl rfl
set_option maxHeartbeats 4000000 in
set_option maxRecDepth 100000 in
theorem c_Mo_differ_b (l : Launch) (D : va_G) (cA cR : ClassId) (ad : Nat → Nat) (hI : wI ad) (V : Nat → Nat → Int32) (x : Int32) (hb : z_bad x) (i0 : Int32) : wM l D cA cR ad y_Mo_differ (Cond.code y_Mo_differ b_Mo_differ 6 (some .int) :: wAl) 2 48 [.ref (ad 27), .int x, .int i0] V (some (.int (-1))) V := by
  refine wM_of hI (by decide) (Nat.le_of_ble_eq_true rfl) ?_
  intro X ls h hM hl
  have hl : lv_has ls 6 [(0, .ref (ad 27)), (1, .int x), (2, .int i0)] := hl
  refine r_iload_n h d_Mo_differ_0 rfl (lv_at hl 1 rfl) ?_
  refine r_callSi h (n := 1) (As := [.int x]) (c_Mo_isReplica l D cA cR ad hI V x) g_Mo_78 (by decide +kernel) rfl ⟨by decide, by decide⟩ hl rfl (Nat.le_of_ble_eq_true rfl) d_Mo_differ_1 ?_
  refine r_if_eq_t h 14 d_Mo_differ_4 (by decide) (z_B_0.mpr hb) ?_
  refine r_iconst h (v := (-1)) d_Mo_differ_14 (by decide) ?_
  exact r_iret h hM d_Mo_differ_15 rfl rfl
set_option maxHeartbeats 4000000 in
set_option maxRecDepth 100000 in
theorem c_Mo_length (l : Launch) (D : va_G) (cA cR : ClassId) (ad : Nat → Nat) (hI : wI ad) (V : Nat → Nat → Int32) (r : Nat) (hr : r < 3) (n : Nat) (hK : mK V n) : wM l D cA cR ad y_Mo_length (Cond.code y_Mo_length b_Mo_length 2 (some .int) :: wAl) 2 47 [.ref (ad 27), .int (nI r)] V (some (.int (nI (mCnt V n r 1 1)))) V := by
  refine wM_of hI (by decide) (Nat.le_of_ble_eq_true rfl) ?_
  intro X ls h hM hl
  have hl : lv_has ls 2 [(0, .ref (ad 27)), (1, .int (nI r))] := hl
  obtain ⟨hn, hle, hod, hpa, hro⟩ := id hK
  refine r_iload_n h d_Mo_length_0 rfl (lv_at hl 1 rfl) ?_
  refine r_callSi h (n := 1) (As := [.int (nI r)]) (c_Mo_isReplica l D cA cR ad hI V (nI r)) g_Mo_78 (by decide +kernel) rfl ⟨by decide, by decide⟩ hl rfl (Nat.le_of_ble_eq_true rfl) d_Mo_length_1 ?_
  refine r_if_eq_f h 17 d_Mo_length_4 (by decide) (z_B_n.mpr (z_rep hr)) ?_
  refine r_aload_n h d_Mo_length_7 rfl (lv_at hl 0 rfl) ?_
  refine r_iload_n h d_Mo_length_8 rfl (lv_at hl 1 rfl) ?_
  refine r_iconst h (v := 1) d_Mo_length_9 (by decide) ?_
  refine r_iconst h (v := 1) d_Mo_length_10 (by decide) ?_
  refine r_callVi h (k := 27) (n := 3) (As := [.int (nI r), .int 1, .int 1]) (c_Mo_many l D cA cR ad hI V 1 1 r hr n hn hle) g_Mo_85 (by decide +kernel) rfl ⟨by decide, by decide⟩ (by decide) rfl rfl hl rfl (Nat.le_of_ble_eq_true rfl) d_Mo_length_11 ?_
  refine r_goto h 18 d_Mo_length_14 (by decide) ?_
  exact r_iret h hM d_Mo_length_18 rfl rfl
set_option maxHeartbeats 4000000 in
set_option maxRecDepth 100000 in
theorem c_Mo_shown (l : Launch) (D : va_G) (cA cR : ClassId) (ad : Nat → Nat) (hI : wI ad) (V : Nat → Nat → Int32) (i : Int32) (r : Nat) (hr : r < 3) (n : Nat) (hK : mK V n) : wM l D cA cR ad y_Mo_shown (Cond.code y_Mo_shown b_Mo_shown 3 (some .int) :: wAl) 2 48 [.ref (ad 27), .int (nI r), .int i] V (some (.int (mNth V n r i true))) V := by
  refine wM_of hI (by decide) (Nat.le_of_ble_eq_true rfl) ?_
  intro X ls h hM hl
  have hl : lv_has ls 3 [(0, .ref (ad 27)), (1, .int (nI r)), (2, .int i)] := hl
  refine r_iload_n h d_Mo_shown_0 rfl (lv_at hl 1 rfl) ?_
  refine r_callSi h (n := 1) (As := [.int (nI r)]) (c_Mo_isReplica l D cA cR ad hI V (nI r)) g_Mo_78 (by decide +kernel) rfl ⟨by decide, by decide⟩ hl rfl (Nat.le_of_ble_eq_true rfl) d_Mo_shown_1 ?_
  refine r_if_eq_f h 17 d_Mo_shown_4 (by decide) (z_B_n.mpr (z_rep hr)) ?_
  refine r_aload_n h d_Mo_shown_7 rfl (lv_at hl 0 rfl) ?_
  refine r_iload_n h d_Mo_shown_8 rfl (lv_at hl 1 rfl) ?_
  refine r_iload_n h d_Mo_shown_9 rfl (lv_at hl 2 rfl) ?_
  refine r_iconst h (v := 1) d_Mo_shown_10 (by decide) ?_
  refine r_callVi h (k := 27) (n := 3) (As := [.int (nI r), .int i, .int 1]) (c_Mo_nth l D cA cR ad hI V i 1 true (by decide) r hr n hK) g_Mo_92 (by decide +kernel) rfl ⟨by decide, by decide⟩ (by decide) rfl rfl hl rfl (Nat.le_of_ble_eq_true rfl) d_Mo_shown_11 ?_
  refine r_goto h 18 d_Mo_shown_14 (by decide) ?_
  exact r_iret h hM d_Mo_shown_18 rfl rfl
set_option maxHeartbeats 4000000 in
set_option maxRecDepth 100000 in
theorem c_Mo_ordered (l : Launch) (D : va_G) (cA cR : ClassId) (ad : Nat → Nat) (hI : wI ad) (V : Nat → Nat → Int32) (i : Int32) (r : Nat) (hr : r < 3) (n : Nat) (hK : mK V n) : wM l D cA cR ad y_Mo_ordered (Cond.code y_Mo_ordered b_Mo_ordered 3 (some .int) :: wAl) 2 48 [.ref (ad 27), .int (nI r), .int i] V (some (.int (mNth V n r i false))) V := by
  refine wM_of hI (by decide) (Nat.le_of_ble_eq_true rfl) ?_
  intro X ls h hM hl
  have hl : lv_has ls 3 [(0, .ref (ad 27)), (1, .int (nI r)), (2, .int i)] := hl
  refine r_iload_n h d_Mo_ordered_0 rfl (lv_at hl 1 rfl) ?_
  refine r_callSi h (n := 1) (As := [.int (nI r)]) (c_Mo_isReplica l D cA cR ad hI V (nI r)) g_Mo_78 (by decide +kernel) rfl ⟨by decide, by decide⟩ hl rfl (Nat.le_of_ble_eq_true rfl) d_Mo_ordered_1 ?_
  refine r_if_eq_f h 17 d_Mo_ordered_4 (by decide) (z_B_n.mpr (z_rep hr)) ?_
  refine r_aload_n h d_Mo_ordered_7 rfl (lv_at hl 0 rfl) ?_
  refine r_iload_n h d_Mo_ordered_8 rfl (lv_at hl 1 rfl) ?_
  refine r_iload_n h d_Mo_ordered_9 rfl (lv_at hl 2 rfl) ?_
  refine r_iconst h (v := 0) d_Mo_ordered_10 (by decide) ?_
  refine r_callVi h (k := 27) (n := 3) (As := [.int (nI r), .int i, .int 0]) (c_Mo_nth l D cA cR ad hI V i 0 false (by decide) r hr n hK) g_Mo_92 (by decide +kernel) rfl ⟨by decide, by decide⟩ (by decide) rfl rfl hl rfl (Nat.le_of_ble_eq_true rfl) d_Mo_ordered_11 ?_
  refine r_goto h 18 d_Mo_ordered_14 (by decide) ?_
  exact r_iret h hM d_Mo_ordered_18 rfl rfl
set_option maxHeartbeats 4000000 in
set_option maxRecDepth 100000 in
theorem c_Mo_known (l : Launch) (D : va_G) (cA cR : ClassId) (ad : Nat → Nat) (hI : wI ad) (V : Nat → Nat → Int32) (r : Nat) (hr : r < 3) (n : Nat) (hK : mK V n) : wM l D cA cR ad y_Mo_known (Cond.code y_Mo_known b_Mo_known 2 (some .int) :: wAl) 2 47 [.ref (ad 27), .int (nI r)] V (some (.int (nI (mCnt V n r 1 2)))) V := by
  refine wM_of hI (by decide) (Nat.le_of_ble_eq_true rfl) ?_
  intro X ls h hM hl
  have hl : lv_has ls 2 [(0, .ref (ad 27)), (1, .int (nI r))] := hl
  obtain ⟨hn, hle, hod, hpa, hro⟩ := id hK
  refine r_iload_n h d_Mo_known_0 rfl (lv_at hl 1 rfl) ?_
  refine r_callSi h (n := 1) (As := [.int (nI r)]) (c_Mo_isReplica l D cA cR ad hI V (nI r)) g_Mo_78 (by decide +kernel) rfl ⟨by decide, by decide⟩ hl rfl (Nat.le_of_ble_eq_true rfl) d_Mo_known_1 ?_
  refine r_if_eq_f h 17 d_Mo_known_4 (by decide) (z_B_n.mpr (z_rep hr)) ?_
  refine r_aload_n h d_Mo_known_7 rfl (lv_at hl 0 rfl) ?_
  refine r_iload_n h d_Mo_known_8 rfl (lv_at hl 1 rfl) ?_
  refine r_iconst h (v := 1) d_Mo_known_9 (by decide) ?_
  refine r_iconst h (v := 2) d_Mo_known_10 (by decide) ?_
  refine r_callVi h (k := 27) (n := 3) (As := [.int (nI r), .int 1, .int 2]) (c_Mo_many l D cA cR ad hI V 1 2 r hr n hn hle) g_Mo_85 (by decide +kernel) rfl ⟨by decide, by decide⟩ (by decide) rfl rfl hl rfl (Nat.le_of_ble_eq_true rfl) d_Mo_known_11 ?_
  refine r_goto h 18 d_Mo_known_14 (by decide) ?_
  exact r_iret h hM d_Mo_known_18 rfl rfl
set_option maxHeartbeats 4000000 in
set_option maxRecDepth 100000 in
theorem c_Mo_state (l : Launch) (D : va_G) (cA cR : ClassId) (ad : Nat → Nat) (hI : wI ad) (V : Nat → Nat → Int32) (e : Int32) (r : Nat) (hr : r < 3) (n : Nat) (hK : mK V n) : wM l D cA cR ad y_Mo_state (Cond.code y_Mo_state b_Mo_state 3 (some .int) :: wAl) 1 22 [.ref (ad 27), .int (nI r), .int e] V (some (.int (if (decide (0 ≤ e) && decide (e < V 27 0)) = true then V 34 (30 * r + e.toNatClampNeg) else 0))) V := by
  refine wM_of hI (by decide) (Nat.le_of_ble_eq_true rfl) ?_
  intro X ls h hM hl
  have hl : lv_has ls 3 [(0, .ref (ad 27)), (1, .int (nI r)), (2, .int e)] := hl
  obtain ⟨hn, hle, hod, hpa, hro⟩ := id hK
  refine r_iload_n h d_Mo_state_0 rfl (lv_at hl 1 rfl) ?_
  refine r_callSi h (n := 1) (As := [.int (nI r)]) (c_Mo_isReplica l D cA cR ad hI V (nI r)) g_Mo_78 (by decide +kernel) rfl ⟨by decide, by decide⟩ hl rfl (Nat.le_of_ble_eq_true rfl) d_Mo_state_1 ?_
  refine r_if_ne_t h 11 d_Mo_state_4 (by decide) (z_B_n.mpr (z_rep hr)) ?_
  refine r_aload_n h d_Mo_state_11 rfl (lv_at hl 0 rfl) ?_
  refine r_iload_n h d_Mo_state_12 rfl (lv_at hl 2 rfl) ?_
  refine r_callVi h (k := 27) (n := 1) (As := [.int e]) (c_Mo_isElement l D cA cR ad hI V e) g_Mo_108 (by decide +kernel) rfl ⟨by decide, by decide⟩ (by decide) rfl rfl hl rfl (Nat.le_of_ble_eq_true rfl) d_Mo_state_13 ?_
  refine r_if_eq h 28 d_Mo_state_16 (by decide) (fun c16 => ?_) (fun c16 => ?_)
  · skip
    refine r_iconst h (v := 0) d_Mo_state_28 (by decide) ?_
    exact r_iret h hM d_Mo_state_29 (rI (by rw [if_neg (by rw [z_B_0.mp c16]; decide)])) rfl
  · skip
    obtain ⟨a, ha, rfl⟩ := z_has hn (by omega) (z_B_n.mp c16)
    refine r_aload_n h d_Mo_state_19 rfl (lv_at hl 0 rfl) ?_
    refine r_iload_n h d_Mo_state_20 rfl (lv_at hl 1 rfl) ?_
    refine r_iload_n h d_Mo_state_21 rfl (lv_at hl 2 rfl) ?_
    refine r_callVi h (k := 27) (n := 2) (As := [.int (nI r), .int (nI a)]) (c_Mo_state0 l D cA cR ad hI V a (by omega) r hr) g_Mo_64 (by decide +kernel) rfl ⟨by decide, by decide⟩ (by decide) rfl rfl hl rfl (Nat.le_of_ble_eq_true rfl) d_Mo_state_22 ?_
    refine r_goto h 29 d_Mo_state_25 (by decide) ?_
    exact r_iret h hM d_Mo_state_29 (rI (by rw [if_pos (z_B_n.mp c16), nI_clamp (by omega)])) rfl
set_option maxHeartbeats 4000000 in
set_option maxRecDepth 100000 in
theorem c_Mo_tray (l : Launch) (D : va_G) (cA cR : ClassId) (ad : Nat → Nat) (hI : wI ad) (V : Nat → Nat → Int32) (r : Nat) (hr : r < 3) : wM l D cA cR ad y_Mo_tray (Cond.code y_Mo_tray b_Mo_tray 2 (some .int) :: wAl) 1 20 [.ref (ad 27), .int (nI r)] V (some (.int (V 36 r))) V := by
  refine wM_of hI (by decide) (Nat.le_of_ble_eq_true rfl) ?_
  intro X ls h hM hl
  have hl : lv_has ls 2 [(0, .ref (ad 27)), (1, .int (nI r))] := hl
  refine r_iload_n h d_Mo_tray_0 rfl (lv_at hl 1 rfl) ?_
  refine r_callSi h (n := 1) (As := [.int (nI r)]) (c_Mo_isReplica l D cA cR ad hI V (nI r)) g_Mo_78 (by decide +kernel) rfl ⟨by decide, by decide⟩ hl rfl (Nat.le_of_ble_eq_true rfl) d_Mo_tray_1 ?_
  refine r_if_eq_f h 16 d_Mo_tray_4 (by decide) (z_B_n.mpr (z_rep hr)) ?_
  refine r_aload_n h d_Mo_tray_7 rfl (lv_at hl 0 rfl) ?_
  refine r_get h (k := 27) (j := 9) (by decide) rfl rfl iw_Mo (by decide) lk_Mo_34 rfl rfl d_Mo_tray_8 ?_
  refine r_iload_n h d_Mo_tray_11 rfl (lv_at hl 1 rfl) ?_
  refine r_ialdN h (k := 36) (i := r) (by decide) rfl (by omega) (by omega) d_Mo_tray_12 ?_
  refine r_goto h 17 d_Mo_tray_13 (by decide) ?_
  exact r_iret h hM d_Mo_tray_17 rfl rfl
set_option maxHeartbeats 4000000 in
set_option maxRecDepth 100000 in
theorem c_Mo_waiting (l : Launch) (D : va_G) (cA cR : ClassId) (ad : Nat → Nat) (hI : wI ad) (V : Nat → Nat → Int32) (r : Nat) (hr : r < 3) : wM l D cA cR ad y_Mo_waiting (Cond.code y_Mo_waiting b_Mo_waiting 2 (some .int) :: wAl) 1 20 [.ref (ad 27), .int (nI r)] V (some (.int (V 38 r))) V := by
  refine wM_of hI (by decide) (Nat.le_of_ble_eq_true rfl) ?_
  intro X ls h hM hl
  have hl : lv_has ls 2 [(0, .ref (ad 27)), (1, .int (nI r))] := hl
  refine r_iload_n h d_Mo_waiting_0 rfl (lv_at hl 1 rfl) ?_
  refine r_callSi h (n := 1) (As := [.int (nI r)]) (c_Mo_isReplica l D cA cR ad hI V (nI r)) g_Mo_78 (by decide +kernel) rfl ⟨by decide, by decide⟩ hl rfl (Nat.le_of_ble_eq_true rfl) d_Mo_waiting_1 ?_
  refine r_if_eq_f h 16 d_Mo_waiting_4 (by decide) (z_B_n.mpr (z_rep hr)) ?_
  refine r_aload_n h d_Mo_waiting_7 rfl (lv_at hl 0 rfl) ?_
  refine r_get h (k := 27) (j := 11) (by decide) rfl rfl iw_Mo (by decide) lk_Mo_40 rfl rfl d_Mo_waiting_8 ?_
  refine r_iload_n h d_Mo_waiting_11 rfl (lv_at hl 1 rfl) ?_
  refine r_ialdN h (k := 38) (i := r) (by decide) rfl (by omega) (by omega) d_Mo_waiting_12 ?_
  refine r_goto h 17 d_Mo_waiting_13 (by decide) ?_
  exact r_iret h hM d_Mo_waiting_17 rfl rfl
set_option maxHeartbeats 4000000 in
set_option maxRecDepth 100000 in
theorem c_Mo_message (l : Launch) (D : va_G) (cA cR : ClassId) (ad : Nat → Nat) (hI : wI ad) (V : Nat → Nat → Int32) (k : Int32) (r : Nat) (hr : r < 3) (s : Nat) (hs : V 36 r = nI s) (hs5 : s ≤ 50) : wM l D cA cR ad y_Mo_message (Cond.code y_Mo_message b_Mo_message 3 (some .int) :: wAl) 1 20 [.ref (ad 27), .int (nI r), .int k] V (some (.int (if (decide (0 ≤ k) && decide (k < V 36 r)) = true then V 35 (90 * r + k.toNatClampNeg) else -3))) V := by
  refine wM_of hI (by decide) (Nat.le_of_ble_eq_true rfl) ?_
  intro X ls h hM hl
  have hl : lv_has ls 3 [(0, .ref (ad 27)), (1, .int (nI r)), (2, .int k)] := hl
  refine r_iload_n h d_Mo_message_0 rfl (lv_at hl 1 rfl) ?_
  refine r_callSi h (n := 1) (As := [.int (nI r)]) (c_Mo_isReplica l D cA cR ad hI V (nI r)) g_Mo_78 (by decide +kernel) rfl ⟨by decide, by decide⟩ hl rfl (Nat.le_of_ble_eq_true rfl) d_Mo_message_1 ?_
  refine r_if_ne_t h 11 d_Mo_message_4 (by decide) (z_B_n.mpr (z_rep hr)) ?_
  refine r_iload_n h d_Mo_message_11 rfl (lv_at hl 2 rfl) ?_
  refine r_if_lt h 25 d_Mo_message_12 (by decide) (fun c12 => ?_) (fun c12 => ?_)
  · skip
    refine r_bipush h (v := (-3)) d_Mo_message_25 (by decide) ?_
    refine r_goto h 41 d_Mo_message_27 (by decide) ?_
    exact r_iret h hM d_Mo_message_41 (rI (by rw [if_neg (by rw [decide_eq_false (Int32.not_le.mpr c12)]; exact fun q => by cases q)])) rfl
  · skip
    refine r_iload_n h d_Mo_message_15 rfl (lv_at hl 2 rfl) ?_
    refine r_aload_n h d_Mo_message_16 rfl (lv_at hl 0 rfl) ?_
    refine r_get h (k := 27) (j := 9) (by decide) rfl rfl iw_Mo (by decide) lk_Mo_34 rfl rfl d_Mo_message_17 ?_
    refine r_iload_n h d_Mo_message_20 rfl (lv_at hl 1 rfl) ?_
    refine r_ialdN h (k := 36) (i := r) (by decide) rfl (by omega) (by omega) d_Mo_message_21 ?_
    refine r_icmp_lt h 30 d_Mo_message_22 (by decide) (fun c22 => ?_) (fun c22 => ?_)
    · skip
      have hh : (decide (0 ≤ k) && decide (k < V 36 r)) = true := by rw [decide_eq_true c12, decide_eq_true c22]; rfl
      obtain ⟨a, ha, rfl⟩ := z_has hs (by omega) hh
      refine r_aload_n h d_Mo_message_30 rfl (lv_at hl 0 rfl) ?_
      refine r_get h (k := 27) (j := 8) (by decide) rfl rfl iw_Mo (by decide) lk_Mo_31 rfl rfl d_Mo_message_31 ?_
      refine r_bipush h (v := 90) d_Mo_message_34 (by decide) ?_
      refine r_iload_n h d_Mo_message_36 rfl (lv_at hl 1 rfl) ?_
      refine r_imul h d_Mo_message_37 ?_
      refine r_top (nI (90 * r)) (pk_mul 90 r) ?_
      refine r_iload_n h d_Mo_message_38 rfl (lv_at hl 2 rfl) ?_
      refine r_iadd h d_Mo_message_39 ?_
      refine r_top (nI (90 * r + a)) (nI_add _ _) ?_
      refine r_ialdN h (k := 35) (i := (90 * r + a)) (by decide) rfl (by omega) (by omega) d_Mo_message_40 ?_
      exact r_iret h hM d_Mo_message_41 (rI (by rw [if_pos hh, nI_clamp (by omega)])) rfl
    · skip
      refine r_bipush h (v := (-3)) d_Mo_message_25 (by decide) ?_
      refine r_goto h 41 d_Mo_message_27 (by decide) ?_
      exact r_iret h hM d_Mo_message_41 (rI (by rw [if_neg (by rw [decide_eq_false (Int32.not_lt.mpr c22), Bool.and_false]; exact fun q => by cases q)])) rfl
set_option maxHeartbeats 4000000 in
set_option maxRecDepth 100000 in
theorem c_Mo_made (l : Launch) (D : va_G) (cA cR : ClassId) (ad : Nat → Nat) (hI : wI ad) (V : Nat → Nat → Int32)  : wM l D cA cR ad y_Mo_made (Cond.code y_Mo_made b_Mo_made 1 (some .int) :: wAl) 0 0 [.ref (ad 27)] V (some (.int (V 27 0))) V := by
  refine wM_of hI (by decide) (Nat.le_of_ble_eq_true rfl) ?_
  intro X ls h hM hl
  have hl : lv_has ls 1 [(0, .ref (ad 27))] := hl
  refine r_aload_n h d_Mo_made_0 rfl (lv_at hl 0 rfl) ?_
  refine r_get h (k := 27) (j := 0) (by decide) rfl rfl iw_Mo (by decide) lk_Mo_43 rfl rfl d_Mo_made_1 ?_
  exact r_iret h hM d_Mo_made_4 rfl rfl
set_option maxHeartbeats 4000000 in
set_option maxRecDepth 100000 in
theorem c_Mo_about (l : Launch) (D : va_G) (cA cR : ClassId) (ad : Nat → Nat) (hI : wI ad) (V : Nat → Nat → Int32) (e w : Int32) (n : Nat) (hK : mK V n) : wM l D cA cR ad y_Mo_about (Cond.code y_Mo_about b_Mo_about 3 (some .int) :: wAl) 1 21 [.ref (ad 27), .int e, .int w] V (some (.int (if (decide (0 ≤ e) && decide (e < V 27 0)) = true then mAbt V e w else -3))) V := by
  refine wM_of hI (by decide) (Nat.le_of_ble_eq_true rfl) ?_
  intro X ls h hM hl
  have hl : lv_has ls 3 [(0, .ref (ad 27)), (1, .int e), (2, .int w)] := hl
  obtain ⟨hn, hle, hod, hpa, hro⟩ := id hK
  refine r_aload_n h d_Mo_about_0 rfl (lv_at hl 0 rfl) ?_
  refine r_iload_n h d_Mo_about_1 rfl (lv_at hl 1 rfl) ?_
  refine r_callVi h (k := 27) (n := 1) (As := [.int e]) (c_Mo_isElement l D cA cR ad hI V e) g_Mo_108 (by decide +kernel) rfl ⟨by decide, by decide⟩ (by decide) rfl rfl hl rfl (Nat.le_of_ble_eq_true rfl) d_Mo_about_2 ?_
  refine r_if_ne h 11 d_Mo_about_5 (by decide) (fun c5 => ?_) (fun c5 => ?_)
  · skip
    refine r_iload_n h d_Mo_about_11 rfl (lv_at hl 2 rfl) ?_
    by_cases h0 : w = 0
    · subst h0
      refine r_tabIn h 48 d_Mo_about_12 (by decide) (by decide) rfl (by decide) ?_
      refine r_aload_n h d_Mo_about_48 rfl (lv_at hl 0 rfl) ?_
      refine r_get h (k := 27) (j := 1) (by decide) rfl rfl iw_Mo (by decide) lk_Mo_7 rfl rfl d_Mo_about_49 ?_
      refine r_iload_n h d_Mo_about_52 rfl (lv_at hl 1 rfl) ?_
      refine r_iald h (k := 28) (i := e) (by decide) rfl (by obtain ⟨a, a1, a2⟩ := z_has hn (by omega) (z_B_n.mp c5); rw [a2]; exact vp_in_nI (by omega) (by omega)) d_Mo_about_53 ?_
      exact r_iret h hM d_Mo_about_54 (rI (by rw [if_pos (z_B_n.mp c5)]; rfl)) rfl
    by_cases h1 : w = 1
    · subst h1
      refine r_tabIn h 55 d_Mo_about_12 (by decide) (by decide) rfl (by decide) ?_
      refine r_aload_n h d_Mo_about_55 rfl (lv_at hl 0 rfl) ?_
      refine r_get h (k := 27) (j := 2) (by decide) rfl rfl iw_Mo (by decide) lk_Mo_13 rfl rfl d_Mo_about_56 ?_
      refine r_iload_n h d_Mo_about_59 rfl (lv_at hl 1 rfl) ?_
      refine r_iald h (k := 29) (i := e) (by decide) rfl (by obtain ⟨a, a1, a2⟩ := z_has hn (by omega) (z_B_n.mp c5); rw [a2]; exact vp_in_nI (by omega) (by omega)) d_Mo_about_60 ?_
      exact r_iret h hM d_Mo_about_61 (rI (by rw [if_pos (z_B_n.mp c5)]; rfl)) rfl
    by_cases h2 : w = 2
    · subst h2
      refine r_tabIn h 62 d_Mo_about_12 (by decide) (by decide) rfl (by decide) ?_
      refine r_aload_n h d_Mo_about_62 rfl (lv_at hl 0 rfl) ?_
      refine r_get h (k := 27) (j := 3) (by decide) rfl rfl iw_Mo (by decide) lk_Mo_16 rfl rfl d_Mo_about_63 ?_
      refine r_iload_n h d_Mo_about_66 rfl (lv_at hl 1 rfl) ?_
      refine r_iald h (k := 30) (i := e) (by decide) rfl (by obtain ⟨a, a1, a2⟩ := z_has hn (by omega) (z_B_n.mp c5); rw [a2]; exact vp_in_nI (by omega) (by omega)) d_Mo_about_67 ?_
      exact r_iret h hM d_Mo_about_68 (rI (by rw [if_pos (z_B_n.mp c5)]; rfl)) rfl
    by_cases h3 : w = 3
    · subst h3
      refine r_tabIn h 69 d_Mo_about_12 (by decide) (by decide) rfl (by decide) ?_
      refine r_aload_n h d_Mo_about_69 rfl (lv_at hl 0 rfl) ?_
      refine r_get h (k := 27) (j := 4) (by decide) rfl rfl iw_Mo (by decide) lk_Mo_19 rfl rfl d_Mo_about_70 ?_
      refine r_iload_n h d_Mo_about_73 rfl (lv_at hl 1 rfl) ?_
      refine r_iald h (k := 31) (i := e) (by decide) rfl (by obtain ⟨a, a1, a2⟩ := z_has hn (by omega) (z_B_n.mp c5); rw [a2]; exact vp_in_nI (by omega) (by omega)) d_Mo_about_74 ?_
      exact r_iret h hM d_Mo_about_75 (rI (by rw [if_pos (z_B_n.mp c5)]; rfl)) rfl
    by_cases h4 : w = 4
    · subst h4
      refine r_tabIn h 76 d_Mo_about_12 (by decide) (by decide) rfl (by decide) ?_
      refine r_aload_n h d_Mo_about_76 rfl (lv_at hl 0 rfl) ?_
      refine r_get h (k := 27) (j := 5) (by decide) rfl rfl iw_Mo (by decide) lk_Mo_22 rfl rfl d_Mo_about_77 ?_
      refine r_iload_n h d_Mo_about_80 rfl (lv_at hl 1 rfl) ?_
      refine r_iald h (k := 32) (i := e) (by decide) rfl (by obtain ⟨a, a1, a2⟩ := z_has hn (by omega) (z_B_n.mp c5); rw [a2]; exact vp_in_nI (by omega) (by omega)) d_Mo_about_81 ?_
      exact r_iret h hM d_Mo_about_82 (rI (by rw [if_pos (z_B_n.mp c5)]; rfl)) rfl
    refine r_tabOut h 83 d_Mo_about_12 (z_not5 h0 h1 h2 h3 h4) (by decide) ?_
    refine r_bipush h (v := (-3)) d_Mo_about_83 (by decide) ?_
    exact r_iret h hM d_Mo_about_85 (rI (by rw [if_pos (z_B_n.mp c5)]; unfold mAbt; rw [if_neg h0, if_neg h1, if_neg h2, if_neg h3, if_neg h4])) rfl
  · skip
    refine r_bipush h (v := (-3)) d_Mo_about_8 (by decide) ?_
    exact r_iret h hM d_Mo_about_10 (rI (by rw [if_neg (by rw [z_B_0.mp c5]; decide)])) rfl
set_option maxHeartbeats 4000000 in
set_option maxRecDepth 100000 in
theorem c_Mo_depth (l : Launch) (D : va_G) (cA cR : ClassId) (ad : Nat → Nat) (hI : wI ad) (V : Nat → Nat → Int32) (e : Int32) (n : Nat) (hK : mK V n) : wM l D cA cR ad y_Mo_depth (Cond.code y_Mo_depth b_Mo_depth 4 (some .int) :: wAl) 1 21 [.ref (ad 27), .int e] V (some (.int (if (decide (0 ≤ e) && decide (e < V 27 0)) = true then nI (z_abv (V 30) 31 (V 30 e.toNatClampNeg) 0) else -3))) V := by
  refine wM_of hI (by decide) (Nat.le_of_ble_eq_true rfl) ?_
  intro X ls h hM hl
  have hl : lv_has ls 4 [(0, .ref (ad 27)), (1, .int e)] := hl
  obtain ⟨hn, hle, hod, hpa, hro⟩ := id hK
  refine r_aload_n h d_Mo_depth_0 rfl (lv_at hl 0 rfl) ?_
  refine r_iload_n h d_Mo_depth_1 rfl (lv_at hl 1 rfl) ?_
  refine r_callVi h (k := 27) (n := 1) (As := [.int e]) (c_Mo_isElement l D cA cR ad hI V e) g_Mo_108 (by decide +kernel) rfl ⟨by decide, by decide⟩ (by decide) rfl rfl hl rfl (Nat.le_of_ble_eq_true rfl) d_Mo_depth_2 ?_
  refine r_if_ne h 11 d_Mo_depth_5 (by decide) (fun c5 => ?_) (fun c5 => ?_)
  · skip
    obtain ⟨a, ha, rfl⟩ := z_has hn (by omega) (z_B_n.mp c5)
    have loop : ∀ (k j : Nat) (y : Int32) (ls : Array Slot), z_el y n → z_nd y ≤ k → z_abv (V 30) k y j = z_abv (V 30) 31 (V 30 a) 0 → lv_has ls 4 [(3, .int y), (2, .int (nI j)), (0, .ref (ad 27)), (1, .int (nI a))] → wv X cA cR ad V 20 ls [] := by
      intro k
      induction k with
      | zero =>
        intro j y ls hy hk hz hl
        have hy1 : y = -1 := (z_el_nd hy (by omega)).2.mpr (by omega)
        refine r_iload_n h d_Mo_depth_20 rfl (lv_at hl 0 rfl) ?_
        refine r_if_lt_t h 37 d_Mo_depth_21 (by decide) (by rw [hy1]; decide) ?_
        refine r_iload_n h d_Mo_depth_37 rfl (lv_at hl 1 rfl) ?_
        exact r_iret h hM d_Mo_depth_38 (rI (by rw [if_pos (z_B_n.mp c5), nI_clamp (by omega), ← hz]; rfl)) rfl
      | succ k ih =>
        intro j y ls hy hk hz hl
        refine r_iload_n h d_Mo_depth_20 rfl (lv_at hl 0 rfl) ?_
        refine r_if_lt h 37 d_Mo_depth_21 (by decide) (fun c21 => ?_) (fun c21 => ?_)
        · skip
          refine r_iload_n h d_Mo_depth_37 rfl (lv_at hl 1 rfl) ?_
          exact r_iret h hM d_Mo_depth_38 (rI (by rw [if_pos (z_B_n.mp c5), nI_clamp (by omega), ← hz, z_el_m1 hy c21 (by omega)]; exact (congrArg nI (if_pos rfl)).symm)) rfl
        · skip
          obtain ⟨b, hb, rfl⟩ := z_el_ge hy c21
          rw [z_nd_n (by omega)] at hk
          refine r_iinc h (v := nI (j + 1)) (lv' := [(2, .int (nI (j + 1))), (3, .int (nI b)), (0, .ref (ad 27)), (1, .int (nI a))]) d_Mo_depth_24 hl (k := 1) rfl (z_inc j) (by decide) rfl (fun ls hl => ?_)
          refine r_aload_n h d_Mo_depth_27 rfl (lv_at hl 2 rfl) ?_
          refine r_get h (k := 27) (j := 3) (by decide) rfl rfl iw_Mo (by decide) lk_Mo_16 rfl rfl d_Mo_depth_28 ?_
          refine r_iload_n h d_Mo_depth_31 rfl (lv_at hl 1 rfl) ?_
          refine r_ialdN h (k := 30) (i := b) (by decide) rfl (by omega) (by omega) d_Mo_depth_32 ?_
          refine r_istore_n h (lv' := [(3, .int (V 30 b)), (2, .int (nI (j + 1))), (0, .ref (ad 27)), (1, .int (nI a))]) d_Mo_depth_33 rfl hl (by decide) rfl (fun ls hl => ?_)
          refine r_goto h 20 d_Mo_depth_34 (by decide) ?_
          exact ih (j + 1) (V 30 b) ls (z_el_mono (hpa b hb) (by omega)) (by have := (z_el_nd (hpa b hb) (by omega)).1; omega) (by rw [← hz]; show _ = (if nI b = -1 then j else z_abv (V 30) k (V 30 (nI b).toNatClampNeg) (j + 1)); rw [if_neg (z_n1 (by omega)), nI_clamp (by omega)]) hl
    refine r_iconst h (v := 0) d_Mo_depth_11 (by decide) ?_
    refine r_istore_n h (lv' := [(2, .int 0), (0, .ref (ad 27)), (1, .int (nI a))]) d_Mo_depth_12 rfl hl (by decide) rfl (fun ls hl => ?_)
    refine r_aload_n h d_Mo_depth_13 rfl (lv_at hl 1 rfl) ?_
    refine r_get h (k := 27) (j := 3) (by decide) rfl rfl iw_Mo (by decide) lk_Mo_16 rfl rfl d_Mo_depth_14 ?_
    refine r_iload_n h d_Mo_depth_17 rfl (lv_at hl 2 rfl) ?_
    refine r_ialdN h (k := 30) (i := a) (by decide) rfl (by omega) (by omega) d_Mo_depth_18 ?_
    refine r_istore_n h (lv' := [(3, .int (V 30 a)), (2, .int 0), (0, .ref (ad 27)), (1, .int (nI a))]) d_Mo_depth_19 rfl hl (by decide) rfl (fun ls hl => ?_)
    exact loop 31 0 (V 30 a) ls (z_el_mono (hpa a ha) (by omega)) (by have := (z_el_nd (hpa a ha) (by omega)).1; omega) rfl hl
  · skip
    refine r_bipush h (v := (-3)) d_Mo_depth_8 (by decide) ?_
    exact r_iret h hM d_Mo_depth_10 (rI (by rw [if_neg (by rw [z_B_0.mp c5]; decide)])) rfl
set_option maxHeartbeats 4000000 in
set_option maxRecDepth 100000 in
theorem c_Mo_differ_c (l : Launch) (D : va_G) (cA cR : ClassId) (ad : Nat → Nat) (hI : wI ad) (V : Nat → Nat → Int32) (r : Nat) (hr : r < 3) (x : Int32) (hb : z_bad x) : wM l D cA cR ad y_Mo_differ (Cond.code y_Mo_differ b_Mo_differ 6 (some .int) :: wAl) 2 48 [.ref (ad 27), .int (nI r), .int x] V (some (.int (-1))) V := by
  refine wM_of hI (by decide) (Nat.le_of_ble_eq_true rfl) ?_
  intro X ls h hM hl
  have hl : lv_has ls 6 [(0, .ref (ad 27)), (1, .int (nI r)), (2, .int x)] := hl
  refine r_iload_n h d_Mo_differ_0 rfl (lv_at hl 1 rfl) ?_
  refine r_callSi h (n := 1) (As := [.int (nI r)]) (c_Mo_isReplica l D cA cR ad hI V (nI r)) g_Mo_78 (by decide +kernel) rfl ⟨by decide, by decide⟩ hl rfl (Nat.le_of_ble_eq_true rfl) d_Mo_differ_1 ?_
  refine r_if_eq_f h 14 d_Mo_differ_4 (by decide) (z_B_n.mpr (z_rep hr)) ?_
  refine r_iload_n h d_Mo_differ_7 rfl (lv_at hl 2 rfl) ?_
  refine r_callSi h (n := 1) (As := [.int x]) (c_Mo_isReplica l D cA cR ad hI V x) g_Mo_78 (by decide +kernel) rfl ⟨by decide, by decide⟩ hl rfl (Nat.le_of_ble_eq_true rfl) d_Mo_differ_8 ?_
  refine r_if_ne_f h 16 d_Mo_differ_11 (by decide) (z_B_0.mpr hb) ?_
  refine r_iconst h (v := (-1)) d_Mo_differ_14 (by decide) ?_
  exact r_iret h hM d_Mo_differ_15 rfl rfl
set_option maxHeartbeats 4000000 in
set_option maxRecDepth 100000 in
theorem c_Mo_differ (l : Launch) (D : va_G) (cA cR : ClassId) (ad : Nat → Nat) (hI : wI ad) (V : Nat → Nat → Int32) (r : Nat) (hr : r < 3) (q : Nat) (hq : q < 3) (n : Nat) (hK : mK V n) : wM l D cA cR ad y_Mo_differ (Cond.code y_Mo_differ b_Mo_differ 6 (some .int) :: wAl) 2 48 [.ref (ad 27), .int (nI r), .int (nI q)] V (some (.int (mDf (fun p => mNth V n r (nI p) true) (fun p => mNth V n q (nI p) true) (n + 1) 0))) V := by
  refine wM_of hI (by decide) (Nat.le_of_ble_eq_true rfl) ?_
  intro X ls h hM hl
  have hl : lv_has ls 6 [(0, .ref (ad 27)), (1, .int (nI r)), (2, .int (nI q))] := hl
  obtain ⟨hn, hle, hod, hpa, hro⟩ := id hK
  have loop : ∀ (k p : Nat) (ls : Array Slot), p + k = n + 1 → mDf (fun p => mNth V n r (nI p) true) (fun p => mNth V n q (nI p) true) k p = mDf (fun p => mNth V n r (nI p) true) (fun p => mNth V n q (nI p) true) (n + 1) 0 → lv_has ls 6 [(3, .int (nI p)), (0, .ref (ad 27)), (1, .int (nI r)), (2, .int (nI q))] → wv X cA cR ad V 18 ls [] := by
    intro k
    induction k with
    | zero =>
      intro p ls hp hz hl
      refine r_iload_n h d_Mo_differ_18 rfl (lv_at hl 0 rfl) ?_
      refine r_aload_n h d_Mo_differ_19 rfl (lv_at hl 1 rfl) ?_
      refine r_get h (k := 27) (j := 0) (by decide) rfl rfl iw_Mo (by decide) lk_Mo_43 rfl rfl d_Mo_differ_20 ?_
      refine r_top (nI n) hn ?_
      refine r_icmp_gt_t h 69 d_Mo_differ_23 (by decide) (nI_lz (by omega) (by omega) (by omega)) ?_
      refine r_bipush h (v := (-3)) d_Mo_differ_69 (by decide) ?_
      exact r_iret h hM d_Mo_differ_71 (rI (by rw [← hz]; rfl)) rfl
    | succ k ih =>
      intro p ls hp hz hl
      have hd : mDf (fun p => mNth V n r (nI p) true) (fun p => mNth V n q (nI p) true) (k + 1) p = if mNth V n r (nI p) true = mNth V n q (nI p) true then (if mNth V n r (nI p) true = -3 then -3 else mDf (fun p => mNth V n r (nI p) true) (fun p => mNth V n q (nI p) true) k (p + 1)) else nI p := rfl
      refine r_iload_n h d_Mo_differ_18 rfl (lv_at hl 0 rfl) ?_
      refine r_aload_n h d_Mo_differ_19 rfl (lv_at hl 1 rfl) ?_
      refine r_get h (k := 27) (j := 0) (by decide) rfl rfl iw_Mo (by decide) lk_Mo_43 rfl rfl d_Mo_differ_20 ?_
      refine r_top (nI n) hn ?_
      refine r_icmp_gt_f h 69 d_Mo_differ_23 (by decide) (nI_sz (by omega) (by omega) (by omega)) ?_
      refine r_aload_n h d_Mo_differ_26 rfl (lv_at hl 1 rfl) ?_
      refine r_iload_n h d_Mo_differ_27 rfl (lv_at hl 2 rfl) ?_
      refine r_iload_n h d_Mo_differ_28 rfl (lv_at hl 0 rfl) ?_
      refine r_iconst h (v := 1) d_Mo_differ_29 (by decide) ?_
      refine r_callVi h (k := 27) (n := 3) (As := [.int (nI r), .int (nI p), .int 1]) (c_Mo_nth l D cA cR ad hI V (nI p) 1 true (by decide) r hr n hK) g_Mo_92 (by decide +kernel) rfl ⟨by decide, by decide⟩ (by decide) rfl rfl hl rfl (Nat.le_of_ble_eq_true rfl) d_Mo_differ_30 ?_
      refine r_istore h (lv' := [(4, .int (mNth V n r (nI p) true)), (3, .int (nI p)), (0, .ref (ad 27)), (1, .int (nI r)), (2, .int (nI q))]) d_Mo_differ_33 hl (by decide) rfl (fun ls hl => ?_)
      refine r_aload_n h d_Mo_differ_35 rfl (lv_at hl 2 rfl) ?_
      refine r_iload_n h d_Mo_differ_36 rfl (lv_at hl 4 rfl) ?_
      refine r_iload_n h d_Mo_differ_37 rfl (lv_at hl 1 rfl) ?_
      refine r_iconst h (v := 1) d_Mo_differ_38 (by decide) ?_
      refine r_callVi h (k := 27) (n := 3) (As := [.int (nI q), .int (nI p), .int 1]) (c_Mo_nth l D cA cR ad hI V (nI p) 1 true (by decide) q hq n hK) g_Mo_92 (by decide +kernel) rfl ⟨by decide, by decide⟩ (by decide) rfl rfl hl rfl (Nat.le_of_ble_eq_true rfl) d_Mo_differ_39 ?_
      refine r_istore h (lv' := [(5, .int (mNth V n q (nI p) true)), (4, .int (mNth V n r (nI p) true)), (3, .int (nI p)), (0, .ref (ad 27)), (1, .int (nI r)), (2, .int (nI q))]) d_Mo_differ_42 hl (by decide) rfl (fun ls hl => ?_)
      refine r_iload h d_Mo_differ_44 (lv_at hl 1 rfl) ?_
      refine r_iload h d_Mo_differ_46 (lv_at hl 0 rfl) ?_
      refine r_icmp_eq h 53 d_Mo_differ_48 (by decide) (fun c48 => ?_) (fun c48 => ?_)
      · skip
        refine r_iload h d_Mo_differ_53 (lv_at hl 1 rfl) ?_
        refine r_bipush h (v := (-3)) d_Mo_differ_55 (by decide) ?_
        refine r_icmp_ne h 63 d_Mo_differ_57 (by decide) (fun c57 => ?_) (fun c57 => ?_)
        · skip
          refine r_iinc h (v := nI (p + 1)) (lv' := [(3, .int (nI (p + 1))), (5, .int (mNth V n q (nI p) true)), (4, .int (mNth V n r (nI p) true)), (0, .ref (ad 27)), (1, .int (nI r)), (2, .int (nI q))]) d_Mo_differ_63 hl (k := 2) rfl (z_inc p) (by decide) rfl (fun ls hl => ?_)
          refine r_goto h 18 d_Mo_differ_66 (by decide) ?_
          exact ih (p + 1) ls (by omega) (by rw [← hz, hd, if_pos c48, if_neg c57]) (lv_sub hl [0, 3, 4, 5] rfl)
        · skip
          refine r_bipush h (v := (-3)) d_Mo_differ_60 (by decide) ?_
          exact r_iret h hM d_Mo_differ_62 (rI (by rw [← hz, hd, if_pos c48, if_pos c57])) rfl
      · skip
        refine r_iload_n h d_Mo_differ_51 rfl (lv_at hl 2 rfl) ?_
        exact r_iret h hM d_Mo_differ_52 (rI (by rw [← hz, hd, if_neg c48])) rfl
  refine r_iload_n h d_Mo_differ_0 rfl (lv_at hl 1 rfl) ?_
  refine r_callSi h (n := 1) (As := [.int (nI r)]) (c_Mo_isReplica l D cA cR ad hI V (nI r)) g_Mo_78 (by decide +kernel) rfl ⟨by decide, by decide⟩ hl rfl (Nat.le_of_ble_eq_true rfl) d_Mo_differ_1 ?_
  refine r_if_eq_f h 14 d_Mo_differ_4 (by decide) (z_B_n.mpr (z_rep hr)) ?_
  refine r_iload_n h d_Mo_differ_7 rfl (lv_at hl 2 rfl) ?_
  refine r_callSi h (n := 1) (As := [.int (nI q)]) (c_Mo_isReplica l D cA cR ad hI V (nI q)) g_Mo_78 (by decide +kernel) rfl ⟨by decide, by decide⟩ hl rfl (Nat.le_of_ble_eq_true rfl) d_Mo_differ_8 ?_
  refine r_if_ne_t h 16 d_Mo_differ_11 (by decide) (z_B_n.mpr (z_rep hq)) ?_
  refine r_iconst h (v := 0) d_Mo_differ_16 (by decide) ?_
  refine r_istore_n h (lv' := [(3, .int 0), (0, .ref (ad 27)), (1, .int (nI r)), (2, .int (nI q))]) d_Mo_differ_17 rfl hl (by decide) rfl (fun ls hl => ?_)
  exact loop (n + 1) 0 ls (by omega) rfl hl
set_option maxHeartbeats 4000000 in
set_option maxRecDepth 100000 in
theorem c_Mo_erase_c (l : Launch) (D : va_G) (cA cR : ClassId) (ad : Nat → Nat) (hI : wI ad) (V : Nat → Nat → Int32) (i : Int32) (r : Nat) (hr : r < 3) (n : Nat) (hK : mK V n) (h1 : i < 0) : wM l D cA cR ad y_Mo_erase (Cond.code y_Mo_erase b_Mo_erase 4 (some .int) :: wAl) 2 48 [.ref (ad 27), .int (nI r), .int i] V (some (.int (-1))) V := by
  refine wM_of hI (by decide) (Nat.le_of_ble_eq_true rfl) ?_
  intro X ls h hM hl
  have hl : lv_has ls 4 [(0, .ref (ad 27)), (1, .int (nI r)), (2, .int i)] := hl
  obtain ⟨hn, hle, hod, hpa, hro⟩ := id hK
  refine r_iload_n h d_Mo_erase_0 rfl (lv_at hl 1 rfl) ?_
  refine r_callSi h (n := 1) (As := [.int (nI r)]) (c_Mo_isReplica l D cA cR ad hI V (nI r)) g_Mo_78 (by decide +kernel) rfl ⟨by decide, by decide⟩ hl rfl (Nat.le_of_ble_eq_true rfl) d_Mo_erase_1 ?_
  refine r_if_eq_f h 22 d_Mo_erase_4 (by decide) (z_B_n.mpr (z_rep hr)) ?_
  refine r_iload_n h d_Mo_erase_7 rfl (lv_at hl 2 rfl) ?_
  refine r_if_lt_t h 22 d_Mo_erase_8 (by decide) h1 ?_
  refine r_iconst h (v := (-1)) d_Mo_erase_22 (by decide) ?_
  exact r_iret h hM d_Mo_erase_23 rfl rfl
set_option maxHeartbeats 4000000 in
set_option maxRecDepth 100000 in
theorem c_Mo_erase_d (l : Launch) (D : va_G) (cA cR : ClassId) (ad : Nat → Nat) (hI : wI ad) (V : Nat → Nat → Int32) (i : Int32) (r : Nat) (hr : r < 3) (n : Nat) (hK : mK V n) (h1 : 0 ≤ i) (h2 : nI (mCnt V n r 1 1) ≤ i) : wM l D cA cR ad y_Mo_erase (Cond.code y_Mo_erase b_Mo_erase 4 (some .int) :: wAl) 2 48 [.ref (ad 27), .int (nI r), .int i] V (some (.int (-1))) V := by
  refine wM_of hI (by decide) (Nat.le_of_ble_eq_true rfl) ?_
  intro X ls h hM hl
  have hl : lv_has ls 4 [(0, .ref (ad 27)), (1, .int (nI r)), (2, .int i)] := hl
  obtain ⟨hn, hle, hod, hpa, hro⟩ := id hK
  refine r_iload_n h d_Mo_erase_0 rfl (lv_at hl 1 rfl) ?_
  refine r_callSi h (n := 1) (As := [.int (nI r)]) (c_Mo_isReplica l D cA cR ad hI V (nI r)) g_Mo_78 (by decide +kernel) rfl ⟨by decide, by decide⟩ hl rfl (Nat.le_of_ble_eq_true rfl) d_Mo_erase_1 ?_
  refine r_if_eq_f h 22 d_Mo_erase_4 (by decide) (z_B_n.mpr (z_rep hr)) ?_
  refine r_iload_n h d_Mo_erase_7 rfl (lv_at hl 2 rfl) ?_
  refine r_if_lt_f h 22 d_Mo_erase_8 (by decide) h1 ?_
  refine r_iload_n h d_Mo_erase_11 rfl (lv_at hl 2 rfl) ?_
  refine r_aload_n h d_Mo_erase_12 rfl (lv_at hl 0 rfl) ?_
  refine r_iload_n h d_Mo_erase_13 rfl (lv_at hl 1 rfl) ?_
  refine r_iconst h (v := 1) d_Mo_erase_14 (by decide) ?_
  refine r_iconst h (v := 1) d_Mo_erase_15 (by decide) ?_
  refine r_callVi h (k := 27) (n := 3) (As := [.int (nI r), .int 1, .int 1]) (c_Mo_many l D cA cR ad hI V 1 1 r hr n hn hle) g_Mo_85 (by decide +kernel) rfl ⟨by decide, by decide⟩ (by decide) rfl rfl hl rfl (Nat.le_of_ble_eq_true rfl) d_Mo_erase_16 ?_
  refine r_icmp_lt_f h 24 d_Mo_erase_19 (by decide) h2 ?_
  refine r_iconst h (v := (-1)) d_Mo_erase_22 (by decide) ?_
  exact r_iret h hM d_Mo_erase_23 rfl rfl
set_option maxHeartbeats 4000000 in
set_option maxRecDepth 100000 in
theorem c_Mo_erase_e (l : Launch) (D : va_G) (cA cR : ClassId) (ad : Nat → Nat) (hI : wI ad) (V : Nat → Nat → Int32) (i : Int32) (r : Nat) (hr : r < 3) (n : Nat) (hK : mK V n) (h1 : 0 ≤ i) (h2 : i < nI (mCnt V n r 1 1)) (h4 : mFull V (nI r) = true) : wM l D cA cR ad y_Mo_erase (Cond.code y_Mo_erase b_Mo_erase 4 (some .int) :: wAl) 2 48 [.ref (ad 27), .int (nI r), .int i] V (some (.int (-2))) V := by
  refine wM_of hI (by decide) (Nat.le_of_ble_eq_true rfl) ?_
  intro X ls h hM hl
  have hl : lv_has ls 4 [(0, .ref (ad 27)), (1, .int (nI r)), (2, .int i)] := hl
  obtain ⟨hn, hle, hod, hpa, hro⟩ := id hK
  refine r_iload_n h d_Mo_erase_0 rfl (lv_at hl 1 rfl) ?_
  refine r_callSi h (n := 1) (As := [.int (nI r)]) (c_Mo_isReplica l D cA cR ad hI V (nI r)) g_Mo_78 (by decide +kernel) rfl ⟨by decide, by decide⟩ hl rfl (Nat.le_of_ble_eq_true rfl) d_Mo_erase_1 ?_
  refine r_if_eq_f h 22 d_Mo_erase_4 (by decide) (z_B_n.mpr (z_rep hr)) ?_
  refine r_iload_n h d_Mo_erase_7 rfl (lv_at hl 2 rfl) ?_
  refine r_if_lt_f h 22 d_Mo_erase_8 (by decide) h1 ?_
  refine r_iload_n h d_Mo_erase_11 rfl (lv_at hl 2 rfl) ?_
  refine r_aload_n h d_Mo_erase_12 rfl (lv_at hl 0 rfl) ?_
  refine r_iload_n h d_Mo_erase_13 rfl (lv_at hl 1 rfl) ?_
  refine r_iconst h (v := 1) d_Mo_erase_14 (by decide) ?_
  refine r_iconst h (v := 1) d_Mo_erase_15 (by decide) ?_
  refine r_callVi h (k := 27) (n := 3) (As := [.int (nI r), .int 1, .int 1]) (c_Mo_many l D cA cR ad hI V 1 1 r hr n hn hle) g_Mo_85 (by decide +kernel) rfl ⟨by decide, by decide⟩ (by decide) rfl rfl hl rfl (Nat.le_of_ble_eq_true rfl) d_Mo_erase_16 ?_
  refine r_icmp_lt_t h 24 d_Mo_erase_19 (by decide) h2 ?_
  refine r_aload_n h d_Mo_erase_24 rfl (lv_at hl 0 rfl) ?_
  refine r_iload_n h d_Mo_erase_25 rfl (lv_at hl 1 rfl) ?_
  refine r_callVi h (k := 27) (n := 1) (As := [.int (nI r)]) (c_Mo_noRoom l D cA cR ad hI V (nI r)) g_Mo_89 (by decide +kernel) rfl ⟨by decide, by decide⟩ (by decide) rfl rfl hl rfl (Nat.le_of_ble_eq_true rfl) d_Mo_erase_26 ?_
  refine r_if_eq_f h 35 d_Mo_erase_29 (by decide) (z_B_n.mpr h4) ?_
  refine r_bipush h (v := (-2)) d_Mo_erase_32 (by decide) ?_
  exact r_iret h hM d_Mo_erase_34 rfl rfl
set_option maxHeartbeats 4000000 in
set_option maxRecDepth 100000 in
theorem c_Mo_erase (l : Launch) (D : va_G) (cA cR : ClassId) (ad : Nat → Nat) (hI : wI ad) (V : Nat → Nat → Int32) (i : Int32) (r : Nat) (hr : r < 3) (n : Nat) (hK : mK V n) (h1 : 0 ≤ i) (h2 : i < nI (mCnt V n r 1 1)) (h4 : mFull V (nI r) = false) (e : Nat) (he : e < n) (hs : mNth V n r i true = nI e) (hts : ∀ q, q < 3 → ¬ q = r → ∃ s, V 36 q = nI s ∧ s < 50) : wM l D cA cR ad y_Mo_erase (Cond.code y_Mo_erase b_Mo_erase 4 (some .int) :: wAl) 2 48 [.ref (ad 27), .int (nI r), .int i] V (some (.int (nI e))) (mSnd (wU V 34 (30 * r + e) 2) r (-10 - nI e)) := by
  refine wM_of hI (by decide) (Nat.le_of_ble_eq_true rfl) ?_
  intro X ls h hM hl
  have hl : lv_has ls 4 [(0, .ref (ad 27)), (1, .int (nI r)), (2, .int i)] := hl
  obtain ⟨hn, hle, hod, hpa, hro⟩ := id hK
  refine r_iload_n h d_Mo_erase_0 rfl (lv_at hl 1 rfl) ?_
  refine r_callSi h (n := 1) (As := [.int (nI r)]) (c_Mo_isReplica l D cA cR ad hI V (nI r)) g_Mo_78 (by decide +kernel) rfl ⟨by decide, by decide⟩ hl rfl (Nat.le_of_ble_eq_true rfl) d_Mo_erase_1 ?_
  refine r_if_eq_f h 22 d_Mo_erase_4 (by decide) (z_B_n.mpr (z_rep hr)) ?_
  refine r_iload_n h d_Mo_erase_7 rfl (lv_at hl 2 rfl) ?_
  refine r_if_lt_f h 22 d_Mo_erase_8 (by decide) h1 ?_
  refine r_iload_n h d_Mo_erase_11 rfl (lv_at hl 2 rfl) ?_
  refine r_aload_n h d_Mo_erase_12 rfl (lv_at hl 0 rfl) ?_
  refine r_iload_n h d_Mo_erase_13 rfl (lv_at hl 1 rfl) ?_
  refine r_iconst h (v := 1) d_Mo_erase_14 (by decide) ?_
  refine r_iconst h (v := 1) d_Mo_erase_15 (by decide) ?_
  refine r_callVi h (k := 27) (n := 3) (As := [.int (nI r), .int 1, .int 1]) (c_Mo_many l D cA cR ad hI V 1 1 r hr n hn hle) g_Mo_85 (by decide +kernel) rfl ⟨by decide, by decide⟩ (by decide) rfl rfl hl rfl (Nat.le_of_ble_eq_true rfl) d_Mo_erase_16 ?_
  refine r_icmp_lt_t h 24 d_Mo_erase_19 (by decide) h2 ?_
  refine r_aload_n h d_Mo_erase_24 rfl (lv_at hl 0 rfl) ?_
  refine r_iload_n h d_Mo_erase_25 rfl (lv_at hl 1 rfl) ?_
  refine r_callVi h (k := 27) (n := 1) (As := [.int (nI r)]) (c_Mo_noRoom l D cA cR ad hI V (nI r)) g_Mo_89 (by decide +kernel) rfl ⟨by decide, by decide⟩ (by decide) rfl rfl hl rfl (Nat.le_of_ble_eq_true rfl) d_Mo_erase_26 ?_
  refine r_if_eq_t h 35 d_Mo_erase_29 (by decide) (z_B_0.mpr h4) ?_
  refine r_aload_n h d_Mo_erase_35 rfl (lv_at hl 0 rfl) ?_
  refine r_iload_n h d_Mo_erase_36 rfl (lv_at hl 1 rfl) ?_
  refine r_iload_n h d_Mo_erase_37 rfl (lv_at hl 2 rfl) ?_
  refine r_iconst h (v := 1) d_Mo_erase_38 (by decide) ?_
  refine r_callVi h (k := 27) (n := 3) (As := [.int (nI r), .int i, .int 1]) (c_Mo_nth l D cA cR ad hI V i 1 true (by decide) r hr n hK) g_Mo_92 (by decide +kernel) rfl ⟨by decide, by decide⟩ (by decide) rfl rfl hl rfl (Nat.le_of_ble_eq_true rfl) d_Mo_erase_39 ?_
  refine r_top (nI e) hs ?_
  refine r_istore_n h (lv' := [(3, .int (nI e)), (0, .ref (ad 27)), (1, .int (nI r)), (2, .int i)]) d_Mo_erase_42 rfl hl (by decide) rfl (fun ls hl => ?_)
  refine r_aload_n h d_Mo_erase_43 rfl (lv_at hl 1 rfl) ?_
  refine r_get h (k := 27) (j := 7) (by decide) rfl rfl iw_Mo (by decide) lk_Mo_28 rfl rfl d_Mo_erase_44 ?_
  refine r_bipush h (v := 30) d_Mo_erase_47 (by decide) ?_
  refine r_iload_n h d_Mo_erase_49 rfl (lv_at hl 2 rfl) ?_
  refine r_imul h d_Mo_erase_50 ?_
  refine r_top (nI (30 * r)) (pk_mul 30 r) ?_
  refine r_iload_n h d_Mo_erase_51 rfl (lv_at hl 0 rfl) ?_
  refine r_iadd h d_Mo_erase_52 ?_
  refine r_top (nI (30 * r + e)) (nI_add _ _) ?_
  refine r_iconst h (v := 2) d_Mo_erase_53 (by decide) ?_
  refine r_iastN h (k := 34) (i := (30 * r + e)) (by decide) rfl (by omega) (by omega) d_Mo_erase_54 ?_
  refine r_aload_n h d_Mo_erase_55 rfl (lv_at hl 1 rfl) ?_
  refine r_iload_n h d_Mo_erase_56 rfl (lv_at hl 2 rfl) ?_
  refine r_bipush h (v := (-10)) d_Mo_erase_57 (by decide) ?_
  refine r_iload_n h d_Mo_erase_59 rfl (lv_at hl 0 rfl) ?_
  refine r_isub h d_Mo_erase_60 ?_
  refine r_callVv h (k := 27) (n := 2) (As := [.int (nI r), .int ((-10) - (nI e))]) (c_Mo_send l D cA cR ad hI (wU V 34 (30 * r + e) 2) (-10 - nI e) r hr (fun q hq c => by rw [wU_n (by decide)]; exact hts q hq c)) g_Mo_105 (by decide +kernel) rfl ⟨by decide, by decide⟩ (by decide) rfl rfl hl rfl (Nat.le_of_ble_eq_true rfl) d_Mo_erase_61 ?_
  refine r_iload_n h d_Mo_erase_64 rfl (lv_at hl 0 rfl) ?_
  exact r_iret h hM d_Mo_erase_65 rfl rfl
set_option maxHeartbeats 4000000 in
set_option maxRecDepth 100000 in
theorem c_Mo_insert_c (l : Launch) (D : va_G) (cA cR : ClassId) (ad : Nat → Nat) (hI : wI ad) (V : Nat → Nat → Int32) (i ch : Int32) (r : Nat) (hr : r < 3) (n : Nat) (hK : mK V n) (h1 : i < 0) : wM l D cA cR ad y_Mo_insert (Cond.code y_Mo_insert b_Mo_insert 10 (some .int) :: wAl) 3 71 [.ref (ad 27), .int (nI r), .int i, .int ch] V (some (.int (-1))) V := by
  refine wM_of hI (by decide) (Nat.le_of_ble_eq_true rfl) ?_
  intro X ls h hM hl
  have hl : lv_has ls 10 [(0, .ref (ad 27)), (1, .int (nI r)), (2, .int i), (3, .int ch)] := hl
  obtain ⟨hn, hle, hod, hpa, hro⟩ := id hK
  refine r_iload_n h d_Mo_insert_0 rfl (lv_at hl 1 rfl) ?_
  refine r_callSi h (n := 1) (As := [.int (nI r)]) (c_Mo_isReplica l D cA cR ad hI V (nI r)) g_Mo_78 (by decide +kernel) rfl ⟨by decide, by decide⟩ hl rfl (Nat.le_of_ble_eq_true rfl) d_Mo_insert_1 ?_
  refine r_if_eq_f h 22 d_Mo_insert_4 (by decide) (z_B_n.mpr (z_rep hr)) ?_
  refine r_iload_n h d_Mo_insert_7 rfl (lv_at hl 2 rfl) ?_
  refine r_if_lt_t h 22 d_Mo_insert_8 (by decide) h1 ?_
  refine r_iconst h (v := (-1)) d_Mo_insert_22 (by decide) ?_
  exact r_iret h hM d_Mo_insert_23 rfl rfl
set_option maxHeartbeats 4000000 in
set_option maxRecDepth 100000 in
theorem c_Mo_insert_d (l : Launch) (D : va_G) (cA cR : ClassId) (ad : Nat → Nat) (hI : wI ad) (V : Nat → Nat → Int32) (i ch : Int32) (r : Nat) (hr : r < 3) (n : Nat) (hK : mK V n) (h1 : 0 ≤ i) (h2 : nI (mCnt V n r 1 1) < i) : wM l D cA cR ad y_Mo_insert (Cond.code y_Mo_insert b_Mo_insert 10 (some .int) :: wAl) 3 71 [.ref (ad 27), .int (nI r), .int i, .int ch] V (some (.int (-1))) V := by
  refine wM_of hI (by decide) (Nat.le_of_ble_eq_true rfl) ?_
  intro X ls h hM hl
  have hl : lv_has ls 10 [(0, .ref (ad 27)), (1, .int (nI r)), (2, .int i), (3, .int ch)] := hl
  obtain ⟨hn, hle, hod, hpa, hro⟩ := id hK
  refine r_iload_n h d_Mo_insert_0 rfl (lv_at hl 1 rfl) ?_
  refine r_callSi h (n := 1) (As := [.int (nI r)]) (c_Mo_isReplica l D cA cR ad hI V (nI r)) g_Mo_78 (by decide +kernel) rfl ⟨by decide, by decide⟩ hl rfl (Nat.le_of_ble_eq_true rfl) d_Mo_insert_1 ?_
  refine r_if_eq_f h 22 d_Mo_insert_4 (by decide) (z_B_n.mpr (z_rep hr)) ?_
  refine r_iload_n h d_Mo_insert_7 rfl (lv_at hl 2 rfl) ?_
  refine r_if_lt_f h 22 d_Mo_insert_8 (by decide) h1 ?_
  refine r_iload_n h d_Mo_insert_11 rfl (lv_at hl 2 rfl) ?_
  refine r_aload_n h d_Mo_insert_12 rfl (lv_at hl 0 rfl) ?_
  refine r_iload_n h d_Mo_insert_13 rfl (lv_at hl 1 rfl) ?_
  refine r_iconst h (v := 1) d_Mo_insert_14 (by decide) ?_
  refine r_iconst h (v := 1) d_Mo_insert_15 (by decide) ?_
  refine r_callVi h (k := 27) (n := 3) (As := [.int (nI r), .int 1, .int 1]) (c_Mo_many l D cA cR ad hI V 1 1 r hr n hn hle) g_Mo_85 (by decide +kernel) rfl ⟨by decide, by decide⟩ (by decide) rfl rfl hl rfl (Nat.le_of_ble_eq_true rfl) d_Mo_insert_16 ?_
  refine r_icmp_le_f h 24 d_Mo_insert_19 (by decide) h2 ?_
  refine r_iconst h (v := (-1)) d_Mo_insert_22 (by decide) ?_
  exact r_iret h hM d_Mo_insert_23 rfl rfl
set_option maxHeartbeats 4000000 in
set_option maxRecDepth 100000 in
theorem c_Mo_insert_e (l : Launch) (D : va_G) (cA cR : ClassId) (ad : Nat → Nat) (hI : wI ad) (V : Nat → Nat → Int32) (i ch : Int32) (r : Nat) (hr : r < 3) (n : Nat) (hK : mK V n) (h1 : 0 ≤ i) (h2 : i ≤ nI (mCnt V n r 1 1)) (h3 : n = 30) : wM l D cA cR ad y_Mo_insert (Cond.code y_Mo_insert b_Mo_insert 10 (some .int) :: wAl) 3 71 [.ref (ad 27), .int (nI r), .int i, .int ch] V (some (.int (-2))) V := by
  refine wM_of hI (by decide) (Nat.le_of_ble_eq_true rfl) ?_
  intro X ls h hM hl
  have hl : lv_has ls 10 [(0, .ref (ad 27)), (1, .int (nI r)), (2, .int i), (3, .int ch)] := hl
  obtain ⟨hn, hle, hod, hpa, hro⟩ := id hK
  refine r_iload_n h d_Mo_insert_0 rfl (lv_at hl 1 rfl) ?_
  refine r_callSi h (n := 1) (As := [.int (nI r)]) (c_Mo_isReplica l D cA cR ad hI V (nI r)) g_Mo_78 (by decide +kernel) rfl ⟨by decide, by decide⟩ hl rfl (Nat.le_of_ble_eq_true rfl) d_Mo_insert_1 ?_
  refine r_if_eq_f h 22 d_Mo_insert_4 (by decide) (z_B_n.mpr (z_rep hr)) ?_
  refine r_iload_n h d_Mo_insert_7 rfl (lv_at hl 2 rfl) ?_
  refine r_if_lt_f h 22 d_Mo_insert_8 (by decide) h1 ?_
  refine r_iload_n h d_Mo_insert_11 rfl (lv_at hl 2 rfl) ?_
  refine r_aload_n h d_Mo_insert_12 rfl (lv_at hl 0 rfl) ?_
  refine r_iload_n h d_Mo_insert_13 rfl (lv_at hl 1 rfl) ?_
  refine r_iconst h (v := 1) d_Mo_insert_14 (by decide) ?_
  refine r_iconst h (v := 1) d_Mo_insert_15 (by decide) ?_
  refine r_callVi h (k := 27) (n := 3) (As := [.int (nI r), .int 1, .int 1]) (c_Mo_many l D cA cR ad hI V 1 1 r hr n hn hle) g_Mo_85 (by decide +kernel) rfl ⟨by decide, by decide⟩ (by decide) rfl rfl hl rfl (Nat.le_of_ble_eq_true rfl) d_Mo_insert_16 ?_
  refine r_icmp_le_t h 24 d_Mo_insert_19 (by decide) h2 ?_
  refine r_aload_n h d_Mo_insert_24 rfl (lv_at hl 0 rfl) ?_
  refine r_get h (k := 27) (j := 0) (by decide) rfl rfl iw_Mo (by decide) lk_Mo_43 rfl rfl d_Mo_insert_25 ?_
  refine r_bipush h (v := 30) d_Mo_insert_28 (by decide) ?_
  refine r_icmp_eq_t h 41 d_Mo_insert_30 (by decide) (by rw [hn, h3]; rfl) ?_
  refine r_bipush h (v := (-2)) d_Mo_insert_41 (by decide) ?_
  exact r_iret h hM d_Mo_insert_43 rfl rfl
set_option maxHeartbeats 4000000 in
set_option maxRecDepth 100000 in
theorem c_Mo_insert_f (l : Launch) (D : va_G) (cA cR : ClassId) (ad : Nat → Nat) (hI : wI ad) (V : Nat → Nat → Int32) (i ch : Int32) (r : Nat) (hr : r < 3) (n : Nat) (hK : mK V n) (h1 : 0 ≤ i) (h2 : i ≤ nI (mCnt V n r 1 1)) (h3 : n < 30) (h4 : mFull V (nI r) = true) : wM l D cA cR ad y_Mo_insert (Cond.code y_Mo_insert b_Mo_insert 10 (some .int) :: wAl) 3 71 [.ref (ad 27), .int (nI r), .int i, .int ch] V (some (.int (-2))) V := by
  refine wM_of hI (by decide) (Nat.le_of_ble_eq_true rfl) ?_
  intro X ls h hM hl
  have hl : lv_has ls 10 [(0, .ref (ad 27)), (1, .int (nI r)), (2, .int i), (3, .int ch)] := hl
  obtain ⟨hn, hle, hod, hpa, hro⟩ := id hK
  refine r_iload_n h d_Mo_insert_0 rfl (lv_at hl 1 rfl) ?_
  refine r_callSi h (n := 1) (As := [.int (nI r)]) (c_Mo_isReplica l D cA cR ad hI V (nI r)) g_Mo_78 (by decide +kernel) rfl ⟨by decide, by decide⟩ hl rfl (Nat.le_of_ble_eq_true rfl) d_Mo_insert_1 ?_
  refine r_if_eq_f h 22 d_Mo_insert_4 (by decide) (z_B_n.mpr (z_rep hr)) ?_
  refine r_iload_n h d_Mo_insert_7 rfl (lv_at hl 2 rfl) ?_
  refine r_if_lt_f h 22 d_Mo_insert_8 (by decide) h1 ?_
  refine r_iload_n h d_Mo_insert_11 rfl (lv_at hl 2 rfl) ?_
  refine r_aload_n h d_Mo_insert_12 rfl (lv_at hl 0 rfl) ?_
  refine r_iload_n h d_Mo_insert_13 rfl (lv_at hl 1 rfl) ?_
  refine r_iconst h (v := 1) d_Mo_insert_14 (by decide) ?_
  refine r_iconst h (v := 1) d_Mo_insert_15 (by decide) ?_
  refine r_callVi h (k := 27) (n := 3) (As := [.int (nI r), .int 1, .int 1]) (c_Mo_many l D cA cR ad hI V 1 1 r hr n hn hle) g_Mo_85 (by decide +kernel) rfl ⟨by decide, by decide⟩ (by decide) rfl rfl hl rfl (Nat.le_of_ble_eq_true rfl) d_Mo_insert_16 ?_
  refine r_icmp_le_t h 24 d_Mo_insert_19 (by decide) h2 ?_
  refine r_aload_n h d_Mo_insert_24 rfl (lv_at hl 0 rfl) ?_
  refine r_get h (k := 27) (j := 0) (by decide) rfl rfl iw_Mo (by decide) lk_Mo_43 rfl rfl d_Mo_insert_25 ?_
  refine r_bipush h (v := 30) d_Mo_insert_28 (by decide) ?_
  refine r_icmp_eq_f h 41 d_Mo_insert_30 (by decide) (by rw [hn]; exact fun c => absurd (z_inj (b := 30) (by omega) (by omega) c) (by omega)) ?_
  refine r_aload_n h d_Mo_insert_33 rfl (lv_at hl 0 rfl) ?_
  refine r_iload_n h d_Mo_insert_34 rfl (lv_at hl 1 rfl) ?_
  refine r_callVi h (k := 27) (n := 1) (As := [.int (nI r)]) (c_Mo_noRoom l D cA cR ad hI V (nI r)) g_Mo_89 (by decide +kernel) rfl ⟨by decide, by decide⟩ (by decide) rfl rfl hl rfl (Nat.le_of_ble_eq_true rfl) d_Mo_insert_35 ?_
  refine r_if_eq_f h 44 d_Mo_insert_38 (by decide) (z_B_n.mpr h4) ?_
  refine r_bipush h (v := (-2)) d_Mo_insert_41 (by decide) ?_
  exact r_iret h hM d_Mo_insert_43 rfl rfl
set_option maxHeartbeats 4000000 in
set_option maxRecDepth 100000 in
theorem c_Mo_insert (l : Launch) (D : va_G) (cA cR : ClassId) (ad : Nat → Nat) (hI : wI ad) (V : Nat → Nat → Int32) (i ch : Int32) (r : Nat) (hr : r < 3) (n : Nat) (hK : mK V n) (h1 : 0 ≤ i) (h2 : i ≤ nI (mCnt V n r 1 1)) (h3 : n < 30) (h4 : mFull V (nI r) = false) (hts : ∀ q, q < 3 → ¬ q = r → ∃ s, V 36 q = nI s ∧ s < 50) (ha : z_el (mA V n r i) n) (hbe : z_beh (V 33) n (mA V n r i) ≤ n) (hA : mAt V n (nI r) (if mHas V n r (mA V n r i) = true then mNxt V n r (mA V n r i) else mA V n r i) (if mHas V n r (mA V n r i) = true then 0 else 1) (mNxt V n r (mA V n r i)) ≤ n) : wM l D cA cR ad y_Mo_insert (Cond.code y_Mo_insert b_Mo_insert 10 (some .int) :: wAl) 3 71 [.ref (ad 27), .int (nI r), .int i, .int ch] V (some (.int (nI n))) (mSnd (wU (mMake V n r (mA V n r i) ch) 34 (30 * r + n) 1) r (nI n)) := by
  refine wM_of hI (by decide) (Nat.le_of_ble_eq_true rfl) ?_
  intro X ls h hM hl
  have hl : lv_has ls 10 [(0, .ref (ad 27)), (1, .int (nI r)), (2, .int i), (3, .int ch)] := hl
  obtain ⟨hn, hle, hod, hpa, hro⟩ := id hK
  obtain ⟨V5, hV5⟩ : ∃ V5, V5 = wU (wU (wU (wU (wU V 28 n (nI r)) 29 n ch) 30 n (if mHas V n r (mA V n r i) = true then mNxt V n r (mA V n r i) else mA V n r i)) 31 n (if mHas V n r (mA V n r i) = true then (0 : Int32) else 1)) 32 n (mNxt V n r (mA V n r i)) := ⟨_, rfl⟩
  obtain ⟨At, hAt⟩ : ∃ At, At = mAt V n (nI r) (if mHas V n r (mA V n r i) = true then mNxt V n r (mA V n r i) else mA V n r i) (if mHas V n r (mA V n r i) = true then (0 : Int32) else 1) (mNxt V n r (mA V n r i)) := ⟨_, rfl⟩
  have hAn : At ≤ n := by rw [hAt]; exact hA
  have g27 : V5 27 0 = nI n := by rw [hV5]; exact hn
  have g33 : V5 33 = V 33 := by rw [hV5]; rfl
  have g30 : V5 30 = upd (V 30) n (if mHas V n r (mA V n r i) = true then mNxt V n r (mA V n r i) else mA V n r i) := by rw [hV5]; rfl
  have g31 : V5 31 = upd (V 31) n (if mHas V n r (mA V n r i) = true then (0 : Int32) else 1) := by rw [hV5]; rfl
  have g32 : V5 32 = upd (V 32) n (mNxt V n r (mA V n r i)) := by rw [hV5]; rfl
  have g28 : V5 28 = upd (V 28) n (nI r) := by rw [hV5]; rfl
  have g36 : V5 36 = V 36 := by rw [hV5]; rfl
  have hpa5 : ∀ e, e < n → z_el (V5 30 e) e := fun e he => by rw [g30, pk_un (by omega)]; exact hpa e he
  have hod5 : ∀ p, p < n → ∃ e, e < n ∧ V5 33 p = nI e := fun p hp => by rw [g33]; exact hod p hp
  have hVM : wU (wS V5 33 (upd (z_shr At n (V 33)) At (nI n))) 27 0 (nI (n + 1)) = mMake V n r (mA V n r i) ch := by rw [hAt, hV5]; rfl
  have hV36 : (mMake V n r (mA V n r i) ch) 36 = V 36 := by rw [← hVM, wU_n (by decide), wS_n (by decide)]; exact g36
  have fin : ∀ (p : Nat) (ls : Array Slot), lv_has ls 10 [(9, .int (nI p)), (8, .int (nI At)), (7, .int (z_B (mHas V n r (mA V n r i)))), (6, .int (nI n)), (5, .int (mNxt V n r (mA V n r i))), (4, .int (mA V n r i)), (0, .ref (ad 27)), (1, .int (nI r)), (2, .int i), (3, .int ch)] → wv X cA cR ad (wS V5 33 (z_shr At n (V 33))) 191 ls [] := by
    intro p ls hl
    refine r_aload_n h d_Mo_insert_191 rfl (lv_at hl 6 rfl) ?_
    refine r_get h (k := 27) (j := 6) (by decide) rfl rfl iw_Mo (by decide) lk_Mo_25 rfl rfl d_Mo_insert_192 ?_
    refine r_iload h d_Mo_insert_195 (lv_at hl 1 rfl) ?_
    refine r_iload h d_Mo_insert_197 (lv_at hl 3 rfl) ?_
    refine r_iastN h (k := 33) (i := At) (by decide) rfl (by omega) (by omega) d_Mo_insert_199 ?_
    refine r_V (V' := wS V5 33 (upd (z_shr At n (V 33)) At (nI n))) (wU_wS _ _ _ _ _) ?_
    refine r_aload_n h d_Mo_insert_200 rfl (lv_at hl 6 rfl) ?_
    refine r_dup h d_Mo_insert_201 rfl ?_
    refine r_get h (k := 27) (j := 0) (by decide) rfl rfl iw_Mo (by decide) lk_Mo_43 rfl rfl d_Mo_insert_202 ?_
    refine r_top (nI n) (by rw [wS_n (by decide)]; exact g27) ?_
    refine r_iconst h (v := 1) d_Mo_insert_205 (by decide) ?_
    refine r_iadd h d_Mo_insert_206 ?_
    refine r_top (nI (n + 1)) (nI_1 n) ?_
    refine r_put h (k := 27) (j := 0) (by decide) rfl rfl rfl iw_Mo t_Mo t_Mo_ok n_Mo (by decide) lk_Mo_43 rfl rfl (by decide +kernel) (Nat.le_of_ble_eq_true rfl) d_Mo_insert_207 ?_
    refine r_V (V' := mMake V n r (mA V n r i) ch) hVM ?_
    refine r_aload_n h d_Mo_insert_210 rfl (lv_at hl 6 rfl) ?_
    refine r_get h (k := 27) (j := 7) (by decide) rfl rfl iw_Mo (by decide) lk_Mo_28 rfl rfl d_Mo_insert_211 ?_
    refine r_bipush h (v := 30) d_Mo_insert_214 (by decide) ?_
    refine r_iload_n h d_Mo_insert_216 rfl (lv_at hl 7 rfl) ?_
    refine r_imul h d_Mo_insert_217 ?_
    refine r_top (nI (30 * r)) (pk_mul 30 r) ?_
    refine r_iload h d_Mo_insert_218 (lv_at hl 3 rfl) ?_
    refine r_iadd h d_Mo_insert_220 ?_
    refine r_top (nI (30 * r + n)) (nI_add _ _) ?_
    refine r_iconst h (v := 1) d_Mo_insert_221 (by decide) ?_
    refine r_iastN h (k := 34) (i := (30 * r + n)) (by decide) rfl (by omega) (by omega) d_Mo_insert_222 ?_
    refine r_aload_n h d_Mo_insert_223 rfl (lv_at hl 6 rfl) ?_
    refine r_iload_n h d_Mo_insert_224 rfl (lv_at hl 7 rfl) ?_
    refine r_iload h d_Mo_insert_225 (lv_at hl 3 rfl) ?_
    refine r_callVv h (k := 27) (n := 2) (As := [.int (nI r), .int (nI n)]) (c_Mo_send l D cA cR ad hI (wU (mMake V n r (mA V n r i) ch) 34 (30 * r + n) 1) (nI n) r hr (fun q hq c => by rw [wU_n (by decide), hV36]; exact hts q hq c)) g_Mo_105 (by decide +kernel) rfl ⟨by decide, by decide⟩ (by decide) rfl rfl hl rfl (Nat.le_of_ble_eq_true rfl) d_Mo_insert_227 ?_
    refine r_iload h d_Mo_insert_230 (lv_at hl 3 rfl) ?_
    exact r_iret h hM d_Mo_insert_232 rfl rfl
  have loop : ∀ (p : Nat) (f : Nat → Int32) (ls : Array Slot), p ≤ n → z_shr At p f = z_shr At n (V 33) → lv_has ls 10 [(9, .int (nI p)), (8, .int (nI At)), (7, .int (z_B (mHas V n r (mA V n r i)))), (6, .int (nI n)), (5, .int (mNxt V n r (mA V n r i))), (4, .int (mA V n r i)), (0, .ref (ad 27)), (1, .int (nI r)), (2, .int i), (3, .int ch)] → wv X cA cR ad (wS V5 33 f) 162 ls [] := by
    intro p
    induction p with
    | zero =>
      intro f ls hp hz hl
      refine r_iload h d_Mo_insert_162 (lv_at hl 0 rfl) ?_
      refine r_iload h d_Mo_insert_164 (lv_at hl 1 rfl) ?_
      refine r_icmp_le_t h 191 d_Mo_insert_166 (by decide) (nI_sz (b := 0) (by omega) (by omega) (by omega)) ?_
      refine r_V (V' := wS V5 33 (z_shr At n (V 33))) (by rw [← hz]; rfl) ?_
      exact fin 0 ls hl
    | succ p ih =>
      intro f ls hp hz hl
      refine r_iload h d_Mo_insert_162 (lv_at hl 0 rfl) ?_
      refine r_iload h d_Mo_insert_164 (lv_at hl 1 rfl) ?_
      refine r_icmp_le h 191 d_Mo_insert_166 (by decide) (fun c166 => ?_) (fun c166 => ?_)
      · skip
        refine r_V (V' := wS V5 33 (z_shr At n (V 33))) (by rw [← hz]; show _ = wS V5 33 (if At < p + 1 then _ else f); rw [if_neg (by have := nI_szm (by omega) (by omega) c166; omega)]) ?_
        exact fin (p + 1) ls hl
      · skip
        refine r_aload_n h d_Mo_insert_169 rfl (lv_at hl 6 rfl) ?_
        refine r_get h (k := 27) (j := 6) (by decide) rfl rfl iw_Mo (by decide) lk_Mo_25 rfl rfl d_Mo_insert_170 ?_
        refine r_iload h d_Mo_insert_173 (lv_at hl 0 rfl) ?_
        refine r_aload_n h d_Mo_insert_175 rfl (lv_at hl 6 rfl) ?_
        refine r_get h (k := 27) (j := 6) (by decide) rfl rfl iw_Mo (by decide) lk_Mo_25 rfl rfl d_Mo_insert_176 ?_
        refine r_iload h d_Mo_insert_179 (lv_at hl 0 rfl) ?_
        refine r_iconst h (v := 1) d_Mo_insert_181 (by decide) ?_
        refine r_isub h d_Mo_insert_182 ?_
        refine r_top (nI p) (nI_pred p) ?_
        refine r_ialdN h (k := 33) (i := p) (by decide) rfl (by omega) (by omega) d_Mo_insert_183 ?_
        refine r_top (f p) (by rw [wS_s]) ?_
        refine r_iastN h (k := 33) (i := (p + 1)) (by decide) rfl (by omega) (by omega) d_Mo_insert_184 ?_
        refine r_V (V' := wS V5 33 (upd f (p + 1) (f p))) (wU_wS _ _ _ _ _) ?_
        refine r_iinc h (v := nI p) (lv' := [(9, .int (nI p)), (8, .int (nI At)), (7, .int (z_B (mHas V n r (mA V n r i)))), (6, .int (nI n)), (5, .int (mNxt V n r (mA V n r i))), (4, .int (mA V n r i)), (0, .ref (ad 27)), (1, .int (nI r)), (2, .int i), (3, .int ch)]) d_Mo_insert_185 hl (k := 0) rfl (z_dcN p) (by decide) rfl (fun ls hl => ?_)
        refine r_goto h 162 d_Mo_insert_188 (by decide) ?_
        exact ih (upd f (p + 1) (f p)) ls (by omega) (by rw [← hz]; show _ = (if At < p + 1 then z_shr At p (upd f (p + 1) (f p)) else f); rw [if_pos (nI_lzm (by omega) (by omega) c166)]) hl
  have tail : ∀ (ls : Array Slot), lv_has ls 10 [(7, .int (z_B (mHas V n r (mA V n r i)))), (6, .int (nI n)), (5, .int (mNxt V n r (mA V n r i))), (4, .int (mA V n r i)), (0, .ref (ad 27)), (1, .int (nI r)), (2, .int i), (3, .int ch)] → wv X cA cR ad V5 148 ls [] := by
    intro ls hl
    refine r_aload_n h d_Mo_insert_148 rfl (lv_at hl 4 rfl) ?_
    refine r_iload h d_Mo_insert_149 (lv_at hl 1 rfl) ?_
    refine r_callVi h (k := 27) (n := 1) (As := [.int (nI n)]) (c_Mo_home l D cA cR ad hI V5 n h3 n g27 hle hod5 hpa5) g_Mo_102 (by decide +kernel) rfl ⟨by decide, by decide⟩ (by decide) rfl rfl hl rfl (Nat.le_of_ble_eq_true rfl) d_Mo_insert_151 ?_
    refine r_top (nI At) (by rw [hAt, g33, g30, g31, g32, g28]; rfl) ?_
    refine r_istore h (lv' := [(8, .int (nI At)), (7, .int (z_B (mHas V n r (mA V n r i)))), (6, .int (nI n)), (5, .int (mNxt V n r (mA V n r i))), (4, .int (mA V n r i)), (0, .ref (ad 27)), (1, .int (nI r)), (2, .int i), (3, .int ch)]) d_Mo_insert_154 hl (by decide) rfl (fun ls hl => ?_)
    refine r_aload_n h d_Mo_insert_156 rfl (lv_at hl 5 rfl) ?_
    refine r_get h (k := 27) (j := 0) (by decide) rfl rfl iw_Mo (by decide) lk_Mo_43 rfl rfl d_Mo_insert_157 ?_
    refine r_top (nI n) g27 ?_
    refine r_istore h (lv' := [(9, .int (nI n)), (8, .int (nI At)), (7, .int (z_B (mHas V n r (mA V n r i)))), (6, .int (nI n)), (5, .int (mNxt V n r (mA V n r i))), (4, .int (mA V n r i)), (0, .ref (ad 27)), (1, .int (nI r)), (2, .int i), (3, .int ch)]) d_Mo_insert_160 hl (by decide) rfl (fun ls hl => ?_)
    refine r_V (V' := wS V5 33 (V 33)) (by rw [← g33, wS_id]) ?_
    exact loop n (V 33) ls (by omega) rfl hl
  have mid : ∀ (ls : Array Slot), lv_has ls 10 [(4, .int (mA V n r i)), (0, .ref (ad 27)), (1, .int (nI r)), (2, .int i), (3, .int ch)] → wv X cA cR ad V 63 ls [] := by
    intro ls hl
    refine r_aload_n h d_Mo_insert_63 rfl (lv_at hl 1 rfl) ?_
    refine r_iload_n h d_Mo_insert_64 rfl (lv_at hl 2 rfl) ?_
    refine r_iload h d_Mo_insert_65 (lv_at hl 0 rfl) ?_
    refine r_callVi h (k := 27) (n := 2) (As := [.int (nI r), .int (mA V n r i)]) (c_Mo_next l D cA cR ad hI V (mA V n r i) r hr n hK ha hbe) g_Mo_96 (by decide +kernel) rfl ⟨by decide, by decide⟩ (by decide) rfl rfl hl rfl (Nat.le_of_ble_eq_true rfl) d_Mo_insert_67 ?_
    refine r_istore h (lv' := [(5, .int (mNxt V n r (mA V n r i))), (4, .int (mA V n r i)), (0, .ref (ad 27)), (1, .int (nI r)), (2, .int i), (3, .int ch)]) d_Mo_insert_70 hl (by decide) rfl (fun ls hl => ?_)
    refine r_aload_n h d_Mo_insert_72 rfl (lv_at hl 2 rfl) ?_
    refine r_get h (k := 27) (j := 0) (by decide) rfl rfl iw_Mo (by decide) lk_Mo_43 rfl rfl d_Mo_insert_73 ?_
    refine r_top (nI n) hn ?_
    refine r_istore h (lv' := [(6, .int (nI n)), (5, .int (mNxt V n r (mA V n r i))), (4, .int (mA V n r i)), (0, .ref (ad 27)), (1, .int (nI r)), (2, .int i), (3, .int ch)]) d_Mo_insert_76 hl (by decide) rfl (fun ls hl => ?_)
    refine r_aload_n h d_Mo_insert_78 rfl (lv_at hl 3 rfl) ?_
    refine r_iload_n h d_Mo_insert_79 rfl (lv_at hl 4 rfl) ?_
    refine r_iload h d_Mo_insert_80 (lv_at hl 2 rfl) ?_
    refine r_callVi h (k := 27) (n := 2) (As := [.int (nI r), .int (mA V n r i)]) (c_Mo_hasRight l D cA cR ad hI V (mA V n r i) r hr n hn hle) g_Mo_99 (by decide +kernel) rfl ⟨by decide, by decide⟩ (by decide) rfl rfl hl rfl (Nat.le_of_ble_eq_true rfl) d_Mo_insert_82 ?_
    refine r_istore h (lv' := [(7, .int (z_B (mHas V n r (mA V n r i)))), (6, .int (nI n)), (5, .int (mNxt V n r (mA V n r i))), (4, .int (mA V n r i)), (0, .ref (ad 27)), (1, .int (nI r)), (2, .int i), (3, .int ch)]) d_Mo_insert_85 hl (by decide) rfl (fun ls hl => ?_)
    refine r_aload_n h d_Mo_insert_87 rfl (lv_at hl 4 rfl) ?_
    refine r_get h (k := 27) (j := 1) (by decide) rfl rfl iw_Mo (by decide) lk_Mo_7 rfl rfl d_Mo_insert_88 ?_
    refine r_iload h d_Mo_insert_91 (lv_at hl 1 rfl) ?_
    refine r_iload_n h d_Mo_insert_93 rfl (lv_at hl 5 rfl) ?_
    refine r_iastN h (k := 28) (i := n) (by decide) rfl (by omega) (by omega) d_Mo_insert_94 ?_
    refine r_aload_n h d_Mo_insert_95 rfl (lv_at hl 4 rfl) ?_
    refine r_get h (k := 27) (j := 2) (by decide) rfl rfl iw_Mo (by decide) lk_Mo_13 rfl rfl d_Mo_insert_96 ?_
    refine r_iload h d_Mo_insert_99 (lv_at hl 1 rfl) ?_
    refine r_iload_n h d_Mo_insert_101 rfl (lv_at hl 7 rfl) ?_
    refine r_iastN h (k := 29) (i := n) (by decide) rfl (by omega) (by omega) d_Mo_insert_102 ?_
    refine r_aload_n h d_Mo_insert_103 rfl (lv_at hl 4 rfl) ?_
    refine r_get h (k := 27) (j := 3) (by decide) rfl rfl iw_Mo (by decide) lk_Mo_16 rfl rfl d_Mo_insert_104 ?_
    refine r_iload h d_Mo_insert_107 (lv_at hl 1 rfl) ?_
    refine r_iload h d_Mo_insert_109 (lv_at hl 0 rfl) ?_
    refine r_if_eq h 119 d_Mo_insert_111 (by decide) (fun c111 => ?_) (fun c111 => ?_)
    · skip
      refine r_iload h d_Mo_insert_119 (lv_at hl 3 rfl) ?_
      refine r_top (if mHas V n r (mA V n r i) = true then mNxt V n r (mA V n r i) else mA V n r i) (by rw [if_neg (by rw [z_B_0.mp c111]; decide)]) ?_
      refine r_iastN h (k := 30) (i := n) (by decide) rfl (by omega) (by omega) d_Mo_insert_121 ?_
      refine r_aload_n h d_Mo_insert_122 rfl (lv_at hl 4 rfl) ?_
      refine r_get h (k := 27) (j := 4) (by decide) rfl rfl iw_Mo (by decide) lk_Mo_19 rfl rfl d_Mo_insert_123 ?_
      refine r_iload h d_Mo_insert_126 (lv_at hl 1 rfl) ?_
      refine r_iload h d_Mo_insert_128 (lv_at hl 0 rfl) ?_
      refine r_if_eq h 137 d_Mo_insert_130 (by decide) (fun c130 => ?_) (fun c130 => ?_)
      · skip
        refine r_iconst h (v := 1) d_Mo_insert_137 (by decide) ?_
        refine r_top (if mHas V n r (mA V n r i) = true then (0 : Int32) else 1) (by rw [if_neg (by rw [z_B_0.mp c130]; decide)]) ?_
        refine r_iastN h (k := 31) (i := n) (by decide) rfl (by omega) (by omega) d_Mo_insert_138 ?_
        refine r_aload_n h d_Mo_insert_139 rfl (lv_at hl 4 rfl) ?_
        refine r_get h (k := 27) (j := 5) (by decide) rfl rfl iw_Mo (by decide) lk_Mo_22 rfl rfl d_Mo_insert_140 ?_
        refine r_iload h d_Mo_insert_143 (lv_at hl 1 rfl) ?_
        refine r_iload h d_Mo_insert_145 (lv_at hl 2 rfl) ?_
        refine r_iastN h (k := 32) (i := n) (by decide) rfl (by omega) (by omega) d_Mo_insert_147 ?_
        refine r_V (V' := V5) hV5.symm ?_
        exact tail ls hl
      · skip
        refine r_iconst h (v := 0) d_Mo_insert_133 (by decide) ?_
        refine r_top (if mHas V n r (mA V n r i) = true then (0 : Int32) else 1) (by rw [if_pos (z_B_n.mp c130)]) ?_
        refine r_goto h 138 d_Mo_insert_134 (by decide) ?_
        refine r_iastN h (k := 31) (i := n) (by decide) rfl (by omega) (by omega) d_Mo_insert_138 ?_
        refine r_aload_n h d_Mo_insert_139 rfl (lv_at hl 4 rfl) ?_
        refine r_get h (k := 27) (j := 5) (by decide) rfl rfl iw_Mo (by decide) lk_Mo_22 rfl rfl d_Mo_insert_140 ?_
        refine r_iload h d_Mo_insert_143 (lv_at hl 1 rfl) ?_
        refine r_iload h d_Mo_insert_145 (lv_at hl 2 rfl) ?_
        refine r_iastN h (k := 32) (i := n) (by decide) rfl (by omega) (by omega) d_Mo_insert_147 ?_
        refine r_V (V' := V5) hV5.symm ?_
        exact tail ls hl
    · skip
      refine r_iload h d_Mo_insert_114 (lv_at hl 2 rfl) ?_
      refine r_top (if mHas V n r (mA V n r i) = true then mNxt V n r (mA V n r i) else mA V n r i) (by rw [if_pos (z_B_n.mp c111)]) ?_
      refine r_goto h 121 d_Mo_insert_116 (by decide) ?_
      refine r_iastN h (k := 30) (i := n) (by decide) rfl (by omega) (by omega) d_Mo_insert_121 ?_
      refine r_aload_n h d_Mo_insert_122 rfl (lv_at hl 4 rfl) ?_
      refine r_get h (k := 27) (j := 4) (by decide) rfl rfl iw_Mo (by decide) lk_Mo_19 rfl rfl d_Mo_insert_123 ?_
      refine r_iload h d_Mo_insert_126 (lv_at hl 1 rfl) ?_
      refine r_iload h d_Mo_insert_128 (lv_at hl 0 rfl) ?_
      refine r_if_eq h 137 d_Mo_insert_130 (by decide) (fun c130 => ?_) (fun c130 => ?_)
      · skip
        refine r_iconst h (v := 1) d_Mo_insert_137 (by decide) ?_
        refine r_top (if mHas V n r (mA V n r i) = true then (0 : Int32) else 1) (by rw [if_neg (by rw [z_B_0.mp c130]; decide)]) ?_
        refine r_iastN h (k := 31) (i := n) (by decide) rfl (by omega) (by omega) d_Mo_insert_138 ?_
        refine r_aload_n h d_Mo_insert_139 rfl (lv_at hl 4 rfl) ?_
        refine r_get h (k := 27) (j := 5) (by decide) rfl rfl iw_Mo (by decide) lk_Mo_22 rfl rfl d_Mo_insert_140 ?_
        refine r_iload h d_Mo_insert_143 (lv_at hl 1 rfl) ?_
        refine r_iload h d_Mo_insert_145 (lv_at hl 2 rfl) ?_
        refine r_iastN h (k := 32) (i := n) (by decide) rfl (by omega) (by omega) d_Mo_insert_147 ?_
        refine r_V (V' := V5) hV5.symm ?_
        exact tail ls hl
      · skip
        refine r_iconst h (v := 0) d_Mo_insert_133 (by decide) ?_
        refine r_top (if mHas V n r (mA V n r i) = true then (0 : Int32) else 1) (by rw [if_pos (z_B_n.mp c130)]) ?_
        refine r_goto h 138 d_Mo_insert_134 (by decide) ?_
        refine r_iastN h (k := 31) (i := n) (by decide) rfl (by omega) (by omega) d_Mo_insert_138 ?_
        refine r_aload_n h d_Mo_insert_139 rfl (lv_at hl 4 rfl) ?_
        refine r_get h (k := 27) (j := 5) (by decide) rfl rfl iw_Mo (by decide) lk_Mo_22 rfl rfl d_Mo_insert_140 ?_
        refine r_iload h d_Mo_insert_143 (lv_at hl 1 rfl) ?_
        refine r_iload h d_Mo_insert_145 (lv_at hl 2 rfl) ?_
        refine r_iastN h (k := 32) (i := n) (by decide) rfl (by omega) (by omega) d_Mo_insert_147 ?_
        refine r_V (V' := V5) hV5.symm ?_
        exact tail ls hl
  refine r_iload_n h d_Mo_insert_0 rfl (lv_at hl 1 rfl) ?_
  refine r_callSi h (n := 1) (As := [.int (nI r)]) (c_Mo_isReplica l D cA cR ad hI V (nI r)) g_Mo_78 (by decide +kernel) rfl ⟨by decide, by decide⟩ hl rfl (Nat.le_of_ble_eq_true rfl) d_Mo_insert_1 ?_
  refine r_if_eq_f h 22 d_Mo_insert_4 (by decide) (z_B_n.mpr (z_rep hr)) ?_
  refine r_iload_n h d_Mo_insert_7 rfl (lv_at hl 2 rfl) ?_
  refine r_if_lt_f h 22 d_Mo_insert_8 (by decide) h1 ?_
  refine r_iload_n h d_Mo_insert_11 rfl (lv_at hl 2 rfl) ?_
  refine r_aload_n h d_Mo_insert_12 rfl (lv_at hl 0 rfl) ?_
  refine r_iload_n h d_Mo_insert_13 rfl (lv_at hl 1 rfl) ?_
  refine r_iconst h (v := 1) d_Mo_insert_14 (by decide) ?_
  refine r_iconst h (v := 1) d_Mo_insert_15 (by decide) ?_
  refine r_callVi h (k := 27) (n := 3) (As := [.int (nI r), .int 1, .int 1]) (c_Mo_many l D cA cR ad hI V 1 1 r hr n hn hle) g_Mo_85 (by decide +kernel) rfl ⟨by decide, by decide⟩ (by decide) rfl rfl hl rfl (Nat.le_of_ble_eq_true rfl) d_Mo_insert_16 ?_
  refine r_icmp_le_t h 24 d_Mo_insert_19 (by decide) h2 ?_
  refine r_aload_n h d_Mo_insert_24 rfl (lv_at hl 0 rfl) ?_
  refine r_get h (k := 27) (j := 0) (by decide) rfl rfl iw_Mo (by decide) lk_Mo_43 rfl rfl d_Mo_insert_25 ?_
  refine r_bipush h (v := 30) d_Mo_insert_28 (by decide) ?_
  refine r_icmp_eq_f h 41 d_Mo_insert_30 (by decide) (by rw [hn]; exact fun c => absurd (z_inj (b := 30) (by omega) (by omega) c) (by omega)) ?_
  refine r_aload_n h d_Mo_insert_33 rfl (lv_at hl 0 rfl) ?_
  refine r_iload_n h d_Mo_insert_34 rfl (lv_at hl 1 rfl) ?_
  refine r_callVi h (k := 27) (n := 1) (As := [.int (nI r)]) (c_Mo_noRoom l D cA cR ad hI V (nI r)) g_Mo_89 (by decide +kernel) rfl ⟨by decide, by decide⟩ (by decide) rfl rfl hl rfl (Nat.le_of_ble_eq_true rfl) d_Mo_insert_35 ?_
  refine r_if_eq_t h 44 d_Mo_insert_38 (by decide) (z_B_0.mpr h4) ?_
  refine r_iload_n h d_Mo_insert_44 rfl (lv_at hl 2 rfl) ?_
  refine r_if_ne h 52 d_Mo_insert_45 (by decide) (fun c45 => ?_) (fun c45 => ?_)
  · skip
    refine r_aload_n h d_Mo_insert_52 rfl (lv_at hl 0 rfl) ?_
    refine r_iload_n h d_Mo_insert_53 rfl (lv_at hl 1 rfl) ?_
    refine r_iload_n h d_Mo_insert_54 rfl (lv_at hl 2 rfl) ?_
    refine r_iconst h (v := 1) d_Mo_insert_55 (by decide) ?_
    refine r_isub h d_Mo_insert_56 ?_
    refine r_iconst h (v := 1) d_Mo_insert_57 (by decide) ?_
    refine r_callVi h (k := 27) (n := 3) (As := [.int (nI r), .int (i - 1), .int 1]) (c_Mo_nth l D cA cR ad hI V (i - 1) 1 true (by decide) r hr n hK) g_Mo_92 (by decide +kernel) rfl ⟨by decide, by decide⟩ (by decide) rfl rfl hl rfl (Nat.le_of_ble_eq_true rfl) d_Mo_insert_58 ?_
    refine r_top (mA V n r i) (by unfold mA; rw [if_neg c45]) ?_
    refine r_istore h (lv' := [(4, .int (mA V n r i)), (0, .ref (ad 27)), (1, .int (nI r)), (2, .int i), (3, .int ch)]) d_Mo_insert_61 hl (by decide) rfl (fun ls hl => ?_)
    exact mid ls hl
  · skip
    refine r_iconst h (v := (-1)) d_Mo_insert_48 (by decide) ?_
    refine r_top (mA V n r i) (by unfold mA; rw [if_pos c45]) ?_
    refine r_goto h 61 d_Mo_insert_49 (by decide) ?_
    refine r_istore h (lv' := [(4, .int (mA V n r i)), (0, .ref (ad 27)), (1, .int (nI r)), (2, .int i), (3, .int ch)]) d_Mo_insert_61 hl (by decide) rfl (fun ls hl => ?_)
    exact mid ls hl
set_option maxHeartbeats 4000000 in
set_option maxRecDepth 100000 in
theorem c_Mo_deliver_c (l : Launch) (D : va_G) (cA cR : ClassId) (ad : Nat → Nat) (hI : wI ad) (V : Nat → Nat → Int32) (k : Int32) (r : Nat) (hr : r < 3) (h1 : (decide (0 ≤ k) && decide (k < V 36 r)) = false) : wM l D cA cR ad y_Mo_deliver (Cond.code y_Mo_deliver b_Mo_deliver 5 (some .int) :: wAl) 4 90 [.ref (ad 27), .int (nI r), .int k] V (some (.int (-1))) V := by
  refine wM_of hI (by decide) (Nat.le_of_ble_eq_true rfl) ?_
  intro X ls h hM hl
  have hl : lv_has ls 5 [(0, .ref (ad 27)), (1, .int (nI r)), (2, .int k)] := hl
  refine r_iload_n h d_Mo_deliver_0 rfl (lv_at hl 1 rfl) ?_
  refine r_callSi h (n := 1) (As := [.int (nI r)]) (c_Mo_isReplica l D cA cR ad hI V (nI r)) g_Mo_78 (by decide +kernel) rfl ⟨by decide, by decide⟩ hl rfl (Nat.le_of_ble_eq_true rfl) d_Mo_deliver_1 ?_
  refine r_if_eq_f h 21 d_Mo_deliver_4 (by decide) (z_B_n.mpr (z_rep hr)) ?_
  refine r_iload_n h d_Mo_deliver_7 rfl (lv_at hl 2 rfl) ?_
  refine r_if_lt h 21 d_Mo_deliver_8 (by decide) (fun c8 => ?_) (fun c8 => ?_)
  · skip
    refine r_iconst h (v := (-1)) d_Mo_deliver_21 (by decide) ?_
    exact r_iret h hM d_Mo_deliver_22 rfl rfl
  · skip
    refine r_iload_n h d_Mo_deliver_11 rfl (lv_at hl 2 rfl) ?_
    refine r_aload_n h d_Mo_deliver_12 rfl (lv_at hl 0 rfl) ?_
    refine r_get h (k := 27) (j := 9) (by decide) rfl rfl iw_Mo (by decide) lk_Mo_34 rfl rfl d_Mo_deliver_13 ?_
    refine r_iload_n h d_Mo_deliver_16 rfl (lv_at hl 1 rfl) ?_
    refine r_ialdN h (k := 36) (i := r) (by decide) rfl (by omega) (by omega) d_Mo_deliver_17 ?_
    refine r_icmp_lt h 23 d_Mo_deliver_18 (by decide) (fun c18 => ?_) (fun c18 => ?_)
    · skip
      rw [decide_eq_true c8, decide_eq_true c18] at h1
      cases h1
    · skip
      refine r_iconst h (v := (-1)) d_Mo_deliver_21 (by decide) ?_
      exact r_iret h hM d_Mo_deliver_22 rfl rfl
set_option maxHeartbeats 4000000 in
set_option maxRecDepth 100000 in
theorem c_Mo_deliver_d (l : Launch) (D : va_G) (cA cR : ClassId) (ad : Nat → Nat) (hI : wI ad) (V : Nat → Nat → Int32) (r : Nat) (hr : r < 3) (Va : Nat → Nat → Int32) (n : Nat) (ts wz : Nat → Nat) (hZ : kZ Va V n ts wz) (k : Nat) (hk : k < ts r) (hrd : mRdy (mTake V r (ts r) k) r (V 35 (90 * r + k)) = false) : wM l D cA cR ad y_Mo_deliver (Cond.code y_Mo_deliver b_Mo_deliver 5 (some .int) :: wAl) 4 90 [.ref (ad 27), .int (nI r), .int (nI k)] V (some (.int 0)) (wU (wU (mTake V r (ts r) k) 37 (90 * r + wz r) (V 35 (90 * r + k))) 38 r (nI (wz r + 1))) := by
  refine wM_of hI (by decide) (Nat.le_of_ble_eq_true rfl) ?_
  intro X ls h hM hl
  have hl : lv_has ls 5 [(0, .ref (ad 27)), (1, .int (nI r)), (2, .int (nI k))] := hl
  have hK := mK_of hZ.1 hZ.2.2
  have hts := kR_ts hZ.1 hZ.2.2 hr
  have ht5 := (kV_ts hZ.1 hr).2
  have h90 := kZ_90 hZ.1 hZ.2.1 hr
  have hkm := (kR_tc hZ.1 hZ.2.2 hr hk).2
  have hle := kV_n hZ.1
  have hK1 : mK (mTake V r (ts r) k) n := mK_c hK (fun j h1 h2 => mTake_o (by omega) (by omega))
  have fin : ∀ (j : Nat) (ls : Array Slot), lv_has ls 5 [(4, .int (nI j)), (3, .int (V 35 (90 * r + k))), (0, .ref (ad 27)), (1, .int (nI r)), (2, .int (nI k))] → wv X cA cR ad (wS (wU V 36 r (nI (ts r - 1))) 35 (z_shl (ts r - 1 - k) (90 * r + k) (V 35))) 95 ls [] := by
    intro j ls hl
    refine r_V (V' := mTake V r (ts r) k) rfl ?_
    refine r_aload_n h d_Mo_deliver_95 rfl (lv_at hl 2 rfl) ?_
    refine r_iload_n h d_Mo_deliver_96 rfl (lv_at hl 3 rfl) ?_
    refine r_iload_n h d_Mo_deliver_97 rfl (lv_at hl 1 rfl) ?_
    refine r_callVi h (k := 27) (n := 2) (As := [.int (nI r), .int (V 35 (90 * r + k))]) (c_Mo_ready l D cA cR ad hI (mTake V r (ts r) k) (V 35 (90 * r + k)) r hr n hK1 hkm) g_Mo_71 (by decide +kernel) rfl ⟨by decide, by decide⟩ (by decide) rfl rfl hl rfl (Nat.le_of_ble_eq_true rfl) d_Mo_deliver_98 ?_
    refine r_if_ne_f h 137 d_Mo_deliver_101 (by decide) (z_B_0.mpr hrd) ?_
    refine r_aload_n h d_Mo_deliver_104 rfl (lv_at hl 2 rfl) ?_
    refine r_get h (k := 27) (j := 10) (by decide) rfl rfl iw_Mo (by decide) lk_Mo_37 rfl rfl d_Mo_deliver_105 ?_
    refine r_bipush h (v := 90) d_Mo_deliver_108 (by decide) ?_
    refine r_iload_n h d_Mo_deliver_110 rfl (lv_at hl 3 rfl) ?_
    refine r_imul h d_Mo_deliver_111 ?_
    refine r_top (nI (90 * r)) (pk_mul 90 r) ?_
    refine r_aload_n h d_Mo_deliver_112 rfl (lv_at hl 2 rfl) ?_
    refine r_get h (k := 27) (j := 11) (by decide) rfl rfl iw_Mo (by decide) lk_Mo_40 rfl rfl d_Mo_deliver_113 ?_
    refine r_iload_n h d_Mo_deliver_116 rfl (lv_at hl 3 rfl) ?_
    refine r_ialdN h (k := 38) (i := r) (by decide) rfl (by omega) (by omega) d_Mo_deliver_117 ?_
    refine r_top (nI (wz r)) (by rw [mTake_o (by decide) (by decide)]; exact hts.2) ?_
    refine r_iadd h d_Mo_deliver_118 ?_
    refine r_top (nI (90 * r + wz r)) (nI_add _ _) ?_
    refine r_iload_n h d_Mo_deliver_119 rfl (lv_at hl 1 rfl) ?_
    refine r_iastN h (k := 37) (i := (90 * r + wz r)) (by decide) rfl (by omega) (by omega) d_Mo_deliver_120 ?_
    refine r_aload_n h d_Mo_deliver_121 rfl (lv_at hl 2 rfl) ?_
    refine r_get h (k := 27) (j := 11) (by decide) rfl rfl iw_Mo (by decide) lk_Mo_40 rfl rfl d_Mo_deliver_122 ?_
    refine r_iload_n h d_Mo_deliver_125 rfl (lv_at hl 3 rfl) ?_
    refine r_aload_n h d_Mo_deliver_126 rfl (lv_at hl 2 rfl) ?_
    refine r_get h (k := 27) (j := 11) (by decide) rfl rfl iw_Mo (by decide) lk_Mo_40 rfl rfl d_Mo_deliver_127 ?_
    refine r_iload_n h d_Mo_deliver_130 rfl (lv_at hl 3 rfl) ?_
    refine r_ialdN h (k := 38) (i := r) (by decide) rfl (by omega) (by omega) d_Mo_deliver_131 ?_
    refine r_top (nI (wz r)) (by rw [wU_n (by decide), mTake_o (by decide) (by decide)]; exact hts.2) ?_
    refine r_iconst h (v := 1) d_Mo_deliver_132 (by decide) ?_
    refine r_iadd h d_Mo_deliver_133 ?_
    refine r_top (nI (wz r + 1)) (nI_1 _) ?_
    refine r_iastN h (k := 38) (i := r) (by decide) rfl (by omega) (by omega) d_Mo_deliver_134 ?_
    refine r_iconst h (v := 0) d_Mo_deliver_135 (by decide) ?_
    exact r_iret h hM d_Mo_deliver_136 rfl rfl
  have shl : ∀ (t j : Nat) (f : Nat → Int32) (ls : Array Slot), j + t = ts r - 1 → z_shl t (90 * r + j) f = z_shl (ts r - 1 - k) (90 * r + k) (V 35) → lv_has ls 5 [(4, .int (nI j)), (3, .int (V 35 (90 * r + k))), (0, .ref (ad 27)), (1, .int (nI r)), (2, .int (nI k))] → wv X cA cR ad (wS (wU V 36 r (nI (ts r - 1))) 35 f) 52 ls [] := by
    intro t
    induction t with
    | zero =>
      intro j f ls hj hz hl
      refine r_iload h d_Mo_deliver_52 (lv_at hl 0 rfl) ?_
      refine r_aload_n h d_Mo_deliver_54 rfl (lv_at hl 2 rfl) ?_
      refine r_get h (k := 27) (j := 9) (by decide) rfl rfl iw_Mo (by decide) lk_Mo_34 rfl rfl d_Mo_deliver_55 ?_
      refine r_iload_n h d_Mo_deliver_58 rfl (lv_at hl 3 rfl) ?_
      refine r_ialdN h (k := 36) (i := r) (by decide) rfl (by omega) (by omega) d_Mo_deliver_59 ?_
      refine r_top (nI (ts r - 1)) (by rw [wS_n (by decide), wU_s, pk_us]) ?_
      refine r_icmp_ge_t h 95 d_Mo_deliver_60 (by decide) (nI_sz (by omega) (by omega) (by omega)) ?_
      refine r_V (V' := wS (wU V 36 r (nI (ts r - 1))) 35 (z_shl (ts r - 1 - k) (90 * r + k) (V 35))) (by rw [← hz]; rfl) ?_
      exact fin j ls hl
    | succ t ih =>
      intro j f ls hj hz hl
      refine r_iload h d_Mo_deliver_52 (lv_at hl 0 rfl) ?_
      refine r_aload_n h d_Mo_deliver_54 rfl (lv_at hl 2 rfl) ?_
      refine r_get h (k := 27) (j := 9) (by decide) rfl rfl iw_Mo (by decide) lk_Mo_34 rfl rfl d_Mo_deliver_55 ?_
      refine r_iload_n h d_Mo_deliver_58 rfl (lv_at hl 3 rfl) ?_
      refine r_ialdN h (k := 36) (i := r) (by decide) rfl (by omega) (by omega) d_Mo_deliver_59 ?_
      refine r_top (nI (ts r - 1)) (by rw [wS_n (by decide), wU_s, pk_us]) ?_
      refine r_icmp_ge_f h 95 d_Mo_deliver_60 (by decide) (nI_lz (by omega) (by omega) (by omega)) ?_
      refine r_aload_n h d_Mo_deliver_63 rfl (lv_at hl 2 rfl) ?_
      refine r_get h (k := 27) (j := 8) (by decide) rfl rfl iw_Mo (by decide) lk_Mo_31 rfl rfl d_Mo_deliver_64 ?_
      refine r_bipush h (v := 90) d_Mo_deliver_67 (by decide) ?_
      refine r_iload_n h d_Mo_deliver_69 rfl (lv_at hl 3 rfl) ?_
      refine r_imul h d_Mo_deliver_70 ?_
      refine r_top (nI (90 * r)) (pk_mul 90 r) ?_
      refine r_iload h d_Mo_deliver_71 (lv_at hl 0 rfl) ?_
      refine r_iadd h d_Mo_deliver_73 ?_
      refine r_top (nI (90 * r + j)) (nI_add _ _) ?_
      refine r_aload_n h d_Mo_deliver_74 rfl (lv_at hl 2 rfl) ?_
      refine r_get h (k := 27) (j := 8) (by decide) rfl rfl iw_Mo (by decide) lk_Mo_31 rfl rfl d_Mo_deliver_75 ?_
      refine r_bipush h (v := 90) d_Mo_deliver_78 (by decide) ?_
      refine r_iload_n h d_Mo_deliver_80 rfl (lv_at hl 3 rfl) ?_
      refine r_imul h d_Mo_deliver_81 ?_
      refine r_top (nI (90 * r)) (pk_mul 90 r) ?_
      refine r_iload h d_Mo_deliver_82 (lv_at hl 0 rfl) ?_
      refine r_iadd h d_Mo_deliver_84 ?_
      refine r_top (nI (90 * r + j)) (nI_add _ _) ?_
      refine r_iconst h (v := 1) d_Mo_deliver_85 (by decide) ?_
      refine r_iadd h d_Mo_deliver_86 ?_
      refine r_top (nI (90 * r + j + 1)) (nI_1 _) ?_
      refine r_ialdN h (k := 35) (i := (90 * r + j + 1)) (by decide) rfl (by omega) (by omega) d_Mo_deliver_87 ?_
      refine r_top (f (90 * r + j + 1)) (by rw [wS_s]) ?_
      refine r_iastN h (k := 35) (i := (90 * r + j)) (by decide) rfl (by omega) (by omega) d_Mo_deliver_88 ?_
      refine r_V (V' := wS (wU V 36 r (nI (ts r - 1))) 35 (upd f (90 * r + j) (f (90 * r + j + 1)))) (wU_wS _ _ _ _ _) ?_
      refine r_iinc h (v := nI (j + 1)) (lv' := [(4, .int (nI (j + 1))), (3, .int (V 35 (90 * r + k))), (0, .ref (ad 27)), (1, .int (nI r)), (2, .int (nI k))]) d_Mo_deliver_89 hl (k := 0) rfl (z_inc j) (by decide) rfl (fun ls hl => ?_)
      refine r_goto h 52 d_Mo_deliver_92 (by decide) ?_
      exact ih (j + 1) _ ls (by omega) hz hl
  refine r_iload_n h d_Mo_deliver_0 rfl (lv_at hl 1 rfl) ?_
  refine r_callSi h (n := 1) (As := [.int (nI r)]) (c_Mo_isReplica l D cA cR ad hI V (nI r)) g_Mo_78 (by decide +kernel) rfl ⟨by decide, by decide⟩ hl rfl (Nat.le_of_ble_eq_true rfl) d_Mo_deliver_1 ?_
  refine r_if_eq_f h 21 d_Mo_deliver_4 (by decide) (z_B_n.mpr (z_rep hr)) ?_
  refine r_iload_n h d_Mo_deliver_7 rfl (lv_at hl 2 rfl) ?_
  refine r_if_lt_f h 21 d_Mo_deliver_8 (by decide) (nI_pos' (by omega)) ?_
  refine r_iload_n h d_Mo_deliver_11 rfl (lv_at hl 2 rfl) ?_
  refine r_aload_n h d_Mo_deliver_12 rfl (lv_at hl 0 rfl) ?_
  refine r_get h (k := 27) (j := 9) (by decide) rfl rfl iw_Mo (by decide) lk_Mo_34 rfl rfl d_Mo_deliver_13 ?_
  refine r_iload_n h d_Mo_deliver_16 rfl (lv_at hl 1 rfl) ?_
  refine r_ialdN h (k := 36) (i := r) (by decide) rfl (by omega) (by omega) d_Mo_deliver_17 ?_
  refine r_top (nI (ts r)) hts.1 ?_
  refine r_icmp_lt_t h 23 d_Mo_deliver_18 (by decide) (nI_lz (by omega) (by omega) (by omega)) ?_
  refine r_aload_n h d_Mo_deliver_23 rfl (lv_at hl 0 rfl) ?_
  refine r_get h (k := 27) (j := 8) (by decide) rfl rfl iw_Mo (by decide) lk_Mo_31 rfl rfl d_Mo_deliver_24 ?_
  refine r_bipush h (v := 90) d_Mo_deliver_27 (by decide) ?_
  refine r_iload_n h d_Mo_deliver_29 rfl (lv_at hl 1 rfl) ?_
  refine r_imul h d_Mo_deliver_30 ?_
  refine r_top (nI (90 * r)) (pk_mul 90 r) ?_
  refine r_iload_n h d_Mo_deliver_31 rfl (lv_at hl 2 rfl) ?_
  refine r_iadd h d_Mo_deliver_32 ?_
  refine r_top (nI (90 * r + k)) (nI_add _ _) ?_
  refine r_ialdN h (k := 35) (i := (90 * r + k)) (by decide) rfl (by omega) (by omega) d_Mo_deliver_33 ?_
  refine r_istore_n h (lv' := [(3, .int (V 35 (90 * r + k))), (0, .ref (ad 27)), (1, .int (nI r)), (2, .int (nI k))]) d_Mo_deliver_34 rfl hl (by decide) rfl (fun ls hl => ?_)
  refine r_aload_n h d_Mo_deliver_35 rfl (lv_at hl 1 rfl) ?_
  refine r_get h (k := 27) (j := 9) (by decide) rfl rfl iw_Mo (by decide) lk_Mo_34 rfl rfl d_Mo_deliver_36 ?_
  refine r_iload_n h d_Mo_deliver_39 rfl (lv_at hl 2 rfl) ?_
  refine r_aload_n h d_Mo_deliver_40 rfl (lv_at hl 1 rfl) ?_
  refine r_get h (k := 27) (j := 9) (by decide) rfl rfl iw_Mo (by decide) lk_Mo_34 rfl rfl d_Mo_deliver_41 ?_
  refine r_iload_n h d_Mo_deliver_44 rfl (lv_at hl 2 rfl) ?_
  refine r_ialdN h (k := 36) (i := r) (by decide) rfl (by omega) (by omega) d_Mo_deliver_45 ?_
  refine r_top (nI (ts r)) hts.1 ?_
  refine r_iconst h (v := 1) d_Mo_deliver_46 (by decide) ?_
  refine r_isub h d_Mo_deliver_47 ?_
  refine r_top (nI (ts r - 1)) (nI_m1 (by omega)) ?_
  refine r_iastN h (k := 36) (i := r) (by decide) rfl (by omega) (by omega) d_Mo_deliver_48 ?_
  refine r_iload_n h d_Mo_deliver_49 rfl (lv_at hl 3 rfl) ?_
  refine r_istore h (lv' := [(4, .int (nI k)), (3, .int (V 35 (90 * r + k))), (0, .ref (ad 27)), (1, .int (nI r)), (2, .int (nI k))]) d_Mo_deliver_50 hl (by decide) rfl (fun ls hl => ?_)
  refine r_V (V' := wS (wU V 36 r (nI (ts r - 1))) 35 (V 35)) (by rw [show V 35 = (wU V 36 r (nI (ts r - 1))) 35 from (wU_n (by decide)).symm, wS_id]) ?_
  exact shl (ts r - 1 - k) k (V 35) ls (by omega) rfl hl
set_option maxHeartbeats 4000000 in
set_option maxRecDepth 100000 in
theorem c_Mo_deliver (l : Launch) (D : va_G) (cA cR : ClassId) (ad : Nat → Nat) (hI : wI ad) (V : Nat → Nat → Int32) (r : Nat) (hr : r < 3) (Va : Nat → Nat → Int32) (n : Nat) (ts wz : Nat → Nat) (hZ : kZ Va V n ts wz) (k : Nat) (hk : k < ts r) (hrd : mRdy (mTake V r (ts r) k) r (V 35 (90 * r + k)) = true) : wM l D cA cR ad y_Mo_deliver (Cond.code y_Mo_deliver b_Mo_deliver 5 (some .int) :: wAl) 4 90 [.ref (ad 27), .int (nI r), .int (nI k)] V (some (.int (nI ((mWk r (wz r) (mEff (mTake V r (ts r) k) r (V 35 (90 * r + k))) (wz r)).2 + 1)))) ((mWk r (wz r) (mEff (mTake V r (ts r) k) r (V 35 (90 * r + k))) (wz r)).1) := by
  refine wM_of hI (by decide) (Nat.le_of_ble_eq_true rfl) ?_
  intro X ls h hM hl
  have hl : lv_has ls 5 [(0, .ref (ad 27)), (1, .int (nI r)), (2, .int (nI k))] := hl
  have hK := mK_of hZ.1 hZ.2.2
  have hts := kR_ts hZ.1 hZ.2.2 hr
  have ht5 := (kV_ts hZ.1 hr).2
  have h90 := kZ_90 hZ.1 hZ.2.1 hr
  have hkm := (kR_tc hZ.1 hZ.2.2 hr hk).2
  have hle := kV_n hZ.1
  have hK1 : mK (mTake V r (ts r) k) n := mK_c hK (fun j h1 h2 => mTake_o (by omega) (by omega))
  have fin : ∀ (j : Nat) (ls : Array Slot), lv_has ls 5 [(4, .int (nI j)), (3, .int (V 35 (90 * r + k))), (0, .ref (ad 27)), (1, .int (nI r)), (2, .int (nI k))] → wv X cA cR ad (wS (wU V 36 r (nI (ts r - 1))) 35 (z_shl (ts r - 1 - k) (90 * r + k) (V 35))) 95 ls [] := by
    intro j ls hl
    refine r_V (V' := mTake V r (ts r) k) rfl ?_
    refine r_aload_n h d_Mo_deliver_95 rfl (lv_at hl 2 rfl) ?_
    refine r_iload_n h d_Mo_deliver_96 rfl (lv_at hl 3 rfl) ?_
    refine r_iload_n h d_Mo_deliver_97 rfl (lv_at hl 1 rfl) ?_
    refine r_callVi h (k := 27) (n := 2) (As := [.int (nI r), .int (V 35 (90 * r + k))]) (c_Mo_ready l D cA cR ad hI (mTake V r (ts r) k) (V 35 (90 * r + k)) r hr n hK1 hkm) g_Mo_71 (by decide +kernel) rfl ⟨by decide, by decide⟩ (by decide) rfl rfl hl rfl (Nat.le_of_ble_eq_true rfl) d_Mo_deliver_98 ?_
    refine r_if_ne_t h 137 d_Mo_deliver_101 (by decide) (z_B_n.mpr hrd) ?_
    refine r_aload_n h d_Mo_deliver_137 rfl (lv_at hl 2 rfl) ?_
    refine r_iload_n h d_Mo_deliver_138 rfl (lv_at hl 3 rfl) ?_
    refine r_iload_n h d_Mo_deliver_139 rfl (lv_at hl 1 rfl) ?_
    refine r_callVv h (k := 27) (n := 2) (As := [.int (nI r), .int (V 35 (90 * r + k))]) (c_Mo_effect l D cA cR ad hI (mTake V r (ts r) k) (V 35 (90 * r + k)) r hr n hle hkm) g_Mo_74 (by decide +kernel) rfl ⟨by decide, by decide⟩ (by decide) rfl rfl hl rfl (Nat.le_of_ble_eq_true rfl) d_Mo_deliver_140 ?_
    refine r_iconst h (v := 1) d_Mo_deliver_143 (by decide) ?_
    refine r_istore h (lv' := [(4, .int 1), (3, .int (V 35 (90 * r + k))), (0, .ref (ad 27)), (1, .int (nI r)), (2, .int (nI k))]) d_Mo_deliver_144 hl (by decide) rfl (fun ls hl => ?_)
    have wk : ∀ (f c : Nat) (Vb Vc : Nat → Nat → Int32) (tb wb : Nat → Nat) (ls : Array Slot), wb r = f → kZ Vb Vc n tb wb → (mWk r f Vc f).1 = (mWk r (wz r) (mEff (mTake V r (ts r) k) r (V 35 (90 * r + k))) (wz r)).1 → c + (mWk r f Vc f).2 = (mWk r (wz r) (mEff (mTake V r (ts r) k) r (V 35 (90 * r + k))) (wz r)).2 + 1 → lv_has ls 5 [(4, .int (nI c)), (3, .int (V 35 (90 * r + k))), (0, .ref (ad 27)), (1, .int (nI r)), (2, .int (nI k))] → wv X cA cR ad Vc 146 ls [] := by
      intro f
      induction f with
      | zero =>
        intro c Vb Vc tb wb ls hwb hZ2 h1 h2 hl
        have h9 : wb r ≤ 90 := by omega
        have hf0 : mFst Vc r (wb r) = wb r := by have := mFst_le Vc r (wb r); omega
        refine r_aload_n h d_Mo_deliver_146 rfl (lv_at hl 2 rfl) ?_
        refine r_iload_n h d_Mo_deliver_147 rfl (lv_at hl 3 rfl) ?_
        refine r_callVi h (k := 27) (n := 1) (As := [.int (nI r)]) (c_Mo_wake l D cA cR ad hI Vc r hr Vb n tb wb hZ2.1 hZ2.2.2 h9) g_Mo_82 (by decide +kernel) rfl ⟨by decide, by decide⟩ (by decide) rfl rfl hl rfl (Nat.le_of_ble_eq_true rfl) d_Mo_deliver_148 ?_
        refine r_V (V' := Vc) (by unfold mWa; rw [if_pos hf0]) ?_
        refine r_if_eq_t h 160 d_Mo_deliver_151 (by decide) (z_B_0.mpr (by rw [decide_eq_true hf0]; rfl)) ?_
        refine r_iload h d_Mo_deliver_160 (lv_at hl 0 rfl) ?_
        exact r_iret h hM d_Mo_deliver_162 (rI (by rw [← h2]; rfl)) h1
      | succ f ih =>
        intro c Vb Vc tb wb ls hwb hZ2 h1 h2 hl
        have h9 : wb r ≤ 90 := by have := kZ_90 hZ2.1 hZ2.2.1 hr; omega
        refine r_aload_n h d_Mo_deliver_146 rfl (lv_at hl 2 rfl) ?_
        refine r_iload_n h d_Mo_deliver_147 rfl (lv_at hl 3 rfl) ?_
        refine r_callVi h (k := 27) (n := 1) (As := [.int (nI r)]) (c_Mo_wake l D cA cR ad hI Vc r hr Vb n tb wb hZ2.1 hZ2.2.2 h9) g_Mo_82 (by decide +kernel) rfl ⟨by decide, by decide⟩ (by decide) rfl rfl hl rfl (Nat.le_of_ble_eq_true rfl) d_Mo_deliver_148 ?_
        refine r_if_eq h 160 d_Mo_deliver_151 (by decide) (fun c151 => ?_) (fun c151 => ?_)
        · skip
          have hf0 : mFst Vc r (wb r) = wb r := Classical.byContradiction fun z => by
            have := z_B_0.mp c151
            rw [decide_eq_false z] at this
            cases this
          refine r_V (V' := Vc) (by unfold mWa; rw [if_pos hf0]) ?_
          refine r_iload h d_Mo_deliver_160 (lv_at hl 0 rfl) ?_
          exact r_iret h hM d_Mo_deliver_162 (rI (by rw [show c = (mWk r (wz r) (mEff (mTake V r (ts r) k) r (V 35 (90 * r + k))) (wz r)).2 + 1 by (rw [← h2, ← hwb, mWk_0 hf0]; rfl)])) (by rw [← h1, ← hwb, mWk_0 hf0])
        · skip
          have hf1 : ¬ mFst Vc r (wb r) = wb r := fun z => by
            have := z_B_n.mp c151
            rw [decide_eq_true z] at this
            cases this
          obtain ⟨Vd, hZ3⟩ := Z_wakeR hr hZ2 hf1
          have hwa : mWa Vc r (wb r) = mEff (mTakeW Vc r (wb r) (mFst Vc r (wb r))) r (Vc 37 (90 * r + mFst Vc r (wb r))) := by unfold mWa; rw [if_neg hf1]
          refine r_iinc h (v := nI (c + 1)) (lv' := [(4, .int (nI (c + 1))), (3, .int (V 35 (90 * r + k))), (0, .ref (ad 27)), (1, .int (nI r)), (2, .int (nI k))]) d_Mo_deliver_154 hl (k := 0) rfl (z_inc c) (by decide) rfl (fun ls hl => ?_)
          refine r_goto h 146 d_Mo_deliver_157 (by decide) ?_
          rw [hwb] at hwa hZ3 hf1 ⊢
          rw [hwa] at hZ3 ⊢
          exact ih (c + 1) Vd _ tb _ ls (by show (if r = r then wb r - 1 else wb r) = f; rw [if_pos rfl]; omega) hZ3 (by rw [← h1, mWk_s hf1]; rfl) (by rw [← h2, mWk_s hf1]; show c + 1 + _ = c + (_ + 1); rw [Nat.add_assoc, Nat.add_comm 1]; rfl) hl
    have e1 : Va (6 * r + 12) k = V 35 (90 * r + k) := ((kR_tc hZ.1 hZ.2.2 hr hk).1).symm
    have hra : kRdy (kTake Va (6 * r + 11) (ts r) k) r (V 35 (90 * r + k)) = true := by rw [← (Z_deliver hZ hr hk e1.symm).2.2.1]; exact hrd
    exact wk (wz r) 1 _ (mEff (mTake V r (ts r) k) r (V 35 (90 * r + k))) _ wz ls rfl (Z_del1 hZ hr hk e1.symm hra) rfl (Nat.add_comm _ _) hl
  have shl : ∀ (t j : Nat) (f : Nat → Int32) (ls : Array Slot), j + t = ts r - 1 → z_shl t (90 * r + j) f = z_shl (ts r - 1 - k) (90 * r + k) (V 35) → lv_has ls 5 [(4, .int (nI j)), (3, .int (V 35 (90 * r + k))), (0, .ref (ad 27)), (1, .int (nI r)), (2, .int (nI k))] → wv X cA cR ad (wS (wU V 36 r (nI (ts r - 1))) 35 f) 52 ls [] := by
    intro t
    induction t with
    | zero =>
      intro j f ls hj hz hl
      refine r_iload h d_Mo_deliver_52 (lv_at hl 0 rfl) ?_
      refine r_aload_n h d_Mo_deliver_54 rfl (lv_at hl 2 rfl) ?_
      refine r_get h (k := 27) (j := 9) (by decide) rfl rfl iw_Mo (by decide) lk_Mo_34 rfl rfl d_Mo_deliver_55 ?_
      refine r_iload_n h d_Mo_deliver_58 rfl (lv_at hl 3 rfl) ?_
      refine r_ialdN h (k := 36) (i := r) (by decide) rfl (by omega) (by omega) d_Mo_deliver_59 ?_
      refine r_top (nI (ts r - 1)) (by rw [wS_n (by decide), wU_s, pk_us]) ?_
      refine r_icmp_ge_t h 95 d_Mo_deliver_60 (by decide) (nI_sz (by omega) (by omega) (by omega)) ?_
      refine r_V (V' := wS (wU V 36 r (nI (ts r - 1))) 35 (z_shl (ts r - 1 - k) (90 * r + k) (V 35))) (by rw [← hz]; rfl) ?_
      exact fin j ls hl
    | succ t ih =>
      intro j f ls hj hz hl
      refine r_iload h d_Mo_deliver_52 (lv_at hl 0 rfl) ?_
      refine r_aload_n h d_Mo_deliver_54 rfl (lv_at hl 2 rfl) ?_
      refine r_get h (k := 27) (j := 9) (by decide) rfl rfl iw_Mo (by decide) lk_Mo_34 rfl rfl d_Mo_deliver_55 ?_
      refine r_iload_n h d_Mo_deliver_58 rfl (lv_at hl 3 rfl) ?_
      refine r_ialdN h (k := 36) (i := r) (by decide) rfl (by omega) (by omega) d_Mo_deliver_59 ?_
      refine r_top (nI (ts r - 1)) (by rw [wS_n (by decide), wU_s, pk_us]) ?_
      refine r_icmp_ge_f h 95 d_Mo_deliver_60 (by decide) (nI_lz (by omega) (by omega) (by omega)) ?_
      refine r_aload_n h d_Mo_deliver_63 rfl (lv_at hl 2 rfl) ?_
      refine r_get h (k := 27) (j := 8) (by decide) rfl rfl iw_Mo (by decide) lk_Mo_31 rfl rfl d_Mo_deliver_64 ?_
      refine r_bipush h (v := 90) d_Mo_deliver_67 (by decide) ?_
      refine r_iload_n h d_Mo_deliver_69 rfl (lv_at hl 3 rfl) ?_
      refine r_imul h d_Mo_deliver_70 ?_
      refine r_top (nI (90 * r)) (pk_mul 90 r) ?_
      refine r_iload h d_Mo_deliver_71 (lv_at hl 0 rfl) ?_
      refine r_iadd h d_Mo_deliver_73 ?_
      refine r_top (nI (90 * r + j)) (nI_add _ _) ?_
      refine r_aload_n h d_Mo_deliver_74 rfl (lv_at hl 2 rfl) ?_
      refine r_get h (k := 27) (j := 8) (by decide) rfl rfl iw_Mo (by decide) lk_Mo_31 rfl rfl d_Mo_deliver_75 ?_
      refine r_bipush h (v := 90) d_Mo_deliver_78 (by decide) ?_
      refine r_iload_n h d_Mo_deliver_80 rfl (lv_at hl 3 rfl) ?_
      refine r_imul h d_Mo_deliver_81 ?_
      refine r_top (nI (90 * r)) (pk_mul 90 r) ?_
      refine r_iload h d_Mo_deliver_82 (lv_at hl 0 rfl) ?_
      refine r_iadd h d_Mo_deliver_84 ?_
      refine r_top (nI (90 * r + j)) (nI_add _ _) ?_
      refine r_iconst h (v := 1) d_Mo_deliver_85 (by decide) ?_
      refine r_iadd h d_Mo_deliver_86 ?_
      refine r_top (nI (90 * r + j + 1)) (nI_1 _) ?_
      refine r_ialdN h (k := 35) (i := (90 * r + j + 1)) (by decide) rfl (by omega) (by omega) d_Mo_deliver_87 ?_
      refine r_top (f (90 * r + j + 1)) (by rw [wS_s]) ?_
      refine r_iastN h (k := 35) (i := (90 * r + j)) (by decide) rfl (by omega) (by omega) d_Mo_deliver_88 ?_
      refine r_V (V' := wS (wU V 36 r (nI (ts r - 1))) 35 (upd f (90 * r + j) (f (90 * r + j + 1)))) (wU_wS _ _ _ _ _) ?_
      refine r_iinc h (v := nI (j + 1)) (lv' := [(4, .int (nI (j + 1))), (3, .int (V 35 (90 * r + k))), (0, .ref (ad 27)), (1, .int (nI r)), (2, .int (nI k))]) d_Mo_deliver_89 hl (k := 0) rfl (z_inc j) (by decide) rfl (fun ls hl => ?_)
      refine r_goto h 52 d_Mo_deliver_92 (by decide) ?_
      exact ih (j + 1) _ ls (by omega) hz hl
  refine r_iload_n h d_Mo_deliver_0 rfl (lv_at hl 1 rfl) ?_
  refine r_callSi h (n := 1) (As := [.int (nI r)]) (c_Mo_isReplica l D cA cR ad hI V (nI r)) g_Mo_78 (by decide +kernel) rfl ⟨by decide, by decide⟩ hl rfl (Nat.le_of_ble_eq_true rfl) d_Mo_deliver_1 ?_
  refine r_if_eq_f h 21 d_Mo_deliver_4 (by decide) (z_B_n.mpr (z_rep hr)) ?_
  refine r_iload_n h d_Mo_deliver_7 rfl (lv_at hl 2 rfl) ?_
  refine r_if_lt_f h 21 d_Mo_deliver_8 (by decide) (nI_pos' (by omega)) ?_
  refine r_iload_n h d_Mo_deliver_11 rfl (lv_at hl 2 rfl) ?_
  refine r_aload_n h d_Mo_deliver_12 rfl (lv_at hl 0 rfl) ?_
  refine r_get h (k := 27) (j := 9) (by decide) rfl rfl iw_Mo (by decide) lk_Mo_34 rfl rfl d_Mo_deliver_13 ?_
  refine r_iload_n h d_Mo_deliver_16 rfl (lv_at hl 1 rfl) ?_
  refine r_ialdN h (k := 36) (i := r) (by decide) rfl (by omega) (by omega) d_Mo_deliver_17 ?_
  refine r_top (nI (ts r)) hts.1 ?_
  refine r_icmp_lt_t h 23 d_Mo_deliver_18 (by decide) (nI_lz (by omega) (by omega) (by omega)) ?_
  refine r_aload_n h d_Mo_deliver_23 rfl (lv_at hl 0 rfl) ?_
  refine r_get h (k := 27) (j := 8) (by decide) rfl rfl iw_Mo (by decide) lk_Mo_31 rfl rfl d_Mo_deliver_24 ?_
  refine r_bipush h (v := 90) d_Mo_deliver_27 (by decide) ?_
  refine r_iload_n h d_Mo_deliver_29 rfl (lv_at hl 1 rfl) ?_
  refine r_imul h d_Mo_deliver_30 ?_
  refine r_top (nI (90 * r)) (pk_mul 90 r) ?_
  refine r_iload_n h d_Mo_deliver_31 rfl (lv_at hl 2 rfl) ?_
  refine r_iadd h d_Mo_deliver_32 ?_
  refine r_top (nI (90 * r + k)) (nI_add _ _) ?_
  refine r_ialdN h (k := 35) (i := (90 * r + k)) (by decide) rfl (by omega) (by omega) d_Mo_deliver_33 ?_
  refine r_istore_n h (lv' := [(3, .int (V 35 (90 * r + k))), (0, .ref (ad 27)), (1, .int (nI r)), (2, .int (nI k))]) d_Mo_deliver_34 rfl hl (by decide) rfl (fun ls hl => ?_)
  refine r_aload_n h d_Mo_deliver_35 rfl (lv_at hl 1 rfl) ?_
  refine r_get h (k := 27) (j := 9) (by decide) rfl rfl iw_Mo (by decide) lk_Mo_34 rfl rfl d_Mo_deliver_36 ?_
  refine r_iload_n h d_Mo_deliver_39 rfl (lv_at hl 2 rfl) ?_
  refine r_aload_n h d_Mo_deliver_40 rfl (lv_at hl 1 rfl) ?_
  refine r_get h (k := 27) (j := 9) (by decide) rfl rfl iw_Mo (by decide) lk_Mo_34 rfl rfl d_Mo_deliver_41 ?_
  refine r_iload_n h d_Mo_deliver_44 rfl (lv_at hl 2 rfl) ?_
  refine r_ialdN h (k := 36) (i := r) (by decide) rfl (by omega) (by omega) d_Mo_deliver_45 ?_
  refine r_top (nI (ts r)) hts.1 ?_
  refine r_iconst h (v := 1) d_Mo_deliver_46 (by decide) ?_
  refine r_isub h d_Mo_deliver_47 ?_
  refine r_top (nI (ts r - 1)) (nI_m1 (by omega)) ?_
  refine r_iastN h (k := 36) (i := r) (by decide) rfl (by omega) (by omega) d_Mo_deliver_48 ?_
  refine r_iload_n h d_Mo_deliver_49 rfl (lv_at hl 3 rfl) ?_
  refine r_istore h (lv' := [(4, .int (nI k)), (3, .int (V 35 (90 * r + k))), (0, .ref (ad 27)), (1, .int (nI r)), (2, .int (nI k))]) d_Mo_deliver_50 hl (by decide) rfl (fun ls hl => ?_)
  refine r_V (V' := wS (wU V 36 r (nI (ts r - 1))) 35 (V 35)) (by rw [show V 35 = (wU V 36 r (nI (ts r - 1))) 35 from (wU_n (by decide)).symm, wS_id]) ?_
  exact shl (ts r - 1 - k) k (V 35) ls (by omega) rfl hl
