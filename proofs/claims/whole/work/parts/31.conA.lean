-- CONTRACTS: Messages, Replica, Tree (laid by gen/conA.py)
theorem rI {a b : Int32} (h : a = b) : some (Value.int a) = some (Value.int b) := by rw [h]
theorem rT {b : Bool} (h : b = true) : some (Value.int 1) = some (Value.int (z_B b)) := by rw [h]; rfl
theorem rF {b : Bool} (h : b = false) : some (Value.int 0) = some (Value.int (z_B b)) := by rw [h]; rfl
theorem nI_sz {a b : Nat} (ha : a < 1000) (hb : b < 1000) (h : b ≤ a) : nI b ≤ nI a := (nI_leI (by omega) (by omega)).mpr h
theorem nI_lz {a b : Nat} (ha : a < 1000) (hb : b < 1000) (h : a < b) : nI a < nI b := (nI_ltI (by omega) (by omega)).mpr h
theorem nI_szm {a b : Nat} (ha : a < 1000) (hb : b < 1000) (h : nI b ≤ nI a) : b ≤ a := (nI_leI (by omega) (by omega)).mp h
theorem nI_lzm {a b : Nat} (ha : a < 1000) (hb : b < 1000) (h : nI a < nI b) : a < b := (nI_ltI (by omega) (by omega)).mp h
theorem nI_m1 {s : Nat} (h : 0 < s) : nI s - 1 = nI (s - 1) := by
  obtain ⟨k, rfl⟩ : ∃ k, s = k + 1 := ⟨s - 1, by omega⟩
  exact nI_pred k
theorem z_el_e {x : Int32} {m : Nat} (h : z_el x m) (h1 : ¬ x = -1) : ∃ e, e < m ∧ x = nI e := by
  rcases h with g | g
  · exact absurd g h1
  · exact g
theorem z_el_in {x : Int32} {m k : Nat} (h : z_el x m) (h1 : ¬ x = -1) (hm : m ≤ k) (hk : k < 1000) : vp_in x k := by
  obtain ⟨e, e1, e2⟩ := z_el_e h h1
  rw [e2]
  exact vp_in_nI (by omega) (by omega)
theorem z_pl_le (od : Nat → Int32) (n : Nat) (x : Int32) : z_pl od n x ≤ n := by
  have := (z_fnd_sp (fun p => decide (od p = x)) n 0).2.1
  unfold z_pl
  omega
theorem z_sib_1 {od sd ro mk : Nat → Int32} {n a b : Nat} (h1 : sd a = 1) (h2 : ¬ z_pl od n (ro a) = z_pl od n (ro b)) : z_sib od sd ro mk n a b = decide (z_pl od n (ro b) < z_pl od n (ro a)) := by
  unfold z_sib
  rw [if_pos ⟨h1, h2⟩]
theorem z_sib_2 {od sd ro mk : Nat → Int32} {n a b : Nat} (h : ¬ (sd a = 1 ∧ ¬ z_pl od n (ro a) = z_pl od n (ro b))) (h3 : ¬ mk a = mk b) : z_sib od sd ro mk n a b = decide (mk a < mk b) := by
  unfold z_sib
  rw [if_neg h, if_pos h3]
theorem z_sib_3 {od sd ro mk : Nat → Int32} {n a b : Nat} (h : ¬ (sd a = 1 ∧ ¬ z_pl od n (ro a) = z_pl od n (ro b))) (h3 : mk a = mk b) : z_sib od sd ro mk n a b = decide (a < b) := by
  unfold z_sib
  rw [if_neg h, if_neg (fun q => q h3)]
theorem z_bq1 {z : Int32} {f : Nat → Bool} (h : z = -3) : (!decide (z = -3) && f z.toNatClampNeg) = false := by
  rw [decide_eq_true h]
  rfl
theorem z_bq2 {z : Int32} {f : Nat → Bool} {c : Nat} (h : z = nI c) (hc : c < 1000) : (!decide (z = -3) && f z.toNatClampNeg) = f c := by
  rw [h, decide_eq_false (z_n3 hc), nI_clamp (by omega)]
  rfl
theorem z_br_c {pa : Nat → Int32} {t : Int32} {m : Nat} (hm : m ≤ 1000) (hpa : ∀ e, e < m → z_el (pa e) e) : ∀ (k e : Nat), e < m → ¬ z_br pa t k (nI e) = -3 → ∃ c, c ≤ e ∧ z_br pa t k (nI e) = nI c := by
  intro k
  induction k with
  | zero => intro e _ h; exact absurd rfl h
  | succ k ih =>
    intro e he h
    by_cases hp : pa e = t
    · exact ⟨e, Nat.le_refl e, z_br_e (by omega) hp⟩
    · rw [z_br_n (by omega) hp] at h ⊢
      rcases hpa e he with g | ⟨q, g1, g2⟩
      · rw [g, z_br_m] at h
        exact absurd rfl h
      · rw [g2] at h ⊢
        obtain ⟨c, c1, c2⟩ := ih q (by omega) h
        exact ⟨c, by omega, c2⟩
set_option maxHeartbeats 4000000 in
set_option maxRecDepth 100000 in
theorem c_Me_has (l : Launch) (D : va_G) (cA cR : ClassId) (ad : Nat → Nat) (hI : wI ad) (V : Nat → Nat → Int32) (x : Int32) (q : Nat) (hq : q < wN) (hG : ∀ v, wG cA cR ad q v = .inr (0, [.ref (ad (q + 1)), .int (v 0)])) : wM l D cA cR ad y_Me_has (Cond.code y_Me_has b_Me_has 2 (some .boolean) :: wAl) 0 0 [.ref (ad q), .int x] V (some (.int (z_B (decide (0 ≤ x) && decide (x < V q 0))))) V := by
  refine wM_of hI (by decide) (Nat.le_of_ble_eq_true rfl) ?_
  intro X ls h hM hl
  have hl : lv_has ls 2 [(0, .ref (ad q)), (1, .int x)] := hl
  refine r_iload_n h d_Me_has_0 rfl (lv_at hl 1 rfl) ?_
  refine r_if_lt h 16 d_Me_has_1 (by decide) (fun c1 => ?_) (fun c1 => ?_)
  · skip
    refine r_iconst h (v := 0) d_Me_has_16 (by decide) ?_
    exact r_zret h hM (by decide) d_Me_has_17 (rF (by rw [decide_eq_false (Int32.not_le.mpr c1)]; rfl)) rfl
  · skip
    refine r_iload_n h d_Me_has_4 rfl (lv_at hl 1 rfl) ?_
    refine r_aload_n h d_Me_has_5 rfl (lv_at hl 0 rfl) ?_
    refine r_get h (k := q) (j := 1) hq (hG _) rfl iw_Me (by decide) lk_Me_7 rfl rfl d_Me_has_6 ?_
    refine r_icmp_ge h 16 d_Me_has_9 (by decide) (fun c9 => ?_) (fun c9 => ?_)
    · skip
      refine r_iconst h (v := 0) d_Me_has_16 (by decide) ?_
      exact r_zret h hM (by decide) d_Me_has_17 (rF (by rw [decide_eq_true c1, decide_eq_false (Int32.not_lt.mpr c9)]; rfl)) rfl
    · skip
      refine r_iconst h (v := 1) d_Me_has_12 (by decide) ?_
      refine r_goto h 17 d_Me_has_13 (by decide) ?_
      exact r_zret h hM (by decide) d_Me_has_17 (rT (by rw [decide_eq_true c1, decide_eq_true c9]; rfl)) rfl
set_option maxHeartbeats 4000000 in
set_option maxRecDepth 100000 in
theorem c_Me_isFull (l : Launch) (D : va_G) (cA cR : ClassId) (ad : Nat → Nat) (hI : wI ad) (V : Nat → Nat → Int32) (q : Nat) (hq : q < wN) (hG : ∀ v, wG cA cR ad q v = .inr (0, [.ref (ad (q + 1)), .int (v 0)])) (cap : Nat) (hq1 : q + 1 < wN) (hG1 : wG cA cR ad (q + 1) = wE cA cap) (hc : cap < 1000) : wM l D cA cR ad y_Me_isFull (Cond.code y_Me_isFull b_Me_isFull 1 (some .boolean) :: wAl) 0 0 [.ref (ad q)] V (some (.int (z_B (decide (nI cap ≤ V q 0))))) V := by
  refine wM_of hI (by decide) (Nat.le_of_ble_eq_true rfl) ?_
  intro X ls h hM hl
  have hl : lv_has ls 1 [(0, .ref (ad q))] := hl
  refine r_aload_n h d_Me_isFull_0 rfl (lv_at hl 0 rfl) ?_
  refine r_get h (k := q) (j := 1) hq (hG _) rfl iw_Me (by decide) lk_Me_7 rfl rfl d_Me_isFull_1 ?_
  refine r_aload_n h d_Me_isFull_4 rfl (lv_at hl 0 rfl) ?_
  refine r_get h (k := q) (j := 0) hq (hG _) rfl iw_Me (by decide) lk_Me_13 rfl rfl d_Me_isFull_5 ?_
  refine r_alen h (k := q + 1) (v := nI cap) hq1 hG1 rfl d_Me_isFull_8 ?_
  refine r_icmp_lt h 16 d_Me_isFull_9 (by decide) (fun c9 => ?_) (fun c9 => ?_)
  · skip
    refine r_iconst h (v := 0) d_Me_isFull_16 (by decide) ?_
    exact r_zret h hM (by decide) d_Me_isFull_17 (rF (decide_eq_false (Int32.not_le.mpr c9))) rfl
  · skip
    refine r_iconst h (v := 1) d_Me_isFull_12 (by decide) ?_
    refine r_goto h 17 d_Me_isFull_13 (by decide) ?_
    exact r_zret h hM (by decide) d_Me_isFull_17 (rT (decide_eq_true c9)) rfl
set_option maxHeartbeats 4000000 in
set_option maxRecDepth 100000 in
theorem c_Me_add (l : Launch) (D : va_G) (cA cR : ClassId) (ad : Nat → Nat) (hI : wI ad) (V : Nat → Nat → Int32) (m : Int32) (q : Nat) (hq : q < wN) (hG : ∀ v, wG cA cR ad q v = .inr (0, [.ref (ad (q + 1)), .int (v 0)])) (cap : Nat) (hq1 : q + 1 < wN) (hG1 : wG cA cR ad (q + 1) = wE cA cap) (hc : cap < 1000) (s : Nat) (hs : V q 0 = nI s) (hlt : s < cap) : wM l D cA cR ad y_Me_add (Cond.code y_Me_add b_Me_add 2 none :: wAl) 1 20 [.ref (ad q), .int m] V none (kPut V q s m) := by
  refine wM_of hI (by decide) (Nat.le_of_ble_eq_true rfl) ?_
  intro X ls h hM hl
  have hl : lv_has ls 2 [(0, .ref (ad q)), (1, .int m)] := hl
  refine r_aload_n h d_Me_add_0 rfl (lv_at hl 0 rfl) ?_
  refine r_callVi h (k := q) (n := 0) (As := []) (c_Me_isFull l D cA cR ad hI V q hq hG cap hq1 hG1 hc) g_Me_17 (by decide +kernel) rfl ⟨by decide, by decide⟩ hq (hG _) rfl hl rfl (Nat.le_of_ble_eq_true rfl) d_Me_add_1 ?_
  refine r_if_ne_f h 27 d_Me_add_4 (by decide) (z_B_0.mpr (decide_eq_false (by rw [hs]; exact fun c => absurd (nI_szm (by omega) (by omega) c) (by omega)))) ?_
  refine r_aload_n h d_Me_add_7 rfl (lv_at hl 0 rfl) ?_
  refine r_get h (k := q) (j := 0) hq (hG _) rfl iw_Me (by decide) lk_Me_13 rfl rfl d_Me_add_8 ?_
  refine r_aload_n h d_Me_add_11 rfl (lv_at hl 0 rfl) ?_
  refine r_get h (k := q) (j := 1) hq (hG _) rfl iw_Me (by decide) lk_Me_7 rfl rfl d_Me_add_12 ?_
  refine r_top (nI s) hs ?_
  refine r_iload_n h d_Me_add_15 rfl (lv_at hl 1 rfl) ?_
  refine r_iastN h (k := q + 1) (i := s) hq1 hG1 (by omega) (by omega) d_Me_add_16 ?_
  refine r_aload_n h d_Me_add_17 rfl (lv_at hl 0 rfl) ?_
  refine r_dup h d_Me_add_18 rfl ?_
  refine r_get h (k := q) (j := 1) hq (hG _) rfl iw_Me (by decide) lk_Me_7 rfl rfl d_Me_add_19 ?_
  refine r_top (nI s) (by rw [wU_n (by omega)]; exact hs) ?_
  refine r_iconst h (v := 1) d_Me_add_22 (by decide) ?_
  refine r_iadd h d_Me_add_23 ?_
  refine r_top (nI (s + 1)) (nI_1 s) ?_
  refine r_put h (k := q) (j := 1) hq (hG _) (by rw [hG]; rfl) rfl iw_Me t_Me t_Me_ok n_Me (by decide) lk_Me_7 rfl rfl (by decide +kernel) (Nat.le_of_ble_eq_true rfl) d_Me_add_24 ?_
  exact r_vret h hM d_Me_add_27 rfl rfl
set_option maxHeartbeats 4000000 in
set_option maxRecDepth 100000 in
theorem c_Me_take (l : Launch) (D : va_G) (cA cR : ClassId) (ad : Nat → Nat) (hI : wI ad) (V : Nat → Nat → Int32) (k : Nat) (q : Nat) (hq : q < wN) (hG : ∀ v, wG cA cR ad q v = .inr (0, [.ref (ad (q + 1)), .int (v 0)])) (cap : Nat) (hq1 : q + 1 < wN) (hG1 : wG cA cR ad (q + 1) = wE cA cap) (hc : cap < 1000) (s : Nat) (hs : V q 0 = nI s) (hk : k < s) (hsc : s ≤ cap) : wM l D cA cR ad y_Me_take (Cond.code y_Me_take b_Me_take 4 (some .int) :: wAl) 0 0 [.ref (ad q), .int (nI k)] V (some (.int (V (q + 1) k))) (kTake V q s k) := by
  refine wM_of hI (by decide) (Nat.le_of_ble_eq_true rfl) ?_
  intro X ls h hM hl
  have hl : lv_has ls 4 [(0, .ref (ad q)), (1, .int (nI k))] := hl
  have loop : ∀ (t j : Nat) (f : Nat → Int32) (ls : Array Slot), j + t = s - 1 → z_shl t j f = z_shl (s - 1 - k) k (V (q + 1)) → lv_has ls 4 [(3, .int (nI j)), (2, .int (V (q + 1) k)), (0, .ref (ad q)), (1, .int (nI k))] → wv X cA cR ad (wS (wU V q 0 (nI (s - 1))) (q + 1) f) 19 ls [] := by
    intro t
    induction t with
    | zero =>
      intro j f ls hj hz hl
      refine r_iload_n h d_Me_take_19 rfl (lv_at hl 0 rfl) ?_
      refine r_aload_n h d_Me_take_20 rfl (lv_at hl 2 rfl) ?_
      refine r_get h (k := q) (j := 1) hq (hG _) rfl iw_Me (by decide) lk_Me_7 rfl rfl d_Me_take_21 ?_
      refine r_top (nI (s - 1)) (by rw [wS_n (by omega), wU_s, pk_us]) ?_
      refine r_icmp_ge_t h 47 d_Me_take_24 (by decide) (nI_sz (by omega) (by omega) (by omega)) ?_
      refine r_iload_n h d_Me_take_47 rfl (lv_at hl 1 rfl) ?_
      exact r_iret h hM d_Me_take_48 rfl (by unfold kTake; rw [← hz]; rfl)
    | succ t ih =>
      intro j f ls hj hz hl
      refine r_iload_n h d_Me_take_19 rfl (lv_at hl 0 rfl) ?_
      refine r_aload_n h d_Me_take_20 rfl (lv_at hl 2 rfl) ?_
      refine r_get h (k := q) (j := 1) hq (hG _) rfl iw_Me (by decide) lk_Me_7 rfl rfl d_Me_take_21 ?_
      refine r_top (nI (s - 1)) (by rw [wS_n (by omega), wU_s, pk_us]) ?_
      refine r_icmp_ge_f h 47 d_Me_take_24 (by decide) (nI_lz (by omega) (by omega) (by omega)) ?_
      refine r_aload_n h d_Me_take_27 rfl (lv_at hl 2 rfl) ?_
      refine r_get h (k := q) (j := 0) hq (hG _) rfl iw_Me (by decide) lk_Me_13 rfl rfl d_Me_take_28 ?_
      refine r_iload_n h d_Me_take_31 rfl (lv_at hl 0 rfl) ?_
      refine r_aload_n h d_Me_take_32 rfl (lv_at hl 2 rfl) ?_
      refine r_get h (k := q) (j := 0) hq (hG _) rfl iw_Me (by decide) lk_Me_13 rfl rfl d_Me_take_33 ?_
      refine r_iload_n h d_Me_take_36 rfl (lv_at hl 0 rfl) ?_
      refine r_iconst h (v := 1) d_Me_take_37 (by decide) ?_
      refine r_iadd h d_Me_take_38 ?_
      refine r_top (nI (j + 1)) (nI_1 j) ?_
      refine r_ialdN h (k := q + 1) (i := (j + 1)) hq1 hG1 (by omega) (by omega) d_Me_take_39 ?_
      refine r_top (f (j + 1)) (by rw [wS_s]) ?_
      refine r_iastN h (k := q + 1) (i := j) hq1 hG1 (by omega) (by omega) d_Me_take_40 ?_
      refine r_V (V' := wS (wU V q 0 (nI (s - 1))) (q + 1) (upd f j (f (j + 1)))) (wU_wS _ _ _ _ _) ?_
      refine r_iinc h (v := nI (j + 1)) (lv' := [(3, .int (nI (j + 1))), (2, .int (V (q + 1) k)), (0, .ref (ad q)), (1, .int (nI k))]) d_Me_take_41 hl (k := 0) rfl (z_inc j) (by decide) rfl (fun ls hl => ?_)
      refine r_goto h 19 d_Me_take_44 (by decide) ?_
      exact ih (j + 1) (upd f j (f (j + 1))) ls (by omega) hz hl
  refine r_aload_n h d_Me_take_0 rfl (lv_at hl 0 rfl) ?_
  refine r_get h (k := q) (j := 0) hq (hG _) rfl iw_Me (by decide) lk_Me_13 rfl rfl d_Me_take_1 ?_
  refine r_iload_n h d_Me_take_4 rfl (lv_at hl 1 rfl) ?_
  refine r_ialdN h (k := q + 1) (i := k) hq1 hG1 (by omega) (by omega) d_Me_take_5 ?_
  refine r_istore_n h (lv' := [(2, .int (V (q + 1) k)), (0, .ref (ad q)), (1, .int (nI k))]) d_Me_take_6 rfl hl (by decide) rfl (fun ls hl => ?_)
  refine r_aload_n h d_Me_take_7 rfl (lv_at hl 1 rfl) ?_
  refine r_dup h d_Me_take_8 rfl ?_
  refine r_get h (k := q) (j := 1) hq (hG _) rfl iw_Me (by decide) lk_Me_7 rfl rfl d_Me_take_9 ?_
  refine r_top (nI s) hs ?_
  refine r_iconst h (v := 1) d_Me_take_12 (by decide) ?_
  refine r_isub h d_Me_take_13 ?_
  refine r_top (nI (s - 1)) (nI_m1 (by omega)) ?_
  refine r_put h (k := q) (j := 1) hq (hG _) (by rw [hG]; rfl) rfl iw_Me t_Me t_Me_ok n_Me (by decide) lk_Me_7 rfl rfl (by decide +kernel) (Nat.le_of_ble_eq_true rfl) d_Me_take_14 ?_
  refine r_iload_n h d_Me_take_17 rfl (lv_at hl 2 rfl) ?_
  refine r_istore_n h (lv' := [(3, .int (nI k)), (2, .int (V (q + 1) k)), (0, .ref (ad q)), (1, .int (nI k))]) d_Me_take_18 rfl hl (by decide) rfl (fun ls hl => ?_)
  refine r_V (V' := wS (wU V q 0 (nI (s - 1))) (q + 1) (V (q + 1))) (by rw [show V (q + 1) = (wU V q 0 (nI (s - 1))) (q + 1) from (wU_n (by omega)).symm, wS_id]) ?_
  exact loop (s - 1 - k) k (V (q + 1)) ls (by omega) rfl hl
set_option maxHeartbeats 4000000 in
set_option maxRecDepth 100000 in
theorem c_Re_isSettled (l : Launch) (D : va_G) (cA cR : ClassId) (ad : Nat → Nat) (hI : wI ad) (V : Nat → Nat → Int32) (x : Int32) (r : Nat) (hr : r < 3) (hx : z_el x 30) : wM l D cA cR ad y_Re_isSettled (Cond.code y_Re_isSettled b_Re_isSettled 2 (some .boolean) :: wAl) 0 0 [.ref (ad (6 * r + 9)), .int x] V (some (.int (z_B (kStl V r x)))) V := by
  refine wM_of hI (by decide) (Nat.le_of_ble_eq_true rfl) ?_
  intro X ls h hM hl
  have hl : lv_has ls 2 [(0, .ref (ad (6 * r + 9))), (1, .int x)] := hl
  refine r_iload_n h d_Re_isSettled_0 rfl (lv_at hl 1 rfl) ?_
  refine r_iconst h (v := (-1)) d_Re_isSettled_1 (by decide) ?_
  refine r_icmp_eq h 14 d_Re_isSettled_2 (by decide) (fun c2 => ?_) (fun c2 => ?_)
  · skip
    refine r_iconst h (v := 1) d_Re_isSettled_14 (by decide) ?_
    refine r_goto h 19 d_Re_isSettled_15 (by decide) ?_
    exact r_zret h hM (by decide) d_Re_isSettled_19 (rT (by unfold kStl; rw [decide_eq_true c2]; rfl)) rfl
  · skip
    refine r_aload_n h d_Re_isSettled_5 rfl (lv_at hl 0 rfl) ?_
    refine r_get h (k := 6 * r + 9) (j := 0) (wN_r hr 9 (by decide)) (wG_rep cA cR ad hr _) rfl iw_Re (by decide) lk_Re_9 rfl rfl d_Re_isSettled_6 ?_
    refine r_iload_n h d_Re_isSettled_9 rfl (lv_at hl 1 rfl) ?_
    refine r_iald h (k := 6 * r + 10) (i := x) (wN_r hr 10 (by decide)) (wG_mk cA cR ad hr) (z_el_in hx c2 (by decide) (by decide)) d_Re_isSettled_10 ?_
    refine r_if_eq h 18 d_Re_isSettled_11 (by decide) (fun c11 => ?_) (fun c11 => ?_)
    · skip
      refine r_iconst h (v := 0) d_Re_isSettled_18 (by decide) ?_
      exact r_zret h hM (by decide) d_Re_isSettled_19 (rF (by unfold kStl; rw [decide_eq_false c2, decide_eq_true c11]; rfl)) rfl
    · skip
      refine r_iconst h (v := 1) d_Re_isSettled_14 (by decide) ?_
      refine r_goto h 19 d_Re_isSettled_15 (by decide) ?_
      exact r_zret h hM (by decide) d_Re_isSettled_19 (rT (by unfold kStl; rw [decide_eq_false c2, decide_eq_false c11]; rfl)) rfl
set_option maxHeartbeats 4000000 in
set_option maxRecDepth 100000 in
theorem c_Tr_has (l : Launch) (D : va_G) (cA cR : ClassId) (ad : Nat → Nat) (hI : wI ad) (V : Nat → Nat → Int32) (x : Int32) : wM l D cA cR ad y_Tr_has (Cond.code y_Tr_has b_Tr_has 2 (some .boolean) :: wAl) 0 0 [.ref (ad 1), .int x] V (some (.int (z_B (decide (0 ≤ x) && decide (x < V 1 0))))) V := by
  refine wM_of hI (by decide) (Nat.le_of_ble_eq_true rfl) ?_
  intro X ls h hM hl
  have hl : lv_has ls 2 [(0, .ref (ad 1)), (1, .int x)] := hl
  refine r_iload_n h d_Tr_has_0 rfl (lv_at hl 1 rfl) ?_
  refine r_if_lt h 16 d_Tr_has_1 (by decide) (fun c1 => ?_) (fun c1 => ?_)
  · skip
    refine r_iconst h (v := 0) d_Tr_has_16 (by decide) ?_
    exact r_zret h hM (by decide) d_Tr_has_17 (rF (by rw [decide_eq_false (Int32.not_le.mpr c1)]; rfl)) rfl
  · skip
    refine r_iload_n h d_Tr_has_4 rfl (lv_at hl 1 rfl) ?_
    refine r_aload_n h d_Tr_has_5 rfl (lv_at hl 0 rfl) ?_
    refine r_get h (k := 1) (j := 6) (by decide) rfl rfl iw_Tr (by decide) lk_Tr_30 rfl rfl d_Tr_has_6 ?_
    refine r_icmp_ge h 16 d_Tr_has_9 (by decide) (fun c9 => ?_) (fun c9 => ?_)
    · skip
      refine r_iconst h (v := 0) d_Tr_has_16 (by decide) ?_
      exact r_zret h hM (by decide) d_Tr_has_17 (rF (by rw [decide_eq_true c1, decide_eq_false (Int32.not_lt.mpr c9)]; rfl)) rfl
    · skip
      refine r_iconst h (v := 1) d_Tr_has_12 (by decide) ?_
      refine r_goto h 17 d_Tr_has_13 (by decide) ?_
      exact r_zret h hM (by decide) d_Tr_has_17 (rT (by rw [decide_eq_true c1, decide_eq_true c9]; rfl)) rfl
set_option maxHeartbeats 4000000 in
set_option maxRecDepth 100000 in
theorem c_Tr_isFull (l : Launch) (D : va_G) (cA cR : ClassId) (ad : Nat → Nat) (hI : wI ad) (V : Nat → Nat → Int32)  : wM l D cA cR ad y_Tr_isFull (Cond.code y_Tr_isFull b_Tr_isFull 1 (some .boolean) :: wAl) 0 0 [.ref (ad 1)] V (some (.int (z_B (decide (30 ≤ V 1 0))))) V := by
  refine wM_of hI (by decide) (Nat.le_of_ble_eq_true rfl) ?_
  intro X ls h hM hl
  have hl : lv_has ls 1 [(0, .ref (ad 1))] := hl
  refine r_aload_n h d_Tr_isFull_0 rfl (lv_at hl 0 rfl) ?_
  refine r_get h (k := 1) (j := 6) (by decide) rfl rfl iw_Tr (by decide) lk_Tr_30 rfl rfl d_Tr_isFull_1 ?_
  refine r_bipush h (v := 30) d_Tr_isFull_4 (by decide) ?_
  refine r_icmp_lt h 13 d_Tr_isFull_6 (by decide) (fun c6 => ?_) (fun c6 => ?_)
  · skip
    refine r_iconst h (v := 0) d_Tr_isFull_13 (by decide) ?_
    exact r_zret h hM (by decide) d_Tr_isFull_14 (rF (decide_eq_false (Int32.not_le.mpr c6))) rfl
  · skip
    refine r_iconst h (v := 1) d_Tr_isFull_9 (by decide) ?_
    refine r_goto h 14 d_Tr_isFull_10 (by decide) ?_
    exact r_zret h hM (by decide) d_Tr_isFull_14 (rT (decide_eq_true c6)) rfl
set_option maxHeartbeats 4000000 in
set_option maxRecDepth 100000 in
theorem c_Tr_placeOf (l : Launch) (D : va_G) (cA cR : ClassId) (ad : Nat → Nat) (hI : wI ad) (V : Nat → Nat → Int32) (x : Int32) (n : Nat) (hn : V 1 0 = nI n) (hle : n ≤ 30) : wM l D cA cR ad y_Tr_placeOf (Cond.code y_Tr_placeOf b_Tr_placeOf 3 (some .int) :: wAl) 0 0 [.ref (ad 1), .int x] V (some (.int (nI (z_pl (V 7) n x)))) V := by
  refine wM_of hI (by decide) (Nat.le_of_ble_eq_true rfl) ?_
  intro X ls h hM hl
  have hl : lv_has ls 3 [(0, .ref (ad 1)), (1, .int x)] := hl
  have loop : ∀ (k p : Nat) (ls : Array Slot), p + k = n → z_fnd (fun p => decide (V 7 p = x)) k p = z_pl (V 7) n x → lv_has ls 3 [(2, .int (nI p)), (0, .ref (ad 1)), (1, .int x)] → wv X cA cR ad V 2 ls [] := by
    intro k
    induction k with
    | zero =>
      intro p ls hp hz hl
      refine r_iload_n h d_Tr_placeOf_2 rfl (lv_at hl 0 rfl) ?_
      refine r_aload_n h d_Tr_placeOf_3 rfl (lv_at hl 1 rfl) ?_
      refine r_get h (k := 1) (j := 6) (by decide) rfl rfl iw_Tr (by decide) lk_Tr_30 rfl rfl d_Tr_placeOf_4 ?_
      refine r_top (nI n) hn ?_
      refine r_icmp_ge_t h 28 d_Tr_placeOf_7 (by decide) (nI_sz (by omega) (by omega) (by omega)) ?_
      refine r_aload_n h d_Tr_placeOf_28 rfl (lv_at hl 1 rfl) ?_
      refine r_get h (k := 1) (j := 6) (by decide) rfl rfl iw_Tr (by decide) lk_Tr_30 rfl rfl d_Tr_placeOf_29 ?_
      refine r_top (nI n) hn ?_
      exact r_iret h hM d_Tr_placeOf_32 (rI (by rw [← hz]; show nI n = nI p; rw [show p = n by omega])) rfl
    | succ k ih =>
      intro p ls hp hz hl
      refine r_iload_n h d_Tr_placeOf_2 rfl (lv_at hl 0 rfl) ?_
      refine r_aload_n h d_Tr_placeOf_3 rfl (lv_at hl 1 rfl) ?_
      refine r_get h (k := 1) (j := 6) (by decide) rfl rfl iw_Tr (by decide) lk_Tr_30 rfl rfl d_Tr_placeOf_4 ?_
      refine r_top (nI n) hn ?_
      refine r_icmp_ge_f h 28 d_Tr_placeOf_7 (by decide) (nI_lz (by omega) (by omega) (by omega)) ?_
      refine r_aload_n h d_Tr_placeOf_10 rfl (lv_at hl 1 rfl) ?_
      refine r_get h (k := 1) (j := 5) (by decide) rfl rfl iw_Tr (by decide) lk_Tr_27 rfl rfl d_Tr_placeOf_11 ?_
      refine r_iload_n h d_Tr_placeOf_14 rfl (lv_at hl 0 rfl) ?_
      refine r_ialdN h (k := 7) (i := p) (by decide) rfl (by omega) (by omega) d_Tr_placeOf_15 ?_
      refine r_iload_n h d_Tr_placeOf_16 rfl (lv_at hl 2 rfl) ?_
      refine r_icmp_ne h 22 d_Tr_placeOf_17 (by decide) (fun c17 => ?_) (fun c17 => ?_)
      · skip
        refine r_iinc h (v := nI (p + 1)) (lv' := [(2, .int (nI (p + 1))), (0, .ref (ad 1)), (1, .int x)]) d_Tr_placeOf_22 hl (k := 0) rfl (z_inc p) (by decide) rfl (fun ls hl => ?_)
        refine r_goto h 2 d_Tr_placeOf_25 (by decide) ?_
        exact ih (p + 1) ls (by omega) (by rw [← hz, z_fnd_f (decide_eq_false c17)]) hl
      · skip
        refine r_iload_n h d_Tr_placeOf_20 rfl (lv_at hl 0 rfl) ?_
        exact r_iret h hM d_Tr_placeOf_21 (rI (by rw [← hz, z_fnd_t (decide_eq_true c17)])) rfl
  refine r_iconst h (v := 0) d_Tr_placeOf_0 (by decide) ?_
  refine r_istore_n h (lv' := [(2, .int 0), (0, .ref (ad 1)), (1, .int x)]) d_Tr_placeOf_1 rfl hl (by decide) rfl (fun ls hl => ?_)
  exact loop n 0 ls (by omega) rfl hl
set_option maxHeartbeats 4000000 in
set_option maxRecDepth 100000 in
theorem c_Tr_placeBehind (l : Launch) (D : va_G) (cA cR : ClassId) (ad : Nat → Nat) (hI : wI ad) (V : Nat → Nat → Int32) (x : Int32) (n : Nat) (hn : V 1 0 = nI n) (hle : n ≤ 30) : wM l D cA cR ad y_Tr_placeBehind (Cond.code y_Tr_placeBehind b_Tr_placeBehind 2 (some .int) :: wAl) 1 22 [.ref (ad 1), .int x] V (some (.int (nI (z_beh (V 7) n x)))) V := by
  refine wM_of hI (by decide) (Nat.le_of_ble_eq_true rfl) ?_
  intro X ls h hM hl
  have hl : lv_has ls 2 [(0, .ref (ad 1)), (1, .int x)] := hl
  refine r_iload_n h d_Tr_placeBehind_0 rfl (lv_at hl 1 rfl) ?_
  refine r_iconst h (v := (-1)) d_Tr_placeBehind_1 (by decide) ?_
  refine r_icmp_ne h 9 d_Tr_placeBehind_2 (by decide) (fun c2 => ?_) (fun c2 => ?_)
  · skip
    refine r_aload_n h d_Tr_placeBehind_9 rfl (lv_at hl 0 rfl) ?_
    refine r_iload_n h d_Tr_placeBehind_10 rfl (lv_at hl 1 rfl) ?_
    refine r_callVi h (k := 1) (n := 1) (As := [.int x]) (c_Tr_placeOf l D cA cR ad hI V x n hn hle) g_Tr_41 (by decide +kernel) rfl ⟨by decide, by decide⟩ (by decide) rfl rfl hl rfl (Nat.le_of_ble_eq_true rfl) d_Tr_placeBehind_11 ?_
    refine r_iconst h (v := 1) d_Tr_placeBehind_14 (by decide) ?_
    refine r_iadd h d_Tr_placeBehind_15 ?_
    refine r_top (nI (z_pl (V 7) n x + 1)) (nI_1 _) ?_
    exact r_iret h hM d_Tr_placeBehind_16 (rI (by unfold z_beh; rw [if_neg c2])) rfl
  · skip
    refine r_iconst h (v := 0) d_Tr_placeBehind_5 (by decide) ?_
    refine r_goto h 16 d_Tr_placeBehind_6 (by decide) ?_
    exact r_iret h hM d_Tr_placeBehind_16 (rI (by unfold z_beh; rw [if_pos c2]; rfl)) rfl
set_option maxHeartbeats 4000000 in
set_option maxRecDepth 100000 in
theorem c_Tr_branchOf (l : Launch) (D : va_G) (cA cR : ClassId) (ad : Nat → Nat) (hI : wI ad) (V : Nat → Nat → Int32) (x t : Int32) (n : Nat) (hn : V 1 0 = nI n) (hle : n ≤ 30) (hpa : ∀ e, e < n → z_el (V 4 e) e) (hx : z_el x n) : wM l D cA cR ad y_Tr_branchOf (Cond.code y_Tr_branchOf b_Tr_branchOf 5 (some .int) :: wAl) 0 0 [.ref (ad 1), .int x, .int t] V (some (.int (z_br (V 4) t n x))) V := by
  refine wM_of hI (by decide) (Nat.le_of_ble_eq_true rfl) ?_
  intro X ls h hM hl
  have hl : lv_has ls 5 [(0, .ref (ad 1)), (1, .int x), (2, .int t)] := hl
  have loop : ∀ (k j : Nat) (y : Int32) (ls : Array Slot), j + k = n → z_el y n → z_br (V 4) t k y = z_br (V 4) t n x → lv_has ls 5 [(4, .int (nI j)), (3, .int y), (0, .ref (ad 1)), (1, .int x), (2, .int t)] → wv X cA cR ad V 5 ls [] := by
    intro k
    induction k with
    | zero =>
      intro j y ls hj hy hz hl
      refine r_iload h d_Tr_branchOf_5 (lv_at hl 0 rfl) ?_
      refine r_aload_n h d_Tr_branchOf_7 rfl (lv_at hl 2 rfl) ?_
      refine r_get h (k := 1) (j := 6) (by decide) rfl rfl iw_Tr (by decide) lk_Tr_30 rfl rfl d_Tr_branchOf_8 ?_
      refine r_top (nI n) hn ?_
      refine r_icmp_ge_t h 44 d_Tr_branchOf_11 (by decide) (nI_sz (by omega) (by omega) (by omega)) ?_
      refine r_bipush h (v := (-3)) d_Tr_branchOf_44 (by decide) ?_
      exact r_iret h hM d_Tr_branchOf_46 (rI (by rw [← hz]; rfl)) rfl
    | succ k ih =>
      intro j y ls hj hy hz hl
      refine r_iload h d_Tr_branchOf_5 (lv_at hl 0 rfl) ?_
      refine r_aload_n h d_Tr_branchOf_7 rfl (lv_at hl 2 rfl) ?_
      refine r_get h (k := 1) (j := 6) (by decide) rfl rfl iw_Tr (by decide) lk_Tr_30 rfl rfl d_Tr_branchOf_8 ?_
      refine r_top (nI n) hn ?_
      refine r_icmp_ge_f h 44 d_Tr_branchOf_11 (by decide) (nI_lz (by omega) (by omega) (by omega)) ?_
      refine r_iload_n h d_Tr_branchOf_14 rfl (lv_at hl 1 rfl) ?_
      refine r_iconst h (v := (-1)) d_Tr_branchOf_15 (by decide) ?_
      refine r_icmp_eq h 44 d_Tr_branchOf_16 (by decide) (fun c16 => ?_) (fun c16 => ?_)
      · skip
        refine r_bipush h (v := (-3)) d_Tr_branchOf_44 (by decide) ?_
        exact r_iret h hM d_Tr_branchOf_46 (rI (by rw [← hz, c16, z_br_m])) rfl
      · skip
        obtain ⟨a, ha, rfl⟩ := z_el_e hy c16
        refine r_aload_n h d_Tr_branchOf_19 rfl (lv_at hl 2 rfl) ?_
        refine r_get h (k := 1) (j := 2) (by decide) rfl rfl iw_Tr (by decide) lk_Tr_18 rfl rfl d_Tr_branchOf_20 ?_
        refine r_iload_n h d_Tr_branchOf_23 rfl (lv_at hl 1 rfl) ?_
        refine r_ialdN h (k := 4) (i := a) (by decide) rfl (by omega) (by omega) d_Tr_branchOf_24 ?_
        refine r_iload_n h d_Tr_branchOf_25 rfl (lv_at hl 4 rfl) ?_
        refine r_icmp_ne h 31 d_Tr_branchOf_26 (by decide) (fun c26 => ?_) (fun c26 => ?_)
        · skip
          refine r_aload_n h d_Tr_branchOf_31 rfl (lv_at hl 2 rfl) ?_
          refine r_get h (k := 1) (j := 2) (by decide) rfl rfl iw_Tr (by decide) lk_Tr_18 rfl rfl d_Tr_branchOf_32 ?_
          refine r_iload_n h d_Tr_branchOf_35 rfl (lv_at hl 1 rfl) ?_
          refine r_ialdN h (k := 4) (i := a) (by decide) rfl (by omega) (by omega) d_Tr_branchOf_36 ?_
          refine r_istore_n h (lv' := [(3, .int (V 4 a)), (4, .int (nI j)), (0, .ref (ad 1)), (1, .int x), (2, .int t)]) d_Tr_branchOf_37 rfl hl (by decide) rfl (fun ls hl => ?_)
          refine r_iinc h (v := nI (j + 1)) (lv' := [(4, .int (nI (j + 1))), (3, .int (V 4 a)), (0, .ref (ad 1)), (1, .int x), (2, .int t)]) d_Tr_branchOf_38 hl (k := 1) rfl (z_inc j) (by decide) rfl (fun ls hl => ?_)
          refine r_goto h 5 d_Tr_branchOf_41 (by decide) ?_
          exact ih (j + 1) (V 4 a) ls (by omega) (z_el_mono (hpa a ha) (by omega)) (by rw [← hz, z_br_n (by omega) c26]) hl
        · skip
          refine r_iload_n h d_Tr_branchOf_29 rfl (lv_at hl 1 rfl) ?_
          exact r_iret h hM d_Tr_branchOf_30 (rI (by rw [← hz, z_br_e (by omega) c26])) rfl
  refine r_iload_n h d_Tr_branchOf_0 rfl (lv_at hl 1 rfl) ?_
  refine r_istore_n h (lv' := [(3, .int x), (0, .ref (ad 1)), (1, .int x), (2, .int t)]) d_Tr_branchOf_1 rfl hl (by decide) rfl (fun ls hl => ?_)
  refine r_iconst h (v := 0) d_Tr_branchOf_2 (by decide) ?_
  refine r_istore h (lv' := [(4, .int 0), (3, .int x), (0, .ref (ad 1)), (1, .int x), (2, .int t)]) d_Tr_branchOf_3 hl (by decide) rfl (fun ls hl => ?_)
  exact loop n 0 x ls (by omega) hx rfl hl
set_option maxHeartbeats 4000000 in
set_option maxRecDepth 100000 in
theorem c_Tr_isSiblingBefore (l : Launch) (D : va_G) (cA cR : ClassId) (ad : Nat → Nat) (hI : wI ad) (V : Nat → Nat → Int32) (a b : Nat) (ha : a < 30) (hb : b < 30) (n : Nat) (hn : V 1 0 = nI n) (hle : n ≤ 30) : wM l D cA cR ad y_Tr_isSiblingBefore (Cond.code y_Tr_isSiblingBefore b_Tr_isSiblingBefore 5 (some .boolean) :: wAl) 1 22 [.ref (ad 1), .int (nI a), .int (nI b)] V (some (.int (z_B (z_sib (V 7) (V 5) (V 6) (V 2) n a b)))) V := by
  refine wM_of hI (by decide) (Nat.le_of_ble_eq_true rfl) ?_
  intro X ls h hM hl
  have hl : lv_has ls 5 [(0, .ref (ad 1)), (1, .int (nI a)), (2, .int (nI b))] := hl
  have hpl := z_pl_le (V 7) n (V 6 a)
  have hpl2 := z_pl_le (V 7) n (V 6 b)
  refine r_aload_n h d_Tr_isSiblingBefore_0 rfl (lv_at hl 0 rfl) ?_
  refine r_get h (k := 1) (j := 3) (by decide) rfl rfl iw_Tr (by decide) lk_Tr_21 rfl rfl d_Tr_isSiblingBefore_1 ?_
  refine r_iload_n h d_Tr_isSiblingBefore_4 rfl (lv_at hl 1 rfl) ?_
  refine r_ialdN h (k := 5) (i := a) (by decide) rfl (by omega) (by omega) d_Tr_isSiblingBefore_5 ?_
  refine r_iconst h (v := 1) d_Tr_isSiblingBefore_6 (by decide) ?_
  refine r_icmp_ne h 51 d_Tr_isSiblingBefore_7 (by decide) (fun c7 => ?_) (fun c7 => ?_)
  · skip
    have hq : ¬ (V 5 a = 1 ∧ ¬ z_pl (V 7) n (V 6 a) = z_pl (V 7) n (V 6 b)) := fun q => c7 q.1
    refine r_aload_n h d_Tr_isSiblingBefore_51 rfl (lv_at hl 0 rfl) ?_
    refine r_get h (k := 1) (j := 0) (by decide) rfl rfl iw_Tr (by decide) lk_Tr_9 rfl rfl d_Tr_isSiblingBefore_52 ?_
    refine r_iload_n h d_Tr_isSiblingBefore_55 rfl (lv_at hl 1 rfl) ?_
    refine r_ialdN h (k := 2) (i := a) (by decide) rfl (by omega) (by omega) d_Tr_isSiblingBefore_56 ?_
    refine r_aload_n h d_Tr_isSiblingBefore_57 rfl (lv_at hl 0 rfl) ?_
    refine r_get h (k := 1) (j := 0) (by decide) rfl rfl iw_Tr (by decide) lk_Tr_9 rfl rfl d_Tr_isSiblingBefore_58 ?_
    refine r_iload_n h d_Tr_isSiblingBefore_61 rfl (lv_at hl 2 rfl) ?_
    refine r_ialdN h (k := 2) (i := b) (by decide) rfl (by omega) (by omega) d_Tr_isSiblingBefore_62 ?_
    refine r_icmp_eq h 87 d_Tr_isSiblingBefore_63 (by decide) (fun c63 => ?_) (fun c63 => ?_)
    · skip
      refine r_iload_n h d_Tr_isSiblingBefore_87 rfl (lv_at hl 1 rfl) ?_
      refine r_iload_n h d_Tr_isSiblingBefore_88 rfl (lv_at hl 2 rfl) ?_
      refine r_icmp_ge h 96 d_Tr_isSiblingBefore_89 (by decide) (fun c89 => ?_) (fun c89 => ?_)
      · skip
        refine r_iconst h (v := 0) d_Tr_isSiblingBefore_96 (by decide) ?_
        exact r_zret h hM (by decide) d_Tr_isSiblingBefore_97 (rF (by rw [z_sib_3 hq c63]; exact decide_eq_false (fun q => absurd (nI_szm (by omega) (by omega) c89) (by omega)))) rfl
      · skip
        refine r_iconst h (v := 1) d_Tr_isSiblingBefore_92 (by decide) ?_
        refine r_goto h 97 d_Tr_isSiblingBefore_93 (by decide) ?_
        exact r_zret h hM (by decide) d_Tr_isSiblingBefore_97 (rT (by rw [z_sib_3 hq c63]; exact decide_eq_true (nI_lzm (by omega) (by omega) c89))) rfl
    · skip
      refine r_aload_n h d_Tr_isSiblingBefore_66 rfl (lv_at hl 0 rfl) ?_
      refine r_get h (k := 1) (j := 0) (by decide) rfl rfl iw_Tr (by decide) lk_Tr_9 rfl rfl d_Tr_isSiblingBefore_67 ?_
      refine r_iload_n h d_Tr_isSiblingBefore_70 rfl (lv_at hl 1 rfl) ?_
      refine r_ialdN h (k := 2) (i := a) (by decide) rfl (by omega) (by omega) d_Tr_isSiblingBefore_71 ?_
      refine r_aload_n h d_Tr_isSiblingBefore_72 rfl (lv_at hl 0 rfl) ?_
      refine r_get h (k := 1) (j := 0) (by decide) rfl rfl iw_Tr (by decide) lk_Tr_9 rfl rfl d_Tr_isSiblingBefore_73 ?_
      refine r_iload_n h d_Tr_isSiblingBefore_76 rfl (lv_at hl 2 rfl) ?_
      refine r_ialdN h (k := 2) (i := b) (by decide) rfl (by omega) (by omega) d_Tr_isSiblingBefore_77 ?_
      refine r_icmp_ge h 85 d_Tr_isSiblingBefore_78 (by decide) (fun c78 => ?_) (fun c78 => ?_)
      · skip
        refine r_iconst h (v := 0) d_Tr_isSiblingBefore_85 (by decide) ?_
        exact r_zret h hM (by decide) d_Tr_isSiblingBefore_86 (rF (by rw [z_sib_2 hq c63]; exact decide_eq_false (Int32.not_lt.mpr c78))) rfl
      · skip
        refine r_iconst h (v := 1) d_Tr_isSiblingBefore_81 (by decide) ?_
        refine r_goto h 86 d_Tr_isSiblingBefore_82 (by decide) ?_
        exact r_zret h hM (by decide) d_Tr_isSiblingBefore_86 (rT (by rw [z_sib_2 hq c63]; exact decide_eq_true c78)) rfl
  · skip
    refine r_aload_n h d_Tr_isSiblingBefore_10 rfl (lv_at hl 0 rfl) ?_
    refine r_aload_n h d_Tr_isSiblingBefore_11 rfl (lv_at hl 0 rfl) ?_
    refine r_get h (k := 1) (j := 4) (by decide) rfl rfl iw_Tr (by decide) lk_Tr_24 rfl rfl d_Tr_isSiblingBefore_12 ?_
    refine r_iload_n h d_Tr_isSiblingBefore_15 rfl (lv_at hl 1 rfl) ?_
    refine r_ialdN h (k := 6) (i := a) (by decide) rfl (by omega) (by omega) d_Tr_isSiblingBefore_16 ?_
    refine r_callVi h (k := 1) (n := 1) (As := [.int (V 6 a)]) (c_Tr_placeOf l D cA cR ad hI V (V 6 a) n hn hle) g_Tr_41 (by decide +kernel) rfl ⟨by decide, by decide⟩ (by decide) rfl rfl hl rfl (Nat.le_of_ble_eq_true rfl) d_Tr_isSiblingBefore_17 ?_
    refine r_istore_n h (lv' := [(3, .int (nI (z_pl (V 7) n (V 6 a)))), (0, .ref (ad 1)), (1, .int (nI a)), (2, .int (nI b))]) d_Tr_isSiblingBefore_20 rfl hl (by decide) rfl (fun ls hl => ?_)
    refine r_aload_n h d_Tr_isSiblingBefore_21 rfl (lv_at hl 1 rfl) ?_
    refine r_aload_n h d_Tr_isSiblingBefore_22 rfl (lv_at hl 1 rfl) ?_
    refine r_get h (k := 1) (j := 4) (by decide) rfl rfl iw_Tr (by decide) lk_Tr_24 rfl rfl d_Tr_isSiblingBefore_23 ?_
    refine r_iload_n h d_Tr_isSiblingBefore_26 rfl (lv_at hl 3 rfl) ?_
    refine r_ialdN h (k := 6) (i := b) (by decide) rfl (by omega) (by omega) d_Tr_isSiblingBefore_27 ?_
    refine r_callVi h (k := 1) (n := 1) (As := [.int (V 6 b)]) (c_Tr_placeOf l D cA cR ad hI V (V 6 b) n hn hle) g_Tr_41 (by decide +kernel) rfl ⟨by decide, by decide⟩ (by decide) rfl rfl hl rfl (Nat.le_of_ble_eq_true rfl) d_Tr_isSiblingBefore_28 ?_
    refine r_istore h (lv' := [(4, .int (nI (z_pl (V 7) n (V 6 b)))), (3, .int (nI (z_pl (V 7) n (V 6 a)))), (0, .ref (ad 1)), (1, .int (nI a)), (2, .int (nI b))]) d_Tr_isSiblingBefore_31 hl (by decide) rfl (fun ls hl => ?_)
    refine r_iload_n h d_Tr_isSiblingBefore_33 rfl (lv_at hl 1 rfl) ?_
    refine r_iload h d_Tr_isSiblingBefore_34 (lv_at hl 0 rfl) ?_
    refine r_icmp_eq h 51 d_Tr_isSiblingBefore_36 (by decide) (fun c36 => ?_) (fun c36 => ?_)
    · skip
      have hq : ¬ (V 5 a = 1 ∧ ¬ z_pl (V 7) n (V 6 a) = z_pl (V 7) n (V 6 b)) := fun q => q.2 (z_inj (by omega) (by omega) c36)
      refine r_aload_n h d_Tr_isSiblingBefore_51 rfl (lv_at hl 2 rfl) ?_
      refine r_get h (k := 1) (j := 0) (by decide) rfl rfl iw_Tr (by decide) lk_Tr_9 rfl rfl d_Tr_isSiblingBefore_52 ?_
      refine r_iload_n h d_Tr_isSiblingBefore_55 rfl (lv_at hl 3 rfl) ?_
      refine r_ialdN h (k := 2) (i := a) (by decide) rfl (by omega) (by omega) d_Tr_isSiblingBefore_56 ?_
      refine r_aload_n h d_Tr_isSiblingBefore_57 rfl (lv_at hl 2 rfl) ?_
      refine r_get h (k := 1) (j := 0) (by decide) rfl rfl iw_Tr (by decide) lk_Tr_9 rfl rfl d_Tr_isSiblingBefore_58 ?_
      refine r_iload_n h d_Tr_isSiblingBefore_61 rfl (lv_at hl 4 rfl) ?_
      refine r_ialdN h (k := 2) (i := b) (by decide) rfl (by omega) (by omega) d_Tr_isSiblingBefore_62 ?_
      refine r_icmp_eq h 87 d_Tr_isSiblingBefore_63 (by decide) (fun c63 => ?_) (fun c63 => ?_)
      · skip
        refine r_iload_n h d_Tr_isSiblingBefore_87 rfl (lv_at hl 3 rfl) ?_
        refine r_iload_n h d_Tr_isSiblingBefore_88 rfl (lv_at hl 4 rfl) ?_
        refine r_icmp_ge h 96 d_Tr_isSiblingBefore_89 (by decide) (fun c89 => ?_) (fun c89 => ?_)
        · skip
          refine r_iconst h (v := 0) d_Tr_isSiblingBefore_96 (by decide) ?_
          exact r_zret h hM (by decide) d_Tr_isSiblingBefore_97 (rF (by rw [z_sib_3 hq c63]; exact decide_eq_false (fun q => absurd (nI_szm (by omega) (by omega) c89) (by omega)))) rfl
        · skip
          refine r_iconst h (v := 1) d_Tr_isSiblingBefore_92 (by decide) ?_
          refine r_goto h 97 d_Tr_isSiblingBefore_93 (by decide) ?_
          exact r_zret h hM (by decide) d_Tr_isSiblingBefore_97 (rT (by rw [z_sib_3 hq c63]; exact decide_eq_true (nI_lzm (by omega) (by omega) c89))) rfl
      · skip
        refine r_aload_n h d_Tr_isSiblingBefore_66 rfl (lv_at hl 2 rfl) ?_
        refine r_get h (k := 1) (j := 0) (by decide) rfl rfl iw_Tr (by decide) lk_Tr_9 rfl rfl d_Tr_isSiblingBefore_67 ?_
        refine r_iload_n h d_Tr_isSiblingBefore_70 rfl (lv_at hl 3 rfl) ?_
        refine r_ialdN h (k := 2) (i := a) (by decide) rfl (by omega) (by omega) d_Tr_isSiblingBefore_71 ?_
        refine r_aload_n h d_Tr_isSiblingBefore_72 rfl (lv_at hl 2 rfl) ?_
        refine r_get h (k := 1) (j := 0) (by decide) rfl rfl iw_Tr (by decide) lk_Tr_9 rfl rfl d_Tr_isSiblingBefore_73 ?_
        refine r_iload_n h d_Tr_isSiblingBefore_76 rfl (lv_at hl 4 rfl) ?_
        refine r_ialdN h (k := 2) (i := b) (by decide) rfl (by omega) (by omega) d_Tr_isSiblingBefore_77 ?_
        refine r_icmp_ge h 85 d_Tr_isSiblingBefore_78 (by decide) (fun c78 => ?_) (fun c78 => ?_)
        · skip
          refine r_iconst h (v := 0) d_Tr_isSiblingBefore_85 (by decide) ?_
          exact r_zret h hM (by decide) d_Tr_isSiblingBefore_86 (rF (by rw [z_sib_2 hq c63]; exact decide_eq_false (Int32.not_lt.mpr c78))) rfl
        · skip
          refine r_iconst h (v := 1) d_Tr_isSiblingBefore_81 (by decide) ?_
          refine r_goto h 86 d_Tr_isSiblingBefore_82 (by decide) ?_
          exact r_zret h hM (by decide) d_Tr_isSiblingBefore_86 (rT (by rw [z_sib_2 hq c63]; exact decide_eq_true c78)) rfl
    · skip
      refine r_iload_n h d_Tr_isSiblingBefore_39 rfl (lv_at hl 1 rfl) ?_
      refine r_iload h d_Tr_isSiblingBefore_40 (lv_at hl 0 rfl) ?_
      refine r_icmp_le h 49 d_Tr_isSiblingBefore_42 (by decide) (fun c42 => ?_) (fun c42 => ?_)
      · skip
        refine r_iconst h (v := 0) d_Tr_isSiblingBefore_49 (by decide) ?_
        exact r_zret h hM (by decide) d_Tr_isSiblingBefore_50 (rF (by rw [z_sib_1 c7 (fun q => c36 (by rw [q]))]; exact decide_eq_false (fun q => absurd (nI_szm (by omega) (by omega) c42) (by omega)))) rfl
      · skip
        refine r_iconst h (v := 1) d_Tr_isSiblingBefore_45 (by decide) ?_
        refine r_goto h 50 d_Tr_isSiblingBefore_46 (by decide) ?_
        exact r_zret h hM (by decide) d_Tr_isSiblingBefore_50 (rT (by rw [z_sib_1 c7 (fun q => c36 (by rw [q]))]; exact decide_eq_true (nI_lzm (by omega) (by omega) c42))) rfl
set_option maxHeartbeats 4000000 in
set_option maxRecDepth 100000 in
theorem c_Tr_isBeforeBranchOf (l : Launch) (D : va_G) (cA cR : ClassId) (ad : Nat → Nat) (hI : wI ad) (V : Nat → Nat → Int32) (n : Nat) (hn : V 1 0 = nI n) (hle : n ≤ 30) (x : Nat) (e : Int32) (hx : x < 30) (he : ∃ a, a < n ∧ e = nI a) (hpa : ∀ e, e < n → z_el (V 4 e) e) : wM l D cA cR ad y_Tr_isBeforeBranchOf (Cond.code y_Tr_isBeforeBranchOf b_Tr_isBeforeBranchOf 4 (some .boolean) :: wAl) 2 46 [.ref (ad 1), .int (nI x), .int e] V (some (.int (z_B (!decide (z_br (V 4) (V 4 x) n e = -3) && (z_sib (V 7) (V 5) (V 6) (V 2) n x (z_br (V 4) (V 4 x) n e).toNatClampNeg))))) V := by
  refine wM_of hI (by decide) (Nat.le_of_ble_eq_true rfl) ?_
  intro X ls h hM hl
  have hl : lv_has ls 4 [(0, .ref (ad 1)), (1, .int (nI x)), (2, .int e)] := hl
  refine r_aload_n h d_Tr_isBeforeBranchOf_0 rfl (lv_at hl 0 rfl) ?_
  refine r_iload_n h d_Tr_isBeforeBranchOf_1 rfl (lv_at hl 2 rfl) ?_
  refine r_aload_n h d_Tr_isBeforeBranchOf_2 rfl (lv_at hl 0 rfl) ?_
  refine r_get h (k := 1) (j := 2) (by decide) rfl rfl iw_Tr (by decide) lk_Tr_18 rfl rfl d_Tr_isBeforeBranchOf_3 ?_
  refine r_iload_n h d_Tr_isBeforeBranchOf_6 rfl (lv_at hl 1 rfl) ?_
  refine r_ialdN h (k := 4) (i := x) (by decide) rfl (by omega) (by omega) d_Tr_isBeforeBranchOf_7 ?_
  refine r_callVi h (k := 1) (n := 2) (As := [.int e, .int (V 4 x)]) (c_Tr_branchOf l D cA cR ad hI V e (V 4 x) n hn hle hpa (Or.inr he)) g_Tr_54 (by decide +kernel) rfl ⟨by decide, by decide⟩ (by decide) rfl rfl hl rfl (Nat.le_of_ble_eq_true rfl) d_Tr_isBeforeBranchOf_8 ?_
  refine r_istore_n h (lv' := [(3, .int (z_br (V 4) (V 4 x) n e)), (0, .ref (ad 1)), (1, .int (nI x)), (2, .int e)]) d_Tr_isBeforeBranchOf_11 rfl hl (by decide) rfl (fun ls hl => ?_)
  refine r_iload_n h d_Tr_isBeforeBranchOf_12 rfl (lv_at hl 0 rfl) ?_
  refine r_bipush h (v := (-3)) d_Tr_isBeforeBranchOf_13 (by decide) ?_
  refine r_icmp_eq h 31 d_Tr_isBeforeBranchOf_15 (by decide) (fun c15 => ?_) (fun c15 => ?_)
  · skip
    refine r_iconst h (v := 0) d_Tr_isBeforeBranchOf_31 (by decide) ?_
    exact r_zret h hM (by decide) d_Tr_isBeforeBranchOf_32 (rF (z_bq1 (f := fun c => z_sib (V 7) (V 5) (V 6) (V 2) n x c) c15)) rfl
  · skip
    obtain ⟨c, hc1, hc2⟩ : ∃ c, c < n ∧ z_br (V 4) (V 4 x) n e = nI c := by
      obtain ⟨a, a1, a2⟩ := he
      subst a2
      obtain ⟨c, c1, c2⟩ := z_br_c (m := n) (by omega) hpa n a a1 c15
      exact ⟨c, by omega, c2⟩
    refine r_aload_n h d_Tr_isBeforeBranchOf_18 rfl (lv_at hl 1 rfl) ?_
    refine r_iload_n h d_Tr_isBeforeBranchOf_19 rfl (lv_at hl 2 rfl) ?_
    refine r_iload_n h d_Tr_isBeforeBranchOf_20 rfl (lv_at hl 0 rfl) ?_
    refine r_top (nI c) hc2 ?_
    refine r_callVi h (k := 1) (n := 2) (As := [.int (nI x), .int (nI c)]) (c_Tr_isSiblingBefore l D cA cR ad hI V x c (by omega) (by omega) n hn hle) g_Tr_58 (by decide +kernel) rfl ⟨by decide, by decide⟩ (by decide) rfl rfl hl rfl (Nat.le_of_ble_eq_true rfl) d_Tr_isBeforeBranchOf_21 ?_
    refine r_if_eq h 31 d_Tr_isBeforeBranchOf_24 (by decide) (fun c24 => ?_) (fun c24 => ?_)
    · skip
      refine r_iconst h (v := 0) d_Tr_isBeforeBranchOf_31 (by decide) ?_
      exact r_zret h hM (by decide) d_Tr_isBeforeBranchOf_32 (rF ((z_bq2 (f := fun c => z_sib (V 7) (V 5) (V 6) (V 2) n x c) hc2 (by omega)).trans (z_B_0.mp c24))) rfl
    · skip
      refine r_iconst h (v := 1) d_Tr_isBeforeBranchOf_27 (by decide) ?_
      refine r_goto h 32 d_Tr_isBeforeBranchOf_28 (by decide) ?_
      exact r_zret h hM (by decide) d_Tr_isBeforeBranchOf_32 (rT ((z_bq2 (f := fun c => z_sib (V 7) (V 5) (V 6) (V 2) n x c) hc2 (by omega)).trans (z_B_n.mp c24))) rfl
set_option maxHeartbeats 4000000 in
set_option maxRecDepth 100000 in
theorem c_Tr_isBehindBranchOf (l : Launch) (D : va_G) (cA cR : ClassId) (ad : Nat → Nat) (hI : wI ad) (V : Nat → Nat → Int32) (n : Nat) (hn : V 1 0 = nI n) (hle : n ≤ 30) (x : Nat) (e : Int32) (hx : x < 30) (he : ∃ a, a < n ∧ e = nI a) (hpa : ∀ e, e < n → z_el (V 4 e) e) : wM l D cA cR ad y_Tr_isBehindBranchOf (Cond.code y_Tr_isBehindBranchOf b_Tr_isBehindBranchOf 4 (some .boolean) :: wAl) 2 46 [.ref (ad 1), .int (nI x), .int e] V (some (.int (z_B (!decide (z_br (V 4) (V 4 x) n e = -3) && (z_sib (V 7) (V 5) (V 6) (V 2) n (z_br (V 4) (V 4 x) n e).toNatClampNeg x))))) V := by
  refine wM_of hI (by decide) (Nat.le_of_ble_eq_true rfl) ?_
  intro X ls h hM hl
  have hl : lv_has ls 4 [(0, .ref (ad 1)), (1, .int (nI x)), (2, .int e)] := hl
  refine r_aload_n h d_Tr_isBehindBranchOf_0 rfl (lv_at hl 0 rfl) ?_
  refine r_iload_n h d_Tr_isBehindBranchOf_1 rfl (lv_at hl 2 rfl) ?_
  refine r_aload_n h d_Tr_isBehindBranchOf_2 rfl (lv_at hl 0 rfl) ?_
  refine r_get h (k := 1) (j := 2) (by decide) rfl rfl iw_Tr (by decide) lk_Tr_18 rfl rfl d_Tr_isBehindBranchOf_3 ?_
  refine r_iload_n h d_Tr_isBehindBranchOf_6 rfl (lv_at hl 1 rfl) ?_
  refine r_ialdN h (k := 4) (i := x) (by decide) rfl (by omega) (by omega) d_Tr_isBehindBranchOf_7 ?_
  refine r_callVi h (k := 1) (n := 2) (As := [.int e, .int (V 4 x)]) (c_Tr_branchOf l D cA cR ad hI V e (V 4 x) n hn hle hpa (Or.inr he)) g_Tr_54 (by decide +kernel) rfl ⟨by decide, by decide⟩ (by decide) rfl rfl hl rfl (Nat.le_of_ble_eq_true rfl) d_Tr_isBehindBranchOf_8 ?_
  refine r_istore_n h (lv' := [(3, .int (z_br (V 4) (V 4 x) n e)), (0, .ref (ad 1)), (1, .int (nI x)), (2, .int e)]) d_Tr_isBehindBranchOf_11 rfl hl (by decide) rfl (fun ls hl => ?_)
  refine r_iload_n h d_Tr_isBehindBranchOf_12 rfl (lv_at hl 0 rfl) ?_
  refine r_bipush h (v := (-3)) d_Tr_isBehindBranchOf_13 (by decide) ?_
  refine r_icmp_eq h 31 d_Tr_isBehindBranchOf_15 (by decide) (fun c15 => ?_) (fun c15 => ?_)
  · skip
    refine r_iconst h (v := 0) d_Tr_isBehindBranchOf_31 (by decide) ?_
    exact r_zret h hM (by decide) d_Tr_isBehindBranchOf_32 (rF (z_bq1 (f := fun c => z_sib (V 7) (V 5) (V 6) (V 2) n c x) c15)) rfl
  · skip
    obtain ⟨c, hc1, hc2⟩ : ∃ c, c < n ∧ z_br (V 4) (V 4 x) n e = nI c := by
      obtain ⟨a, a1, a2⟩ := he
      subst a2
      obtain ⟨c, c1, c2⟩ := z_br_c (m := n) (by omega) hpa n a a1 c15
      exact ⟨c, by omega, c2⟩
    refine r_aload_n h d_Tr_isBehindBranchOf_18 rfl (lv_at hl 1 rfl) ?_
    refine r_iload_n h d_Tr_isBehindBranchOf_19 rfl (lv_at hl 0 rfl) ?_
    refine r_top (nI c) hc2 ?_
    refine r_iload_n h d_Tr_isBehindBranchOf_20 rfl (lv_at hl 2 rfl) ?_
    refine r_callVi h (k := 1) (n := 2) (As := [.int (nI c), .int (nI x)]) (c_Tr_isSiblingBefore l D cA cR ad hI V c x (by omega) (by omega) n hn hle) g_Tr_58 (by decide +kernel) rfl ⟨by decide, by decide⟩ (by decide) rfl rfl hl rfl (Nat.le_of_ble_eq_true rfl) d_Tr_isBehindBranchOf_21 ?_
    refine r_if_eq h 31 d_Tr_isBehindBranchOf_24 (by decide) (fun c24 => ?_) (fun c24 => ?_)
    · skip
      refine r_iconst h (v := 0) d_Tr_isBehindBranchOf_31 (by decide) ?_
      exact r_zret h hM (by decide) d_Tr_isBehindBranchOf_32 (rF ((z_bq2 (f := fun c => z_sib (V 7) (V 5) (V 6) (V 2) n c x) hc2 (by omega)).trans (z_B_0.mp c24))) rfl
    · skip
      refine r_iconst h (v := 1) d_Tr_isBehindBranchOf_27 (by decide) ?_
      refine r_goto h 32 d_Tr_isBehindBranchOf_28 (by decide) ?_
      exact r_zret h hM (by decide) d_Tr_isBehindBranchOf_32 (rT ((z_bq2 (f := fun c => z_sib (V 7) (V 5) (V 6) (V 2) n c x) hc2 (by omega)).trans (z_B_n.mp c24))) rfl
set_option maxHeartbeats 4000000 in
set_option maxRecDepth 100000 in
theorem c_Tr_leftPlaceFor (l : Launch) (D : va_G) (cA cR : ClassId) (ad : Nat → Nat) (hI : wI ad) (V : Nat → Nat → Int32) (n : Nat) (hn : V 1 0 = nI n) (hle : n ≤ 30) (x : Nat) (hx : x < 30) (hpa : ∀ e, e < n → z_el (V 4 e) e) (hod : ∀ p, p < n → ∃ e, e < n ∧ V 7 p = nI e) : wM l D cA cR ad y_Tr_leftPlaceFor (Cond.code y_Tr_leftPlaceFor b_Tr_leftPlaceFor 3 (some .int) :: wAl) 3 69 [.ref (ad 1), .int (nI x)] V (some (.int (nI (z_dwn (z_bfr (V 7) (V 4) (V 5) (V 6) (V 2) n x) (z_pl (V 7) n (V 4 x)))))) V := by
  refine wM_of hI (by decide) (Nat.le_of_ble_eq_true rfl) ?_
  intro X ls h hM hl
  have hl : lv_has ls 3 [(0, .ref (ad 1)), (1, .int (nI x))] := hl
  have loop : ∀ (p : Nat) (ls : Array Slot), p ≤ n → z_dwn (z_bfr (V 7) (V 4) (V 5) (V 6) (V 2) n x) p = z_dwn (z_bfr (V 7) (V 4) (V 5) (V 6) (V 2) n x) (z_pl (V 7) n (V 4 x)) → lv_has ls 3 [(2, .int (nI p)), (0, .ref (ad 1)), (1, .int (nI x))] → wv X cA cR ad V 11 ls [] := by
    intro p
    induction p with
    | zero =>
      intro ls hp hz hl
      refine r_iload_n h d_Tr_leftPlaceFor_11 rfl (lv_at hl 0 rfl) ?_
      refine r_if_le_t h 37 d_Tr_leftPlaceFor_12 (by decide) (by decide) ?_
      refine r_iload_n h d_Tr_leftPlaceFor_37 rfl (lv_at hl 0 rfl) ?_
      exact r_iret h hM d_Tr_leftPlaceFor_38 (rI (by rw [← hz]; rfl)) rfl
    | succ p ih =>
      intro ls hp hz hl
      refine r_iload_n h d_Tr_leftPlaceFor_11 rfl (lv_at hl 0 rfl) ?_
      refine r_if_le_f h 37 d_Tr_leftPlaceFor_12 (by decide) (nI_lz (a := 0) (by omega) (by omega) (by omega)) ?_
      refine r_aload_n h d_Tr_leftPlaceFor_15 rfl (lv_at hl 1 rfl) ?_
      refine r_iload_n h d_Tr_leftPlaceFor_16 rfl (lv_at hl 2 rfl) ?_
      refine r_aload_n h d_Tr_leftPlaceFor_17 rfl (lv_at hl 1 rfl) ?_
      refine r_get h (k := 1) (j := 5) (by decide) rfl rfl iw_Tr (by decide) lk_Tr_27 rfl rfl d_Tr_leftPlaceFor_18 ?_
      refine r_iload_n h d_Tr_leftPlaceFor_21 rfl (lv_at hl 0 rfl) ?_
      refine r_iconst h (v := 1) d_Tr_leftPlaceFor_22 (by decide) ?_
      refine r_isub h d_Tr_leftPlaceFor_23 ?_
      refine r_top (nI p) (nI_pred p) ?_
      refine r_ialdN h (k := 7) (i := p) (by decide) rfl (by omega) (by omega) d_Tr_leftPlaceFor_24 ?_
      refine r_callVi h (k := 1) (n := 2) (As := [.int (nI x), .int (V 7 p)]) (c_Tr_isBeforeBranchOf l D cA cR ad hI V n hn hle x (V 7 p) hx (hod p (by omega)) hpa) g_Tr_44 (by decide +kernel) rfl ⟨by decide, by decide⟩ (by decide) rfl rfl hl rfl (Nat.le_of_ble_eq_true rfl) d_Tr_leftPlaceFor_25 ?_
      refine r_if_eq h 37 d_Tr_leftPlaceFor_28 (by decide) (fun c28 => ?_) (fun c28 => ?_)
      · skip
        refine r_iload_n h d_Tr_leftPlaceFor_37 rfl (lv_at hl 0 rfl) ?_
        exact r_iret h hM d_Tr_leftPlaceFor_38 (rI (by rw [← hz, z_dwn_f (z_B_0.mp c28)])) rfl
      · skip
        refine r_iinc h (v := nI p) (lv' := [(2, .int (nI p)), (0, .ref (ad 1)), (1, .int (nI x))]) d_Tr_leftPlaceFor_31 hl (k := 0) rfl (z_dcN p) (by decide) rfl (fun ls hl => ?_)
        refine r_goto h 11 d_Tr_leftPlaceFor_34 (by decide) ?_
        exact ih ls (by omega) (by rw [← hz, z_dwn_t (z_B_n.mp c28)]) hl
  refine r_aload_n h d_Tr_leftPlaceFor_0 rfl (lv_at hl 0 rfl) ?_
  refine r_aload_n h d_Tr_leftPlaceFor_1 rfl (lv_at hl 0 rfl) ?_
  refine r_get h (k := 1) (j := 2) (by decide) rfl rfl iw_Tr (by decide) lk_Tr_18 rfl rfl d_Tr_leftPlaceFor_2 ?_
  refine r_iload_n h d_Tr_leftPlaceFor_5 rfl (lv_at hl 1 rfl) ?_
  refine r_ialdN h (k := 4) (i := x) (by decide) rfl (by omega) (by omega) d_Tr_leftPlaceFor_6 ?_
  refine r_callVi h (k := 1) (n := 1) (As := [.int (V 4 x)]) (c_Tr_placeOf l D cA cR ad hI V (V 4 x) n hn hle) g_Tr_41 (by decide +kernel) rfl ⟨by decide, by decide⟩ (by decide) rfl rfl hl rfl (Nat.le_of_ble_eq_true rfl) d_Tr_leftPlaceFor_7 ?_
  refine r_istore_n h (lv' := [(2, .int (nI (z_pl (V 7) n (V 4 x)))), (0, .ref (ad 1)), (1, .int (nI x))]) d_Tr_leftPlaceFor_10 rfl hl (by decide) rfl (fun ls hl => ?_)
  exact loop (z_pl (V 7) n (V 4 x)) ls (z_pl_le _ _ _) rfl hl
set_option maxHeartbeats 4000000 in
set_option maxRecDepth 100000 in
theorem c_Tr_rightPlaceFor (l : Launch) (D : va_G) (cA cR : ClassId) (ad : Nat → Nat) (hI : wI ad) (V : Nat → Nat → Int32) (n : Nat) (hn : V 1 0 = nI n) (hle : n ≤ 30) (x : Nat) (hx : x < 30) (hpa : ∀ e, e < n → z_el (V 4 e) e) (hod : ∀ p, p < n → ∃ e, e < n ∧ V 7 p = nI e) (hbe : z_beh (V 7) n (V 4 x) ≤ n) : wM l D cA cR ad y_Tr_rightPlaceFor (Cond.code y_Tr_rightPlaceFor b_Tr_rightPlaceFor 3 (some .int) :: wAl) 3 69 [.ref (ad 1), .int (nI x)] V (some (.int (nI (z_fnd (fun q => !z_aft (V 7) (V 4) (V 5) (V 6) (V 2) n x q) (n - z_beh (V 7) n (V 4 x)) (z_beh (V 7) n (V 4 x)))))) V := by
  refine wM_of hI (by decide) (Nat.le_of_ble_eq_true rfl) ?_
  intro X ls h hM hl
  have hl : lv_has ls 3 [(0, .ref (ad 1)), (1, .int (nI x))] := hl
  have loop : ∀ (k p : Nat) (ls : Array Slot), p + k = n → z_fnd (fun q => !z_aft (V 7) (V 4) (V 5) (V 6) (V 2) n x q) k p = z_fnd (fun q => !z_aft (V 7) (V 4) (V 5) (V 6) (V 2) n x q) (n - z_beh (V 7) n (V 4 x)) (z_beh (V 7) n (V 4 x)) → lv_has ls 3 [(2, .int (nI p)), (0, .ref (ad 1)), (1, .int (nI x))] → wv X cA cR ad V 11 ls [] := by
    intro k
    induction k with
    | zero =>
      intro p ls hp hz hl
      refine r_iload_n h d_Tr_rightPlaceFor_11 rfl (lv_at hl 0 rfl) ?_
      refine r_aload_n h d_Tr_rightPlaceFor_12 rfl (lv_at hl 1 rfl) ?_
      refine r_get h (k := 1) (j := 6) (by decide) rfl rfl iw_Tr (by decide) lk_Tr_30 rfl rfl d_Tr_rightPlaceFor_13 ?_
      refine r_top (nI n) hn ?_
      refine r_icmp_ge_t h 39 d_Tr_rightPlaceFor_16 (by decide) (nI_sz (by omega) (by omega) (by omega)) ?_
      refine r_iload_n h d_Tr_rightPlaceFor_39 rfl (lv_at hl 0 rfl) ?_
      exact r_iret h hM d_Tr_rightPlaceFor_40 (rI (by rw [← hz]; rfl)) rfl
    | succ k ih =>
      intro p ls hp hz hl
      refine r_iload_n h d_Tr_rightPlaceFor_11 rfl (lv_at hl 0 rfl) ?_
      refine r_aload_n h d_Tr_rightPlaceFor_12 rfl (lv_at hl 1 rfl) ?_
      refine r_get h (k := 1) (j := 6) (by decide) rfl rfl iw_Tr (by decide) lk_Tr_30 rfl rfl d_Tr_rightPlaceFor_13 ?_
      refine r_top (nI n) hn ?_
      refine r_icmp_ge_f h 39 d_Tr_rightPlaceFor_16 (by decide) (nI_lz (by omega) (by omega) (by omega)) ?_
      refine r_aload_n h d_Tr_rightPlaceFor_19 rfl (lv_at hl 1 rfl) ?_
      refine r_iload_n h d_Tr_rightPlaceFor_20 rfl (lv_at hl 2 rfl) ?_
      refine r_aload_n h d_Tr_rightPlaceFor_21 rfl (lv_at hl 1 rfl) ?_
      refine r_get h (k := 1) (j := 5) (by decide) rfl rfl iw_Tr (by decide) lk_Tr_27 rfl rfl d_Tr_rightPlaceFor_22 ?_
      refine r_iload_n h d_Tr_rightPlaceFor_25 rfl (lv_at hl 0 rfl) ?_
      refine r_ialdN h (k := 7) (i := p) (by decide) rfl (by omega) (by omega) d_Tr_rightPlaceFor_26 ?_
      refine r_callVi h (k := 1) (n := 2) (As := [.int (nI x), .int (V 7 p)]) (c_Tr_isBehindBranchOf l D cA cR ad hI V n hn hle x (V 7 p) hx (hod p (by omega)) hpa) g_Tr_51 (by decide +kernel) rfl ⟨by decide, by decide⟩ (by decide) rfl rfl hl rfl (Nat.le_of_ble_eq_true rfl) d_Tr_rightPlaceFor_27 ?_
      refine r_if_eq h 39 d_Tr_rightPlaceFor_30 (by decide) (fun c30 => ?_) (fun c30 => ?_)
      · skip
        refine r_iload_n h d_Tr_rightPlaceFor_39 rfl (lv_at hl 0 rfl) ?_
        exact r_iret h hM d_Tr_rightPlaceFor_40 (rI (by rw [← hz, z_fnd_t (P := fun q => !z_aft (V 7) (V 4) (V 5) (V 6) (V 2) n x q) (by show (!z_aft (V 7) (V 4) (V 5) (V 6) (V 2) n x p) = true; rw [show z_aft (V 7) (V 4) (V 5) (V 6) (V 2) n x p = false from z_B_0.mp c30]; rfl)])) rfl
      · skip
        refine r_iinc h (v := nI (p + 1)) (lv' := [(2, .int (nI (p + 1))), (0, .ref (ad 1)), (1, .int (nI x))]) d_Tr_rightPlaceFor_33 hl (k := 0) rfl (z_inc p) (by decide) rfl (fun ls hl => ?_)
        refine r_goto h 11 d_Tr_rightPlaceFor_36 (by decide) ?_
        exact ih (p + 1) ls (by omega) (by rw [← hz, z_fnd_f (P := fun q => !z_aft (V 7) (V 4) (V 5) (V 6) (V 2) n x q) (by show (!z_aft (V 7) (V 4) (V 5) (V 6) (V 2) n x p) = false; rw [show z_aft (V 7) (V 4) (V 5) (V 6) (V 2) n x p = true from z_B_n.mp c30]; rfl)]) hl
  refine r_aload_n h d_Tr_rightPlaceFor_0 rfl (lv_at hl 0 rfl) ?_
  refine r_aload_n h d_Tr_rightPlaceFor_1 rfl (lv_at hl 0 rfl) ?_
  refine r_get h (k := 1) (j := 2) (by decide) rfl rfl iw_Tr (by decide) lk_Tr_18 rfl rfl d_Tr_rightPlaceFor_2 ?_
  refine r_iload_n h d_Tr_rightPlaceFor_5 rfl (lv_at hl 1 rfl) ?_
  refine r_ialdN h (k := 4) (i := x) (by decide) rfl (by omega) (by omega) d_Tr_rightPlaceFor_6 ?_
  refine r_callVi h (k := 1) (n := 1) (As := [.int (V 4 x)]) (c_Tr_placeBehind l D cA cR ad hI V (V 4 x) n hn hle) g_Tr_48 (by decide +kernel) rfl ⟨by decide, by decide⟩ (by decide) rfl rfl hl rfl (Nat.le_of_ble_eq_true rfl) d_Tr_rightPlaceFor_7 ?_
  refine r_istore_n h (lv' := [(2, .int (nI (z_beh (V 7) n (V 4 x)))), (0, .ref (ad 1)), (1, .int (nI x))]) d_Tr_rightPlaceFor_10 rfl hl (by decide) rfl (fun ls hl => ?_)
  exact loop (n - z_beh (V 7) n (V 4 x)) (z_beh (V 7) n (V 4 x)) ls (by omega) rfl hl
set_option maxHeartbeats 4000000 in
set_option maxRecDepth 100000 in
theorem c_Tr_countAbove (l : Launch) (D : va_G) (cA cR : ClassId) (ad : Nat → Nat) (hI : wI ad) (V : Nat → Nat → Int32) (n : Nat) (hn : V 1 0 = nI n) (hle : n ≤ 30) (x : Nat) (hx : x < n) (hpa : ∀ e, e < n → z_el (V 4 e) e) : wM l D cA cR ad y_Tr_countAbove (Cond.code y_Tr_countAbove b_Tr_countAbove 4 (some .int) :: wAl) 0 0 [.ref (ad 1), .int (nI x)] V (some (.int (nI (z_abv (V 4) n (V 4 x) 0)))) V := by
  refine wM_of hI (by decide) (Nat.le_of_ble_eq_true rfl) ?_
  intro X ls h hM hl
  have hl : lv_has ls 4 [(0, .ref (ad 1)), (1, .int (nI x))] := hl
  have loop : ∀ (k j : Nat) (y : Int32) (ls : Array Slot), j + k = n → z_el y n → z_abv (V 4) k y j = z_abv (V 4) n (V 4 x) 0 → lv_has ls 4 [(3, .int y), (2, .int (nI j)), (0, .ref (ad 1)), (1, .int (nI x))] → wv X cA cR ad V 9 ls [] := by
    intro k
    induction k with
    | zero =>
      intro j y ls hj hy hz hl
      refine r_iload_n h d_Tr_countAbove_9 rfl (lv_at hl 0 rfl) ?_
      refine r_iconst h (v := (-1)) d_Tr_countAbove_10 (by decide) ?_
      refine r_icmp_eq h 35 d_Tr_countAbove_11 (by decide) (fun c11 => ?_) (fun c11 => ?_)
      · skip
        refine r_iload_n h d_Tr_countAbove_35 rfl (lv_at hl 1 rfl) ?_
        exact r_iret h hM d_Tr_countAbove_36 (rI (by rw [← hz]; rfl)) rfl
      · skip
        refine r_iload_n h d_Tr_countAbove_14 rfl (lv_at hl 1 rfl) ?_
        refine r_aload_n h d_Tr_countAbove_15 rfl (lv_at hl 2 rfl) ?_
        refine r_get h (k := 1) (j := 6) (by decide) rfl rfl iw_Tr (by decide) lk_Tr_30 rfl rfl d_Tr_countAbove_16 ?_
        refine r_top (nI n) hn ?_
        refine r_icmp_ge_t h 35 d_Tr_countAbove_19 (by decide) (nI_sz (by omega) (by omega) (by omega)) ?_
        refine r_iload_n h d_Tr_countAbove_35 rfl (lv_at hl 1 rfl) ?_
        exact r_iret h hM d_Tr_countAbove_36 (rI (by rw [← hz]; rfl)) rfl
    | succ k ih =>
      intro j y ls hj hy hz hl
      refine r_iload_n h d_Tr_countAbove_9 rfl (lv_at hl 0 rfl) ?_
      refine r_iconst h (v := (-1)) d_Tr_countAbove_10 (by decide) ?_
      refine r_icmp_eq h 35 d_Tr_countAbove_11 (by decide) (fun c11 => ?_) (fun c11 => ?_)
      · skip
        refine r_iload_n h d_Tr_countAbove_35 rfl (lv_at hl 1 rfl) ?_
        exact r_iret h hM d_Tr_countAbove_36 (rI (by rw [← hz, c11]; exact (congrArg nI (if_pos rfl)).symm)) rfl
      · skip
        obtain ⟨a, ha, rfl⟩ := z_el_e hy c11
        refine r_iload_n h d_Tr_countAbove_14 rfl (lv_at hl 1 rfl) ?_
        refine r_aload_n h d_Tr_countAbove_15 rfl (lv_at hl 2 rfl) ?_
        refine r_get h (k := 1) (j := 6) (by decide) rfl rfl iw_Tr (by decide) lk_Tr_30 rfl rfl d_Tr_countAbove_16 ?_
        refine r_top (nI n) hn ?_
        refine r_icmp_ge_f h 35 d_Tr_countAbove_19 (by decide) (nI_lz (by omega) (by omega) (by omega)) ?_
        refine r_iinc h (v := nI (j + 1)) (lv' := [(2, .int (nI (j + 1))), (3, .int (nI a)), (0, .ref (ad 1)), (1, .int (nI x))]) d_Tr_countAbove_22 hl (k := 1) rfl (z_inc j) (by decide) rfl (fun ls hl => ?_)
        refine r_aload_n h d_Tr_countAbove_25 rfl (lv_at hl 2 rfl) ?_
        refine r_get h (k := 1) (j := 2) (by decide) rfl rfl iw_Tr (by decide) lk_Tr_18 rfl rfl d_Tr_countAbove_26 ?_
        refine r_iload_n h d_Tr_countAbove_29 rfl (lv_at hl 1 rfl) ?_
        refine r_ialdN h (k := 4) (i := a) (by decide) rfl (by omega) (by omega) d_Tr_countAbove_30 ?_
        refine r_istore_n h (lv' := [(3, .int (V 4 a)), (2, .int (nI (j + 1))), (0, .ref (ad 1)), (1, .int (nI x))]) d_Tr_countAbove_31 rfl hl (by decide) rfl (fun ls hl => ?_)
        refine r_goto h 9 d_Tr_countAbove_32 (by decide) ?_
        exact ih (j + 1) (V 4 a) ls (by omega) (z_el_mono (hpa a ha) (by omega)) (by rw [← hz]; show _ = (if nI a = -1 then j else z_abv (V 4) k (V 4 (nI a).toNatClampNeg) (j + 1)); rw [if_neg c11, nI_clamp (by omega)]) hl
  refine r_iconst h (v := 0) d_Tr_countAbove_0 (by decide) ?_
  refine r_istore_n h (lv' := [(2, .int 0), (0, .ref (ad 1)), (1, .int (nI x))]) d_Tr_countAbove_1 rfl hl (by decide) rfl (fun ls hl => ?_)
  refine r_aload_n h d_Tr_countAbove_2 rfl (lv_at hl 1 rfl) ?_
  refine r_get h (k := 1) (j := 2) (by decide) rfl rfl iw_Tr (by decide) lk_Tr_18 rfl rfl d_Tr_countAbove_3 ?_
  refine r_iload_n h d_Tr_countAbove_6 rfl (lv_at hl 2 rfl) ?_
  refine r_ialdN h (k := 4) (i := x) (by decide) rfl (by omega) (by omega) d_Tr_countAbove_7 ?_
  refine r_istore_n h (lv' := [(3, .int (V 4 x)), (2, .int 0), (0, .ref (ad 1)), (1, .int (nI x))]) d_Tr_countAbove_8 rfl hl (by decide) rfl (fun ls hl => ?_)
  exact loop n 0 (V 4 x) ls (by omega) (z_el_mono (hpa x hx) (by omega)) rfl hl
set_option maxHeartbeats 4000000 in
set_option maxRecDepth 100000 in
theorem c_Tr_add (l : Launch) (D : va_G) (cA cR : ClassId) (ad : Nat → Nat) (hI : wI ad) (V : Nat → Nat → Int32) (n : Nat) (hn : V 1 0 = nI n) (hlt : n < 30) (mk ch pa sd ro : Int32) (hpa : ∀ e, e < n → z_el (V 4 e) e) (hod : ∀ p, p < n → ∃ e, e < n ∧ V 7 p = nI e) (hbe : z_beh (V 7) n pa ≤ n) (hA : kAt V n mk pa sd ro ≤ n) : wM l D cA cR ad y_Tr_add (Cond.code y_Tr_add b_Tr_add 9 (some .int) :: wAl) 4 91 [.ref (ad 1), .int mk, .int ch, .int pa, .int sd, .int ro] V (some (.int (nI n))) (kAdd V n mk ch pa sd ro) := by
  refine wM_of hI (by decide) (Nat.le_of_ble_eq_true rfl) ?_
  intro X ls h hM hl
  have hl : lv_has ls 9 [(0, .ref (ad 1)), (1, .int mk), (2, .int ch), (3, .int pa), (4, .int sd), (5, .int ro)] := hl
  have hAn : kAt V n mk pa sd ro ≤ n := hA
  obtain ⟨V5, hV5⟩ : ∃ V5, V5 = wU (wU (wU (wU (wU V 2 n mk) 3 n ch) 4 n pa) 5 n sd) 6 n ro := ⟨_, rfl⟩
  have g1 : V5 1 0 = nI n := by rw [hV5]; exact hn
  have g7 : V5 7 = V 7 := by rw [hV5]; rfl
  have g4 : V5 4 = upd (V 4) n pa := by rw [hV5]; rfl
  have g5 : V5 5 = upd (V 5) n sd := by rw [hV5]; rfl
  have g6 : V5 6 = upd (V 6) n ro := by rw [hV5]; rfl
  have g2 : V5 2 = upd (V 2) n mk := by rw [hV5]; rfl
  have hpa5 : ∀ e, e < n → z_el (V5 4 e) e := fun e he => by rw [g4, pk_un (by omega)]; exact hpa e he
  have hod5 : ∀ p, p < n → ∃ e, e < n ∧ V5 7 p = nI e := fun p hp => by rw [g7]; exact hod p hp
  have fin : ∀ (p : Nat) (ls : Array Slot), lv_has ls 9 [(8, .int (nI p)), (7, .int (nI (kAt V n mk pa sd ro))), (6, .int (nI n)), (0, .ref (ad 1)), (1, .int mk), (2, .int ch), (3, .int pa), (4, .int sd), (5, .int ro)] → wv X cA cR ad (wS V5 7 (z_shr (kAt V n mk pa sd ro) n (V 7))) 105 ls [] := by
    intro p ls hl
    refine r_aload_n h d_Tr_add_105 rfl (lv_at hl 3 rfl) ?_
    refine r_get h (k := 1) (j := 5) (by decide) rfl rfl iw_Tr (by decide) lk_Tr_27 rfl rfl d_Tr_add_106 ?_
    refine r_iload h d_Tr_add_109 (lv_at hl 1 rfl) ?_
    refine r_iload h d_Tr_add_111 (lv_at hl 2 rfl) ?_
    refine r_iastN h (k := 7) (i := (kAt V n mk pa sd ro)) (by decide) rfl (by omega) (by omega) d_Tr_add_113 ?_
    refine r_V (V' := wS V5 7 (upd (z_shr (kAt V n mk pa sd ro) n (V 7)) (kAt V n mk pa sd ro) (nI n))) (wU_wS _ _ _ _ _) ?_
    refine r_aload_n h d_Tr_add_114 rfl (lv_at hl 3 rfl) ?_
    refine r_dup h d_Tr_add_115 rfl ?_
    refine r_get h (k := 1) (j := 6) (by decide) rfl rfl iw_Tr (by decide) lk_Tr_30 rfl rfl d_Tr_add_116 ?_
    refine r_top (nI n) (by rw [wS_n (by decide)]; exact g1) ?_
    refine r_iconst h (v := 1) d_Tr_add_119 (by decide) ?_
    refine r_iadd h d_Tr_add_120 ?_
    refine r_top (nI (n + 1)) (nI_1 n) ?_
    refine r_put h (k := 1) (j := 6) (by decide) rfl rfl rfl iw_Tr t_Tr t_Tr_ok n_Tr (by decide) lk_Tr_30 rfl rfl (by decide +kernel) (Nat.le_of_ble_eq_true rfl) d_Tr_add_121 ?_
    refine r_iload h d_Tr_add_124 (lv_at hl 2 rfl) ?_
    exact r_iret h hM d_Tr_add_126 rfl (by rw [hV5]; rfl)
  have loop : ∀ (p : Nat) (f : Nat → Int32) (ls : Array Slot), p ≤ n → z_shr (kAt V n mk pa sd ro) p f = z_shr (kAt V n mk pa sd ro) n (V 7) → lv_has ls 9 [(8, .int (nI p)), (7, .int (nI (kAt V n mk pa sd ro))), (6, .int (nI n)), (0, .ref (ad 1)), (1, .int mk), (2, .int ch), (3, .int pa), (4, .int sd), (5, .int ro)] → wv X cA cR ad (wS V5 7 f) 76 ls [] := by
    intro p
    induction p with
    | zero =>
      intro f ls hp hz hl
      refine r_iload h d_Tr_add_76 (lv_at hl 0 rfl) ?_
      refine r_iload h d_Tr_add_78 (lv_at hl 1 rfl) ?_
      refine r_icmp_le_t h 105 d_Tr_add_80 (by decide) (nI_sz (b := 0) (by omega) (by omega) (by omega)) ?_
      refine r_V (V' := wS V5 7 (z_shr (kAt V n mk pa sd ro) n (V 7))) (by rw [← hz]; rfl) ?_
      exact fin 0 ls hl
    | succ p ih =>
      intro f ls hp hz hl
      refine r_iload h d_Tr_add_76 (lv_at hl 0 rfl) ?_
      refine r_iload h d_Tr_add_78 (lv_at hl 1 rfl) ?_
      refine r_icmp_le h 105 d_Tr_add_80 (by decide) (fun c80 => ?_) (fun c80 => ?_)
      · skip
        refine r_V (V' := wS V5 7 (z_shr (kAt V n mk pa sd ro) n (V 7))) (by rw [← hz]; show _ = wS V5 7 (if kAt V n mk pa sd ro < p + 1 then _ else f); rw [if_neg (by have := nI_szm (by omega) (by omega) c80; omega)]) ?_
        exact fin (p + 1) ls hl
      · skip
        refine r_aload_n h d_Tr_add_83 rfl (lv_at hl 3 rfl) ?_
        refine r_get h (k := 1) (j := 5) (by decide) rfl rfl iw_Tr (by decide) lk_Tr_27 rfl rfl d_Tr_add_84 ?_
        refine r_iload h d_Tr_add_87 (lv_at hl 0 rfl) ?_
        refine r_aload_n h d_Tr_add_89 rfl (lv_at hl 3 rfl) ?_
        refine r_get h (k := 1) (j := 5) (by decide) rfl rfl iw_Tr (by decide) lk_Tr_27 rfl rfl d_Tr_add_90 ?_
        refine r_iload h d_Tr_add_93 (lv_at hl 0 rfl) ?_
        refine r_iconst h (v := 1) d_Tr_add_95 (by decide) ?_
        refine r_isub h d_Tr_add_96 ?_
        refine r_top (nI p) (nI_pred p) ?_
        refine r_ialdN h (k := 7) (i := p) (by decide) rfl (by omega) (by omega) d_Tr_add_97 ?_
        refine r_top (f p) (by rw [wS_s]) ?_
        refine r_iastN h (k := 7) (i := (p + 1)) (by decide) rfl (by omega) (by omega) d_Tr_add_98 ?_
        refine r_V (V' := wS V5 7 (upd f (p + 1) (f p))) (wU_wS _ _ _ _ _) ?_
        refine r_iinc h (v := nI p) (lv' := [(8, .int (nI p)), (7, .int (nI (kAt V n mk pa sd ro))), (6, .int (nI n)), (0, .ref (ad 1)), (1, .int mk), (2, .int ch), (3, .int pa), (4, .int sd), (5, .int ro)]) d_Tr_add_99 hl (k := 0) rfl (z_dcN p) (by decide) rfl (fun ls hl => ?_)
        refine r_goto h 76 d_Tr_add_102 (by decide) ?_
        exact ih (upd f (p + 1) (f p)) ls (by omega) (by rw [← hz]; show _ = (if kAt V n mk pa sd ro < p + 1 then z_shr (kAt V n mk pa sd ro) p (upd f (p + 1) (f p)) else f); rw [if_pos (nI_lzm (by omega) (by omega) c80)]) hl
  refine r_aload_n h d_Tr_add_0 rfl (lv_at hl 0 rfl) ?_
  refine r_get h (k := 1) (j := 6) (by decide) rfl rfl iw_Tr (by decide) lk_Tr_30 rfl rfl d_Tr_add_1 ?_
  refine r_top (nI n) hn ?_
  refine r_istore h (lv' := [(6, .int (nI n)), (0, .ref (ad 1)), (1, .int mk), (2, .int ch), (3, .int pa), (4, .int sd), (5, .int ro)]) d_Tr_add_4 hl (by decide) rfl (fun ls hl => ?_)
  refine r_aload_n h d_Tr_add_6 rfl (lv_at hl 1 rfl) ?_
  refine r_get h (k := 1) (j := 0) (by decide) rfl rfl iw_Tr (by decide) lk_Tr_9 rfl rfl d_Tr_add_7 ?_
  refine r_iload h d_Tr_add_10 (lv_at hl 0 rfl) ?_
  refine r_iload_n h d_Tr_add_12 rfl (lv_at hl 2 rfl) ?_
  refine r_iastN h (k := 2) (i := n) (by decide) rfl (by omega) (by omega) d_Tr_add_13 ?_
  refine r_aload_n h d_Tr_add_14 rfl (lv_at hl 1 rfl) ?_
  refine r_get h (k := 1) (j := 1) (by decide) rfl rfl iw_Tr (by decide) lk_Tr_15 rfl rfl d_Tr_add_15 ?_
  refine r_iload h d_Tr_add_18 (lv_at hl 0 rfl) ?_
  refine r_iload_n h d_Tr_add_20 rfl (lv_at hl 3 rfl) ?_
  refine r_iastN h (k := 3) (i := n) (by decide) rfl (by omega) (by omega) d_Tr_add_21 ?_
  refine r_aload_n h d_Tr_add_22 rfl (lv_at hl 1 rfl) ?_
  refine r_get h (k := 1) (j := 2) (by decide) rfl rfl iw_Tr (by decide) lk_Tr_18 rfl rfl d_Tr_add_23 ?_
  refine r_iload h d_Tr_add_26 (lv_at hl 0 rfl) ?_
  refine r_iload_n h d_Tr_add_28 rfl (lv_at hl 4 rfl) ?_
  refine r_iastN h (k := 4) (i := n) (by decide) rfl (by omega) (by omega) d_Tr_add_29 ?_
  refine r_aload_n h d_Tr_add_30 rfl (lv_at hl 1 rfl) ?_
  refine r_get h (k := 1) (j := 3) (by decide) rfl rfl iw_Tr (by decide) lk_Tr_21 rfl rfl d_Tr_add_31 ?_
  refine r_iload h d_Tr_add_34 (lv_at hl 0 rfl) ?_
  refine r_iload h d_Tr_add_36 (lv_at hl 5 rfl) ?_
  refine r_iastN h (k := 5) (i := n) (by decide) rfl (by omega) (by omega) d_Tr_add_38 ?_
  refine r_aload_n h d_Tr_add_39 rfl (lv_at hl 1 rfl) ?_
  refine r_get h (k := 1) (j := 4) (by decide) rfl rfl iw_Tr (by decide) lk_Tr_24 rfl rfl d_Tr_add_40 ?_
  refine r_iload h d_Tr_add_43 (lv_at hl 0 rfl) ?_
  refine r_iload h d_Tr_add_45 (lv_at hl 6 rfl) ?_
  refine r_iastN h (k := 6) (i := n) (by decide) rfl (by omega) (by omega) d_Tr_add_47 ?_
  refine r_V (V' := V5) hV5.symm ?_
  refine r_iload h d_Tr_add_48 (lv_at hl 5 rfl) ?_
  refine r_if_ne h 62 d_Tr_add_50 (by decide) (fun c50 => ?_) (fun c50 => ?_)
  · skip
    refine r_aload_n h d_Tr_add_62 rfl (lv_at hl 1 rfl) ?_
    refine r_iload h d_Tr_add_63 (lv_at hl 0 rfl) ?_
    refine r_callVi h (k := 1) (n := 1) (As := [.int (nI n)]) (c_Tr_rightPlaceFor l D cA cR ad hI V5 n g1 (by omega) n hlt hpa5 hod5 (by rw [g7, g4, pk_us]; exact hbe)) g_Tr_38 (by decide +kernel) rfl ⟨by decide, by decide⟩ (by decide) rfl rfl hl rfl (Nat.le_of_ble_eq_true rfl) d_Tr_add_65 ?_
    refine r_top (nI (kAt V n mk pa sd ro)) (by rw [g7, g4, g5, g6, g2]; unfold kAt z_plC; rw [if_neg (by rw [pk_us]; exact c50)]) ?_
    refine r_istore h (lv' := [(7, .int (nI (kAt V n mk pa sd ro))), (6, .int (nI n)), (0, .ref (ad 1)), (1, .int mk), (2, .int ch), (3, .int pa), (4, .int sd), (5, .int ro)]) d_Tr_add_68 hl (by decide) rfl (fun ls hl => ?_)
    refine r_aload_n h d_Tr_add_70 rfl (lv_at hl 2 rfl) ?_
    refine r_get h (k := 1) (j := 6) (by decide) rfl rfl iw_Tr (by decide) lk_Tr_30 rfl rfl d_Tr_add_71 ?_
    refine r_top (nI n) g1 ?_
    refine r_istore h (lv' := [(8, .int (nI n)), (7, .int (nI (kAt V n mk pa sd ro))), (6, .int (nI n)), (0, .ref (ad 1)), (1, .int mk), (2, .int ch), (3, .int pa), (4, .int sd), (5, .int ro)]) d_Tr_add_74 hl (by decide) rfl (fun ls hl => ?_)
    refine r_V (V' := wS V5 7 (V 7)) (by rw [← g7, wS_id]) ?_
    exact loop n (V 7) ls (by omega) rfl hl
  · skip
    refine r_aload_n h d_Tr_add_53 rfl (lv_at hl 1 rfl) ?_
    refine r_iload h d_Tr_add_54 (lv_at hl 0 rfl) ?_
    refine r_callVi h (k := 1) (n := 1) (As := [.int (nI n)]) (c_Tr_leftPlaceFor l D cA cR ad hI V5 n g1 (by omega) n hlt hpa5 hod5) g_Tr_34 (by decide +kernel) rfl ⟨by decide, by decide⟩ (by decide) rfl rfl hl rfl (Nat.le_of_ble_eq_true rfl) d_Tr_add_56 ?_
    refine r_top (nI (kAt V n mk pa sd ro)) (by rw [g7, g4, g5, g6, g2]; unfold kAt z_plC; rw [if_pos (by rw [pk_us]; exact c50)]) ?_
    refine r_goto h 68 d_Tr_add_59 (by decide) ?_
    refine r_istore h (lv' := [(7, .int (nI (kAt V n mk pa sd ro))), (6, .int (nI n)), (0, .ref (ad 1)), (1, .int mk), (2, .int ch), (3, .int pa), (4, .int sd), (5, .int ro)]) d_Tr_add_68 hl (by decide) rfl (fun ls hl => ?_)
    refine r_aload_n h d_Tr_add_70 rfl (lv_at hl 2 rfl) ?_
    refine r_get h (k := 1) (j := 6) (by decide) rfl rfl iw_Tr (by decide) lk_Tr_30 rfl rfl d_Tr_add_71 ?_
    refine r_top (nI n) g1 ?_
    refine r_istore h (lv' := [(8, .int (nI n)), (7, .int (nI (kAt V n mk pa sd ro))), (6, .int (nI n)), (0, .ref (ad 1)), (1, .int mk), (2, .int ch), (3, .int pa), (4, .int sd), (5, .int ro)]) d_Tr_add_74 hl (by decide) rfl (fun ls hl => ?_)
    refine r_V (V' := wS V5 7 (V 7)) (by rw [← g7, wS_id]) ?_
    exact loop n (V 7) ls (by omega) rfl hl
