-- PURE: each call of the law: the answers are the same, and what holds between two calls holds again
section LP
variable {V W V' W' : Nat → Nat → Int32} {n : Nat} {ts wz : Nat → Nat} {r : Nat} {m : Int32}
theorem kZ_o (h : kZ V W n ts wz) (hc : ∀ j, 27 ≤ j → W' j = W j) : kZ V W' n ts wz := by
  obtain ⟨hV, hS, hR⟩ := h
  refine ⟨hV, hS, ?_⟩
  unfold kR at hR ⊢
  rw [hc 27 (by decide), hc 28 (by decide), hc 29 (by decide), hc 30 (by decide), hc 31 (by decide), hc 32 (by decide), hc 33 (by decide), hc 34 (by decide), hc 35 (by decide), hc 36 (by decide), hc 37 (by decide), hc 38 (by decide)]
  exact hR
theorem kZ_co (h : kZ V W n ts wz) (hc : ∀ j, j < 27 → V' j = V j) : kZ V' W n ts wz := by
  obtain ⟨⟨v1, v2, v3⟩, hS, ⟨w0, w1, w2, w3, w4, w5, w6, w7⟩⟩ := h
  refine ⟨⟨?_, ?_, fun r hr => ?_⟩, fun r hr => ?_, ?_, ?_, ?_, ?_, ?_, ?_, ?_, fun r hr => ?_⟩
  · rw [hc 1 (by decide)]; exact v1
  · rw [hc 2 (by decide), hc 4 (by decide), hc 5 (by decide), hc 6 (by decide), hc 7 (by decide)]; exact v2
  · rw [hc _ (by omega), hc _ (by omega), hc _ (by omega), hc _ (by omega), hc _ (by omega)]; exact v3 r hr
  · show ts r + wz r + kE (V' (6 * r + 10)) ≤ n + (kE (V' (6 * 0 + 10)) + kE (V' (6 * 1 + 10)) + kE (V' (6 * 2 + 10)))
    rw [hc _ (by omega), hc _ (by omega), hc _ (by omega), hc _ (by omega)]
    exact hS r hr
  · rw [hc 1 (by decide)]; exact w0
  · rw [hc 2 (by decide)]; exact w1
  · rw [hc 3 (by decide)]; exact w2
  · rw [hc 4 (by decide)]; exact w3
  · rw [hc 5 (by decide)]; exact w4
  · rw [hc 6 (by decide)]; exact w5
  · rw [hc 7 (by decide)]; exact w6
  · rw [hc _ (by omega), hc _ (by omega), hc _ (by omega), hc _ (by omega), hc _ (by omega)]; exact w7 r hr
theorem kSnd_o {j : Nat} (h : 27 ≤ j) : kSnd V r m j = V j := by
  unfold kSnd
  rw [kSnd1_o (by omega) (by omega), kSnd1_o (by omega) (by omega), kSnd1_o (by omega) (by omega)]
theorem mSnd1_o {q j : Nat} (h : j < 27) : mSnd1 V q r m j = V j := by
  unfold mSnd1
  split
  · rfl
  · unfold mPut
    rw [wU_n (by omega), wU_n (by omega)]
theorem mSnd_o {j : Nat} (h : j < 27) : mSnd V r m j = V j := by
  unfold mSnd
  rw [mSnd1_o h, mSnd1_o h, mSnd1_o h]
theorem mMake_o {a ch : Int32} {j : Nat} (h : j < 27) : mMake V n r a ch j = V j := by
  unfold mMake mAdd
  rw [wU_n (by omega), wS_n (by omega), wU_n (by omega), wU_n (by omega), wU_n (by omega), wU_n (by omega), wU_n (by omega)]
theorem kEff_o {j : Nat} (h : 27 ≤ j) (hr : r < 3) : kEff V r m j = V j := by
  unfold kEff
  split <;> rw [wU_n (by omega)]
theorem mEff_o {j : Nat} (h : j < 27) : mEff V r m j = V j := by
  unfold mEff
  split <;> rw [wU_n (by omega)]
theorem kWk_o (hr : r < 3) {j : Nat} (h : 27 ≤ j) : ∀ (f : Nat) (V : Nat → Nat → Int32) (w : Nat), (kWk r f V w).1 j = V j
  | 0, _, _ => rfl
  | f + 1, V, w => by
    by_cases c : kFst V r w = w
    · rw [kWk_0 c]
    · rw [kWk_s c]
      show (kWk r f _ (w - 1)).1 j = V j
      rw [kWk_o hr h f, kEff_o h hr, kTake_o V (by omega) (by omega)]
theorem mTakeW_o {s k j : Nat} (h : j < 27) : mTakeW V r s k j = V j := by
  unfold mTakeW
  rw [wS_n (by omega), wU_n (by omega)]
theorem mWk_o {j : Nat} (h : j < 27) : ∀ (f : Nat) (V : Nat → Nat → Int32) (w : Nat), (mWk r f V w).1 j = V j
  | 0, _, _ => rfl
  | f + 1, V, w => by
    by_cases c : mFst V r w = w
    · rw [mWk_0 c]
    · rw [mWk_s c]
      show (mWk r f _ (w - 1)).1 j = V j
      rw [mWk_o h f, mEff_o h, mTakeW_o h]
theorem mAt_le (hV : kV V n ts wz) (hR : kR V W ts wz) (hn : n < 30) (hr : r < 3) {p s o : Int32} (hp : z_el p n) (hs : s = 0 ∨ s = 1) (ho : z_el o n) (hsp : s = 0 → ¬ p = -1) : mAt W n (nI r) p s o ≤ n := by
  obtain ⟨t1, t2, -⟩ := kT_ins hV.2.1 hn hr hp hs ho hsp (A := kAt V n (nI r) p s o) rfl
  obtain ⟨w0, w1, w2, w3, w4, w5, w6, w7⟩ := hR
  unfold mAt
  rw [w1, w3, w4, w5, w6, ← t1]
  exact t2
theorem mA_eq (hV : kV V n ts wz) (hR : kR V W ts wz) (hr : r < 3) (i : Int32) : mA W n r i = kA V n r i := by
  unfold mA kA
  rw [s_shown hV hR hr]
/-- insert goes through -/
theorem L_ins (hZ : kZ V V n ts wz) (hr : r < 3) {i ch : Int32} (h1 : 0 ≤ i) (h2 : i ≤ nI (kCnt V n r 1)) (h3 : n < 30) (h4 : kFull V (nI r) = false) {V1 : Nat → Nat → Int32} (hV1 : V1 = kSnd (wU (kMake V n r (kA V n r i) ch) (6 * r + 10) n 1) r (nI n)) :
    mK V1 n ∧ i ≤ nI (mCnt V1 n r 1 1) ∧ mFull V1 (nI r) = false ∧ (∀ q, q < 3 → ¬ q = r → ∃ s, V1 36 q = nI s ∧ s < 50) ∧ z_el (mA V1 n r i) n ∧ z_beh (V1 33) n (mA V1 n r i) ≤ n ∧
    mAt V1 n (nI r) (if mHas V1 n r (mA V1 n r i) = true then mNxt V1 n r (mA V1 n r i) else mA V1 n r i) (if mHas V1 n r (mA V1 n r i) = true then 0 else 1) (mNxt V1 n r (mA V1 n r i)) ≤ n ∧
    ∃ n' ts' wz', kZ (mSnd (wU (mMake V1 n r (mA V1 n r i) ch) 34 (30 * r + n) 1) r (nI n)) (mSnd (wU (mMake V1 n r (mA V1 n r i) ch) 34 (30 * r + n) 1) r (nI n)) n' ts' wz' := by
  have ho : ∀ j, 27 ≤ j → V1 j = V j := fun j hj => by rw [hV1, kSnd_o hj, wU_n (by omega), kMake_o _ _ _ _ _ (by omega)]
  have hZ1 := kZ_o hZ ho
  obtain ⟨hV, hS, hR⟩ := id hZ1
  have hel := kA_el (r := r) hV h1 h2
  have hbl := z_beh_le hV hel
  have hnx := kNxt_el hV r (kA V n r i) hbl
  have hmA := mA_eq hV hR hr i
  have hff := kFull_f hV h4 hr
  rw [hmA, s_has hV hR hr, s_nxt hV hR hr, s_cnt1 hV hR hr, s_full hV hR]
  refine ⟨mK_of hV hR, h2, h4, fun q hq c => ⟨ts q, (kR_ts hV hR hq).1, hff q hq c⟩, hel, ?_, ?_, ?_⟩
  · rw [hR.2.2.2.2.2.2.1]; exact hbl
  · refine mAt_le hV hR h3 hr ?_ ?_ hnx (fun h => ?_)
    · split
      · exact hnx
      · exact hel
    · split
      · exact Or.inl rfl
      · exact Or.inr rfl
    · by_cases c : kHas V n r (kA V n r i) = true
      · rw [if_pos c]; exact kHas_nxt hV c
      · rw [if_neg c] at h; exact absurd h (by decide)
  · obtain ⟨ts', hk⟩ := Z_insert (ch := ch) hZ1 hr h3 hff hel
    rw [← hV1] at hk
    exact ⟨n + 1, ts', wz, kZ_co hk (fun j hj => by rw [mSnd_o hj, wU_n (by omega), mMake_o hj])⟩
/-- erase goes through -/
theorem L_era (hZ : kZ V V n ts wz) (hr : r < 3) {i : Int32} {e : Nat} (he : e < n) (hs : kShown V n r i = nI e) (h1 : V (6 * r + 10) e = 1) (h4 : kFull V (nI r) = false) {V1 : Nat → Nat → Int32} (hV1 : V1 = kSnd (wU V (6 * r + 10) e 2) r (-10 - nI e)) :
    mK V1 n ∧ 0 ≤ i ∧ i < nI (mCnt V1 n r 1 1) ∧ mFull V1 (nI r) = false ∧ mNth V1 n r i true = nI e ∧ (∀ q, q < 3 → ¬ q = r → ∃ s, V1 36 q = nI s ∧ s < 50) ∧
    ∃ n' ts' wz', kZ (mSnd (wU V1 34 (30 * r + e) 2) r (-10 - nI e)) (mSnd (wU V1 34 (30 * r + e) 2) r (-10 - nI e)) n' ts' wz' := by
  have ho : ∀ j, 27 ≤ j → V1 j = V j := fun j hj => by rw [hV1, kSnd_o hj, wU_n (by omega)]
  have hZ1 := kZ_o hZ ho
  obtain ⟨hV, hS, hR⟩ := id hZ1
  have hn := kV_n hV
  have hff := kFull_f hV h4 hr
  have hne : ¬ kShown V n r i = -3 := by rw [hs]; exact z_n3 (by omega)
  have hno := fun q => hne ((s_none hV r i).mpr q)
  rw [s_cnt1 hV hR hr, s_full hV hR, s_shown hV hR hr]
  refine ⟨mK_of hV hR, Int32.not_lt.mp (fun q => hno (Or.inl q)), Int32.not_le.mp (fun q => hno (Or.inr q)), h4, hs, fun q hq c => ⟨ts q, (kR_ts hV hR hq).1, hff q hq c⟩, ?_⟩
  obtain ⟨ts', hk⟩ := Z_erase hZ1 hr hff he h1
  rw [← hV1] at hk
  exact ⟨n, ts', wz, kZ_co hk (fun j hj => by rw [mSnd_o hj, wU_n (by omega)])⟩
theorem L_state (hZ : kZ V W n ts wz) (hr : r < 3) (e : Int32) : (if (decide (0 ≤ e) && decide (e < V 1 0)) = true then V (6 * r + 10) e.toNatClampNeg else 0) = (if (decide (0 ≤ e) && decide (e < W 27 0)) = true then W 34 (30 * r + e.toNatClampNeg) else 0) := by
  obtain ⟨hV, hS, hR⟩ := hZ
  have hn := kV_n hV
  rw [hR.1]
  by_cases c : (decide (0 ≤ e) && decide (e < V 1 0)) = true
  · rw [if_pos c, if_pos c]
    obtain ⟨a, a1, a2⟩ := z_has hV.1 (by omega) c
    rw [a2, nI_clamp (by omega)]
    exact ((hR.2.2.2.2.2.2.2 r hr).1 a (by omega)).symm
  · rw [if_neg c, if_neg c]
theorem L_msg (hZ : kZ V W n ts wz) (hr : r < 3) (k : Int32) : (if (decide (0 ≤ k) && decide (k < V (6 * r + 11) 0)) = true then V (6 * r + 12) k.toNatClampNeg else -3) = (if (decide (0 ≤ k) && decide (k < W 36 r)) = true then W 35 (90 * r + k.toNatClampNeg) else -3) := by
  obtain ⟨hV, hS, hR⟩ := hZ
  have ht := kV_ts hV hr
  rw [(hR.2.2.2.2.2.2.2 r hr).2.1]
  by_cases c : (decide (0 ≤ k) && decide (k < V (6 * r + 11) 0)) = true
  · rw [if_pos c, if_pos c]
    obtain ⟨a, a1, a2⟩ := z_has ht.1 (by omega) c
    rw [a2, nI_clamp (by omega)]
    exact ((hR.2.2.2.2.2.2.2 r hr).2.2.1 a a1).symm
  · rw [if_neg c, if_neg c]
theorem L_about (hZ : kZ V W n ts wz) (e w : Int32) : (if (decide (0 ≤ e) && decide (e < V 1 0)) = true then kAbt V e w else -3) = (if (decide (0 ≤ e) && decide (e < W 27 0)) = true then mAbt W e w else -3) := by
  obtain ⟨w0, w1, w2, w3, w4, w5, w6, w7⟩ := hZ.2.2
  unfold kAbt mAbt
  rw [w0, w1, w2, w3, w4, w5]
theorem L_depth (hZ : kZ V W n ts wz) (e : Int32) : (if (decide (0 ≤ e) && decide (e < V 1 0)) = true then nI (z_abv (V 4) n (V 4 e.toNatClampNeg) 0) else -3) = (if (decide (0 ≤ e) && decide (e < W 27 0)) = true then nI (z_abv (W 30) 31 (W 30 e.toNatClampNeg) 0) else -3) := by
  obtain ⟨hV, hS, hR⟩ := hZ
  obtain ⟨w0, w1, w2, w3, w4, w5, w6, w7⟩ := hR
  have hn := kV_n hV
  rw [w0, w3]
  by_cases c : (decide (0 ≤ e) && decide (e < V 1 0)) = true
  · rw [if_pos c, if_pos c]
    obtain ⟨a, a1, a2⟩ := z_has hV.1 (by omega) c
    rw [a2, nI_clamp (by omega)]
    have hp := kV_hpa hV a a1
    have hb := (z_el_nd hp (by omega)).1
    rw [z_abv_eq (m := n) (by omega) (kV_hpa hV) n 31 (V 4 a) 0 (z_el_mono hp (by omega)) (by omega) (by omega)]
  · rw [if_neg c, if_neg c]
theorem L_df {f g : Nat → Int32} {n : Nat} (hn : n < 1000) (hfn : f n = -3) (hgn : g n = -3) (hf : ∀ p, p < n → f p = -3 → f (p + 1) = -3) (hg : ∀ p, p < n → g p = -3 → g (p + 1) = -3) : ∀ (k p : Nat), p + k = n →
    mDf f g (k + 1) p = if z_fnd (fun i => !decide (f i = g i)) k p = n then -3 else nI (z_fnd (fun i => !decide (f i = g i)) k p)
  | 0, p, hp => by
    have e : p = n := by omega
    show (if f p = g p then (if f p = -3 then (-3 : Int32) else -3) else nI p) = if p = n then -3 else nI p
    rw [if_pos e, e, hfn, hgn, if_pos rfl, if_pos rfl]
  | k + 1, p, hp => by
    show (if f p = g p then (if f p = -3 then (-3 : Int32) else mDf f g (k + 1) (p + 1)) else nI p) = _
    by_cases c : f p = g p
    · rw [if_pos c, z_fnd_f (P := fun i => !decide (f i = g i)) (show (!decide (f p = g p)) = false by rw [decide_eq_true c]; rfl)]
      by_cases d : f p = -3
      · rw [if_pos d]
        have hall : ∀ j, p + j ≤ n → f (p + j) = -3 ∧ g (p + j) = -3 := by
          intro j
          induction j with
          | zero => intro _; exact ⟨d, c ▸ d⟩
          | succ j ih =>
            intro hj
            have h := ih (by omega)
            exact ⟨hf (p + j) (by omega) h.1, hg (p + j) (by omega) h.2⟩
        have e : z_fnd (fun i => !decide (f i = g i)) k (p + 1) = n := by
          refine z_fnd_eq (by omega) (by omega) (fun q q1 q2 => ?_) (Or.inl (by omega))
          have h := hall (q - p) (by omega)
          rw [show p + (q - p) = q by omega] at h
          show (!decide (f q = g q)) = false
          rw [decide_eq_true (h.1.trans h.2.symm)]
          rfl
        rw [if_pos e]
      · rw [if_neg d]
        exact L_df hn hfn hgn hf hg k (p + 1) (by omega)
    · rw [if_neg c, z_fnd_t (P := fun i => !decide (f i = g i)) (show (!decide (f p = g p)) = true by rw [decide_eq_false c]; rfl), if_neg (by omega)]
theorem L_none (hV : kV V n ts wz) (r : Nat) : kShown V n r (nI n) = -3 ∧ ∀ p, p < n → kShown V n r (nI p) = -3 → kShown V n r (nI (p + 1)) = -3 := by
  have hn := kV_n hV
  have hc : kCnt V n r 1 ≤ n := by rw [← s_num hV]; exact z_num_le _ n
  refine ⟨(s_none hV r _).mpr (Or.inr (nI_sz (by omega) (by omega) hc)), fun p hp h => (s_none hV r _).mpr (Or.inr ?_)⟩
  rcases (s_none hV r _).mp h with g | g
  · exact absurd g (nI_pos (by omega))
  · exact nI_sz (by omega) (by omega) (by have := nI_szm (by omega) (by omega) g; omega)
theorem L_differ (hZ : kZ V W n ts wz) (hr : r < 3) {q : Nat} (hq : q < 3) : kDa V n r q = mDf (fun p => mNth W n r (nI p) true) (fun p => mNth W n q (nI p) true) (n + 1) 0 := by
  obtain ⟨hV, hS, hR⟩ := hZ
  have hn := kV_n hV
  have e1 : (fun p => mNth W n r (nI p) true) = fun p => kShown V n r (nI p) := by funext p; exact s_shown hV hR hr _
  have e2 : (fun p => mNth W n q (nI p) true) = fun p => kShown V n q (nI p) := by funext p; exact s_shown hV hR hq _
  rw [e1, e2, L_df (by omega) (L_none hV r).1 (L_none hV q).1 (L_none hV r).2 (L_none hV q).2 n 0 (by omega)]
  rfl
/-- deliver: what the reference's walk wants, and the end -/
theorem L_del (hZ : kZ V V n ts wz) (hr : r < 3) {k : Nat} (hk : k < ts r) {V1 : Nat → Nat → Int32} (ho : ∀ j, 27 ≤ j → V1 j = V j) :
    kZ V V1 n ts wz ∧ V1 35 (90 * r + k) = V (6 * r + 12) k ∧ mRdy (mTake V1 r (ts r) k) r (V1 35 (90 * r + k)) = kRdy (kTake V (6 * r + 11) (ts r) k) r (V (6 * r + 12) k) := by
  have hZ1 := kZ_o hZ ho
  have h := Z_deliver hZ1 hr hk (m := V (6 * r + 12) k) rfl
  exact ⟨hZ1, h.1, by rw [h.1]; exact h.2.2.1⟩
theorem L_del0 (hZ : kZ V V n ts wz) (hr : r < 3) {k : Nat} (hk : k < ts r) (hrd : kRdy (kTake V (6 * r + 11) (ts r) k) r (V (6 * r + 12) k) = false) {V1 : Nat → Nat → Int32} (hV1 : V1 = kPut (kTake V (6 * r + 11) (ts r) k) (6 * r + 13) (wz r) (V (6 * r + 12) k)) :
    (∀ j, 27 ≤ j → V1 j = V j) ∧ ∃ n' ts' wz', kZ (wU (wU (mTake V1 r (ts r) k) 37 (90 * r + wz r) (V1 35 (90 * r + k))) 38 r (nI (wz r + 1))) (wU (wU (mTake V1 r (ts r) k) 37 (90 * r + wz r) (V1 35 (90 * r + k))) 38 r (nI (wz r + 1))) n' ts' wz' := by
  have ho : ∀ j, 27 ≤ j → V1 j = V j := fun j hj => by
    rw [hV1]
    unfold kPut
    rw [wU_n (by omega), wU_n (by omega), kTake_o V (by omega) (by omega)]
  refine ⟨ho, ?_⟩
  obtain ⟨hZ1, h35, -⟩ := L_del hZ hr hk ho
  obtain ⟨ts', wz', hk2⟩ := (Z_deliver hZ1 hr hk (m := V (6 * r + 12) k) rfl).2.2.2.2.1 hrd
  rw [← hV1] at hk2
  rw [h35]
  exact ⟨n, ts', wz', kZ_co hk2 (fun j hj => by rw [wU_n (by omega), wU_n (by omega), mTake_o (by omega) (by omega)])⟩
theorem L_del1 (hZ : kZ V V n ts wz) (hr : r < 3) {k : Nat} (hk : k < ts r) (hrd : kRdy (kTake V (6 * r + 11) (ts r) k) r (V (6 * r + 12) k) = true) {V1 : Nat → Nat → Int32} (hV1 : V1 = (kWk r (wz r) (kEff (kTake V (6 * r + 11) (ts r) k) r (V (6 * r + 12) k)) (wz r)).1) :
    (∀ j, 27 ≤ j → V1 j = V j) ∧ (kWk r (wz r) (kEff (kTake V (6 * r + 11) (ts r) k) r (V (6 * r + 12) k)) (wz r)).2 = (mWk r (wz r) (mEff (mTake V1 r (ts r) k) r (V1 35 (90 * r + k))) (wz r)).2 ∧
    ∃ n' ts' wz', kZ (mWk r (wz r) (mEff (mTake V1 r (ts r) k) r (V1 35 (90 * r + k))) (wz r)).1 (mWk r (wz r) (mEff (mTake V1 r (ts r) k) r (V1 35 (90 * r + k))) (wz r)).1 n' ts' wz' := by
  have ho : ∀ j, 27 ≤ j → V1 j = V j := fun j hj => by rw [hV1, kWk_o hr hj, kEff_o hj hr, kTake_o V (by omega) (by omega)]
  obtain ⟨hZ1, h35, -⟩ := L_del hZ hr hk ho
  obtain ⟨he, ts', wz', hk2⟩ := (Z_deliver hZ1 hr hk (m := V (6 * r + 12) k) rfl).2.2.2.2.2 hrd
  rw [← hV1] at hk2
  rw [h35]
  exact ⟨ho, he, n, ts', wz', kZ_co hk2 (fun j hj => by rw [mWk_o hj, mEff_o hj, mTake_o (by omega) (by omega)])⟩
end LP
