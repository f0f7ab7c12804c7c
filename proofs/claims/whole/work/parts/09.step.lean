-- PURE: each change keeps what holds, on both sides at once
section ST
variable {V W : Nat → Nat → Int32} {n : Nat} {ts wz : Nat → Nat} {r : Nat} {m : Int32}
theorem M_mark (hV : kV V n ts wz) (hR : kR V W ts wz) (hr : r < 3) {e : Nat} {x : Int32} (he : e < n) (hx : (x = 1 ∧ (kH (V (6 * r + 10)) (V (6 * r + 12)) (V (6 * r + 14)) (ts r) (wz r) e = 0 ∨ ¬ V (6 * r + 10) e = 0)) ∨ (x = 2 ∧ ¬ V (6 * r + 10) e = 0)) : kV (wU V (6 * r + 10) e x) n ts wz ∧ kR (wU V (6 * r + 10) e x) (wU W 34 (30 * r + e) x) ts wz := by
  have hn := kV_n hV
  obtain ⟨v1, v2, v3⟩ := hV
  obtain ⟨w0, w1, w2, w3, w4, w5, w6, w7⟩ := hR
  refine ⟨⟨?_, ?_, fun q hq => ?_⟩, ?_, ?_, ?_, ?_, ?_, ?_, ?_, fun q hq => ?_⟩
  · rw [wU_n (by omega)]; exact v1
  · rw [wU_n (by omega), wU_n (by omega), wU_n (by omega), wU_n (by omega), wU_n (by omega)]; exact v2
  · obtain ⟨a1, a2, a3⟩ := v3 q hq
    rw [wU_n (j := 6 * q + 11) (by omega), wU_n (j := 6 * q + 13) (by omega), wU_n (j := 6 * q + 12) (by omega), wU_n (j := 6 * q + 14) (by omega)]
    refine ⟨a1, a2, ?_⟩
    by_cases c : q = r
    · subst c
      rw [wU_s]
      exact kJ_mark a3 he hx (fun j => rfl)
    · rw [wU_n (by omega)]; exact a3
  · rw [wU_n (by omega), wU_n (by omega)]; exact w0
  · rw [wU_n (by omega), wU_n (by omega)]; exact w1
  · rw [wU_n (by omega), wU_n (by omega)]; exact w2
  · rw [wU_n (by omega), wU_n (by omega)]; exact w3
  · rw [wU_n (by omega), wU_n (by omega)]; exact w4
  · rw [wU_n (by omega), wU_n (by omega)]; exact w5
  · rw [wU_n (by omega), wU_n (by omega)]; exact w6
  · obtain ⟨b1, b2, b3, b4, b5⟩ := w7 q hq
    rw [wU_n (j := 6 * q + 11) (by omega), wU_n (j := 6 * q + 13) (by omega), wU_n (j := 6 * q + 12) (by omega), wU_n (j := 6 * q + 14) (by omega), wU_n (j := 36) (by omega), wU_n (j := 35) (by omega), wU_n (j := 38) (by omega), wU_n (j := 37) (by omega), wU_s]
    refine ⟨fun e' he' => ?_, b2, b3, b4, b5⟩
    by_cases c : q = r
    · subst c
      rw [wU_s]
      by_cases c2 : e' = e
      · subst c2
        rw [pk_us, pk_us]
      · rw [pk_un (by omega), pk_un c2]
        exact b1 e' he'
    · rw [wU_n (by omega), pk_un (by omega)]
      exact b1 e' he'
theorem M_put (hV : kV V n ts wz) (hR : kR V W ts wz) (hr : r < 3) (ht : ts r < 50) (hm : kM n m) (hH : ∀ e, e < n → m = nI e → kH (V (6 * r + 10)) (V (6 * r + 12)) (V (6 * r + 14)) (ts r) (wz r) e = 0) :
    kV (kPut V (6 * r + 11) (ts r) m) n (fun q => if q = r then ts q + 1 else ts q) wz ∧ kR (kPut V (6 * r + 11) (ts r) m) (mPut W r (ts r) m) (fun q => if q = r then ts q + 1 else ts q) wz := by
  have hn := kV_n hV
  have hts : ∀ q, q < 3 → ts q ≤ 50 := fun q hq => (hV.2.2 q hq).2.2.2.2.1
  obtain ⟨v1, v2, v3⟩ := hV
  obtain ⟨w0, w1, w2, w3, w4, w5, w6, w7⟩ := hR
  unfold kPut mPut
  refine ⟨⟨?_, ?_, fun q hq => ?_⟩, ?_, ?_, ?_, ?_, ?_, ?_, ?_, fun q hq => ?_⟩
  · rw [wU_n (by omega), wU_n (by omega)]; exact v1
  · rw [wU_n (by omega), wU_n (by omega), wU_n (by omega), wU_n (by omega), wU_n (by omega), wU_n (by omega), wU_n (by omega), wU_n (by omega), wU_n (by omega), wU_n (by omega)]; exact v2
  · obtain ⟨a1, a2, a3⟩ := v3 q hq
    rw [wU_n (j := 6 * q + 13) (by omega), wU_n (j := 6 * q + 13) (by omega), wU_n (j := 6 * q + 14) (by omega), wU_n (j := 6 * q + 14) (by omega), wU_n (j := 6 * q + 10) (by omega), wU_n (j := 6 * q + 10) (by omega)]
    by_cases c : q = r
    · subst c
      dsimp only
      rw [if_pos rfl, wU_s, wU_n (j := 6 * q + 11) (by omega), wU_n (j := 6 * q + 12) (by omega), wU_s, pk_us]
      exact ⟨rfl, a2, kJ_addT a3 ht hm hH (fun j hj => pk_un (by omega)) pk_us⟩
    · dsimp only
      rw [if_neg c, wU_n (by omega), wU_n (by omega), wU_n (by omega), wU_n (by omega)]
      exact ⟨a1, a2, a3⟩
  · rw [wU_n (by omega), wU_n (by omega), wU_n (by omega), wU_n (by omega)]; exact w0
  · rw [wU_n (by omega), wU_n (by omega), wU_n (by omega), wU_n (by omega)]; exact w1
  · rw [wU_n (by omega), wU_n (by omega), wU_n (by omega), wU_n (by omega)]; exact w2
  · rw [wU_n (by omega), wU_n (by omega), wU_n (by omega), wU_n (by omega)]; exact w3
  · rw [wU_n (by omega), wU_n (by omega), wU_n (by omega), wU_n (by omega)]; exact w4
  · rw [wU_n (by omega), wU_n (by omega), wU_n (by omega), wU_n (by omega)]; exact w5
  · rw [wU_n (by omega), wU_n (by omega), wU_n (by omega), wU_n (by omega)]; exact w6
  · obtain ⟨b1, b2, b3, b4, b5⟩ := w7 q hq
    have hq50 := hts q hq
    have hr50 := hts r hr
    rw [wU_n (j := 6 * q + 13) (by omega), wU_n (j := 6 * q + 13) (by omega), wU_n (j := 6 * q + 14) (by omega), wU_n (j := 6 * q + 14) (by omega), wU_n (j := 6 * q + 10) (by omega), wU_n (j := 6 * q + 10) (by omega), wU_n (j := 34) (by omega), wU_n (j := 34) (by omega), wU_n (j := 38) (by omega), wU_n (j := 38) (by omega), wU_n (j := 37) (by omega), wU_n (j := 37) (by omega), wU_s, wU_n (j := 35) (by omega), wU_s, wU_n (j := 36) (by omega)]
    refine ⟨b1, ?_, fun k hk => ?_, b4, b5⟩
    · by_cases c : q = r
      · subst c
        rw [wU_s, pk_us, pk_us]
      · rw [wU_n (by omega), wU_n (by omega), pk_un c]
        exact b2
    · by_cases c : q = r
      · subst c
        dsimp only at hk
        rw [if_pos rfl] at hk
        rw [wU_n (by omega), wU_s]
        by_cases c2 : k = ts q
        · subst c2
          rw [pk_us, pk_us]
        · rw [pk_un (by omega), pk_un c2]
          exact b3 k (by omega)
      · dsimp only at hk
        rw [if_neg c] at hk
        rw [wU_n (by omega), wU_n (by omega), pk_un (by omega)]
        exact b3 k hk
theorem M_putW (hV : kV V n ts wz) (hR : kR V W ts wz) (hr : r < 3) (ht : wz r < 90) (hw : ∀ q, q < 3 → wz q ≤ 90) (hm : kM n m) (hH : ∀ e, e < n → m = nI e → kH (V (6 * r + 10)) (V (6 * r + 12)) (V (6 * r + 14)) (ts r) (wz r) e = 0) :
    kV (kPut V (6 * r + 13) (wz r) m) n ts (fun q => if q = r then wz q + 1 else wz q) ∧ kR (kPut V (6 * r + 13) (wz r) m) (wU (wU W 37 (90 * r + wz r) m) 38 r (nI (wz r + 1))) ts (fun q => if q = r then wz q + 1 else wz q) := by
  have hn := kV_n hV
  obtain ⟨v1, v2, v3⟩ := hV
  obtain ⟨w0, w1, w2, w3, w4, w5, w6, w7⟩ := hR
  unfold kPut
  refine ⟨⟨?_, ?_, fun q hq => ?_⟩, ?_, ?_, ?_, ?_, ?_, ?_, ?_, fun q hq => ?_⟩
  · rw [wU_n (by omega), wU_n (by omega)]; exact v1
  · rw [wU_n (by omega), wU_n (by omega), wU_n (by omega), wU_n (by omega), wU_n (by omega), wU_n (by omega), wU_n (by omega), wU_n (by omega), wU_n (by omega), wU_n (by omega)]; exact v2
  · obtain ⟨a1, a2, a3⟩ := v3 q hq
    rw [wU_n (j := 6 * q + 11) (by omega), wU_n (j := 6 * q + 11) (by omega), wU_n (j := 6 * q + 12) (by omega), wU_n (j := 6 * q + 12) (by omega), wU_n (j := 6 * q + 10) (by omega), wU_n (j := 6 * q + 10) (by omega)]
    by_cases c : q = r
    · subst c
      dsimp only
      rw [if_pos rfl, wU_s, wU_n (j := 6 * q + 13) (by omega), wU_n (j := 6 * q + 14) (by omega), wU_s, pk_us]
      exact ⟨a1, rfl, kJ_addW a3 hm hH (fun j hj => pk_un (by omega)) pk_us⟩
    · dsimp only
      rw [if_neg c, wU_n (by omega), wU_n (by omega), wU_n (by omega), wU_n (by omega)]
      exact ⟨a1, a2, a3⟩
  · rw [wU_n (by omega), wU_n (by omega), wU_n (by omega), wU_n (by omega)]; exact w0
  · rw [wU_n (by omega), wU_n (by omega), wU_n (by omega), wU_n (by omega)]; exact w1
  · rw [wU_n (by omega), wU_n (by omega), wU_n (by omega), wU_n (by omega)]; exact w2
  · rw [wU_n (by omega), wU_n (by omega), wU_n (by omega), wU_n (by omega)]; exact w3
  · rw [wU_n (by omega), wU_n (by omega), wU_n (by omega), wU_n (by omega)]; exact w4
  · rw [wU_n (by omega), wU_n (by omega), wU_n (by omega), wU_n (by omega)]; exact w5
  · rw [wU_n (by omega), wU_n (by omega), wU_n (by omega), wU_n (by omega)]; exact w6
  · obtain ⟨b1, b2, b3, b4, b5⟩ := w7 q hq
    have hq90 := hw q hq
    rw [wU_n (j := 6 * q + 11) (by omega), wU_n (j := 6 * q + 11) (by omega), wU_n (j := 6 * q + 12) (by omega), wU_n (j := 6 * q + 12) (by omega), wU_n (j := 6 * q + 10) (by omega), wU_n (j := 6 * q + 10) (by omega), wU_n (j := 34) (by omega), wU_n (j := 34) (by omega), wU_n (j := 36) (by omega), wU_n (j := 36) (by omega), wU_n (j := 35) (by omega), wU_n (j := 35) (by omega), wU_s, wU_n (j := 37) (by omega), wU_s, wU_n (j := 38) (by omega)]
    refine ⟨b1, b2, b3, ?_, fun k hk => ?_⟩
    · by_cases c : q = r
      · subst c
        rw [wU_s, pk_us, pk_us]
      · rw [wU_n (by omega), wU_n (by omega), pk_un c]
        exact b4
    · by_cases c : q = r
      · subst c
        dsimp only at hk
        rw [if_pos rfl] at hk
        rw [wU_n (by omega), wU_s]
        by_cases c2 : k = wz q
        · subst c2
          rw [pk_us, pk_us]
        · rw [pk_un (by omega), pk_un c2]
          exact b5 k (by omega)
      · dsimp only at hk
        rw [if_neg c] at hk
        rw [wU_n (by omega), wU_n (by omega), pk_un (by omega)]
        exact b5 k hk
theorem M_take (hV : kV V n ts wz) (hR : kR V W ts wz) (hr : r < 3) {k : Nat} (hk : k < ts r) :
    (kV (kTake V (6 * r + 11) (ts r) k) n (fun q => if q = r then ts q - 1 else ts q) wz ∧ kR (kTake V (6 * r + 11) (ts r) k) (mTake W r (ts r) k) (fun q => if q = r then ts q - 1 else ts q) wz) ∧ kM n (V (6 * r + 12) k) ∧ ∀ e, e < n → V (6 * r + 12) k = nI e → kH (V (6 * r + 10)) (kTake V (6 * r + 11) (ts r) k (6 * r + 12)) (V (6 * r + 14)) (ts r - 1) (wz r) e = 0 := by
  have hn := kV_n hV
  have hts : ∀ q, q < 3 → ts q ≤ 50 := fun q hq => (hV.2.2 q hq).2.2.2.2.1
  obtain ⟨v1, v2, v3⟩ := hV
  obtain ⟨w0, w1, w2, w3, w4, w5, w6, w7⟩ := hR
  have hkj := kJ_takeT (tc' := z_shl (ts r - 1 - k) k (V (6 * r + 12))) (v3 r hr).2.2 hk (fun j hj => by rw [z_shl_sp, if_neg (by omega)]) (fun j h1 h2 => by rw [z_shl_sp, if_pos (by omega)])
  unfold kTake mTake
  refine ⟨⟨⟨?_, ?_, fun q hq => ?_⟩, ?_, ?_, ?_, ?_, ?_, ?_, ?_, fun q hq => ?_⟩, hkj.2.1, fun e he h => ?_⟩
  · rw [wS_n (by omega), wU_n (by omega)]; exact v1
  · rw [wS_n (by omega), wU_n (by omega), wS_n (by omega), wU_n (by omega), wS_n (by omega), wU_n (by omega), wS_n (by omega), wU_n (by omega), wS_n (by omega), wU_n (by omega)]; exact v2
  · obtain ⟨a1, a2, a3⟩ := v3 q hq
    rw [wS_n (j := 6 * q + 13) (by omega), wU_n (j := 6 * q + 13) (by omega), wS_n (j := 6 * q + 14) (by omega), wU_n (j := 6 * q + 14) (by omega), wS_n (j := 6 * q + 10) (by omega), wU_n (j := 6 * q + 10) (by omega)]
    by_cases c : q = r
    · subst c
      dsimp only
      rw [if_pos rfl, wS_n (j := 6 * q + 11) (by omega), wU_s, pk_us, wS_s]
      exact ⟨rfl, a2, hkj.1⟩
    · dsimp only
      rw [if_neg c, wS_n (by omega), wU_n (by omega), wS_n (by omega), wU_n (by omega)]
      exact ⟨a1, a2, a3⟩
  · rw [wS_n (by omega), wU_n (by omega), wS_n (by omega), wU_n (by omega)]; exact w0
  · rw [wS_n (by omega), wU_n (by omega), wS_n (by omega), wU_n (by omega)]; exact w1
  · rw [wS_n (by omega), wU_n (by omega), wS_n (by omega), wU_n (by omega)]; exact w2
  · rw [wS_n (by omega), wU_n (by omega), wS_n (by omega), wU_n (by omega)]; exact w3
  · rw [wS_n (by omega), wU_n (by omega), wS_n (by omega), wU_n (by omega)]; exact w4
  · rw [wS_n (by omega), wU_n (by omega), wS_n (by omega), wU_n (by omega)]; exact w5
  · rw [wS_n (by omega), wU_n (by omega), wS_n (by omega), wU_n (by omega)]; exact w6
  · obtain ⟨b1, b2, b3, b4, b5⟩ := w7 q hq
    have hq50 := hts q hq
    have hr50 := hts r hr
    rw [wS_n (j := 6 * q + 13) (by omega), wU_n (j := 6 * q + 13) (by omega), wS_n (j := 6 * q + 14) (by omega), wU_n (j := 6 * q + 14) (by omega), wS_n (j := 6 * q + 10) (by omega), wU_n (j := 6 * q + 10) (by omega), wS_n (j := 34) (by omega), wU_n (j := 34) (by omega), wS_n (j := 38) (by omega), wU_n (j := 38) (by omega), wS_n (j := 37) (by omega), wU_n (j := 37) (by omega), wS_n (j := 36) (by omega), wU_s, wS_s]
    refine ⟨b1, ?_, fun j hj => ?_, b4, b5⟩
    · by_cases c : q = r
      · subst c
        rw [wS_n (by omega), wU_s, pk_us, pk_us]
      · rw [wS_n (by omega), wU_n (by omega), pk_un c]
        exact b2
    · by_cases c : q = r
      · subst c
        dsimp only at hj
        rw [if_pos rfl] at hj
        rw [wS_s, z_shl_sp, z_shl_sp]
        by_cases c2 : k ≤ j ∧ j < k + (ts q - 1 - k)
        · rw [if_pos c2, if_pos (by omega)]
          exact b3 (j + 1) (by omega)
        · rw [if_neg c2, if_neg (by omega)]
          exact b3 j (by omega)
      · dsimp only at hj
        rw [if_neg c] at hj
        rw [wS_n (by omega), wU_n (by omega), z_shl_sp, if_neg (by omega)]
        exact b3 j hj
  · rw [wS_s]
    exact hkj.2.2 e he h
theorem M_takeW (hV : kV V n ts wz) (hR : kR V W ts wz) (hr : r < 3) (hw : ∀ q, q < 3 → wz q ≤ 90) {k : Nat} (hk : k < wz r) :
    (kV (kTake V (6 * r + 13) (wz r) k) n ts (fun q => if q = r then wz q - 1 else wz q) ∧ kR (kTake V (6 * r + 13) (wz r) k) (mTakeW W r (wz r) k) ts (fun q => if q = r then wz q - 1 else wz q)) ∧ kM n (V (6 * r + 14) k) ∧ ∀ e, e < n → V (6 * r + 14) k = nI e → kH (V (6 * r + 10)) (V (6 * r + 12)) (kTake V (6 * r + 13) (wz r) k (6 * r + 14)) (ts r) (wz r - 1) e = 0 := by
  have hn := kV_n hV
  obtain ⟨v1, v2, v3⟩ := hV
  obtain ⟨w0, w1, w2, w3, w4, w5, w6, w7⟩ := hR
  have hkj := kJ_takeW (wc' := z_shl (wz r - 1 - k) k (V (6 * r + 14))) (v3 r hr).2.2 hk (fun j hj => by rw [z_shl_sp, if_neg (by omega)]) (fun j h1 h2 => by rw [z_shl_sp, if_pos (by omega)])
  unfold kTake mTakeW
  refine ⟨⟨⟨?_, ?_, fun q hq => ?_⟩, ?_, ?_, ?_, ?_, ?_, ?_, ?_, fun q hq => ?_⟩, hkj.2.1, fun e he h => ?_⟩
  · rw [wS_n (by omega), wU_n (by omega)]; exact v1
  · rw [wS_n (by omega), wU_n (by omega), wS_n (by omega), wU_n (by omega), wS_n (by omega), wU_n (by omega), wS_n (by omega), wU_n (by omega), wS_n (by omega), wU_n (by omega)]; exact v2
  · obtain ⟨a1, a2, a3⟩ := v3 q hq
    rw [wS_n (j := 6 * q + 11) (by omega), wU_n (j := 6 * q + 11) (by omega), wS_n (j := 6 * q + 12) (by omega), wU_n (j := 6 * q + 12) (by omega), wS_n (j := 6 * q + 10) (by omega), wU_n (j := 6 * q + 10) (by omega)]
    by_cases c : q = r
    · subst c
      dsimp only
      rw [if_pos rfl, wS_n (j := 6 * q + 13) (by omega), wU_s, pk_us, wS_s]
      exact ⟨a1, rfl, hkj.1⟩
    · dsimp only
      rw [if_neg c, wS_n (by omega), wU_n (by omega), wS_n (by omega), wU_n (by omega)]
      exact ⟨a1, a2, a3⟩
  · rw [wS_n (by omega), wU_n (by omega), wS_n (by omega), wU_n (by omega)]; exact w0
  · rw [wS_n (by omega), wU_n (by omega), wS_n (by omega), wU_n (by omega)]; exact w1
  · rw [wS_n (by omega), wU_n (by omega), wS_n (by omega), wU_n (by omega)]; exact w2
  · rw [wS_n (by omega), wU_n (by omega), wS_n (by omega), wU_n (by omega)]; exact w3
  · rw [wS_n (by omega), wU_n (by omega), wS_n (by omega), wU_n (by omega)]; exact w4
  · rw [wS_n (by omega), wU_n (by omega), wS_n (by omega), wU_n (by omega)]; exact w5
  · rw [wS_n (by omega), wU_n (by omega), wS_n (by omega), wU_n (by omega)]; exact w6
  · obtain ⟨b1, b2, b3, b4, b5⟩ := w7 q hq
    have hq90 := hw q hq
    have hr90 := hw r hr
    rw [wS_n (j := 6 * q + 11) (by omega), wU_n (j := 6 * q + 11) (by omega), wS_n (j := 6 * q + 12) (by omega), wU_n (j := 6 * q + 12) (by omega), wS_n (j := 6 * q + 10) (by omega), wU_n (j := 6 * q + 10) (by omega), wS_n (j := 34) (by omega), wU_n (j := 34) (by omega), wS_n (j := 36) (by omega), wU_n (j := 36) (by omega), wS_n (j := 35) (by omega), wU_n (j := 35) (by omega), wS_n (j := 38) (by omega), wU_s, wS_s]
    refine ⟨b1, b2, b3, ?_, fun j hj => ?_⟩
    · by_cases c : q = r
      · subst c
        rw [wS_n (by omega), wU_s, pk_us, pk_us]
      · rw [wS_n (by omega), wU_n (by omega), pk_un c]
        exact b4
    · by_cases c : q = r
      · subst c
        dsimp only at hj
        rw [if_pos rfl] at hj
        rw [wS_s, z_shl_sp, z_shl_sp]
        by_cases c2 : k ≤ j ∧ j < k + (wz q - 1 - k)
        · rw [if_pos c2, if_pos (by omega)]
          exact b5 (j + 1) (by omega)
        · rw [if_neg c2, if_neg (by omega)]
          exact b5 j (by omega)
      · dsimp only at hj
        rw [if_neg c] at hj
        rw [wS_n (by omega), wU_n (by omega), z_shl_sp, if_neg (by omega)]
        exact b5 j hj
  · rw [wS_s]
    exact hkj.2.2 e he h
end ST
