-- PURE: class and reference hold the same; what they read is the same
def kV (V : Nat → Nat → Int32) (n : Nat) (ts wz : Nat → Nat) : Prop := V 1 0 = nI n ∧ kT n (V 2) (V 4) (V 5) (V 6) (V 7) ∧ ∀ r, r < 3 → V (6 * r + 11) 0 = nI (ts r) ∧ V (6 * r + 13) 0 = nI (wz r) ∧ kJ n (V (6 * r + 10)) (V (6 * r + 12)) (V (6 * r + 14)) (ts r) (wz r)
def kR (V W : Nat → Nat → Int32) (ts wz : Nat → Nat) : Prop := W 27 0 = V 1 0 ∧ W 28 = V 2 ∧ W 29 = V 3 ∧ W 30 = V 4 ∧ W 31 = V 5 ∧ W 32 = V 6 ∧ W 33 = V 7 ∧ ∀ r, r < 3 → (∀ e, e < 30 → W 34 (30 * r + e) = V (6 * r + 10) e) ∧ W 36 r = V (6 * r + 11) 0 ∧ (∀ k, k < ts r → W 35 (90 * r + k) = V (6 * r + 12) k) ∧ W 38 r = V (6 * r + 13) 0 ∧ ∀ k, k < wz r → W 37 (90 * r + k) = V (6 * r + 14) k
theorem z_num_or {P Q R : Nat → Bool} : ∀ {n : Nat}, (∀ k, k < n → (R k = true ↔ (P k = true ∨ Q k = true)) ∧ ¬ (P k = true ∧ Q k = true)) → z_num R n = z_num P n + z_num Q n
  | 0, _ => rfl
  | n + 1, h => by
    have ih := z_num_or (P := P) (Q := Q) (R := R) (n := n) (fun k hk => h k (by omega))
    have h0 := h n (Nat.lt_succ_self n)
    rw [z_num_s, z_num_s, z_num_s, ih]
    cases hp : P n <;> cases hq : Q n <;> cases hr : R n <;> simp_all <;> omega
theorem i012 : ∀ x : Int32, (x = 0 ∨ x = 1 ∨ x = 2) → ((0 < x ↔ ¬ x = 0) ∧ ((1 ≤ x ∧ x ≤ 1) ↔ x = 1) ∧ ((1 ≤ x ∧ x ≤ 2) ↔ (x = 1 ∨ x = 2)) ∧ (¬ x = 0 ↔ (x = 1 ∨ x = 2))) := by
  intro x h
  rcases h with h | h | h <;> subst h <;> decide
section SM
variable {V W : Nat → Nat → Int32} {n : Nat} {ts wz : Nat → Nat} {r : Nat}
theorem kV_n (hV : kV V n ts wz) : n ≤ 30 := hV.2.1.1.1
theorem kV_od (hV : kV V n ts wz) {p : Nat} (hp : p < n) : ∃ e, e < n ∧ V 7 p = nI e ∧ (V 7 p).toNatClampNeg = e := by
  have := kV_n hV
  obtain ⟨e, e1, e2⟩ := hV.2.1.1.2.2.2.1 p hp
  exact ⟨e, e1, e2, by rw [e2]; exact nI_clamp (by omega)⟩
theorem kV_ma (hV : kV V n ts wz) (hr : r < 3) (e : Nat) : V (6 * r + 10) e = 0 ∨ V (6 * r + 10) e = 1 ∨ V (6 * r + 10) e = 2 := by
  obtain ⟨j1, j2, -⟩ := (hV.2.2 r hr).2.2
  rcases Nat.lt_or_ge e n with g | g
  · exact j1 e g
  · exact Or.inl (j2 e g)
theorem s_shown (hV : kV V n ts wz) (hR : kR V W ts wz) (hr : r < 3) (i : Int32) : mNth W n r i true = kShown V n r i := by
  unfold mNth kShown
  rw [hR.2.2.2.2.2.2.1]
  refine z_nth_c (fun q _ hq => ⟨?_, rfl⟩)
  have := kV_n hV
  obtain ⟨e, e1, e2, e3⟩ := kV_od hV (show q < n by omega)
  rw [e3, (hR.2.2.2.2.2.2.2 r hr).1 e (by omega)]
  simp
theorem s_ord (hV : kV V n ts wz) (hR : kR V W ts wz) (hr : r < 3) (i : Int32) : mNth W n r i false = kOrd V n r i := by
  unfold mNth kOrd
  rw [hR.2.2.2.2.2.2.1]
  refine z_nth_c (fun q _ hq => ⟨?_, rfl⟩)
  have := kV_n hV
  obtain ⟨e, e1, e2, e3⟩ := kV_od hV (show q < n by omega)
  rw [e3, (hR.2.2.2.2.2.2.2 r hr).1 e (by omega)]
  rcases kV_ma hV hr e with g | g | g <;> rw [g] <;> decide
theorem s_cnt1 (hV : kV V n ts wz) (hR : kR V W ts wz) (hr : r < 3) : mCnt W n r 1 1 = kCnt V n r 1 := by
  unfold mCnt kCnt
  rw [z_cnt_0, z_cnt_0]
  refine z_num_c (fun q hq => ?_)
  have := kV_n hV
  rw [(hR.2.2.2.2.2.2.2 r hr).1 q (by omega)]
  rcases kV_ma hV hr q with g | g | g <;> rw [g] <;> decide
theorem s_cnt2 (hV : kV V n ts wz) (hR : kR V W ts wz) (hr : r < 3) : mCnt W n r 1 2 = kCnt V n r 1 + kCnt V n r 2 := by
  unfold mCnt kCnt
  rw [z_cnt_0, z_cnt_0, z_cnt_0]
  refine z_num_or (fun q hq => ?_)
  have := kV_n hV
  rw [(hR.2.2.2.2.2.2.2 r hr).1 q (by omega)]
  rcases kV_ma hV hr q with g | g | g <;> rw [g] <;> decide
theorem s_nxt (hV : kV V n ts wz) (hR : kR V W ts wz) (hr : r < 3) (a : Int32) : mNxt W n r a = kNxt V n r a := by
  unfold mNxt kNxt
  rw [hR.2.2.2.2.2.2.1]
  have e : z_fnd (fun p => decide (0 < W 34 (30 * r + (V 7 p).toNatClampNeg))) (n - z_beh (V 7) n a) (z_beh (V 7) n a) = z_fnd (fun p => !decide (V (6 * r + 10) (V 7 p).toNatClampNeg = 0)) (n - z_beh (V 7) n a) (z_beh (V 7) n a) := by
    refine z_fnd_c (fun q q1 q2 => ?_)
    have := kV_n hV
    obtain ⟨e, e1, e2, e3⟩ := kV_od hV (show q < n by omega)
    rw [e3, (hR.2.2.2.2.2.2.2 r hr).1 e (by omega)]
    rcases kV_ma hV hr e with g | g | g <;> rw [g] <;> decide
  rw [e]
theorem s_has (hV : kV V n ts wz) (hR : kR V W ts wz) (hr : r < 3) (a : Int32) : mHas W n r a = kHas V n r a := by
  unfold mHas kHas
  rw [hR.2.2.2.1, hR.2.2.2.2.1]
  refine z_any_c (fun q _ hq => ?_)
  have := kV_n hV
  rw [(hR.2.2.2.2.2.2.2 r hr).1 q (by omega)]
  rcases kV_ma hV hr q with g | g | g <;> rw [g] <;> simp
theorem s_full (hV : kV V n ts wz) (hR : kR V W ts wz) (r : Int32) : mFull W r = kFull V r := by
  unfold mFull kFull
  refine z_any_c (fun q _ hq => ?_)
  obtain ⟨h1, -, hJ⟩ := hV.2.2 q (by omega)
  rw [(hR.2.2.2.2.2.2.2 q (by omega)).2.1, h1]
  congr 1
  have h50 : ts q ≤ 50 := hJ.2.2.1
  have e1 : ((50 : Int32) ≤ nI (ts q)) ↔ 50 ≤ ts q := nI_leI (a := 50) (by omega) (by omega)
  have e2 : (nI (ts q) = (50 : Int32)) ↔ ts q = 50 := nI_eq (b := 50) (by omega) (by omega)
  rw [decide_eq_decide, e1, e2]
  omega
/-- how many are shown: by places as by elements -/
theorem s_num (hV : kV V n ts wz) (r : Nat) : z_num (fun p => decide (V (6 * r + 10) (V 7 p).toNatClampNeg = 1)) n = kCnt V n r 1 := by
  unfold kCnt
  rw [z_cnt_0]
  exact hV.2.1.2.2 (fun e => decide (V (6 * r + 10) e = 1))
theorem s_none (hV : kV V n ts wz) (r : Nat) (i : Int32) : kShown V n r i = -3 ↔ (i < 0 ∨ nI (kCnt V n r 1) ≤ i) := by
  have hn := kV_n hV
  have hc : kCnt V n r 1 ≤ n := by rw [← s_num hV]; exact z_num_le _ n
  constructor
  · intro h
    by_cases h0 : i < 0
    · exact Or.inl h0
    · right
      obtain ⟨j, j1, j2⟩ := nI_of h0
      rcases Nat.lt_or_ge j (kCnt V n r 1) with g | g
      · exfalso
        rw [← s_num hV] at g
        obtain ⟨q, q1, q2, q3, q4⟩ := z_nth_of (P := fun p => decide (V (6 * r + 10) (V 7 p).toNatClampNeg = 1)) (od := V 7) (k := n) (p := 0) (j := j) (by have := z_num_le (fun p => decide (V (6 * r + 10) (V 7 p).toNatClampNeg = 1)) n; omega) (by simpa [z_num] using g)
        unfold kShown at h
        rw [j2, q4] at h
        obtain ⟨e, e1, e2, -⟩ := kV_od hV (show q < n by omega)
        rw [e2] at h
        exact z_n3 (by omega) h
      · rw [j2]
        exact (nI_leI (by omega) j1).mpr g
  · intro h
    by_cases hx : kShown V n r i = -3
    · exact hx
    · exfalso
      obtain ⟨j, q, e1, e2, e3, e4, e5, e6⟩ := z_nth_in hx
      have hq : z_num (fun p => decide (V (6 * r + 10) (V 7 p).toNatClampNeg = 1)) (q + 1) ≤ z_num (fun p => decide (V (6 * r + 10) (V 7 p).toNatClampNeg = 1)) n := by
        have := z_num_mono (fun p => decide (V (6 * r + 10) (V 7 p).toNatClampNeg = 1)) (q + 1) (n - (q + 1))
        rw [show q + 1 + (n - (q + 1)) = n by omega] at this
        exact this
      rw [z_num_s, if_pos e4, e6, s_num hV] at hq
      have h00 : z_num (fun p => decide (V (6 * r + 10) (V 7 p).toNatClampNeg = 1)) 0 = 0 := rfl
      rw [h00] at hq
      rcases h with g | g
      · rw [e1] at g
        exact absurd g (nI_pos (by omega))
      · rw [e1] at g
        have := (nI_leI (by omega) (by omega)).mp g
        omega
theorem s_el (hV : kV V n ts wz) (r : Nat) {i : Int32} (h : ¬ kShown V n r i = -3) : ∃ e, e < n ∧ kShown V n r i = nI e ∧ V (6 * r + 10) e = 1 := by
  obtain ⟨j, q, e1, e2, e3, e4, e5, e6⟩ := z_nth_in h
  obtain ⟨e, g1, g2, g3⟩ := kV_od hV (show q < n by omega)
  refine ⟨e, g1, ?_, ?_⟩
  · unfold kShown
    rw [e5, g2]
  · rw [g3] at e4
    exact of_decide_eq_true e4
theorem s_rdy (hV : kV V n ts wz) (hR : kR V W ts wz) (hr : r < 3) {m : Int32} (hm : kM n m) : mRdy W r m = kRdy V r m := by
  have hn := kV_n hV
  have hst : ∀ x, z_el x n → (decide (x < 0) || decide (0 < W 34 (30 * r + x.toNatClampNeg))) = kStl V r x := by
    intro x hx
    unfold kStl
    rcases hx with g | ⟨e, e1, e2⟩
    · rw [g]
      rfl
    · rw [e2, decide_eq_false (nI_pos (by omega)), decide_eq_false (z_n1 (by omega)), nI_clamp (by omega), (hR.2.2.2.2.2.2.2 r hr).1 e (by omega)]
      rcases kV_ma hV hr e with g | g | g <;> rw [g] <;> decide
  obtain ⟨e, e1, e2⟩ := hm
  obtain ⟨k1, k2, k3, k4, k5, k6, k7, k8⟩ := hV.2.1.1
  unfold mRdy kRdy
  rcases e2 with g | g
  · rw [g, if_neg (kM_nle (by omega)), if_neg (kM_nle (by omega)), nI_clamp (by omega), hR.2.2.2.1, hR.2.2.2.2.2.1, hst _ (z_el_mono (k5 e e1) (by omega)), hst _ (z_el_mono (k6 e e1) (by omega))]
  · rw [g, if_pos (kM_le (by omega)), if_pos (kM_le (by omega)), kM_back (by omega), hst _ (Or.inr ⟨e, e1, rfl⟩)]
/-- the way up is as long, whatever the bound, if it is enough -/
theorem z_abv_eq {pa : Nat → Int32} {m : Nat} (hm : m ≤ 1000) (hpa : ∀ e, e < m → z_el (pa e) e) : ∀ (k k' : Nat) (x : Int32) (a : Nat), z_el x m → z_nd x ≤ k → z_nd x ≤ k' → z_abv pa k x a = z_abv pa k' x a := by
  intro k
  induction k with
  | zero =>
    intro k' x a hx h1 h2
    have : x = -1 := (z_el_nd hx hm).2.mpr (by omega)
    subst this
    cases k' with
    | zero => rfl
    | succ k' => exact (if_pos rfl).symm
  | succ k ih =>
    intro k' x a hx h1 h2
    rcases hx with g | ⟨e, e1, e2⟩
    · subst g
      cases k' with
      | zero => exact if_pos rfl
      | succ k' =>
        show (if (-1 : Int32) = -1 then a else _) = (if (-1 : Int32) = -1 then a else _)
        rw [if_pos rfl, if_pos rfl]
    · rw [e2, z_nd_n (by omega)] at h1 h2
      cases k' with
      | zero => omega
      | succ k' =>
        show (if x = -1 then a else z_abv pa k (pa x.toNatClampNeg) (a + 1)) = (if x = -1 then a else z_abv pa k' (pa x.toNatClampNeg) (a + 1))
        have hx1 : ¬ x = -1 := by rw [e2]; exact z_n1 (by omega)
        rw [if_neg hx1, if_neg hx1, e2, nI_clamp (by omega)]
        have hp := hpa e e1
        have hpn := (z_el_nd hp (by omega)).1
        exact ih k' (pa e) (a + 1) (z_el_mono hp (by omega)) (by omega) (by omega)
end SM
