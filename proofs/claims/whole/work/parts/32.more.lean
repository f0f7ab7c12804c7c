-- PURE: more of what the walks want
section MO
variable {V W : Nat → Nat → Int32} {n : Nat} {ts wz : Nat → Nat} {r : Nat} {m : Int32}
theorem kV_hod (hV : kV V n ts wz) : ∀ p, p < n → ∃ e, e < n ∧ V 7 p = nI e := hV.2.1.1.2.2.2.1
theorem kV_hpa (hV : kV V n ts wz) : ∀ e, e < n → z_el (V 4 e) e := hV.2.1.1.2.2.2.2.1
theorem kV_hro (hV : kV V n ts wz) : ∀ e, e < n → z_el (V 6 e) e := hV.2.1.1.2.2.2.2.2.1
theorem kV_ts (hV : kV V n ts wz) (hr : r < 3) : V (6 * r + 11) 0 = nI (ts r) ∧ ts r ≤ 50 := ⟨(hV.2.2 r hr).1, (hV.2.2 r hr).2.2.2.2.1⟩
theorem kV_wz (hV : kV V n ts wz) (hr : r < 3) : V (6 * r + 13) 0 = nI (wz r) := (hV.2.2 r hr).2.1
theorem kV_tc (hV : kV V n ts wz) (hr : r < 3) {k : Nat} (hk : k < ts r) : kM n (V (6 * r + 12) k) := (hV.2.2 r hr).2.2.2.2.2.1 k hk
theorem kV_wc (hV : kV V n ts wz) (hr : r < 3) {k : Nat} (hk : k < wz r) : kM n (V (6 * r + 14) k) := (hV.2.2 r hr).2.2.2.2.2.2.1 k hk
theorem kRdy_n {e : Nat} (he : e < 1000) : kRdy V r (nI e) = (kStl V r (V 4 e) && kStl V r (V 6 e)) := by
  unfold kRdy
  rw [if_neg (kM_nle he), nI_clamp (by omega)]
theorem kRdy_m {e : Nat} (he : e < 1000) : kRdy V r (-10 - nI e) = kStl V r (-10 - (-10 - nI e)) := by
  unfold kRdy
  rw [if_pos (kM_le he)]
theorem kSnd1_o {q j : Nat} (h1 : ¬ j = 6 * q + 11) (h2 : ¬ j = 6 * q + 12) : kSnd1 V q r m j = V j := by
  unfold kSnd1
  by_cases c : q = r
  · rw [if_pos c]
  · rw [if_neg c]
    unfold kPut
    rw [wU_n h1, wU_n h2]
theorem kSnd1_t {q : Nat} (h : q = r) : V = kSnd1 V q r m := by
  unfold kSnd1
  rw [if_pos h]
theorem kSnd1_f {q s : Nat} (h : ¬ q = r) (hs : V (6 * q + 11) 0 = nI s) (h1 : s < 1000) : kPut V (6 * q + 11) s m = kSnd1 V q r m := by
  unfold kSnd1
  rw [if_neg h, hs, nI_clamp (by omega)]
theorem kM_z {m : Int32} (h : kM n m) (hn : n ≤ 30) (h4 : ¬ m ≤ -10) : ∃ e, e < n ∧ m = nI e := by
  obtain ⟨e, e1, e2⟩ := h
  rcases e2 with g | g
  · exact ⟨e, e1, g⟩
  · rw [g] at h4
    exact absurd (kM_le (by omega)) h4
theorem kM_e {m : Int32} (h : kM n m) (hn : n ≤ 30) (h4 : m ≤ -10) : ∃ e, e < n ∧ m = -10 - nI e := by
  obtain ⟨e, e1, e2⟩ := h
  rcases e2 with g | g
  · rw [g] at h4
    exact absurd h4 (kM_nle (by omega))
  · exact ⟨e, e1, g⟩
theorem kEff_m {e : Nat} (he : e < 1000) : wU V (6 * r + 10) e 2 = kEff V r (-10 - nI e) := by
  unfold kEff
  rw [if_pos (kM_le he), kM_back he, nI_clamp (by omega)]
theorem kEff_n {e : Nat} (he : e < 1000) : wU V (6 * r + 10) e 1 = kEff V r (nI e) := by
  unfold kEff
  rw [if_neg (kM_nle he), nI_clamp (by omega)]
/-- one message wakes -/
theorem Z_wake1 (hr : r < 3) (h : kZ V W n ts wz) (c : ¬ kFst V r (wz r) = wz r) :
    kFst V r (wz r) < wz r ∧ kZ (kEff (kTake V (6 * r + 13) (wz r) (kFst V r (wz r))) r (V (6 * r + 14) (kFst V r (wz r)))) (mEff (mTakeW W r (wz r) (kFst V r (wz r))) r (V (6 * r + 14) (kFst V r (wz r)))) n ts (fun q => if q = r then wz q - 1 else wz q) := by
  obtain ⟨hV, hS, hR⟩ := h
  have hk := (z_fnd_sp (fun k => kRdy V r (V (6 * r + 14) k)) (wz r) 0).2.1
  have hk2 := (z_fnd_sp (fun k => kRdy V r (V (6 * r + 14) k)) (wz r) 0).2.2.2
  have hlt : kFst V r (wz r) < wz r := by
    unfold kFst at c ⊢
    omega
  have hrd : kRdy V r (V (6 * r + 14) (kFst V r (wz r))) = true := by
    rcases hk2 with g | g
    · unfold kFst at c
      omega
    · exact g
  have hw : ∀ q, q < 3 → wz q ≤ 90 := fun q hq => by have := kZ_90 hV hS hq; omega
  obtain ⟨⟨t1, t2⟩, t3, t4⟩ := M_takeW hV hR hr hw hlt
  refine ⟨hlt, M_eff (m := V (6 * r + 14) (kFst V r (wz r))) t1 t2 hr t3 (fun e he g => by
    rw [kTake_o V (by omega) (by omega), kTake_o V (by omega) (by omega), if_pos rfl]
    exact t4 e he g) (by rw [kRdy_take hr (Or.inr rfl)]; exact hrd) (fun q hq => ?_)⟩
  have hE : ∀ q, kE (kTake V (6 * r + 13) (wz r) (kFst V r (wz r)) (6 * q + 10)) = kE (V (6 * q + 10)) := fun q => by rw [kTake_o V (by omega) (by omega)]
  rw [hE, hE, hE, hE]
  have hq3 : ts q + wz q + kE (V (6 * q + 10)) ≤ n + (kE (V (6 * 0 + 10)) + kE (V (6 * 1 + 10)) + kE (V (6 * 2 + 10))) := hS q hq
  show ts q + (if q = r then wz q - 1 else wz q) + kE (V (6 * q + 10)) ≤ _
  split <;> omega
theorem kWk_s {f : Nat} {V : Nat → Nat → Int32} {w : Nat} (c : ¬ kFst V r w = w) : kWk r (f + 1) V w = ((kWk r f (kEff (kTake V (6 * r + 13) w (kFst V r w)) r (V (6 * r + 14) (kFst V r w))) (w - 1)).1, (kWk r f (kEff (kTake V (6 * r + 13) w (kFst V r w)) r (V (6 * r + 14) (kFst V r w))) (w - 1)).2 + 1) := by
  show (if kFst V r w = w then _ else _) = _
  rw [if_neg c]
theorem kWk_0 {f : Nat} {V : Nat → Nat → Int32} {w : Nat} (c : kFst V r w = w) : kWk r f V w = (V, 0) := by
  cases f with
  | zero => rfl
  | succ f =>
    show (if kFst V r w = w then _ else _) = _
    rw [if_pos c]
theorem kFst_le (V : Nat → Nat → Int32) (r w : Nat) : kFst V r w ≤ w := by
  have := (z_fnd_sp (fun k => kRdy V r (V (6 * r + 14) k)) w 0).2.1
  unfold kFst
  omega
end MO
/-- the answer of firstReady -/
def kFa (V : Nat → Nat → Int32) (r w : Nat) : Int32 := if kFst V r w = w then -3 else nI (kFst V r w)
/-- the answer of differ -/
def kDf (V : Nat → Nat → Int32) (n r q : Nat) : Nat := z_fnd (fun i => !decide (kShown V n r (nI i) = kShown V n q (nI i))) n 0
def kDa (V : Nat → Nat → Int32) (n r q : Nat) : Int32 := if kDf V n r q = n then -3 else nI (kDf V n r q)
