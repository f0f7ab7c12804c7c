-- PURE: what the reference's writing walks want
section M4
variable {V W W' : Nat → Nat → Int32} {n : Nat} {ts wz : Nat → Nat} {r : Nat} {m : Int32}
theorem mK_of (hV : kV V n ts wz) (hR : kR V W ts wz) : mK W n := by
  obtain ⟨w0, w1, w2, w3, w4, w5, w6, w7⟩ := hR
  refine ⟨w0.trans hV.1, kV_n hV, fun p hp => ?_, fun e he => ?_, fun e he => ?_⟩
  · rw [w6]; exact kV_hod hV p hp
  · rw [w3]; exact kV_hpa hV e he
  · rw [w5]; exact kV_hro hV e he
theorem mK_c (h : mK W n) (hc : ∀ j, 27 ≤ j → j ≤ 33 → W' j = W j) : mK W' n := by
  unfold mK
  rw [hc 27 (by decide) (by decide), hc 33 (by decide) (by decide), hc 30 (by decide) (by decide), hc 32 (by decide) (by decide)]
  exact h
theorem kR_ts (hV : kV V n ts wz) (hR : kR V W ts wz) (hr : r < 3) : W 36 r = nI (ts r) ∧ W 38 r = nI (wz r) :=
  ⟨((hR.2.2.2.2.2.2.2 r hr).2.1).trans (hV.2.2 r hr).1, ((hR.2.2.2.2.2.2.2 r hr).2.2.2.1).trans (hV.2.2 r hr).2.1⟩
theorem kR_wc (hV : kV V n ts wz) (hR : kR V W ts wz) (hr : r < 3) {k : Nat} (hk : k < wz r) : kM n (W 37 (90 * r + k)) := by
  rw [(hR.2.2.2.2.2.2.2 r hr).2.2.2.2 k hk]
  exact kV_wc hV hr hk
theorem kR_tc (hV : kV V n ts wz) (hR : kR V W ts wz) (hr : r < 3) {k : Nat} (hk : k < ts r) : W 35 (90 * r + k) = V (6 * r + 12) k ∧ kM n (W 35 (90 * r + k)) := by
  have h := (hR.2.2.2.2.2.2.2 r hr).2.2.1 k hk
  exact ⟨h, by rw [h]; exact kV_tc hV hr hk⟩
theorem mTake_o {s k j : Nat} (h1 : ¬ j = 36) (h2 : ¬ j = 35) : mTake W r s k j = W j := by
  unfold mTake
  rw [wS_n h2, wU_n h1]
/-- one message wakes, told by the reference's numbers -/
theorem Z_wakeR (hr : r < 3) (h : kZ V W n ts wz) (c : ¬ mFst W r (wz r) = wz r) : ∃ V', kZ V' (mWa W r (wz r)) n ts (fun q => if q = r then wz q - 1 else wz q) := by
  have hf := s_fst h.1 h.2.2 hr
  have c2 : ¬ kFst V r (wz r) = wz r := by rw [← hf]; exact c
  obtain ⟨h1, h2⟩ := Z_wake1 hr h c2
  have e : mWa W r (wz r) = mEff (mTakeW W r (wz r) (kFst V r (wz r))) r (V (6 * r + 14) (kFst V r (wz r))) := by
    unfold mWa
    rw [if_neg c, hf, (h.2.2.2.2.2.2.2.2.2 r hr).2.2.2.2 _ h1]
  rw [e]
  exact ⟨_, h2⟩
end M4
