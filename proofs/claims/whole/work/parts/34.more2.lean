-- PURE: more of what the public methods' walks want
theorem z_has {e s : Int32} {n : Nat} (hs : s = nI n) (hn : n < 1000) (h : (decide (0 ≤ e) && decide (e < s)) = true) : ∃ a, a < n ∧ e = nI a := by
  rw [Bool.and_eq_true, decide_eq_true_iff, decide_eq_true_iff] at h
  obtain ⟨j, j1, j2⟩ := nI_of (Int32.not_lt.mpr h.1)
  refine ⟨j, ?_, j2⟩
  have h2 := h.2
  rw [j2, hs] at h2
  exact (nI_ltI (by omega) (by omega)).mp h2
theorem z_hasT {n a : Nat} {s : Int32} (hs : s = nI n) (hn : n < 1000) (ha : a < n) : (decide ((0 : Int32) ≤ nI a) && decide (nI a < s)) = true := by
  rw [Bool.and_eq_true, decide_eq_true_iff, decide_eq_true_iff, hs]
  exact ⟨nI_pos' (by omega), (nI_ltI (by omega) (by omega)).mpr ha⟩
def kAbt (V : Nat → Nat → Int32) (e w : Int32) : Int32 := if w = 0 then V 2 e.toNatClampNeg else if w = 1 then V 3 e.toNatClampNeg else if w = 2 then V 4 e.toNatClampNeg else if w = 3 then V 5 e.toNatClampNeg else if w = 4 then V 6 e.toNatClampNeg else -3
theorem z_not5 {w : Int32} (h0 : ¬ w = 0) (h1 : ¬ w = 1) (h2 : ¬ w = 2) (h3 : ¬ w = 3) (h4 : ¬ w = 4) : w.toInt < 0 ∨ 4 < w.toInt := by
  have e0 : ¬ w.toInt = 0 := fun q => h0 (Int32.toInt_inj.mp (q.trans (by decide)))
  have e1 : ¬ w.toInt = 1 := fun q => h1 (Int32.toInt_inj.mp (q.trans (by decide)))
  have e2 : ¬ w.toInt = 2 := fun q => h2 (Int32.toInt_inj.mp (q.trans (by decide)))
  have e3 : ¬ w.toInt = 3 := fun q => h3 (Int32.toInt_inj.mp (q.trans (by decide)))
  have e4 : ¬ w.toInt = 4 := fun q => h4 (Int32.toInt_inj.mp (q.trans (by decide)))
  omega
/-- what insert goes behind -/
def kA (V : Nat → Nat → Int32) (n r : Nat) (i : Int32) : Int32 := if i = 0 then -1 else kShown V n r (i - 1)
section M2
variable {V W : Nat → Nat → Int32} {n : Nat} {ts wz : Nat → Nat} {r : Nat} {m : Int32}
theorem kA_el (hV : kV V n ts wz) {i : Int32} (h0 : 0 ≤ i) (h1 : i ≤ nI (kCnt V n r 1)) : z_el (kA V n r i) n := by
  have hn := kV_n hV
  have hc : kCnt V n r 1 ≤ n := by rw [← s_num hV]; exact z_num_le _ n
  unfold kA
  by_cases c : i = 0
  · rw [if_pos c]
    exact Or.inl rfl
  · rw [if_neg c]
    obtain ⟨j, j1, j2⟩ := nI_of (Int32.not_lt.mpr h0)
    have j3 : j ≤ kCnt V n r 1 := by rw [j2] at h1; exact (nI_leI j1 (by omega)).mp h1
    have j4 : 0 < j := by
      rcases Nat.eq_zero_or_pos j with g | g
      · rw [g] at j2
        exact absurd j2 c
      · exact g
    have hne : ¬ kShown V n r (i - 1) = -3 := fun q => by
      rcases (s_none hV r (i - 1)).mp q with g | g
      · rw [j2, nI_m1 j4] at g
        exact absurd g (nI_pos (by omega))
      · rw [j2, nI_m1 j4] at g
        have := (nI_leI (by omega) (by omega)).mp g
        omega
    obtain ⟨e, e1, e2, -⟩ := s_el hV r hne
    exact Or.inr ⟨e, e1, e2⟩
theorem kAt_le (hV : kV V n ts wz) (hn : n < 30) (hr : r < 3) {p s o : Int32} (hp : z_el p n) (hs : s = 0 ∨ s = 1) (ho : z_el o n) (hsp : s = 0 → ¬ p = -1) : kAt V n (nI r) p s o ≤ n :=
  (kT_ins hV.2.1 hn hr hp hs ho hsp (A := kAt V n (nI r) p s o) rfl).2.1
theorem kMake_o (V : Nat → Nat → Int32) (n r : Nat) (a ch : Int32) {j : Nat} (hj : 8 ≤ j) : kMake V n r a ch j = V j := by
  unfold kMake
  split <;> (unfold kAdd; rw [wU_n (by omega), wS_n (by omega), wU_n (by omega), wU_n (by omega), wU_n (by omega), wU_n (by omega), wU_n (by omega)])
theorem kFull_f (hV : kV V n ts wz) (h : kFull V (nI r) = false) (hr : r < 3) : ∀ q, q < 3 → ¬ q = r → ts q < 50 := by
  intro q hq hqr
  have hq50 := (kV_ts hV hq).2
  rcases Nat.lt_or_ge (ts q) 50 with g | g
  · exact g
  · exfalso
    have : kFull V (nI r) = true := z_any_iff.mpr ⟨q, Nat.zero_le q, by omega, by
      show (!decide (nI q = nI r) && decide (50 ≤ V (6 * q + 11) 0)) = true
      rw [decide_eq_false (fun z => hqr (z_inj (by omega) (by omega) z)), (kV_ts hV hq).1, show decide ((50 : Int32) ≤ nI (ts q)) = true from decide_eq_true (nI_sz (b := 50) (by omega) (by omega) g)]
      rfl⟩
    rw [this] at h
    cases h
/-- a delivered message that is ready has taken effect; what waits is as before -/
theorem Z_del1 (hZ : kZ V W n ts wz) (hr : r < 3) {k : Nat} (hk : k < ts r) (hm : m = V (6 * r + 12) k) (hrd : kRdy (kTake V (6 * r + 11) (ts r) k) r m = true) :
    kZ (kEff (kTake V (6 * r + 11) (ts r) k) r m) (mEff (mTake W r (ts r) k) r m) n (fun q => if q = r then ts q - 1 else ts q) wz := by
  obtain ⟨hV, hS, hR⟩ := hZ
  obtain ⟨⟨t1, t2⟩, t3, t4⟩ := M_take hV hR hr hk
  rw [← hm] at t3 t4
  have hE : ∀ q, kE (kTake V (6 * r + 11) (ts r) k (6 * q + 10)) = kE (V (6 * q + 10)) := fun q => by rw [kTake_o V (by omega) (by omega)]
  refine M_eff t1 t2 hr t3 (fun e he g => ?_) hrd (fun q hq => ?_)
  · rw [kTake_o V (j := 6 * r + 10) (by omega) (by omega), kTake_o V (j := 6 * r + 14) (by omega) (by omega), if_pos rfl]
    exact t4 e he g
  · rw [hE, hE, hE, hE]
    have hq3 : ts q + wz q + kE (V (6 * q + 10)) ≤ n + (kE (V (6 * 0 + 10)) + kE (V (6 * 1 + 10)) + kE (V (6 * 2 + 10))) := hS q hq
    show (if q = r then ts q - 1 else ts q) + wz q + kE (V (6 * q + 10)) ≤ _
    split <;> omega
end M2
