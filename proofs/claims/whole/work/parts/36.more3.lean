-- PURE: what the reference's walks want
def mK (V : Nat → Nat → Int32) (n : Nat) : Prop := V 27 0 = nI n ∧ n ≤ 30 ∧ (∀ p, p < n → ∃ e, e < n ∧ V 33 p = nI e) ∧ (∀ e, e < n → z_el (V 30 e) e) ∧ ∀ e, e < n → z_el (V 32 e) e
theorem i23 (x : Int32) : x < 3 ↔ x ≤ 2 := by
  rw [Int32.lt_iff_toInt_lt, Int32.le_iff_toInt_le, show (3 : Int32).toInt = 3 by decide, show (2 : Int32).toInt = 2 by decide]
  omega
theorem z_bl_neg {pa : Nat → Int32} {top y : Int32} {k : Nat} (h : y < 0) : z_bl pa top k y = decide (y = top) := by
  cases k with
  | zero => rfl
  | succ k =>
    show (if 0 ≤ y ∧ ¬ y = top then z_bl pa top k (pa y.toNatClampNeg) else decide (y = top)) = _
    rw [if_neg (fun q => Int32.not_le.mpr h q.1)]
theorem z_bgn_le (od pa : Nat → Int32) (n : Nat) (y : Int32) : z_bgn od pa n y ≤ n := by
  have := (z_fnd_sp (fun p => z_bl pa y 31 (od p)) n 0).2.1
  unfold z_bgn
  omega
theorem z_lst_le (P : Nat → Bool) : ∀ (k p a : Nat), a ≤ p → z_lst P k p a ≤ p + k
  | 0, p, a, h => h
  | k + 1, p, a, h => by
    have := z_lst_le P k (p + 1) (if P p = true then p + 1 else a) (by split <;> omega)
    show z_lst P k (p + 1) (if P p = true then p + 1 else a) ≤ p + (k + 1)
    omega
theorem z_end_le (od pa : Nat → Int32) (n : Nat) (y : Int32) : z_end od pa n y ≤ n := by
  have := z_lst_le (fun p => z_bl pa y 31 (od p)) n 0 0 (Nat.le_refl 0)
  unfold z_end
  omega
theorem z_lst_t {P : Nat → Bool} {k p a : Nat} (h : P p = true) : z_lst P (k + 1) p a = z_lst P k (p + 1) (p + 1) := by
  show z_lst P k (p + 1) (if P p = true then p + 1 else a) = _
  rw [if_pos h]
theorem z_lst_f {P : Nat → Bool} {k p a : Nat} (h : P p = false) : z_lst P (k + 1) p a = z_lst P k (p + 1) a := by
  show z_lst P k (p + 1) (if P p = true then p + 1 else a) = _
  rw [if_neg (by rw [h]; decide)]
theorem z_hom_t {Y : Nat → Bool} {B : Nat → Nat} {k a : Nat} (h : Y k = true) (h2 : B k < a) : z_hom Y B (k + 1) a = z_hom Y B k (B k) := by
  show z_hom Y B k (if Y k = true ∧ B k < a then B k else a) = _
  rw [if_pos ⟨h, h2⟩]
theorem z_hom_f {Y : Nat → Bool} {B : Nat → Nat} {k a : Nat} (h : ¬ (Y k = true ∧ B k < a)) : z_hom Y B (k + 1) a = z_hom Y B k a := by
  show z_hom Y B k (if Y k = true ∧ B k < a then B k else a) = _
  rw [if_neg h]
/-- a negative one, or an element -/
theorem z_el_ge {x : Int32} {m : Nat} (h : z_el x m) (h0 : 0 ≤ x) : ∃ e, e < m ∧ x = nI e := by
  rcases h with g | g
  · rw [g] at h0
    exact absurd h0 (by decide)
  · exact g
theorem z_el_nn {x : Int32} {m : Nat} (h : z_el x m) (h0 : 0 ≤ x) : ¬ x = -1 := fun q => by
  rw [q] at h0
  exact absurd h0 (by decide)
theorem z_el_m1 {x : Int32} {m : Nat} (h : z_el x m) (h0 : x < 0) (hm : m ≤ 1000) : x = -1 := (z_el_neg h hm).mp h0
theorem z_ahd_1 {od sd ro mk : Nat → Int32} {n x y : Nat} (h : sd x = 1) (h2 : ¬ ro x = ro y) : z_ahd od sd ro mk n x y = decide ((if ro y < 0 then n else z_pl od n (ro y)) < (if ro x < 0 then n else z_pl od n (ro x))) := by
  unfold z_ahd
  rw [if_pos ⟨h, h2⟩]
theorem z_ahd_2 {od sd ro mk : Nat → Int32} {n x y : Nat} (h : ¬ (sd x = 1 ∧ ¬ ro x = ro y)) : z_ahd od sd ro mk n x y = (decide (mk x < mk y) || (decide (mk x = mk y) && decide (x < y))) := by
  unfold z_ahd
  rw [if_neg h]
def mSt (V : Nat → Nat → Int32) (r : Nat) (x : Int32) : Bool := decide (x < 0) || decide (0 < V 34 (30 * r + x.toNatClampNeg))
section M3
variable {V : Nat → Nat → Int32} {n r : Nat} {m : Int32}
theorem mRdy_n {e : Nat} (he : e < 1000) : mRdy V r (nI e) = (mSt V r (V 30 e) && mSt V r (V 32 e)) := by
  unfold mRdy
  rw [if_neg (kM_nle he), nI_clamp (by omega)]
  rfl
theorem mRdy_m {e : Nat} (he : e < 1000) : mRdy V r (-10 - nI e) = mSt V r (-10 - (-10 - nI e)) := by
  unfold mRdy
  rw [if_pos (kM_le he)]
  rfl
theorem mEff_m {e : Nat} (he : e < 1000) : wU V 34 (30 * r + e) 2 = mEff V r (-10 - nI e) := by
  unfold mEff
  rw [if_pos (kM_le he), kM_back he, nI_clamp (by omega)]
theorem mEff_n {e : Nat} (he : e < 1000) : wU V 34 (30 * r + e) 1 = mEff V r (nI e) := by
  unfold mEff
  rw [if_neg (kM_nle he), nI_clamp (by omega)]
theorem mSnd1_t {q : Nat} (h : q = r) : V = mSnd1 V q r m := by
  unfold mSnd1
  rw [if_pos h]
theorem mSnd1_f {q s : Nat} (h : ¬ q = r) (hs : V 36 q = nI s) (h1 : s < 1000) : mPut V q s m = mSnd1 V q r m := by
  unfold mSnd1
  rw [if_neg h, hs, nI_clamp (by omega)]
theorem mSnd1_36 {q j : Nat} (h : ¬ j = q) : mSnd1 V q r m 36 j = V 36 j := by
  unfold mSnd1
  by_cases c : q = r
  · rw [if_pos c]
  · rw [if_neg c]
    unfold mPut
    rw [wU_s, pk_un h, wU_n (by decide)]
theorem mFst_le (V : Nat → Nat → Int32) (r w : Nat) : mFst V r w ≤ w := by
  have := (z_fnd_sp (fun k => mRdy V r (V 37 (90 * r + k))) w 0).2.1
  unfold mFst
  omega
theorem mWk_s {f : Nat} {V : Nat → Nat → Int32} {w : Nat} (c : ¬ mFst V r w = w) : mWk r (f + 1) V w = ((mWk r f (mEff (mTakeW V r w (mFst V r w)) r (V 37 (90 * r + mFst V r w))) (w - 1)).1, (mWk r f (mEff (mTakeW V r w (mFst V r w)) r (V 37 (90 * r + mFst V r w))) (w - 1)).2 + 1) := by
  show (if mFst V r w = w then _ else _) = _
  rw [if_neg c]
theorem mWk_0 {f : Nat} {V : Nat → Nat → Int32} {w : Nat} (c : mFst V r w = w) : mWk r f V w = (V, 0) := by
  cases f with
  | zero => rfl
  | succ f =>
    show (if mFst V r w = w then _ else _) = _
    rw [if_pos c]
end M3
/-- the reference's wake -/
def mWa (V : Nat → Nat → Int32) (r w : Nat) : Nat → Nat → Int32 := if mFst V r w = w then V else mEff (mTakeW V r w (mFst V r w)) r (V 37 (90 * r + mFst V r w))
def mA (V : Nat → Nat → Int32) (n r : Nat) (i : Int32) : Int32 := if i = 0 then -1 else mNth V n r (i - 1) true
def mAbt (V : Nat → Nat → Int32) (e w : Int32) : Int32 := if w = 0 then V 28 e.toNatClampNeg else if w = 1 then V 29 e.toNatClampNeg else if w = 2 then V 30 e.toNatClampNeg else if w = 3 then V 31 e.toNatClampNeg else if w = 4 then V 32 e.toNatClampNeg else -3
/-- the reference's differ -/
def mDf (f g : Nat → Int32) : Nat → Nat → Int32
  | 0, _ => -3
  | k + 1, p => if f p = g p then (if f p = -3 then -3 else mDf f g k (p + 1)) else nI p
