-- PURE: what the methods do to the numbers V (class: k.., reference: m..)
/-- one number of cell k is written -/
def wU (V : Nat → Nat → Int32) (k i : Nat) (x : Int32) : Nat → Nat → Int32 := fun j => if j = k then upd (V k) i x else V j
theorem wU_s (V : Nat → Nat → Int32) (k i : Nat) (x : Int32) : wU V k i x k = upd (V k) i x := by unfold wU; rw [if_pos rfl]
theorem wU_n {V : Nat → Nat → Int32} {k i j : Nat} {x : Int32} (h : j ≠ k) : wU V k i x j = V j := by unfold wU; rw [if_neg h]
def wS (V : Nat → Nat → Int32) (k : Nat) (f : Nat → Int32) : Nat → Nat → Int32 := fun j => if j = k then f else V j
theorem wS_s (V : Nat → Nat → Int32) (k : Nat) (f : Nat → Int32) : wS V k f k = f := by unfold wS; rw [if_pos rfl]
theorem wS_n {V : Nat → Nat → Int32} {k j : Nat} {f : Nat → Int32} (h : j ≠ k) : wS V k f j = V j := by unfold wS; rw [if_neg h]
theorem wU_wS (V : Nat → Nat → Int32) (k i : Nat) (f : Nat → Int32) (x : Int32) : wU (wS V k f) k i x = wS V k (upd f i x) := by
  funext j
  unfold wU wS
  by_cases h : j = k
  · rw [if_pos h, if_pos h, if_pos rfl]
  · rw [if_neg h, if_neg h, if_neg h]
theorem wU_S (V : Nat → Nat → Int32) (k i : Nat) (x : Int32) : wU V k i x = wS V k (upd (V k) i x) := rfl
theorem wS_id (V : Nat → Nat → Int32) (k : Nat) : wS V k (V k) = V := by
  funext j
  unfold wS
  by_cases h : j = k
  · rw [if_pos h, h]
  · rw [if_neg h]
theorem wS_wS (V : Nat → Nat → Int32) (k : Nat) (f g : Nat → Int32) : wS (wS V k f) k g = wS V k g := by
  funext j
  unfold wS
  by_cases h : j = k
  · rw [if_pos h, if_pos h]
  · rw [if_neg h, if_neg h, if_neg h]
-- the class
def kPut (V : Nat → Nat → Int32) (c s : Nat) (m : Int32) : Nat → Nat → Int32 := wU (wU V (c + 1) s m) c 0 (nI (s + 1))
def kTake (V : Nat → Nat → Int32) (c s k : Nat) : Nat → Nat → Int32 := wS (wU V c 0 (nI (s - 1))) (c + 1) (z_shl (s - 1 - k) k (V (c + 1)))
def kEff (V : Nat → Nat → Int32) (r : Nat) (m : Int32) : Nat → Nat → Int32 := if m ≤ -10 then wU V (6 * r + 10) (-10 - m).toNatClampNeg 2 else wU V (6 * r + 10) m.toNatClampNeg 1
def kStl (V : Nat → Nat → Int32) (r : Nat) (x : Int32) : Bool := decide (x = -1) || !decide (V (6 * r + 10) x.toNatClampNeg = 0)
def kRdy (V : Nat → Nat → Int32) (r : Nat) (m : Int32) : Bool := if m ≤ -10 then kStl V r (-10 - m) else kStl V r (V 4 m.toNatClampNeg) && kStl V r (V 6 m.toNatClampNeg)
def kFst (V : Nat → Nat → Int32) (r w : Nat) : Nat := z_fnd (fun k => kRdy V r (V (6 * r + 14) k)) w 0
def kWk (r : Nat) : Nat → (Nat → Nat → Int32) → Nat → (Nat → Nat → Int32) × Nat
  | 0, V, _ => (V, 0)
  | f + 1, V, w => if kFst V r w = w then (V, 0) else ((kWk r f (kEff (kTake V (6 * r + 13) w (kFst V r w)) r (V (6 * r + 14) (kFst V r w))) (w - 1)).1, (kWk r f (kEff (kTake V (6 * r + 13) w (kFst V r w)) r (V (6 * r + 14) (kFst V r w))) (w - 1)).2 + 1)
def kSnd1 (V : Nat → Nat → Int32) (q r : Nat) (m : Int32) : Nat → Nat → Int32 := if q = r then V else kPut V (6 * q + 11) (V (6 * q + 11) 0).toNatClampNeg m
def kSnd (V : Nat → Nat → Int32) (r : Nat) (m : Int32) : Nat → Nat → Int32 := kSnd1 (kSnd1 (kSnd1 V 0 r m) 1 r m) 2 r m
def kAt (V : Nat → Nat → Int32) (n : Nat) (mk pa sd ro : Int32) : Nat := z_plC (V 7) (upd (V 4) n pa) (upd (V 5) n sd) (upd (V 6) n ro) (upd (V 2) n mk) n n
def kAdd (V : Nat → Nat → Int32) (n : Nat) (mk ch pa sd ro : Int32) : Nat → Nat → Int32 :=
  wU (wS (wU (wU (wU (wU (wU V 2 n mk) 3 n ch) 4 n pa) 5 n sd) 6 n ro) 7 (upd (z_shr (kAt V n mk pa sd ro) n (V 7)) (kAt V n mk pa sd ro) (nI n))) 1 0 (nI (n + 1))
def kNxt (V : Nat → Nat → Int32) (n r : Nat) (a : Int32) : Int32 :=
  if z_fnd (fun p => !decide (V (6 * r + 10) (V 7 p).toNatClampNeg = 0)) (n - z_beh (V 7) n a) (z_beh (V 7) n a) = n then -1 else V 7 (z_fnd (fun p => !decide (V (6 * r + 10) (V 7 p).toNatClampNeg = 0)) (n - z_beh (V 7) n a) (z_beh (V 7) n a))
def kHas (V : Nat → Nat → Int32) (n r : Nat) (a : Int32) : Bool := z_any (fun e => (!decide (V (6 * r + 10) e = 0) && decide (V 4 e = a)) && decide (V 5 e = 1)) n 0
def kMake (V : Nat → Nat → Int32) (n r : Nat) (a ch : Int32) : Nat → Nat → Int32 :=
  if kHas V n r a = true then kAdd V n (nI r) ch (kNxt V n r a) 0 (kNxt V n r a) else kAdd V n (nI r) ch a 1 (kNxt V n r a)
def kShown (V : Nat → Nat → Int32) (n r : Nat) (i : Int32) : Int32 := z_nth (fun p => decide (V (6 * r + 10) (V 7 p).toNatClampNeg = 1)) (V 7) n 0 i
def kOrd (V : Nat → Nat → Int32) (n r : Nat) (i : Int32) : Int32 := z_nth (fun p => !decide (V (6 * r + 10) (V 7 p).toNatClampNeg = 0)) (V 7) n 0 i
def kCnt (V : Nat → Nat → Int32) (n r : Nat) (x : Int32) : Nat := z_cnt (fun e => decide (V (6 * r + 10) e = x)) n 0 0
def kFull (V : Nat → Nat → Int32) (r : Int32) : Bool := z_any (fun q => !decide (nI q = r) && decide (50 ≤ V (6 * q + 11) 0)) 3 0
def z_abv (pa : Nat → Int32) : Nat → Int32 → Nat → Nat
  | 0, _, a => a
  | k + 1, x, a => if x = -1 then a else z_abv pa k (pa x.toNatClampNeg) (a + 1)
-- the reference
def mRdy (V : Nat → Nat → Int32) (r : Nat) (m : Int32) : Bool :=
  if m ≤ -10 then (decide (-10 - m < 0) || decide (0 < V 34 (30 * r + (-10 - m).toNatClampNeg))) else (decide (V 30 m.toNatClampNeg < 0) || decide (0 < V 34 (30 * r + (V 30 m.toNatClampNeg).toNatClampNeg))) && (decide (V 32 m.toNatClampNeg < 0) || decide (0 < V 34 (30 * r + (V 32 m.toNatClampNeg).toNatClampNeg)))
def mEff (V : Nat → Nat → Int32) (r : Nat) (m : Int32) : Nat → Nat → Int32 := if m ≤ -10 then wU V 34 (30 * r + (-10 - m).toNatClampNeg) 2 else wU V 34 (30 * r + m.toNatClampNeg) 1
def mPut (V : Nat → Nat → Int32) (q s : Nat) (m : Int32) : Nat → Nat → Int32 := wU (wU V 35 (90 * q + s) m) 36 q (nI (s + 1))
def mTake (V : Nat → Nat → Int32) (r s k : Nat) : Nat → Nat → Int32 := wS (wU V 36 r (nI (s - 1))) 35 (z_shl (s - 1 - k) (90 * r + k) (V 35))
def mTakeW (V : Nat → Nat → Int32) (r s k : Nat) : Nat → Nat → Int32 := wS (wU V 38 r (nI (s - 1))) 37 (z_shl (s - 1 - k) (90 * r + k) (V 37))
def mFst (V : Nat → Nat → Int32) (r w : Nat) : Nat := z_fnd (fun k => mRdy V r (V 37 (90 * r + k))) w 0
def mWk (r : Nat) : Nat → (Nat → Nat → Int32) → Nat → (Nat → Nat → Int32) × Nat
  | 0, V, _ => (V, 0)
  | f + 1, V, w => if mFst V r w = w then (V, 0) else ((mWk r f (mEff (mTakeW V r w (mFst V r w)) r (V 37 (90 * r + mFst V r w))) (w - 1)).1, (mWk r f (mEff (mTakeW V r w (mFst V r w)) r (V 37 (90 * r + mFst V r w))) (w - 1)).2 + 1)
def mSnd1 (V : Nat → Nat → Int32) (q r : Nat) (m : Int32) : Nat → Nat → Int32 := if q = r then V else mPut V q (V 36 q).toNatClampNeg m
def mSnd (V : Nat → Nat → Int32) (r : Nat) (m : Int32) : Nat → Nat → Int32 := mSnd1 (mSnd1 (mSnd1 V 0 r m) 1 r m) 2 r m
def mAt (V : Nat → Nat → Int32) (n : Nat) (mk pa sd ro : Int32) : Nat := z_plR (V 33) (upd (V 30) n pa) (upd (V 31) n sd) (upd (V 32) n ro) (upd (V 28) n mk) n n
def mAdd (V : Nat → Nat → Int32) (n : Nat) (mk ch pa sd ro : Int32) : Nat → Nat → Int32 :=
  wU (wS (wU (wU (wU (wU (wU V 28 n mk) 29 n ch) 30 n pa) 31 n sd) 32 n ro) 33 (upd (z_shr (mAt V n mk pa sd ro) n (V 33)) (mAt V n mk pa sd ro) (nI n))) 27 0 (nI (n + 1))
def mNxt (V : Nat → Nat → Int32) (n r : Nat) (a : Int32) : Int32 :=
  if z_fnd (fun p => decide (0 < V 34 (30 * r + (V 33 p).toNatClampNeg))) (n - z_beh (V 33) n a) (z_beh (V 33) n a) = n then -1 else V 33 (z_fnd (fun p => decide (0 < V 34 (30 * r + (V 33 p).toNatClampNeg))) (n - z_beh (V 33) n a) (z_beh (V 33) n a))
def mHas (V : Nat → Nat → Int32) (n r : Nat) (a : Int32) : Bool := z_any (fun e => (decide (0 < V 34 (30 * r + e)) && decide (V 30 e = a)) && decide (V 31 e = 1)) n 0
def mNth (V : Nat → Nat → Int32) (n r : Nat) (i : Int32) (t : Bool) : Int32 := z_nth (fun p => decide (V 34 (30 * r + (V 33 p).toNatClampNeg) = 1) || (decide (V 34 (30 * r + (V 33 p).toNatClampNeg) = 2) && !t)) (V 33) n 0 i
def mCnt (V : Nat → Nat → Int32) (n r : Nat) (a b : Int32) : Nat := z_cnt (fun e => decide (a ≤ V 34 (30 * r + e)) && decide (V 34 (30 * r + e) ≤ b)) n 0 0
def mFull (V : Nat → Nat → Int32) (r : Int32) : Bool := z_any (fun q => !decide (nI q = r) && decide (V 36 q = 50)) 3 0
