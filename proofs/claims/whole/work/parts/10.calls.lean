-- PURE: what insert, erase and deliver do, on both sides at once
/-- between two calls -/
def kZ (V W : Nat → Nat → Int32) (n : Nat) (ts wz : Nat → Nat) : Prop := kV V n ts wz ∧ kS n (fun r => V (6 * r + 10)) ts wz ∧ kR V W ts wz
section CA
variable {V W : Nat → Nat → Int32} {n : Nat} {ts wz : Nat → Nat} {r : Nat} {m : Int32}
theorem kZ_90 (hV : kV V n ts wz) (hS : kS n (fun r => V (6 * r + 10)) ts wz) {q : Nat} (hq : q < 3) : ts q + wz q ≤ 90 :=
  kS_90 hS (kV_n hV) (fun r hr e he => (hV.2.2 r hr).2.2.2.1 e he) hq
theorem M_snd1 (hV : kV V n ts wz) (hR : kR V W ts wz) {q : Nat} (hq : q < 3) (ht : ¬ q = r → ts q < 50) (hm : kM n m) (hH : ¬ q = r → ∀ e, e < n → m = nI e → kH (V (6 * q + 10)) (V (6 * q + 12)) (V (6 * q + 14)) (ts q) (wz q) e = 0) :
    kV (kSnd1 V q r m) n (fun j => if j = q ∧ ¬ q = r then ts j + 1 else ts j) wz ∧ kR (kSnd1 V q r m) (mSnd1 W q r m) (fun j => if j = q ∧ ¬ q = r then ts j + 1 else ts j) wz ∧ ∀ j, ¬ j = 6 * q + 11 → ¬ j = 6 * q + 12 → kSnd1 V q r m j = V j := by
  have h1 := (hV.2.2 q hq).1
  have h2 := (hR.2.2.2.2.2.2.2 q hq).2.1
  have hts : ts q ≤ 50 := (hV.2.2 q hq).2.2.2.2.1
  unfold kSnd1 mSnd1
  by_cases c : q = r
  · rw [if_pos c, if_pos c]
    have e : (fun j => if j = q ∧ ¬ q = r then ts j + 1 else ts j) = ts := by
      funext j
      rw [if_neg (fun h => h.2 c)]
    rw [e]
    exact ⟨hV, hR, fun _ _ _ => rfl⟩
  · have e : (fun j => if j = q ∧ ¬ q = r then ts j + 1 else ts j) = (fun j => if j = q then ts j + 1 else ts j) := by
      funext j
      by_cases d : j = q
      · rw [if_pos ⟨d, c⟩, if_pos d]
      · rw [if_neg (fun h => d h.1), if_neg d]
    rw [if_neg c, if_neg c, e, h2, h1, nI_clamp (by omega)]
    obtain ⟨g1, g2⟩ := M_put hV hR hq (ht c) hm (hH c)
    exact ⟨g1, g2, fun j j1 j2 => by unfold kPut; rw [wU_n j1, wU_n j2]⟩
theorem M_snd (hV : kV V n ts wz) (hR : kR V W ts wz) (hr : r < 3) (ht : ∀ q, q < 3 → ¬ q = r → ts q < 50) (hm : kM n m) (hH : ∀ q, q < 3 → ¬ q = r → ∀ e, e < n → m = nI e → kH (V (6 * q + 10)) (V (6 * q + 12)) (V (6 * q + 14)) (ts q) (wz q) e = 0) :
    ∃ ts', (∀ q, q < 3 → ts' q = if q = r then ts q else ts q + 1) ∧ kV (kSnd V r m) n ts' wz ∧ kR (kSnd V r m) (mSnd W r m) ts' wz ∧ ∀ q, q < 3 → kSnd V r m (6 * q + 10) = V (6 * q + 10) := by
  obtain ⟨a1, a2, a3⟩ := M_snd1 (q := 0) hV hR (by omega) (ht 0 (by omega)) hm (hH 0 (by omega))
  obtain ⟨b1, b2, b3⟩ := M_snd1 (q := 1) (r := r) a1 a2 (by omega) (fun c => by rw [if_neg (by omega)]; exact ht 1 (by omega) c) hm (fun c => by rw [if_neg (by omega), a3 _ (by omega) (by omega), a3 _ (by omega) (by omega), a3 _ (by omega) (by omega)]; exact hH 1 (by omega) c)
  obtain ⟨c1, c2, c3⟩ := M_snd1 (q := 2) (r := r) b1 b2 (by omega) (fun c => by rw [if_neg (by omega), if_neg (by omega)]; exact ht 2 (by omega) c) hm (fun c => by rw [if_neg (by omega), if_neg (by omega), b3 _ (by omega) (by omega), b3 _ (by omega) (by omega), b3 _ (by omega) (by omega), a3 _ (by omega) (by omega), a3 _ (by omega) (by omega), a3 _ (by omega) (by omega)]; exact hH 2 (by omega) c)
  refine ⟨_, fun q hq => ?_, c1, c2, fun q hq => ?_⟩
  · rcases (show q = 0 ∨ q = 1 ∨ q = 2 by omega) with g | g | g <;> subst g <;> rcases (show r = 0 ∨ r = 1 ∨ r = 2 by omega) with g | g | g <;> subst g <;> rfl
  · unfold kSnd
    rw [c3 _ (by omega) (by omega), b3 _ (by omega) (by omega), a3 _ (by omega) (by omega)]
/-- erase -/
theorem Z_erase (hZ : kZ V W n ts wz) (hr : r < 3) (ht : ∀ q, q < 3 → ¬ q = r → ts q < 50) {e : Nat} (he : e < n) (h1 : V (6 * r + 10) e = 1) : ∃ ts', kZ (kSnd (wU V (6 * r + 10) e 2) r (-10 - nI e)) (mSnd (wU W 34 (30 * r + e) 2) r (-10 - nI e)) n ts' wz := by
  obtain ⟨hV, hS, hR⟩ := hZ
  have hn := kV_n hV
  obtain ⟨a1, a2⟩ := M_mark hV hR hr he (x := 2) (Or.inr ⟨rfl, by rw [h1]; decide⟩)
  obtain ⟨ts', b1, b2, b3, b4⟩ := M_snd a1 a2 hr ht ⟨e, he, Or.inr rfl⟩ (fun q hq c e' he' h => absurd h (kM_ne (by omega) (by omega)))
  refine ⟨ts', b2, fun q hq => ?_, b3⟩
  have hq2 := hS q hq
  have hu := kE_upd (ma := V (6 * r + 10)) (ma' := wU V (6 * r + 10) e 2 (6 * r + 10)) (e := e) (x := 2) (by omega) (fun j => by rw [wU_s]; rfl)
  rw [if_neg (by rw [h1]; decide), if_pos rfl] at hu
  have hE : ∀ q, q < 3 → kE (kSnd (wU V (6 * r + 10) e 2) r (-10 - nI e) (6 * q + 10)) = if q = r then kE (V (6 * r + 10)) + 1 else kE (V (6 * q + 10)) := fun q hq => by
    rw [b4 q hq]
    by_cases c : q = r
    · rw [if_pos c, c]
      exact hu
    · rw [if_neg c, wU_n (by omega)]
  show ts' q + wz q + kE (kSnd (wU V (6 * r + 10) e 2) r (-10 - nI e) (6 * q + 10)) ≤ n + (kE (kSnd (wU V (6 * r + 10) e 2) r (-10 - nI e) (6 * 0 + 10)) + kE (kSnd (wU V (6 * r + 10) e 2) r (-10 - nI e) (6 * 1 + 10)) + kE (kSnd (wU V (6 * r + 10) e 2) r (-10 - nI e) (6 * 2 + 10)))
  rw [hE q hq, hE 0 (by omega), hE 1 (by omega), hE 2 (by omega), b1 q hq]
  have hq3 : ts q + wz q + kE (V (6 * q + 10)) ≤ n + (kE (V (6 * 0 + 10)) + kE (V (6 * 1 + 10)) + kE (V (6 * 2 + 10))) := hq2
  rcases (show r = 0 ∨ r = 1 ∨ r = 2 by omega) with g | g | g <;> subst g <;> rcases (show q = 0 ∨ q = 1 ∨ q = 2 by omega) with g | g | g <;> subst g <;> simp at hq3 ⊢ <;> omega
/-- a new element in the tree -/
theorem M_add (hV : kV V n ts wz) (hR : kR V W ts wz) (hn : n < 30) (hr : r < 3) {ch p s o : Int32} (hp : z_el p n) (hs : s = 0 ∨ s = 1) (ho : z_el o n) (hsp : s = 0 → ¬ p = -1) :
    kV (kAdd V n (nI r) ch p s o) (n + 1) ts wz ∧ kR (kAdd V n (nI r) ch p s o) (mAdd W n (nI r) ch p s o) ts wz ∧ (∀ j, 8 ≤ j → kAdd V n (nI r) ch p s o j = V j) ∧ ∀ q, q < 3 → kH (V (6 * q + 10)) (V (6 * q + 12)) (V (6 * q + 14)) (ts q) (wz q) n = 0 := by
  obtain ⟨v1, v2, v3⟩ := hV
  obtain ⟨w0, w1, w2, w3, w4, w5, w6, w7⟩ := hR
  obtain ⟨t1, t2, t3⟩ := kT_ins v2 hn hr hp hs ho hsp (A := kAt V n (nI r) p s o) rfl
  have hAt : mAt W n (nI r) p s o = kAt V n (nI r) p s o := by
    unfold mAt
    rw [w1, w3, w4, w5, w6]
    exact t1.symm
  have hge : ∀ j, 8 ≤ j → kAdd V n (nI r) ch p s o j = V j := fun j hj => by
    unfold kAdd
    rw [wU_n (by omega), wS_n (by omega), wU_n (by omega), wU_n (by omega), wU_n (by omega), wU_n (by omega), wU_n (by omega)]
  have hgm : ∀ j, 34 ≤ j → mAdd W n (nI r) ch p s o j = W j := fun j hj => by
    unfold mAdd
    rw [wU_n (by omega), wS_n (by omega), wU_n (by omega), wU_n (by omega), wU_n (by omega), wU_n (by omega), wU_n (by omega)]
  have c1 : kAdd V n (nI r) ch p s o 1 0 = nI (n + 1) := by unfold kAdd; rw [wU_s, pk_us]
  have c2 : kAdd V n (nI r) ch p s o 2 = upd (V 2) n (nI r) := by unfold kAdd; simp [wU, wS]
  have c3 : kAdd V n (nI r) ch p s o 3 = upd (V 3) n ch := by unfold kAdd; simp [wU, wS]
  have c4 : kAdd V n (nI r) ch p s o 4 = upd (V 4) n p := by unfold kAdd; simp [wU, wS]
  have c5 : kAdd V n (nI r) ch p s o 5 = upd (V 5) n s := by unfold kAdd; simp [wU, wS]
  have c6 : kAdd V n (nI r) ch p s o 6 = upd (V 6) n o := by unfold kAdd; simp [wU, wS]
  have c7 : kAdd V n (nI r) ch p s o 7 = upd (z_shr (kAt V n (nI r) p s o) n (V 7)) (kAt V n (nI r) p s o) (nI n) := by unfold kAdd; simp [wU, wS]
  have d1 : mAdd W n (nI r) ch p s o 27 0 = nI (n + 1) := by unfold mAdd; rw [wU_s, pk_us]
  have d2 : mAdd W n (nI r) ch p s o 28 = upd (W 28) n (nI r) := by unfold mAdd; simp [wU, wS]
  have d3 : mAdd W n (nI r) ch p s o 29 = upd (W 29) n ch := by unfold mAdd; simp [wU, wS]
  have d4 : mAdd W n (nI r) ch p s o 30 = upd (W 30) n p := by unfold mAdd; simp [wU, wS]
  have d5 : mAdd W n (nI r) ch p s o 31 = upd (W 31) n s := by unfold mAdd; simp [wU, wS]
  have d6 : mAdd W n (nI r) ch p s o 32 = upd (W 32) n o := by unfold mAdd; simp [wU, wS]
  have d7 : mAdd W n (nI r) ch p s o 33 = upd (z_shr (mAt W n (nI r) p s o) n (W 33)) (mAt W n (nI r) p s o) (nI n) := by unfold mAdd; simp [wU, wS]
  refine ⟨⟨c1, ?_, fun q hq => ?_⟩, ⟨?_, ?_, ?_, ?_, ?_, ?_, ?_, fun q hq => ?_⟩, hge, fun q hq => (kJ_up hn (v3 q hq).2.2).2⟩
  · rw [c2, c4, c5, c6, c7]
    exact t3
  · rw [hge _ (by omega), hge _ (by omega), hge _ (by omega), hge _ (by omega), hge _ (by omega)]
    obtain ⟨a1, a2, a3⟩ := v3 q hq
    exact ⟨a1, a2, (kJ_up hn a3).1⟩
  · rw [c1, d1]
  · rw [c2, d2, w1]
  · rw [c3, d3, w2]
  · rw [c4, d4, w3]
  · rw [c5, d5, w4]
  · rw [c6, d6, w5]
  · rw [c7, d7, w6, hAt]
  · rw [hge _ (by omega), hge _ (by omega), hge _ (by omega), hge _ (by omega), hge _ (by omega), hgm _ (by omega), hgm _ (by omega), hgm _ (by omega), hgm _ (by omega), hgm _ (by omega)]
    exact w7 q hq
theorem kNxt_el (hV : kV V n ts wz) (r : Nat) (a : Int32) (hb : z_beh (V 7) n a ≤ n) : z_el (kNxt V n r a) n := by
  unfold kNxt
  obtain ⟨f1, f2, f3, f4⟩ := z_fnd_sp (fun p => !decide (V (6 * r + 10) (V 7 p).toNatClampNeg = 0)) (n - z_beh (V 7) n a) (z_beh (V 7) n a)
  by_cases c : z_fnd (fun p => !decide (V (6 * r + 10) (V 7 p).toNatClampNeg = 0)) (n - z_beh (V 7) n a) (z_beh (V 7) n a) = n
  · rw [if_pos c]
    exact Or.inl rfl
  · rw [if_neg c]
    obtain ⟨e, e1, e2, -⟩ := kV_od hV (show z_fnd (fun p => !decide (V (6 * r + 10) (V 7 p).toNatClampNeg = 0)) (n - z_beh (V 7) n a) (z_beh (V 7) n a) < n by omega)
    exact Or.inr ⟨e, e1, e2⟩
theorem z_beh_le (hV : kV V n ts wz) {a : Int32} (ha : z_el a n) : z_beh (V 7) n a ≤ n := by
  unfold z_beh
  have hn := kV_n hV
  rcases ha with g | ⟨e, e1, e2⟩
  · rw [if_pos g]
    exact Nat.zero_le n
  · rw [e2, if_neg (z_n1 (by omega))]
    have hI := hV.2.1.2.1
    obtain ⟨p, p1, p2⟩ := hI.2.1.2.1 (e + 1) (by omega) e1
    obtain ⟨e', g1, g2, -⟩ := kV_od hV p1
    have e3 : e' = e := by
      unfold z_od at p2
      rw [g2, z_nd_n (by omega)] at p2
      omega
    rw [e3] at g2
    obtain ⟨f1, f2, f3, f4⟩ := z_fnd_sp (fun p => decide (V 7 p = nI e)) n 0
    rcases Nat.lt_or_ge p (z_pl (V 7) n (nI e)) with g | g
    · have := f3 p (Nat.zero_le p) g
      rw [decide_eq_true g2] at this
      cases this
    · omega
theorem kHas_nxt (hV : kV V n ts wz) {a : Int32} (hh : kHas V n r a = true) : ¬ kNxt V n r a = -1 := by
  have hn := kV_n hV
  obtain ⟨e, e1, e2, e3⟩ := z_any_iff.mp hh
  simp only [Bool.and_eq_true, Bool.not_eq_true', decide_eq_false_iff_not, decide_eq_true_eq] at e3
  obtain ⟨b1, b2, b3⟩ := kT_beh hV.2.1 (show e < n by omega) e3.1.2 e3.2
  obtain ⟨f1, f2, f3, f4⟩ := z_fnd_sp (fun p => !decide (V (6 * r + 10) (V 7 p).toNatClampNeg = 0)) (n - z_beh (V 7) n a) (z_beh (V 7) n a)
  have hlt : z_fnd (fun p => !decide (V (6 * r + 10) (V 7 p).toNatClampNeg = 0)) (n - z_beh (V 7) n a) (z_beh (V 7) n a) < n := by
    rcases Nat.lt_or_ge (z_pl (V 7) n (nI e)) (z_fnd (fun p => !decide (V (6 * r + 10) (V 7 p).toNatClampNeg = 0)) (n - z_beh (V 7) n a) (z_beh (V 7) n a)) with g | g
    · have h := f3 _ b1 g
      simp only [b3, nI_clamp (show e < 2 ^ 31 by omega), Bool.not_eq_false', decide_eq_true_eq] at h
      exact absurd h e3.1.1
    · omega
  unfold kNxt
  rw [if_neg (by omega)]
  obtain ⟨e', g1, g2, -⟩ := kV_od hV hlt
  rw [g2]
  exact z_n1 (by omega)
/-- insert, behind a -/
def mMake (W : Nat → Nat → Int32) (n r : Nat) (a ch : Int32) : Nat → Nat → Int32 := mAdd W n (nI r) ch (if mHas W n r a = true then mNxt W n r a else a) (if mHas W n r a = true then 0 else 1) (mNxt W n r a)
theorem kMake_eq (V : Nat → Nat → Int32) (n r : Nat) (a ch : Int32) : kMake V n r a ch = kAdd V n (nI r) ch (if kHas V n r a = true then kNxt V n r a else a) (if kHas V n r a = true then 0 else 1) (kNxt V n r a) := by
  unfold kMake
  by_cases c : kHas V n r a = true
  · rw [if_pos c, if_pos c, if_pos c]
  · rw [if_neg c, if_neg c, if_neg c]
theorem Z_insert (hZ : kZ V W n ts wz) (hr : r < 3) (hn : n < 30) (ht : ∀ q, q < 3 → ¬ q = r → ts q < 50) {a ch : Int32} (ha : z_el a n) : ∃ ts', kZ (kSnd (wU (kMake V n r a ch) (6 * r + 10) n 1) r (nI n)) (mSnd (wU (mMake W n r a ch) 34 (30 * r + n) 1) r (nI n)) (n + 1) ts' wz := by
  obtain ⟨hV, hS, hR⟩ := hZ
  have hbl := z_beh_le hV ha
  have hx := kNxt_el hV r a hbl
  have hm : mMake W n r a ch = mAdd W n (nI r) ch (if kHas V n r a = true then kNxt V n r a else a) (if kHas V n r a = true then 0 else 1) (kNxt V n r a) := by
    unfold mMake
    rw [s_has hV hR hr, s_nxt hV hR hr]
  rw [kMake_eq, hm]
  obtain ⟨a1, a2, a3, a4⟩ := M_add (ch := ch) (p := if kHas V n r a = true then kNxt V n r a else a) (s := if kHas V n r a = true then 0 else 1) (o := kNxt V n r a) hV hR hn hr (by split; exact hx; exact ha) (by split; exact Or.inl rfl; exact Or.inr rfl) hx (fun h => by
    by_cases c : kHas V n r a = true
    · rw [if_pos c]; exact kHas_nxt hV c
    · rw [if_neg c] at h; exact absurd h (by decide))
  generalize kAdd V n (nI r) ch (if kHas V n r a = true then kNxt V n r a else a) (if kHas V n r a = true then 0 else 1) (kNxt V n r a) = V1 at a1 a2 a3 ⊢
  generalize mAdd W n (nI r) ch (if kHas V n r a = true then kNxt V n r a else a) (if kHas V n r a = true then 0 else 1) (kNxt V n r a) = W1 at a2 ⊢
  obtain ⟨b1, b2⟩ := M_mark a1 a2 hr (show n < n + 1 by omega) (x := 1) (Or.inl ⟨rfl, Or.inl (by rw [a3 _ (by omega), a3 _ (by omega), a3 _ (by omega)]; exact a4 r hr)⟩)
  obtain ⟨ts', c1, c2, c3, c4⟩ := M_snd b1 b2 hr ht ⟨n, by omega, Or.inl rfl⟩ (fun q hq c e he h => by
    have := z_inj (by omega) (by omega) h
    subst this
    rw [wU_n (by omega), wU_n (by omega), wU_n (by omega), a3 _ (by omega), a3 _ (by omega), a3 _ (by omega)]
    exact a4 q hq)
  refine ⟨ts', c2, fun q hq => ?_, c3⟩
  have h0 : V (6 * r + 10) n = 0 := (hV.2.2 r hr).2.2.2.1 n (Nat.le_refl n)
  have hu := kE_upd (ma := V (6 * r + 10)) (ma' := upd (V (6 * r + 10)) n 1) (e := n) (x := 1) (by omega) (fun j => rfl)
  rw [if_neg (by rw [h0]; decide), if_neg (by decide)] at hu
  have hE : ∀ q, q < 3 → kE (kSnd (wU V1 (6 * r + 10) n 1) r (nI n) (6 * q + 10)) = kE (V (6 * q + 10)) := fun q hq => by
    rw [c4 q hq]
    by_cases c : q = r
    · subst c
      rw [wU_s, a3 _ (by omega)]
      exact hu
    · rw [wU_n (by omega), a3 _ (by omega)]
  show ts' q + wz q + kE (kSnd (wU V1 (6 * r + 10) n 1) r (nI n) (6 * q + 10)) ≤ n + 1 + (kE (kSnd (wU V1 (6 * r + 10) n 1) r (nI n) (6 * 0 + 10)) + kE (kSnd (wU V1 (6 * r + 10) n 1) r (nI n) (6 * 1 + 10)) + kE (kSnd (wU V1 (6 * r + 10) n 1) r (nI n) (6 * 2 + 10)))
  rw [hE q hq, hE 0 (by omega), hE 1 (by omega), hE 2 (by omega), c1 q hq]
  have hq3 : ts q + wz q + kE (V (6 * q + 10)) ≤ n + (kE (V (6 * 0 + 10)) + kE (V (6 * 1 + 10)) + kE (V (6 * 2 + 10))) := hS q hq
  split <;> omega
/-- a message that is ready takes effect; it is out of tray and waiting already -/
theorem M_eff (hV : kV V n ts wz) (hR : kR V W ts wz) (hr : r < 3) (hm : kM n m) (hH : ∀ e, e < n → m = nI e → kH (V (6 * r + 10)) (V (6 * r + 12)) (V (6 * r + 14)) (ts r) (wz r) e = 0) (hrd : kRdy V r m = true)
    (hS : ∀ q, q < 3 → ts q + wz q + kE (V (6 * q + 10)) ≤ n + (kE (V (6 * 0 + 10)) + kE (V (6 * 1 + 10)) + kE (V (6 * 2 + 10)))) : kZ (kEff V r m) (mEff W r m) n ts wz := by
  have hn := kV_n hV
  have key : ∀ (e : Nat) (x : Int32), e < n → ((x = 1 ∧ V (6 * r + 10) e = 0) ∨ x = 2) → kV (wU V (6 * r + 10) e x) n ts wz → kR (wU V (6 * r + 10) e x) (wU W 34 (30 * r + e) x) ts wz → kZ (wU V (6 * r + 10) e x) (wU W 34 (30 * r + e) x) n ts wz := by
    intro e x he hx h1 h2
    refine ⟨h1, fun q hq => ?_, h2⟩
    have hu := kE_upd (ma := V (6 * r + 10)) (ma' := upd (V (6 * r + 10)) e x) (e := e) (x := x) (by omega) (fun j => rfl)
    have hge : kE (V (6 * r + 10)) ≤ kE (upd (V (6 * r + 10)) e x) := by
      rcases hx with ⟨g1, g2⟩ | g
      · rw [g2, g1, if_neg (by decide), if_neg (by decide)] at hu
        rw [g1]
        omega
      · rw [if_pos g] at hu
        split at hu <;> omega
    have hE : ∀ q, q < 3 → kE (wU V (6 * r + 10) e x (6 * q + 10)) = if q = r then kE (upd (V (6 * r + 10)) e x) else kE (V (6 * q + 10)) := fun q hq => by
      by_cases c : q = r
      · rw [if_pos c, c, wU_s]
      · rw [if_neg c, wU_n (by omega)]
    show ts q + wz q + kE (wU V (6 * r + 10) e x (6 * q + 10)) ≤ n + (kE (wU V (6 * r + 10) e x (6 * 0 + 10)) + kE (wU V (6 * r + 10) e x (6 * 1 + 10)) + kE (wU V (6 * r + 10) e x (6 * 2 + 10)))
    rw [hE q hq, hE 0 (by omega), hE 1 (by omega), hE 2 (by omega)]
    have hq3 := hS q hq
    rcases (show r = 0 ∨ r = 1 ∨ r = 2 by omega) with g | g | g <;> subst g <;> rcases (show q = 0 ∨ q = 1 ∨ q = 2 by omega) with g | g | g <;> subst g <;> simp at hq3 hge ⊢ <;> omega
  obtain ⟨e, e1, e2⟩ := hm
  unfold kEff mEff
  rcases e2 with g | g
  · have h0 := hH e e1 g
    rw [g, if_neg (kM_nle (by omega)), if_neg (kM_nle (by omega)), nI_clamp (by omega)]
    obtain ⟨a1, a2⟩ := M_mark hV hR hr e1 (x := 1) (Or.inl ⟨rfl, Or.inl h0⟩)
    refine key e 1 e1 (Or.inl ⟨rfl, ?_⟩) a1 a2
    unfold kH at h0
    by_cases c : V (6 * r + 10) e = 0
    · exact c
    · rw [if_neg c] at h0
      omega
  · unfold kRdy kStl at hrd
    rw [g, if_pos (kM_le (by omega)), kM_back (by omega), decide_eq_false (z_n1 (by omega)), nI_clamp (by omega)] at hrd
    have hne : ¬ V (6 * r + 10) e = 0 := fun q => by rw [decide_eq_true q] at hrd; cases hrd
    rw [g, if_pos (kM_le (by omega)), if_pos (kM_le (by omega)), kM_back (by omega), nI_clamp (by omega)]
    obtain ⟨a1, a2⟩ := M_mark hV hR hr e1 (x := 2) (Or.inr ⟨rfl, hne⟩)
    exact key e 2 e1 (Or.inr rfl) a1 a2
theorem kTake_o (V : Nat → Nat → Int32) {c s k j : Nat} (h1 : ¬ j = c) (h2 : ¬ j = c + 1) : kTake V c s k j = V j := by
  unfold kTake
  rw [wS_n h2, wU_n h1]
theorem kRdy_take (hr : r < 3) {c s k : Nat} (hc : c = 6 * r + 11 ∨ c = 6 * r + 13) : kRdy (kTake V c s k) r m = kRdy V r m := by
  unfold kRdy kStl
  rw [kTake_o V (by omega) (by omega), kTake_o V (by omega) (by omega), kTake_o V (by omega) (by omega)]
theorem mRdy_take {s k : Nat} : mRdy (mTake W r s k) r m = mRdy W r m ∧ mRdy (mTakeW W r s k) r m = mRdy W r m := by
  unfold mRdy mTake mTakeW
  constructor <;> simp [wS, wU]
theorem s_fst (hV : kV V n ts wz) (hR : kR V W ts wz) (hr : r < 3) : mFst W r (wz r) = kFst V r (wz r) := by
  unfold mFst kFst
  refine z_fnd_c (fun q _ hq => ?_)
  rw [(hR.2.2.2.2.2.2.2 r hr).2.2.2.2 q (by omega)]
  exact s_rdy hV hR hr ((hV.2.2 r hr).2.2.2.2.2.2.1 q (by omega))
/-- all that became ready takes effect -/
theorem Z_wake (hr : r < 3) : ∀ (f : Nat) (V W : Nat → Nat → Int32) (ts wz : Nat → Nat), kZ V W n ts wz → (kWk r f V (wz r)).2 = (mWk r f W (wz r)).2 ∧ ∃ wz', kZ (kWk r f V (wz r)).1 (mWk r f W (wz r)).1 n ts wz' := by
  intro f
  induction f with
  | zero => intro V W ts wz h; exact ⟨rfl, wz, h⟩
  | succ f ih =>
    intro V W ts wz h
    obtain ⟨hV, hS, hR⟩ := h
    have hf := s_fst hV hR hr
    have hk := (z_fnd_sp (fun k => kRdy V r (V (6 * r + 14) k)) (wz r) 0).2.1
    have hk2 := (z_fnd_sp (fun k => kRdy V r (V (6 * r + 14) k)) (wz r) 0).2.2.2
    unfold kWk mWk
    rw [hf]
    by_cases c : kFst V r (wz r) = wz r
    · rw [if_pos c, if_pos c]
      exact ⟨rfl, wz, hV, hS, hR⟩
    · rw [if_neg c, if_neg c]
      have hlt : kFst V r (wz r) < wz r := by
        unfold kFst at c ⊢
        omega
      have hrd : kRdy V r (V (6 * r + 14) (kFst V r (wz r))) = true := by
        rcases hk2 with g | g
        · unfold kFst at c
          omega
        · exact g
      have hw : ∀ q, q < 3 → wz q ≤ 90 := fun q hq => by have := kZ_90 hV hS hq; omega
      obtain ⟨⟨t1, t2⟩, t3, t4⟩ := M_takeW hV hR hr hw hlt
      have hwq : W 37 (90 * r + kFst V r (wz r)) = V (6 * r + 14) (kFst V r (wz r)) := (hR.2.2.2.2.2.2.2 r hr).2.2.2.2 _ hlt
      rw [hwq]
      have hz := M_eff (m := V (6 * r + 14) (kFst V r (wz r))) t1 t2 hr t3 (fun e he g => by
        rw [kTake_o V (by omega) (by omega), kTake_o V (by omega) (by omega), if_pos rfl]
        exact t4 e he g) (by rw [kRdy_take hr (Or.inr rfl)]; exact hrd) (fun q hq => by
        have hE : ∀ q, kE (kTake V (6 * r + 13) (wz r) (kFst V r (wz r)) (6 * q + 10)) = kE (V (6 * q + 10)) := fun q => by rw [kTake_o V (by omega) (by omega)]
        rw [hE, hE, hE, hE]
        have hq3 : ts q + wz q + kE (V (6 * q + 10)) ≤ n + (kE (V (6 * 0 + 10)) + kE (V (6 * 1 + 10)) + kE (V (6 * 2 + 10))) := hS q hq
        show ts q + (if q = r then wz q - 1 else wz q) + kE (V (6 * q + 10)) ≤ _
        split <;> omega)
      have h2 := ih _ _ ts _ hz
      rw [if_pos rfl] at h2
      exact ⟨congrArg (· + 1) h2.1, h2.2⟩
/-- deliver: the message waits, or takes effect and wakes others -/
theorem Z_deliver (hZ : kZ V W n ts wz) (hr : r < 3) {k : Nat} (hk : k < ts r) (hm : m = V (6 * r + 12) k) :
    W 35 (90 * r + k) = m ∧ kM n m ∧ mRdy (mTake W r (ts r) k) r m = kRdy (kTake V (6 * r + 11) (ts r) k) r m ∧ wz r < 90 ∧
    (kRdy (kTake V (6 * r + 11) (ts r) k) r m = false → ∃ ts' wz', kZ (kPut (kTake V (6 * r + 11) (ts r) k) (6 * r + 13) (wz r) m) (wU (wU (mTake W r (ts r) k) 37 (90 * r + wz r) m) 38 r (nI (wz r + 1))) n ts' wz') ∧
    (kRdy (kTake V (6 * r + 11) (ts r) k) r m = true → (kWk r (wz r) (kEff (kTake V (6 * r + 11) (ts r) k) r m) (wz r)).2 = (mWk r (wz r) (mEff (mTake W r (ts r) k) r m) (wz r)).2 ∧ ∃ ts' wz', kZ (kWk r (wz r) (kEff (kTake V (6 * r + 11) (ts r) k) r m) (wz r)).1 (mWk r (wz r) (mEff (mTake W r (ts r) k) r m) (wz r)).1 n ts' wz') := by
  obtain ⟨hV, hS, hR⟩ := hZ
  have h90 := kZ_90 hV hS hr
  have hw : ∀ q, q < 3 → wz q ≤ 90 := fun q hq => by have := kZ_90 hV hS hq; omega
  obtain ⟨⟨t1, t2⟩, t3, t4⟩ := M_take hV hR hr hk
  have hw35 : W 35 (90 * r + k) = m := by rw [hm]; exact (hR.2.2.2.2.2.2.2 r hr).2.2.1 k hk
  rw [← hm] at t3 t4
  have hE : ∀ q, kE (kTake V (6 * r + 11) (ts r) k (6 * q + 10)) = kE (V (6 * q + 10)) := fun q => by rw [kTake_o V (by omega) (by omega)]
  have hH : ∀ e, e < n → m = nI e → kH (kTake V (6 * r + 11) (ts r) k (6 * r + 10)) (kTake V (6 * r + 11) (ts r) k (6 * r + 12)) (kTake V (6 * r + 11) (ts r) k (6 * r + 14)) (if r = r then ts r - 1 else ts r) (wz r) e = 0 := fun e he g => by
    rw [kTake_o V (j := 6 * r + 10) (by omega) (by omega), kTake_o V (j := 6 * r + 14) (by omega) (by omega), if_pos rfl]
    exact t4 e he g
  refine ⟨hw35, t3, s_rdy t1 t2 hr t3, by omega, fun _ => ?_, fun hrd => ?_⟩
  · obtain ⟨b1, b2⟩ := M_putW t1 t2 hr (by omega) hw t3 hH
    refine ⟨_, _, b1, fun q hq => ?_, b2⟩
    have hP : ∀ q, kPut (kTake V (6 * r + 11) (ts r) k) (6 * r + 13) (wz r) m (6 * q + 10) = V (6 * q + 10) := fun q => by
      unfold kPut
      rw [wU_n (by omega), wU_n (by omega), kTake_o V (by omega) (by omega)]
    have hq3 : ts q + wz q + kE (V (6 * q + 10)) ≤ n + (kE (V (6 * 0 + 10)) + kE (V (6 * 1 + 10)) + kE (V (6 * 2 + 10))) := hS q hq
    show (if q = r then ts q - 1 else ts q) + (if q = r then wz q + 1 else wz q) + kE (kPut (kTake V (6 * r + 11) (ts r) k) (6 * r + 13) (wz r) m (6 * q + 10)) ≤ n + (kE (kPut (kTake V (6 * r + 11) (ts r) k) (6 * r + 13) (wz r) m (6 * 0 + 10)) + kE (kPut (kTake V (6 * r + 11) (ts r) k) (6 * r + 13) (wz r) m (6 * 1 + 10)) + kE (kPut (kTake V (6 * r + 11) (ts r) k) (6 * r + 13) (wz r) m (6 * 2 + 10)))
    rw [hP, hP, hP, hP]
    by_cases c : q = r
    · subst c
      rw [if_pos rfl, if_pos rfl]
      omega
    · rw [if_neg c, if_neg c]
      omega
  · have hz := M_eff t1 t2 hr t3 hH hrd (fun q hq => by
      rw [hE, hE, hE, hE]
      have hq3 : ts q + wz q + kE (V (6 * q + 10)) ≤ n + (kE (V (6 * 0 + 10)) + kE (V (6 * 1 + 10)) + kE (V (6 * 2 + 10))) := hS q hq
      show (if q = r then ts q - 1 else ts q) + wz q + kE (V (6 * q + 10)) ≤ _
      split <;> omega)
    obtain ⟨g1, wz', g2⟩ := Z_wake hr (wz r) _ _ _ _ hz
    exact ⟨g1, _, wz', g2⟩
end CA
