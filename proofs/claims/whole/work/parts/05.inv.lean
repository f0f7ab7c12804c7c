-- PURE: what holds of the numbers between two calls, and that each change keeps it
theorem tt_I_c {n : Nat} {od par od' par' : Nat → Nat} {rt rt' : Nat → Bool} {mk mk' : Nat → Nat} (h : tt_I n od par rt mk) (ho : ∀ p, p < n → od' p = od p) (hp : ∀ v, v ≤ n → par' v = par v) (hr : ∀ v, 0 < v → v ≤ n → rt' v = rt v) (hm : ∀ v, 0 < v → v ≤ n → mk' v = mk v) : tt_I n od' par' rt' mk' := by
  obtain ⟨hd, ⟨hi1, hi2, hi3⟩, hR, hC, hB, hS⟩ := h
  have hbl : ∀ p a, p < n → (tt_bel par' (od' p) a ↔ tt_bel par (od p) a) := fun p a h => by
    rw [ho p h]
    exact tt_belc hd hp (hi1 p h).2
  refine ⟨⟨by rw [hp 0 (Nat.zero_le n)]; exact hd.1, fun v h1 h2 => by rw [hp v h2]; exact hd.2 v h1 h2⟩, ⟨fun p h => by rw [ho p h]; exact hi1 p h, fun v h1 h2 => ?_, fun p q h1 h2 h3 => ?_⟩, fun c c0 cn hc => ?_, fun a p q r h1 h2 h3 h4 h5 => ?_, fun c p q c0 cn h1 h2 h3 h4 => ?_, fun c c' q q' c0 cn c0' cn' h1 h2 h3 h4 h5 h6 h7 => ?_⟩
  · obtain ⟨p, e1, e2⟩ := hi2 v h1 h2
    exact ⟨p, e1, by rw [ho p e1]; exact e2⟩
  · rw [ho p h1, ho q h2] at h3
    exact hi3 p q h1 h2 h3
  · rw [hr c c0 cn]
    rw [hp c cn] at hc
    exact hR c c0 cn hc
  · rw [hbl _ _ (by omega)] at h4 h5 ⊢
    exact hC a p q r h1 h2 h3 h4 h5
  · rw [hbl _ _ h2] at h4
    rw [ho p h1, hp c cn] at h3
    rw [hr c c0 cn]
    exact hB c p q c0 cn h1 h2 h3 h4
  · rw [hbl _ _ (by omega)] at h6 h7
    rw [hp c cn, hp c' cn'] at h1
    rw [hr c c0 cn] at h2
    rw [hr c' c0' cn'] at h3
    rw [hm c c0 cn, hm c' c0' cn']
    exact hS c c' q q' c0 cn c0' cn' h1 h2 h3 h4 h5 h6 h7
def kM (n : Nat) (c : Int32) : Prop := ∃ e, e < n ∧ (c = nI e ∨ c = -10 - nI e)
def kE (ma : Nat → Int32) : Nat := z_num (fun e => decide (ma e = 2)) 30
def kH (ma tc wc : Nat → Int32) (ts wz e : Nat) : Nat := z_num (fun k => decide (tc k = nI e)) ts + z_num (fun k => decide (wc k = nI e)) wz + (if ma e = 0 then 0 else 1)
/-- one replica's marks and messages -/
def kJ (n : Nat) (ma tc wc : Nat → Int32) (ts wz : Nat) : Prop :=
  (∀ e, e < n → ma e = 0 ∨ ma e = 1 ∨ ma e = 2) ∧ (∀ e, n ≤ e → ma e = 0) ∧ ts ≤ 50 ∧ (∀ k, k < ts → kM n (tc k)) ∧ (∀ k, k < wz → kM n (wc k)) ∧ ∀ e, e < n → kH ma tc wc ts wz e ≤ 1
/-- how many messages there can be -/
def kS (n : Nat) (ma : Nat → Nat → Int32) (ts wz : Nat → Nat) : Prop := ∀ r, r < 3 → ts r + wz r + kE (ma r) ≤ n + (kE (ma 0) + kE (ma 1) + kE (ma 2))
/-- the tree and its row -/
def kT (n : Nat) (mk pa sd ro od : Nat → Int32) : Prop :=
  z_ok n n od pa sd ro mk ∧ z_I n od pa sd mk ∧ ∀ P : Nat → Bool, z_num (fun p => P (od p).toNatClampNeg) n = z_num P n
theorem kM_int {e : Nat} (he : e < 1000) : (-10 - nI e : Int32).toInt = -10 - e := by
  rw [Int32.toInt_sub, nI_toInt (by omega), show (-10 : Int32).toInt = -10 by decide]
  exact Int.bmod_eq_of_le (by omega) (by omega)
theorem kM_ne {e e' : Nat} (he : e < 1000) (he' : e' < 1000) : ¬ (-10 - nI e : Int32) = nI e' := fun q => by
  have h1 := congrArg Int32.toInt q
  rw [kM_int he, nI_toInt (by omega)] at h1
  omega
theorem kM_le {e : Nat} (he : e < 1000) : (-10 - nI e : Int32) ≤ -10 := by
  rw [Int32.le_iff_toInt_le, kM_int he, show (-10 : Int32).toInt = -10 by decide]
  omega
theorem kM_nle {e : Nat} (he : e < 1000) : ¬ nI e ≤ -10 := by
  rw [Int32.le_iff_toInt_le, nI_toInt (by omega), show (-10 : Int32).toInt = -10 by decide]
  omega
theorem kM_back {e : Nat} (he : e < 1000) : (-10 - (-10 - nI e) : Int32) = nI e := by
  refine Int32.toInt_inj.mp ?_
  rw [Int32.toInt_sub, kM_int he, nI_toInt (by omega), show (-10 : Int32).toInt = -10 by decide]
  rw [Int.bmod_eq_of_le (by omega) (by omega)]
  omega
theorem kM_up {n : Nat} {c : Int32} (h : kM n c) : kM (n + 1) c := by
  obtain ⟨e, h1, h2⟩ := h
  exact ⟨e, by omega, h2⟩
section KJ
variable {n : Nat} {ma tc wc ma' tc' wc' : Nat → Int32} {ts wz k e : Nat} {c x : Int32}
theorem kE_le (hn : n ≤ 30) (h : ∀ e, n ≤ e → ma e = 0) : kE ma ≤ n := by
  unfold kE
  have hz : ∀ k, z_num (fun e => decide (ma e = 2)) (n + k) = z_num (fun e => decide (ma e = 2)) n := by
    intro k
    induction k with
    | zero => rfl
    | succ k ih =>
      rw [← Nat.add_assoc, z_num_s, ih, if_neg]
      · rfl
      · rw [h (n + k) (by omega)]
        decide
  have h2 := hz (30 - n)
  rw [show n + (30 - n) = 30 by omega] at h2
  rw [h2]
  exact z_num_le _ n
theorem kS_90 {ma : Nat → Nat → Int32} {ts wz : Nat → Nat} (hS : kS n ma ts wz) (hn : n ≤ 30) (h : ∀ r, r < 3 → ∀ e, n ≤ e → ma r e = 0) {r : Nat} (hr : r < 3) : ts r + wz r ≤ 90 := by
  have h3 := hS r hr
  have h0 := kE_le hn (h 0 (by omega))
  have h1 := kE_le hn (h 1 (by omega))
  have h2 := kE_le hn (h 2 (by omega))
  rcases (show r = 0 ∨ r = 1 ∨ r = 2 by omega) with g | g | g <;> subst g <;> omega
theorem kE_upd (he : e < 30) (h : ∀ j, ma' j = if j = e then x else ma j) : kE ma' + (if ma e = 2 then 1 else 0) = kE ma + (if x = 2 then 1 else 0) := by
  have h1 := z_one (fun j => decide (ma j = 2)) (fun j => decide (ma' j = 2)) e (fun j hj => by rw [h j, if_neg hj]) 30 he
  have e1 : ma' e = x := by rw [h e, if_pos rfl]
  unfold kE
  simp only [decide_eq_true_eq, e1] at h1
  exact h1
/-- a message is taken out of the tray -/
theorem kJ_takeT (hJ : kJ n ma tc wc ts wz) (hk : k < ts) (h1 : ∀ j, j < k → tc' j = tc j) (h2 : ∀ j, k ≤ j → j < ts - 1 → tc' j = tc (j + 1)) : kJ n ma tc' wc (ts - 1) wz ∧ kM n (tc k) ∧ ∀ e, e < n → tc k = nI e → kH ma tc' wc (ts - 1) wz e = 0 := by
  obtain ⟨j1, j2, j3, j4, j5, j6⟩ := hJ
  have ht : ∀ e, kH ma tc' wc (ts - 1) wz e + (if tc k = nI e then 1 else 0) = kH ma tc wc ts wz e := fun e => by
    have h := z_take (fun y : Int32 => decide (y = nI e)) hk h1 h2
    simp only [decide_eq_true_eq] at h
    unfold kH
    omega
  refine ⟨⟨j1, j2, by omega, fun j hj => ?_, j5, fun e he => ?_⟩, j4 k hk, fun e he hc => ?_⟩
  · rcases Nat.lt_or_ge j k with g | g
    · rw [h1 j g]; exact j4 j (by omega)
    · rw [h2 j g hj]; exact j4 (j + 1) (by omega)
  · have := ht e
    have := j6 e he
    omega
  · have h := ht e
    rw [if_pos hc] at h
    have := j6 e he
    omega
/-- a message is taken out of the waiting ones -/
theorem kJ_takeW (hJ : kJ n ma tc wc ts wz) (hk : k < wz) (h1 : ∀ j, j < k → wc' j = wc j) (h2 : ∀ j, k ≤ j → j < wz - 1 → wc' j = wc (j + 1)) : kJ n ma tc wc' ts (wz - 1) ∧ kM n (wc k) ∧ ∀ e, e < n → wc k = nI e → kH ma tc wc' ts (wz - 1) e = 0 := by
  obtain ⟨j1, j2, j3, j4, j5, j6⟩ := hJ
  have ht : ∀ e, kH ma tc wc' ts (wz - 1) e + (if wc k = nI e then 1 else 0) = kH ma tc wc ts wz e := fun e => by
    have h := z_take (fun y : Int32 => decide (y = nI e)) hk h1 h2
    simp only [decide_eq_true_eq] at h
    unfold kH
    omega
  refine ⟨⟨j1, j2, j3, j4, fun j hj => ?_, fun e he => ?_⟩, j5 k hk, fun e he hc => ?_⟩
  · rcases Nat.lt_or_ge j k with g | g
    · rw [h1 j g]; exact j5 j (by omega)
    · rw [h2 j g hj]; exact j5 (j + 1) (by omega)
  · have := ht e
    have := j6 e he
    omega
  · have h := ht e
    rw [if_pos hc] at h
    have := j6 e he
    omega
/-- a message comes into the tray -/
theorem kJ_addT (hJ : kJ n ma tc wc ts wz) (ht : ts < 50) (hc : kM n c) (hn : ∀ e, e < n → c = nI e → kH ma tc wc ts wz e = 0) (h1 : ∀ j, j < ts → tc' j = tc j) (h2 : tc' ts = c) : kJ n ma tc' wc (ts + 1) wz := by
  obtain ⟨j1, j2, j3, j4, j5, j6⟩ := hJ
  refine ⟨j1, j2, by omega, fun j hj => ?_, j5, fun e he => ?_⟩
  · rcases Nat.lt_or_ge j ts with g | g
    · rw [h1 j g]; exact j4 j g
    · rw [show j = ts by omega, h2]; exact hc
  · have h := z_app (fun y : Int32 => decide (y = nI e)) h1
    simp only [decide_eq_true_eq, h2] at h
    have hj := j6 e he
    have hn2 := hn e he
    unfold kH at hj hn2 ⊢
    rw [h]
    by_cases g : c = nI e
    · have := hn2 g
      rw [if_pos g]
      omega
    · rw [if_neg g]
      omega
/-- a message comes to the waiting ones -/
theorem kJ_addW (hJ : kJ n ma tc wc ts wz) (hc : kM n c) (hn : ∀ e, e < n → c = nI e → kH ma tc wc ts wz e = 0) (h1 : ∀ j, j < wz → wc' j = wc j) (h2 : wc' wz = c) : kJ n ma tc wc' ts (wz + 1) := by
  obtain ⟨j1, j2, j3, j4, j5, j6⟩ := hJ
  refine ⟨j1, j2, j3, j4, fun j hj => ?_, fun e he => ?_⟩
  · rcases Nat.lt_or_ge j wz with g | g
    · rw [h1 j g]; exact j5 j g
    · rw [show j = wz by omega, h2]; exact hc
  · have h := z_app (fun y : Int32 => decide (y = nI e)) h1
    simp only [decide_eq_true_eq, h2] at h
    have hj := j6 e he
    have hn2 := hn e he
    unfold kH at hj hn2 ⊢
    rw [h]
    by_cases g : c = nI e
    · have := hn2 g
      rw [if_pos g]
      omega
    · rw [if_neg g]
      omega
/-- a mark is set -/
theorem kJ_mark (hJ : kJ n ma tc wc ts wz) (he : e < n) (hx : (x = 1 ∧ (kH ma tc wc ts wz e = 0 ∨ ¬ ma e = 0)) ∨ (x = 2 ∧ ¬ ma e = 0)) (h : ∀ j, ma' j = if j = e then x else ma j) : kJ n ma' tc wc ts wz := by
  obtain ⟨j1, j2, j3, j4, j5, j6⟩ := hJ
  refine ⟨fun j hj => ?_, fun j hj => ?_, j3, j4, j5, fun j hj => ?_⟩
  · rw [h j]
    by_cases g : j = e
    · rw [if_pos g]
      rcases hx with ⟨g, -⟩ | ⟨g, -⟩
      · exact Or.inr (Or.inl g)
      · exact Or.inr (Or.inr g)
    · rw [if_neg g]
      exact j1 j hj
  · rw [h j, if_neg (by omega)]
    exact j2 j hj
  · have hj6 := j6 j hj
    unfold kH at hj6 hx ⊢
    rw [h j]
    by_cases g : j = e
    · subst g
      rw [if_pos rfl]
      have hx0 : ¬ x = 0 := by
        rcases hx with ⟨g, -⟩ | ⟨g, -⟩ <;> rw [g] <;> decide
      rw [if_neg hx0]
      rcases hx with ⟨-, g | g⟩ | ⟨-, g⟩
      · omega
      · rw [if_neg g] at hj6
        exact hj6
      · rw [if_neg g] at hj6
        exact hj6
    · rw [if_neg g]
      exact hj6
/-- one more element -/
theorem kJ_up (hn : n < 30) (hJ : kJ n ma tc wc ts wz) : kJ (n + 1) ma tc wc ts wz ∧ kH ma tc wc ts wz n = 0 := by
  obtain ⟨j1, j2, j3, j4, j5, j6⟩ := hJ
  have hno : ∀ c, kM n c → ¬ c = nI n := fun c ⟨e, e1, e2⟩ q => by
    rcases e2 with g | g
    · rw [g] at q
      have := z_inj (by omega) (by omega) q
      omega
    · rw [g] at q
      exact kM_ne (by omega) (by omega) q
  have h0 : kH ma tc wc ts wz n = 0 := by
    unfold kH
    rw [if_pos (j2 n (Nat.le_refl n)), z_num_0 (fun k hk => decide_eq_false (hno _ (j4 k hk))), z_num_0 (fun k hk => decide_eq_false (hno _ (j5 k hk)))]
  refine ⟨⟨fun e he => ?_, fun e he => j2 e (by omega), j3, fun k hk => kM_up (j4 k hk), fun k hk => kM_up (j5 k hk), fun e he => ?_⟩, h0⟩
  · rcases Nat.lt_or_ge e n with g | g
    · exact j1 e g
    · exact Or.inl (j2 e g)
  · rcases Nat.lt_or_ge e n with g | g
    · exact j6 e g
    · rw [show e = n by omega, h0]
      omega
theorem kJ_c (hJ : kJ n ma tc wc ts wz) (h1 : ∀ e, ma' e = ma e) (h2 : ∀ k, k < ts → tc' k = tc k) (h3 : ∀ k, k < wz → wc' k = wc k) : kJ n ma' tc' wc' ts wz := by
  obtain ⟨j1, j2, j3, j4, j5, j6⟩ := hJ
  refine ⟨fun e he => by rw [h1]; exact j1 e he, fun e he => by rw [h1]; exact j2 e he, j3, fun k hk => by rw [h2 k hk]; exact j4 k hk, fun k hk => by rw [h3 k hk]; exact j5 k hk, fun e he => ?_⟩
  have := j6 e he
  unfold kH at this ⊢
  rw [h1, z_num_c (P := fun k => decide (tc' k = nI e)) (P' := fun k => decide (tc k = nI e)) (fun q hq => by rw [h2 q hq]), z_num_c (P := fun k => decide (wc' k = nI e)) (P' := fun k => decide (wc k = nI e)) (fun q hq => by rw [h3 q hq])]
  exact this
end KJ
