-- PURE: a new element: the two places are one, and the tree stays in order
section KT
variable {n : Nat} {mk pa sd ro od : Nat → Int32}
set_option maxRecDepth 100000 in
theorem kT_up (h : kT n mk pa sd ro od) (hn : n < 30) {r : Nat} (hr : r < 3) {p s o : Int32} (hp : z_el p n) (hs : s = 0 ∨ s = 1) (ho : z_el o n) : z_ok n (n + 1) od (upd pa n p) (upd sd n s) (upd ro n o) (upd mk n (nI r)) ∧ z_I n od (upd pa n p) (upd sd n s) (upd mk n (nI r)) := by
  obtain ⟨⟨k1, k2, k3, k4, k5, k6, k7, k8⟩, hI, hc⟩ := h
  refine ⟨⟨by omega, by omega, by omega, k4, fun e he => ?_, fun e he => ?_, fun e he => ?_, fun e he => ?_⟩, tt_I_c hI (fun _ _ => rfl) (fun v hv => ?_) (fun v h0 hv => ?_) (fun v h0 hv => ?_)⟩
  · rcases Nat.lt_or_ge e n with g | g
    · rw [pk_un (by omega)]; exact k5 e g
    · rw [show e = n by omega, pk_us]; exact hp
  · rcases Nat.lt_or_ge e n with g | g
    · rw [pk_un (by omega)]; exact k6 e g
    · rw [show e = n by omega, pk_us]; exact ho
  · rcases Nat.lt_or_ge e n with g | g
    · rw [pk_un (by omega)]; exact k7 e g
    · rw [show e = n by omega, pk_us]; exact hs
  · rcases Nat.lt_or_ge e n with g | g
    · rw [pk_un (by omega)]; exact k8 e g
    · rw [show e = n by omega, pk_us]; exact ⟨r, hr, rfl⟩
  · cases v with
    | zero => rw [z_par_0, z_par_0]
    | succ v => rw [z_par_s, z_par_s, pk_un (by omega)]
  · unfold z_rt
    rw [pk_un (by omega)]
  · unfold z_mk
    rw [pk_un (by omega)]
theorem kT_ins (h : kT n mk pa sd ro od) (hn : n < 30) {r : Nat} (hr : r < 3) {p s o : Int32} (hp : z_el p n) (hs : s = 0 ∨ s = 1) (ho : z_el o n) (hsp : s = 0 → ¬ p = -1) {A : Nat} (hA : A = z_plC od (upd pa n p) (upd sd n s) (upd ro n o) (upd mk n (nI r)) n n) :
    A = z_plR od (upd pa n p) (upd sd n s) (upd ro n o) (upd mk n (nI r)) n n ∧ A ≤ n ∧ kT (n + 1) (upd mk n (nI r)) (upd pa n p) (upd sd n s) (upd ro n o) (upd (z_shr A n od) A (nI n)) := by
  obtain ⟨hok, hI⟩ := kT_up h hn hr hp hs ho
  have hpl : z_plC od (upd pa n p) (upd sd n s) (upd ro n o) (upd mk n (nI r)) n n = z_plR od (upd pa n p) (upd sd n s) (upd ro n o) (upd mk n (nI r)) n n ∧ tt_pl n (z_od od) (z_par (upd pa n p)) (z_rt (upd sd n s)) (z_mk (upd mk n (nI r))) (z_nd (upd pa n p n)) (z_plC od (upd pa n p) (upd sd n s) (upd ro n o) (upd mk n (nI r)) n n) := by
    rcases hs with g | g
    · exact z_placeL hok hI (by rw [pk_us]; exact g) (by rw [pk_us]; exact hsp g)
    · exact z_placeR hok hI (by rw [pk_us]; exact g)
  rw [← hA] at hpl
  obtain ⟨h1, h2⟩ := hpl
  have hAn : A ≤ n := h2.1
  have hod : ∀ q, q ≤ n → upd (z_shr A n od) A (nI n) q = if q < A then od q else if q = A then nI n else od (q - 1) := by
    intro q hq
    rcases Nat.lt_trichotomy q A with g | g | g
    · rw [pk_un (by omega), z_shr_sp, if_neg (by omega), if_pos g]
    · rw [g, pk_us, if_neg (Nat.lt_irrefl A), if_pos rfl]
    · rw [pk_un (by omega), z_shr_sp, if_pos ⟨g, hq⟩, if_neg (by omega), if_neg (by omega)]
  refine ⟨h1, hAn, ?_, ?_, ?_⟩
  · obtain ⟨k1, k2, k3, k4, k5, k6, k7, k8⟩ := hok
    refine ⟨by omega, by omega, Nat.le_refl _, fun q hq => ?_, k5, k6, k7, k8⟩
    rw [hod q (by omega)]
    rcases Nat.lt_trichotomy q A with g | g | g
    · rw [if_pos g]
      obtain ⟨e, e1, e2⟩ := k4 q (by omega)
      exact ⟨e, by omega, e2⟩
    · rw [if_neg (by omega), if_pos g]
      exact ⟨n, Nat.lt_succ_self n, rfl⟩
    · rw [if_neg (by omega), if_neg (by omega)]
      obtain ⟨e, e1, e2⟩ := k4 (q - 1) (by omega)
      exact ⟨e, by omega, e2⟩
  · refine tt_I_c (tt_insI hI h2) (fun q hq => ?_) (fun _ _ => rfl) (fun _ _ _ => rfl) (fun _ _ _ => rfl)
    unfold z_od
    rw [hod q (by omega)]
    unfold tt_ins
    rcases Nat.lt_trichotomy q A with g | g | g
    · rw [if_pos g, if_pos g]
    · rw [if_neg (by omega), if_pos g, if_neg (by omega), if_pos g, z_nd_n (by omega)]
    · rw [if_neg (by omega), if_neg (by omega), if_neg (by omega), if_neg (by omega)]
  · intro P
    have hc := h.2.2 P
    have h3 := z_in_num (fun q => P (od q).toNatClampNeg) A (P n) (n - A)
    rw [show A + (n - A) = n by omega, hc] at h3
    rw [z_num_s P n, ← h3]
    refine z_num_c (fun q hq => ?_)
    show P (upd (z_shr A n od) A (nI n) q).toNatClampNeg = z_in (fun q => P (od q).toNatClampNeg) A (P n) q
    rw [hod q (by omega)]
    unfold z_in
    rcases Nat.lt_trichotomy q A with g | g | g
    · rw [if_pos g, if_pos g]
    · rw [if_neg (by omega), if_pos g, if_neg (by omega), if_pos g, nI_clamp (by omega)]
    · rw [if_neg (by omega), if_neg (by omega), if_neg (by omega), if_neg (by omega)]
/-- a known right child of a stands behind a: so something known does -/
theorem kT_beh (h : kT n mk pa sd ro od) {a : Int32} {e : Nat} (he : e < n) (hpa : pa e = a) (hsd : sd e = 1) : z_beh od n a ≤ z_pl od n (nI e) ∧ z_pl od n (nI e) < n ∧ od (z_pl od n (nI e)) = nI e := by
  obtain ⟨hok, hI, hc⟩ := h
  have hok' := hok
  obtain ⟨k1, k2, k3, k4, k5, k6, k7, k8⟩ := hok'
  have hfind : ∀ e, e < n → z_pl od n (nI e) < n ∧ od (z_pl od n (nI e)) = nI e := by
    intro e he
    obtain ⟨p, p1, p2⟩ := hI.2.1.2.1 (e + 1) (by omega) he
    obtain ⟨e', e1, e2⟩ := k4 p p1
    have e3 : e' = e := by
      unfold z_od at p2
      rw [e2, z_nd_n (by omega)] at p2
      omega
    rw [e3] at e2
    obtain ⟨f1, f2, f3, f4⟩ := z_fnd_sp (fun p => decide (od p = nI e)) n 0
    have hlt : z_pl od n (nI e) < n := by
      rcases Nat.lt_or_ge p (z_pl od n (nI e)) with g | g
      · have := f3 p (Nat.zero_le p) g
        rw [decide_eq_true e2] at this
        cases this
      · omega
    refine ⟨hlt, ?_⟩
    rcases f4 with g | g
    · unfold z_pl at hlt
      omega
    · exact of_decide_eq_true g
  obtain ⟨q1, q2⟩ := hfind e he
  refine ⟨?_, q1, q2⟩
  unfold z_beh
  rcases k5 e he with g | ⟨b, b1, b2⟩
  · rw [← hpa, g, if_pos rfl]
    exact Nat.zero_le _
  · rw [← hpa, b2, if_neg (z_n1 (by omega))]
    obtain ⟨r1, r2⟩ := hfind b (by omega)
    have := (hI.2.2.2.2.1 (e + 1) (z_pl od n (nI b)) (z_pl od n (nI e)) (by omega) he r1 q1 (by unfold z_od; rw [r2, z_par_s, b2]) (by unfold z_od; rw [q2, z_nd_n (by omega)]; exact tt_rf _)).1 (decide_eq_true hsd)
    exact this
end KT
