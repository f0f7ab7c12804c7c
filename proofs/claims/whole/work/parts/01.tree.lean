-- PURE: a tree by 'par' on nodes 0 (the root) .. n; 'below'; a row of the nodes; where a new node goes, and that the row stays in order
def tt_it (par : Nat → Nat) : Nat → Nat → Nat
  | 0, v => v
  | k + 1, v => tt_it par k (par v)
theorem tt_it_add (par : Nat → Nat) (j : Nat) : ∀ (i v : Nat), tt_it par (i + j) v = tt_it par j (tt_it par i v)
  | 0, v => by rw [Nat.zero_add]; rfl
  | i + 1, v => by
    rw [show i + 1 + j = (i + j) + 1 by omega]
    show tt_it par (i + j) (par v) = tt_it par j (tt_it par i (par v))
    exact tt_it_add par j i (par v)
def tt_bel (par : Nat → Nat) (v t : Nat) : Prop := ∃ k, tt_it par k v = t
section TT1
variable {par : Nat → Nat} {N v t a b c c' : Nat}
theorem tt_rf (v : Nat) : tt_bel par v v := ⟨0, rfl⟩
theorem tt_tr (h1 : tt_bel par a b) (h2 : tt_bel par b c) : tt_bel par a c := by
  obtain ⟨i, hi⟩ := h1
  obtain ⟨j, hj⟩ := h2
  exact ⟨i + j, by rw [tt_it_add, hi]; exact hj⟩
theorem tt_up (h : tt_bel par (par v) t) : tt_bel par v t := by
  obtain ⟨k, hk⟩ := h
  exact ⟨k + 1, hk⟩
theorem tt_cs (h : tt_bel par v t) : v = t ∨ tt_bel par (par v) t := by
  obtain ⟨k, hk⟩ := h
  cases k with
  | zero => exact Or.inl hk
  | succ k => exact Or.inr ⟨k, hk⟩
theorem tt_lin (h1 : tt_bel par v a) (h2 : tt_bel par v b) : tt_bel par a b ∨ tt_bel par b a := by
  obtain ⟨i, hi⟩ := h1
  obtain ⟨j, hj⟩ := h2
  rcases Nat.le_total i j with h | h
  · left
    exact ⟨j - i, by rw [← hi, ← tt_it_add, show i + (j - i) = j by omega]; exact hj⟩
  · right
    exact ⟨i - j, by rw [← hj, ← tt_it_add, show j + (i - j) = i by omega]; exact hi⟩
def tt_dn (par : Nat → Nat) (N : Nat) : Prop := par 0 = 0 ∧ ∀ v, 0 < v → v ≤ N → par v < v
theorem tt_ple (hd : tt_dn par N) (hv : v ≤ N) : par v ≤ v := by
  rcases Nat.eq_zero_or_pos v with h | h
  · subst h
    rw [hd.1]
    exact Nat.le_refl 0
  · exact Nat.le_of_lt (hd.2 v h hv)
theorem tt_le (hd : tt_dn par N) (hv : v ≤ N) (h : tt_bel par v t) : t ≤ v := by
  obtain ⟨k, hk⟩ := h
  have key : ∀ (k v : Nat), v ≤ N → tt_it par k v = t → t ≤ v := by
    intro k
    induction k with
    | zero => intro v _ hk; exact Nat.le_of_eq hk.symm
    | succ k ih =>
      intro v hv hk
      have h1 := tt_ple hd hv
      exact Nat.le_trans (ih (par v) (Nat.le_trans h1 hv) hk) h1
  exact key k v hv hk
theorem tt_anti (hd : tt_dn par N) (ha : a ≤ N) (h1 : tt_bel par a b) (h2 : tt_bel par b a) : a = b := by
  have h3 := tt_le hd ha h1
  have h4 := tt_le hd (Nat.le_trans h3 ha) h2
  omega
theorem tt_root (hd : tt_dn par N) : ∀ (v : Nat), v ≤ N → tt_bel par v 0 := by
  intro v
  induction v using Nat.strongRecOn with
  | _ v ih =>
    intro hv
    rcases Nat.eq_zero_or_pos v with h | h
    · subst h
      exact tt_rf 0
    · have h1 := hd.2 v h hv
      exact tt_up (ih (par v) h1 (by omega))
/-- the child of t that v is or hangs below -/
theorem tt_brx (hd : tt_dn par N) (hv : v ≤ N) (h : tt_bel par v t) (hne : v ≠ t) : ∃ c, 0 < c ∧ c ≤ v ∧ tt_bel par v c ∧ par c = t := by
  obtain ⟨k, hk⟩ := h
  have key : ∀ (k v : Nat), v ≤ N → tt_it par k v = t → v ≠ t → ∃ c, 0 < c ∧ c ≤ v ∧ tt_bel par v c ∧ par c = t := by
    intro k
    induction k with
    | zero => intro v _ hk hne; exact absurd hk hne
    | succ k ih =>
      intro v hv hk hne
      have h1 := tt_ple hd hv
      by_cases hp : par v = t
      · refine ⟨v, ?_, Nat.le_refl v, tt_rf v, hp⟩
        rcases Nat.eq_zero_or_pos v with h | h
        · subst h
          rw [hd.1] at hp
          exact absurd hp hne
        · exact h
      · obtain ⟨c, e1, e2, e3, e4⟩ := ih (par v) (Nat.le_trans h1 hv) hk hp
        exact ⟨c, e1, Nat.le_trans e2 h1, tt_up e3, e4⟩
  exact key k v hv hk hne
theorem tt_bru (hd : tt_dn par N) (hv : v ≤ N) (h1 : tt_bel par v c) (h2 : tt_bel par v c') (p1 : 0 < c) (p2 : 0 < c') (q1 : par c = t) (q2 : par c' = t) : c = c' := by
  have l1 := tt_le hd hv h1
  have l2 := tt_le hd hv h2
  have d1 := hd.2 c p1 (by omega)
  have d2 := hd.2 c' p2 (by omega)
  rcases tt_lin h1 h2 with h | h
  · rcases tt_cs h with h | h
    · exact h
    · rw [q1] at h
      have := tt_le hd (by omega) h
      omega
  · rcases tt_cs h with h | h
    · exact h.symm
    · rw [q2] at h
      have := tt_le hd (by omega) h
      omega
theorem tt_itc {par' : Nat → Nat} (hd : tt_dn par N) (he : ∀ u, u ≤ N → par' u = par u) : ∀ (k v : Nat), v ≤ N → tt_it par' k v = tt_it par k v := by
  intro k
  induction k with
  | zero => intro v _; rfl
  | succ k ih =>
    intro v hv
    show tt_it par' k (par' v) = tt_it par k (par v)
    rw [he v hv]
    exact ih (par v) (Nat.le_trans (tt_ple hd hv) hv)
theorem tt_belc {par' : Nat → Nat} (hd : tt_dn par N) (he : ∀ u, u ≤ N → par' u = par u) (hv : v ≤ N) : tt_bel par' v t ↔ tt_bel par v t := by
  constructor
  · rintro ⟨k, hk⟩
    exact ⟨k, by rw [← tt_itc hd he k v hv]; exact hk⟩
  · rintro ⟨k, hk⟩
    exact ⟨k, by rw [tt_itc hd he k v hv]; exact hk⟩
end TT1
def tt_in (n : Nat) (od : Nat → Nat) : Prop := (∀ p, p < n → 0 < od p ∧ od p ≤ n) ∧ (∀ v, 0 < v → v ≤ n → ∃ p, p < n ∧ od p = v) ∧ ∀ p q, p < n → q < n → od p = od q → p = q
def tt_C (n : Nat) (od par : Nat → Nat) : Prop := ∀ a p q r, p < q → q < r → r < n → tt_bel par (od p) a → tt_bel par (od r) a → tt_bel par (od q) a
def tt_B (n : Nat) (od par : Nat → Nat) (rt : Nat → Bool) : Prop := ∀ c p q, 0 < c → c ≤ n → p < n → q < n → od p = par c → tt_bel par (od q) c → (rt c = true → p < q) ∧ (rt c = false → q < p)
def tt_S (n : Nat) (od par : Nat → Nat) (rt : Nat → Bool) (mk : Nat → Nat) : Prop := ∀ c c' q q', 0 < c → c ≤ n → 0 < c' → c' ≤ n → par c = par c' → rt c = false → rt c' = false → q < q' → q' < n → tt_bel par (od q) c → tt_bel par (od q') c' → mk c ≤ mk c'
def tt_R (n : Nat) (par : Nat → Nat) (rt : Nat → Bool) : Prop := ∀ c, 0 < c → c ≤ n → par c = 0 → rt c = true
def tt_I (n : Nat) (od par : Nat → Nat) (rt : Nat → Bool) (mk : Nat → Nat) : Prop := tt_dn par n ∧ tt_in n od ∧ tt_R n par rt ∧ tt_C n od par ∧ tt_B n od par rt ∧ tt_S n od par rt mk
/-- the place is in a branch of t whose head satisfies bef -/
def tt_Q (od par : Nat → Nat) (bef : Nat → Prop) (t q : Nat) : Prop := ∃ c, 0 < c ∧ par c = t ∧ tt_bel par (od q) c ∧ bef c
/-- where a walk to the right stops: s is the first place behind t -/
def tt_AR (n : Nat) (od par : Nat → Nat) (bef : Nat → Prop) (t s A : Nat) : Prop := s ≤ A ∧ A ≤ n ∧ (∀ q, s ≤ q → q < A → tt_Q od par bef t q) ∧ (A = n ∨ ¬ tt_Q od par bef t A)
def tt_AL (od par : Nat → Nat) (bef : Nat → Prop) (t s A : Nat) : Prop := A ≤ s ∧ (∀ q, A ≤ q → q < s → tt_Q od par bef t q) ∧ (A = 0 ∨ ¬ tt_Q od par bef t (A - 1))
/-- the first place behind t -/
def tt_st (n : Nat) (od : Nat → Nat) (t s : Nat) : Prop := (t = 0 ∧ s = 0) ∨ ∃ p, p < n ∧ od p = t ∧ 0 < t ∧ s = p + 1
/-- the place behind all that is below t -/
def tt_en (n : Nat) (od par : Nat → Nat) (t E : Nat) : Prop := (t = 0 ∧ E = n) ∨ (0 < t ∧ (∃ p, p < n ∧ tt_bel par (od p) t ∧ E = p + 1) ∧ ∀ p, p < n → tt_bel par (od p) t → p < E)
/-- the least of E and of the first places of the siblings (of side b) that ahd tells -/
def tt_mn (n : Nat) (od par : Nat → Nat) (rt : Nat → Bool) (ahd : Nat → Prop) (b : Bool) (t E at' : Nat) : Prop :=
  at' ≤ E ∧ (∀ y p, 0 < y → y ≤ n → par y = t → rt y = b → ahd y → p < n → tt_bel par (od p) y → at' ≤ p) ∧ (at' = E ∨ ∃ y, 0 < y ∧ y ≤ n ∧ par y = t ∧ rt y = b ∧ ahd y ∧ at' < n ∧ tt_bel par (od at') y)
section TT2
variable {n : Nat} {od par : Nat → Nat} {rt : Nat → Bool} {mk : Nat → Nat} {bef ahd : Nat → Prop} {t s A E at' : Nat}
theorem tt_right (h : tt_I n od par rt mk) (hb : ∀ y, 0 < y → y ≤ n → par y = t → rt y = true → (bef y ↔ ¬ ahd y)) (hs : tt_st n od t s) (hE : tt_en n od par t E) (hA : tt_AR n od par bef t s A) (hm : tt_mn n od par rt ahd true t E at') : A = at' := by
  obtain ⟨hd, ⟨hi1, hi2, hi3⟩, hR, hC, hB, hS⟩ := h
  obtain ⟨a1, a2, a3, a4⟩ := hA
  obtain ⟨m1, m2, m3⟩ := hm
  have hEn : E ≤ n := by
    rcases hE with ⟨-, h⟩ | ⟨-, ⟨p, h1, -, h2⟩, -⟩ <;> omega
  have hsb : ∀ y p, 0 < y → y ≤ n → par y = t → rt y = true → p < n → tt_bel par (od p) y → s ≤ p := by
    intro y p h1 h2 h3 h4 h5 h6
    rcases hs with ⟨-, e⟩ | ⟨pt, e1, e2, -, e3⟩
    · omega
    · have := (hB y pt p h1 h2 e1 h5 (e2.trans h3.symm) h6).1 h4
      omega
  have hle : A ≤ at' := by
    rcases Nat.lt_or_ge at' A with hlt | hge
    · exfalso
      rcases m3 with e | ⟨y, y1, y2, y3, y4, y5, y6, y7⟩
      · -- at' = E < A
        rcases hE with ⟨-, h⟩ | ⟨ht, ⟨p, h1, h2, h3⟩, h4⟩
        · omega
        · have hsE : s ≤ E := by
            rcases hs with ⟨e0, -⟩ | ⟨pt, e1, e2, -, e3⟩
            · omega
            · have := h4 pt e1 (by rw [e2]; exact tt_rf t)
              omega
          obtain ⟨c, c1, c2, c3, -⟩ := a3 E hsE (by omega)
          have : tt_bel par (od E) t := tt_tr c3 (by rw [← c2]; exact tt_up (tt_rf _))
          have := h4 E (by omega) this
          omega
      · obtain ⟨c, c1, c2, c3, c4⟩ := a3 at' (hsb y at' y1 y2 y3 y4 y6 y7) hlt
        have := tt_bru hd (hi1 at' y6).2 c3 y7 c1 y1 c2 y3
        subst this
        exact (hb c y1 y2 y3 y4).mp c4 y5
    · exact hge
  have hge : at' ≤ A := by
    rcases Nat.lt_or_ge A at' with hlt | hge
    · exfalso
      have hAn : A < n := by omega
      have hbt : tt_bel par (od A) t ∧ od A ≠ t := by
        rcases hE with ⟨h, -⟩ | ⟨ht, ⟨p, h1, h2, h3⟩, h4⟩
        · subst h
          have := hi1 A hAn
          exact ⟨tt_root hd _ this.2, by omega⟩
        · rcases hs with ⟨e0, -⟩ | ⟨pt, e1, e2, -, e3⟩
          · omega
          · have hne : od A ≠ t := fun e => by
              have := hi3 A pt hAn e1 (e.trans e2.symm)
              omega
            refine ⟨?_, hne⟩
            rcases Nat.lt_or_ge A p with q | q
            · exact hC t pt A p (by omega) q h1 (by rw [e2]; exact tt_rf t) h2
            · have : A = p := by omega
              rw [this]
              exact h2
      obtain ⟨c, c1, c2, c3, c4⟩ := tt_brx hd (hi1 A hAn).2 hbt.1 hbt.2
      have hcn : c ≤ n := Nat.le_trans c2 (hi1 A hAn).2
      have hrc : rt c = true := by
        rcases hs with ⟨e0, -⟩ | ⟨pt, e1, e2, -, e3⟩
        · exact hR c c1 hcn (by omega)
        · cases hr : rt c with
          | true => rfl
          | false =>
            have := (hB c pt A c1 hcn e1 hAn (e2.trans c4.symm) c3).2 hr
            omega
      have hnb : ¬ bef c := fun q => by
        rcases a4 with e | e
        · omega
        · exact e ⟨c, c1, c4, c3, q⟩
      have hah : ahd c := Classical.byContradiction fun q => hnb ((hb c c1 hcn c4 hrc).mpr q)
      have := m2 c A c1 hcn c4 hrc hah hAn c3
      omega
    · exact hge
  omega
theorem tt_left (h : tt_I n od par rt mk) {mx : Nat} (hs : s < n) (hst : od s = t) (ht : 0 < t) (hA : tt_AL od par (fun c => mx < mk c) t s A) (hm : tt_mn n od par rt (fun c => mx < mk c) false t s at') : A = at' := by
  obtain ⟨hd, ⟨hi1, hi2, hi3⟩, hR, hC, hB, hS⟩ := h
  obtain ⟨a1, a3, a4⟩ := hA
  obtain ⟨m1, m2, m3⟩ := hm
  have hlf : ∀ c q, 0 < c → c ≤ n → par c = t → q < s → tt_bel par (od q) c → rt c = false := by
    intro c q c1 c2 c3 c4 c5
    cases hr : rt c with
    | false => rfl
    | true =>
      have := (hB c s q c1 c2 hs (by omega) (hst.trans c3.symm) c5).1 hr
      omega
  have hge : at' ≤ A := by
    rcases Nat.lt_or_ge A at' with hlt | hge
    · exfalso
      obtain ⟨c, c1, c2, c3, c4⟩ := a3 A (Nat.le_refl A) (by omega)
      have hcn : c ≤ n := Nat.le_trans (tt_le hd (hi1 A (by omega)).2 c3) (hi1 A (by omega)).2
      have := m2 c A c1 hcn c2 (hlf c A c1 hcn c2 (by omega) c3) c4 (by omega) c3
      omega
    · exact hge
  have hle : A ≤ at' := by
    rcases Nat.lt_or_ge at' A with hlt | hge
    · exfalso
      rcases m3 with e | ⟨y, y1, y2, y3, y4, y5, y6, y7⟩
      · omega
      · have hyt : tt_bel par (od at') t := tt_tr y7 (by rw [← y3]; exact tt_up (tt_rf _))
        have hbt : tt_bel par (od (A - 1)) t := by
          rcases Nat.lt_or_ge at' (A - 1) with q | q
          · exact hC t at' (A - 1) s q (by omega) hs hyt (by rw [hst]; exact tt_rf t)
          · rw [show A - 1 = at' by omega]
            exact hyt
        have hne : od (A - 1) ≠ t := fun e => by
          have := hi3 (A - 1) s (by omega) hs (e.trans hst.symm)
          omega
        have hA1 := (hi1 (A - 1) (by omega)).2
        obtain ⟨c, c1, c2, c3, c4⟩ := tt_brx hd hA1 hbt hne
        have hcn : c ≤ n := Nat.le_trans c2 hA1
        have hlc := hlf c (A - 1) c1 hcn c4 (by omega) c3
        have hmk : mx < mk c := by
          rcases Nat.lt_or_ge at' (A - 1) with q | q
          · have := hS y c at' (A - 1) y1 y2 c1 hcn (y3.trans c4.symm) y4 hlc q (by omega) y7 c3
            omega
          · have e : at' = A - 1 := by omega
            rw [e] at y7
            have := tt_bru hd hA1 y7 c3 y1 c1 y3 c4
            rw [← this]
            exact y5
        rcases a4 with e | e
        · omega
        · exact e ⟨c, c1, c4, c3, hmk⟩
    · exact hge
  omega
end TT2
