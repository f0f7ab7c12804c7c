-- PURE: the row stays in order when a new node x = n + 1 goes to its place A
def tt_ins (od : Nat → Nat) (A x : Nat) : Nat → Nat := fun p => if p < A then od p else if p = A then x else od (p - 1)
section TT3
variable {od : Nat → Nat} {A x p : Nat}
theorem tt_ins_lo (h : p < A) : tt_ins od A x p = od p := by unfold tt_ins; rw [if_pos h]
theorem tt_ins_at : tt_ins od A x A = x := by unfold tt_ins; rw [if_neg (Nat.lt_irrefl A), if_pos rfl]
theorem tt_ins_hi (h : A < p) : tt_ins od A x p = od (p - 1) := by unfold tt_ins; rw [if_neg (by omega), if_neg (by omega)]
/-- a place of the new row is the new one, or an old one -/
theorem tt_ins_cs (od : Nat → Nat) (A x p : Nat) : (p = A ∧ tt_ins od A x p = x) ∨ (∃ o, tt_ins od A x p = od o ∧ ((p < A ∧ o = p) ∨ (A < p ∧ p = o + 1))) := by
  rcases Nat.lt_trichotomy p A with h | h | h
  · exact Or.inr ⟨p, tt_ins_lo h, Or.inl ⟨h, rfl⟩⟩
  · exact Or.inl ⟨h, by rw [h]; exact tt_ins_at⟩
  · exact Or.inr ⟨p - 1, tt_ins_hi h, Or.inr ⟨h, by omega⟩⟩
end TT3
/-- what is asked of the place A of the new node x = n + 1, a child of t -/
def tt_pl (n : Nat) (od par : Nat → Nat) (rt : Nat → Bool) (mk : Nat → Nat) (t A : Nat) : Prop :=
  A ≤ n ∧ par (n + 1) = t ∧ t ≤ n ∧ (∀ a, 0 < A → A < n → tt_bel par (od (A - 1)) a → tt_bel par (od A) a → tt_bel par t a) ∧
  ((t = 0 ∧ rt (n + 1) = true) ∨ (0 < t ∧ ∃ s, s < n ∧ od s = t ∧
    ((rt (n + 1) = true ∧ s < A ∧ ∀ q, s < q → q < A → tt_bel par (od q) t) ∨
     (rt (n + 1) = false ∧ A ≤ s ∧ (∀ q, A ≤ q → q < s → tt_bel par (od q) t) ∧ (∀ q c, A ≤ q → q < s → 0 < c → c ≤ n → par c = t → tt_bel par (od q) c → mk (n + 1) ≤ mk c) ∧ (0 < A → ∀ c, 0 < c → c ≤ n → par c = t → tt_bel par (od (A - 1)) c → mk c ≤ mk (n + 1))))))
section TT4
variable {n : Nat} {od par : Nat → Nat} {rt : Nat → Bool} {mk : Nat → Nat} {bef : Nat → Prop} {t s A : Nat}
theorem tt_plR (h : tt_I n od par rt mk) (hx : par (n + 1) = t) (htn : t ≤ n) (hr : rt (n + 1) = true) (hs : tt_st n od t s) (hA : tt_AR n od par bef t s A) : tt_pl n od par rt mk t A := by
  obtain ⟨hd, ⟨hi1, hi2, hi3⟩, hR, hC, hB, hS⟩ := h
  obtain ⟨a1, a2, a3, a4⟩ := hA
  have hQt : ∀ q, tt_Q od par bef t q → tt_bel par (od q) t := fun q ⟨c, c1, c2, c3, _⟩ => tt_tr c3 (by rw [← c2]; exact tt_up (tt_rf _))
  refine ⟨a2, hx, htn, ?_, ?_⟩
  · intro a h0 hn hl hh
    have hA1 := (hi1 (A - 1) (by omega)).2
    have hAn := (hi1 A hn).2
    have hal : a ≤ n := Nat.le_trans (tt_le hd hA1 hl) hA1
    have hw : tt_bel par (od (A - 1)) t := by
      rcases hs with ⟨e0, -⟩ | ⟨pt, e1, e2, -, e3⟩
      · rw [e0]
        exact tt_root hd _ hA1
      · rcases Nat.lt_or_ge (A - 1) s with q | q
        · rw [show A - 1 = pt by omega, e2]
          exact tt_rf t
        · exact hQt _ (a3 _ q (by omega))
    rcases tt_lin hw hl with g | g
    · exact g
    · by_cases hat : a = t
      · rw [hat]
        exact tt_rf t
      · exfalso
        obtain ⟨c, c1, c2, c3, c4⟩ := tt_brx hd hal g hat
        have k1 : tt_bel par (od (A - 1)) c := tt_tr hl c3
        have k2 : tt_bel par (od A) c := tt_tr hh c3
        rcases Nat.lt_or_ge (A - 1) s with q | q
        · rcases hs with ⟨-, e0⟩ | ⟨pt, e1, e2, -, e3⟩
          · omega
          · rw [show A - 1 = pt by omega, e2] at k1
            have := tt_le hd htn k1
            have := hd.2 c c1 (by omega)
            omega
        · obtain ⟨c', d1, d2, d3, d4⟩ := a3 _ q (by omega)
          have := tt_bru hd hA1 k1 d3 c1 d1 c4 d2
          subst this
          rcases a4 with e | e
          · omega
          · exact e ⟨c, c1, c4, k2, d4⟩
  · rcases hs with ⟨e0, -⟩ | ⟨pt, e1, e2, e0, e3⟩
    · exact Or.inl ⟨e0, hr⟩
    · exact Or.inr ⟨e0, pt, e1, e2, Or.inl ⟨hr, by omega, fun q h1 h2 => hQt q (a3 q (by omega) h2)⟩⟩
theorem tt_plL (h : tt_I n od par rt mk) (hx : par (n + 1) = t) (htn : t ≤ n) (hr : rt (n + 1) = false) (hs : s < n) (hst : od s = t) (ht : 0 < t) (hA : tt_AL od par (fun c => mk (n + 1) < mk c) t s A) : tt_pl n od par rt mk t A := by
  obtain ⟨hd, ⟨hi1, hi2, hi3⟩, hR, hC, hB, hS⟩ := h
  obtain ⟨a1, a3, a4⟩ := hA
  have hQt : ∀ q, tt_Q od par (fun c => mk (n + 1) < mk c) t q → tt_bel par (od q) t := fun q ⟨c, c1, c2, c3, _⟩ => tt_tr c3 (by rw [← c2]; exact tt_up (tt_rf _))
  refine ⟨by omega, hx, htn, ?_, Or.inr ⟨ht, s, hs, hst, Or.inr ⟨hr, a1, fun q h1 h2 => hQt q (a3 q h1 h2), ?_, ?_⟩⟩⟩
  · intro a h0 hn hl hh
    have hA1 := (hi1 (A - 1) (by omega)).2
    have hAn := (hi1 A hn).2
    have hal : a ≤ n := Nat.le_trans (tt_le hd hA1 hl) hA1
    have hw : tt_bel par (od A) t := by
      rcases Nat.lt_or_ge A s with q | q
      · exact hQt _ (a3 A (Nat.le_refl A) q)
      · rw [show A = s by omega, hst]
        exact tt_rf t
    rcases tt_lin hw hh with g | g
    · exact g
    · by_cases hat : a = t
      · rw [hat]
        exact tt_rf t
      · exfalso
        obtain ⟨c, c1, c2, c3, c4⟩ := tt_brx hd hal g hat
        have k1 : tt_bel par (od (A - 1)) c := tt_tr hl c3
        have k2 : tt_bel par (od A) c := tt_tr hh c3
        rcases Nat.lt_or_ge A s with q | q
        · obtain ⟨c', d1, d2, d3, d4⟩ := a3 A (Nat.le_refl A) q
          have := tt_bru hd hAn k2 d3 c1 d1 c4 d2
          subst this
          rcases a4 with e | e
          · omega
          · exact e ⟨c, c1, c4, k1, d4⟩
        · rw [show A = s by omega, hst] at k2
          have := tt_le hd htn k2
          have := hd.2 c c1 (by omega)
          omega
  · intro q c h1 h2 c1 c2 c3 c4
    obtain ⟨c', d1, d2, d3, d4⟩ := a3 q h1 h2
    have := tt_bru hd (hi1 q (by omega)).2 c4 d3 c1 d1 c3 d2
    subst this
    exact Nat.le_of_lt d4
  · intro h0 c c1 c2 c3 c4
    rcases a4 with e | e
    · omega
    · rcases Nat.lt_or_ge (mk (n + 1)) (mk c) with q | q
      · exact absurd ⟨c, c1, c3, c4, q⟩ e
      · exact q
/-- below the new node is the new node alone -/
theorem tt_newx (h : tt_I n od par rt mk) (hx : par (n + 1) ≤ n) : tt_dn par (n + 1) := by
  refine ⟨h.1.1, fun v h1 h2 => ?_⟩
  rcases Nat.lt_or_ge v (n + 1) with q | q
  · exact h.1.2 v h1 (by omega)
  · have : v = n + 1 := by omega
    subst this
    omega
theorem tt_insC (h : tt_I n od par rt mk) (hp : tt_pl n od par rt mk t A) : tt_C (n + 1) (tt_ins od A (n + 1)) par := by
  obtain ⟨p1, p2, p3, p4, p5⟩ := hp
  have hd1 := tt_newx h (by omega)
  obtain ⟨hd, ⟨hi1, hi2, hi3⟩, hR, hC, hB, hS⟩ := h
  have hxa : ∀ a, tt_bel par (n + 1) a → a = n + 1 ∨ tt_bel par t a := fun a g => by
    rcases tt_cs g with g | g
    · exact Or.inl g.symm
    · rw [p2] at g
      exact Or.inr g
  have hax : ∀ o, o < n → ¬ tt_bel par (od o) (n + 1) := fun o ho g => by
    have := tt_le hd (hi1 o ho).2 g
    have := (hi1 o ho).2
    omega
  have h0 : ∀ a o, o < n → t = 0 → tt_bel par t a → tt_bel par (od o) a := fun a o ho e g => by
    have := tt_le hd p3 g
    have ea : a = 0 := by omega
    rw [ea]
    exact tt_root hd _ (hi1 o ho).2
  intro a p q r hpq hqr hrn hpa hra
  rcases tt_ins_cs od A (n + 1) p with ⟨ep, fp⟩ | ⟨o1, fp, kp⟩ <;> rcases tt_ins_cs od A (n + 1) r with ⟨er, fr⟩ | ⟨o3, fr, kr⟩
  · omega
  · -- p is the new one
    rw [fp] at hpa
    rw [fr] at hra
    obtain ⟨o2, fq, kq⟩ : ∃ o, tt_ins od A (n + 1) q = od o ∧ ((q < A ∧ o = q) ∨ (A < q ∧ q = o + 1)) := by
      rcases tt_ins_cs od A (n + 1) q with ⟨eq, _⟩ | g
      · omega
      · exact g
    rw [fq]
    rcases hxa a hpa with g | g
    · rw [g] at hra
      exact absurd hra (hax o3 (by omega))
    · rcases p5 with ⟨e, -⟩ | ⟨e, s, s1, s2, s3⟩
      · exact h0 a o2 (by omega) e g
      · have hsa : tt_bel par (od s) a := by rw [s2]; exact g
        rcases Nat.lt_trichotomy s o2 with c | c | c
        · exact hC a s o2 o3 c (by omega) (by omega) hsa hra
        · rw [← c]
          exact hsa
        · rcases s3 with ⟨-, z, -⟩ | ⟨-, z, z2, -⟩
          · omega
          · exact tt_tr (z2 o2 (by omega) c) g
  · -- r is the new one
    rw [fp] at hpa
    rw [fr] at hra
    obtain ⟨o2, fq, kq⟩ : ∃ o, tt_ins od A (n + 1) q = od o ∧ ((q < A ∧ o = q) ∨ (A < q ∧ q = o + 1)) := by
      rcases tt_ins_cs od A (n + 1) q with ⟨eq, _⟩ | g
      · omega
      · exact g
    rw [fq]
    rcases hxa a hra with g | g
    · rw [g] at hpa
      exact absurd hpa (hax o1 (by omega))
    · rcases p5 with ⟨e, -⟩ | ⟨e, s, s1, s2, s3⟩
      · exact h0 a o2 (by omega) e g
      · have hsa : tt_bel par (od s) a := by rw [s2]; exact g
        rcases Nat.lt_trichotomy o2 s with c | c | c
        · exact hC a o1 o2 s (by omega) c s1 hpa hsa
        · rw [c]
          exact hsa
        · rcases s3 with ⟨-, z, z2⟩ | ⟨-, z, -⟩
          · exact tt_tr (z2 o2 c (by omega)) g
          · omega
  · rw [fp] at hpa
    rw [fr] at hra
    rcases tt_ins_cs od A (n + 1) q with ⟨eq, fq⟩ | ⟨o2, fq, kq⟩
    · rw [fq]
      have g1 : tt_bel par (od (A - 1)) a := by
        rcases Nat.lt_or_ge o1 (A - 1) with c | c
        · exact hC a o1 (A - 1) o3 c (by omega) (by omega) hpa hra
        · rw [show A - 1 = o1 by omega]
          exact hpa
      have g2 : tt_bel par (od A) a := by
        rcases Nat.lt_or_ge A o3 with c | c
        · exact hC a o1 A o3 (by omega) c (by omega) hpa hra
        · rw [show A = o3 by omega]
          exact hra
      have := p4 a (by omega) (by omega) g1 g2
      exact tt_up (by rw [p2]; exact this)
    · rw [fq]
      exact hC a o1 o2 o3 (by omega) (by omega) (by omega) hpa hra
theorem tt_insB (h : tt_I n od par rt mk) (hp : tt_pl n od par rt mk t A) : tt_B (n + 1) (tt_ins od A (n + 1)) par rt := by
  obtain ⟨p1, p2, p3, p4, p5⟩ := hp
  have hd1 := tt_newx h (by omega)
  obtain ⟨hd, ⟨hi1, hi2, hi3⟩, hR, hC, hB, hS⟩ := h
  intro c p q c0 cn hp hq hpc hqc
  have hcp : par c < c := hd1.2 c c0 cn
  obtain ⟨o1, fp, kp⟩ : ∃ o, tt_ins od A (n + 1) p = od o ∧ ((p < A ∧ o = p) ∨ (A < p ∧ p = o + 1)) := by
    rcases tt_ins_cs od A (n + 1) p with ⟨_, fp⟩ | g
    · rw [fp] at hpc
      omega
    · exact g
  rw [fp] at hpc
  rcases tt_ins_cs od A (n + 1) q with ⟨eq, fq⟩ | ⟨o2, fq, kq⟩
  · rw [fq] at hqc
    rcases tt_cs hqc with g | g
    · -- the new node itself
      subst g
      rw [p2] at hpc
      rcases p5 with ⟨e, -⟩ | ⟨e, s, s1, s2, s3⟩
      · have := (hi1 o1 (by omega)).1
        omega
      · have es := hi3 o1 s (by omega) s1 (hpc.trans s2.symm)
        rcases s3 with ⟨z0, z, -⟩ | ⟨z0, z, -, -⟩
        · exact ⟨fun _ => by omega, fun w => (by rw [z0] at w; cases w)⟩
        · exact ⟨fun w => (by rw [z0] at w; cases w), fun _ => by omega⟩
    · rw [p2] at g
      have hct := tt_le hd p3 g
      rcases p5 with ⟨e, -⟩ | ⟨e, s, s1, s2, s3⟩
      · omega
      · have hsc : tt_bel par (od s) c := by rw [s2]; exact g
        have hb := hB c o1 s c0 (by omega) (by omega) s1 hpc hsc
        have hno : ¬ tt_bel par (od o1) t := fun w => by
          rw [hpc] at w
          have := tt_le hd (by omega) w
          omega
        refine ⟨fun w => ?_, fun w => ?_⟩
        · have k := hb.1 w
          rcases s3 with ⟨-, z, -⟩ | ⟨-, z, z2, -⟩
          · omega
          · rcases Nat.lt_or_ge o1 A with y | y
            · omega
            · exact absurd (z2 o1 y k) hno
        · have k := hb.2 w
          rcases s3 with ⟨-, z, z2⟩ | ⟨-, z, -, -⟩
          · rcases Nat.lt_or_ge o1 A with y | y
            · exact absurd (z2 o1 k y) hno
            · omega
          · omega
  · rw [fq] at hqc
    have hct := tt_le hd (hi1 o2 (by omega)).2 hqc
    have := (hi1 o2 (by omega)).2
    have hb := hB c o1 o2 c0 (by omega) (by omega) (by omega) hpc hqc
    exact ⟨fun w => by have := hb.1 w; omega, fun w => by have := hb.2 w; omega⟩
theorem tt_insS (h : tt_I n od par rt mk) (hp : tt_pl n od par rt mk t A) : tt_S (n + 1) (tt_ins od A (n + 1)) par rt mk := by
  obtain ⟨p1, p2, p3, p4, p5⟩ := hp
  have hd1 := tt_newx h (by omega)
  obtain ⟨hd, ⟨hi1, hi2, hi3⟩, hR, hC, hB, hS⟩ := h
  have hax : ∀ o c, o < n → tt_bel par (od o) c → c ≤ n := fun o c ho g => Nat.le_trans (tt_le hd (hi1 o ho).2 g) (hi1 o ho).2
  intro c c' q q' c0 cn c0' cn' hpp hrc hrc' hqq hqn hqc hqc'
  rcases tt_ins_cs od A (n + 1) q with ⟨eq, fq⟩ | ⟨o1, fq, kq⟩
  · obtain ⟨o2, fq', kq'⟩ : ∃ o, tt_ins od A (n + 1) q' = od o ∧ ((q' < A ∧ o = q') ∨ (A < q' ∧ q' = o + 1)) := by
      rcases tt_ins_cs od A (n + 1) q' with ⟨eq', _⟩ | g
      · omega
      · exact g
    rw [fq] at hqc
    rw [fq'] at hqc'
    have hc'n := hax o2 c' (by omega) hqc'
    rcases tt_cs hqc with g | g
    · subst g
      rw [p2] at hpp
      rcases p5 with ⟨-, z⟩ | ⟨e, s, s1, s2, s3⟩
      · rw [z] at hrc
        cases hrc
      · rcases s3 with ⟨z0, -, -⟩ | ⟨-, z, z2, z3, z4⟩
        · rw [z0] at hrc
          cases hrc
        · have := (hB c' s o2 c0' hc'n s1 (by omega) (s2.trans hpp) hqc').2 hrc'
          exact z3 o2 c' (by omega) this c0' hc'n hpp.symm hqc'
    · rw [p2] at g
      have hct := tt_le hd p3 g
      rcases p5 with ⟨e, -⟩ | ⟨e, s, s1, s2, s3⟩
      · omega
      · have hsc : tt_bel par (od s) c := by rw [s2]; exact g
        rcases Nat.lt_trichotomy s o2 with k | k | k
        · exact hS c c' s o2 c0 (by omega) c0' hc'n hpp hrc hrc' k (by omega) hsc hqc'
        · rw [← k] at hqc'
          have := tt_bru hd (hi1 s s1).2 hsc hqc' c0 c0' hpp rfl
          rw [this]
          exact Nat.le_refl _
        · rcases s3 with ⟨-, z, -⟩ | ⟨-, z, z2, -, -⟩
          · omega
          · have := tt_bru hd (hi1 o2 (by omega)).2 (tt_tr (z2 o2 (by omega) k) g) hqc' c0 c0' hpp rfl
            rw [this]
            exact Nat.le_refl _
  · rw [fq] at hqc
    have hcn := hax o1 c (by omega) hqc
    rcases tt_ins_cs od A (n + 1) q' with ⟨eq', fq'⟩ | ⟨o2, fq', kq'⟩
    · rw [fq'] at hqc'
      rcases tt_cs hqc' with g | g
      · subst g
        rw [p2] at hpp
        rcases p5 with ⟨-, z⟩ | ⟨e, s, s1, s2, s3⟩
        · rw [z] at hrc'
          cases hrc'
        · rcases s3 with ⟨z0, -, -⟩ | ⟨-, z, z2, z3, z4⟩
          · rw [z0] at hrc'
            cases hrc'
          · have hot : tt_bel par (od o1) t := tt_tr hqc (by rw [← hpp]; exact tt_up (tt_rf _))
            have hbt : tt_bel par (od (A - 1)) t := by
              rcases Nat.lt_or_ge o1 (A - 1) with k | k
              · exact hC t o1 (A - 1) s k (by omega) s1 hot (by rw [s2]; exact tt_rf t)
              · rw [show A - 1 = o1 by omega]
                exact hot
            have hne : od (A - 1) ≠ t := fun w => by
              have := hi3 (A - 1) s (by omega) s1 (w.trans s2.symm)
              omega
            have hA1 := (hi1 (A - 1) (by omega)).2
            obtain ⟨d, d1, d2, d3, d4⟩ := tt_brx hd hA1 hbt hne
            have hdn : d ≤ n := Nat.le_trans d2 hA1
            have hm := z4 (by omega) d d1 hdn d4 d3
            rcases Nat.lt_or_ge o1 (A - 1) with k | k
            · have hrd : rt d = false := by
                cases hr : rt d with
                | false => rfl
                | true =>
                  have := (hB d s (A - 1) d1 hdn s1 (by omega) (s2.trans d4.symm) d3).1 hr
                  omega
              have := hS c d o1 (A - 1) c0 hcn d1 hdn (hpp.trans d4.symm) hrc hrd k (by omega) hqc d3
              omega
            · rw [show A - 1 = o1 by omega] at d3
              have := tt_bru hd (hi1 o1 (by omega)).2 hqc d3 c0 d1 hpp d4
              rw [this]
              exact hm
      · rw [p2] at g
        have hct := tt_le hd p3 g
        rcases p5 with ⟨e, -⟩ | ⟨e, s, s1, s2, s3⟩
        · omega
        · have hsc : tt_bel par (od s) c' := by rw [s2]; exact g
          rcases Nat.lt_trichotomy o1 s with k | k | k
          · exact hS c c' o1 s c0 hcn c0' (by omega) hpp hrc hrc' k s1 hqc hsc
          · rw [k] at hqc
            have := tt_bru hd (hi1 s s1).2 hqc hsc c0 c0' hpp rfl
            rw [this]
            exact Nat.le_refl _
          · rcases s3 with ⟨-, z, z2⟩ | ⟨-, z, -, -, -⟩
            · have := tt_bru hd (hi1 o1 (by omega)).2 hqc (tt_tr (z2 o1 k (by omega)) g) c0 c0' hpp rfl
              rw [this]
              exact Nat.le_refl _
            · omega
    · rw [fq'] at hqc'
      have hc'n := hax o2 c' (by omega) hqc'
      exact hS c c' o1 o2 c0 hcn c0' hc'n hpp hrc hrc' (by omega) (by omega) hqc hqc'
theorem tt_insI (h : tt_I n od par rt mk) (hp : tt_pl n od par rt mk t A) : tt_I (n + 1) (tt_ins od A (n + 1)) par rt mk := by
  refine ⟨tt_newx h (by have := hp.2.1; have := hp.2.2.1; omega), ⟨fun p hpn => ?_, fun v h1 h2 => ?_, fun p q h1 h2 h3 => ?_⟩, fun c c0 cn hc => ?_, tt_insC h hp, tt_insB h hp, tt_insS h hp⟩
  · obtain ⟨hd, ⟨hi1, hi2, hi3⟩, -⟩ := h
    obtain ⟨p1, -⟩ := hp
    rcases tt_ins_cs od A (n + 1) p with ⟨_, f⟩ | ⟨o, f, k⟩
    · rw [f]
      omega
    · rw [f]
      have := hi1 o (by omega)
      omega
  · obtain ⟨hd, ⟨hi1, hi2, hi3⟩, -⟩ := h
    obtain ⟨p1, -⟩ := hp
    rcases Nat.lt_or_ge n v with g | g
    · exact ⟨A, by omega, by rw [tt_ins_at]; omega⟩
    · obtain ⟨o, o1, o2⟩ := hi2 v h1 g
      rcases Nat.lt_or_ge o A with k | k
      · exact ⟨o, by omega, by rw [tt_ins_lo k]; exact o2⟩
      · exact ⟨o + 1, by omega, by rw [tt_ins_hi (by omega)]; exact o2⟩
  · obtain ⟨hd, ⟨hi1, hi2, hi3⟩, -⟩ := h
    obtain ⟨p1, -⟩ := hp
    rcases tt_ins_cs od A (n + 1) p with ⟨e, f⟩ | ⟨o, f, k⟩ <;> rcases tt_ins_cs od A (n + 1) q with ⟨e', f'⟩ | ⟨o', f', k'⟩
    · omega
    · rw [f, f'] at h3
      have := (hi1 o' (by omega)).2
      omega
    · rw [f, f'] at h3
      have := (hi1 o (by omega)).2
      omega
    · rw [f, f'] at h3
      have := hi3 o o' (by omega) (by omega) h3
      omega
  · rcases Nat.lt_or_ge n c with g | g
    · have e : c = n + 1 := by omega
      subst e
      obtain ⟨p1, p2, p3, p4, p5⟩ := hp
      rcases p5 with ⟨-, z⟩ | ⟨e, -⟩
      · exact z
      · omega
    · exact h.2.2.1 c c0 g hc
end TT4
