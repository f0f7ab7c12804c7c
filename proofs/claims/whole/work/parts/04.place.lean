-- PURE: the tree read off rows of ints; the class's place of a new element and the reference's are one
def z_nd (x : Int32) : Nat := (x + 1).toNatClampNeg
theorem z_nd_m : z_nd (-1) = 0 := by decide
theorem z_nd_n {e : Nat} (h : e < 1000) : z_nd (nI e) = e + 1 := by
  unfold z_nd
  rw [nI_1, nI_clamp (by omega)]
theorem z_n1 {e : Nat} (h : e < 1000) : ¬ nI e = -1 := fun q => by
  have h1 := congrArg z_nd q
  rw [z_nd_n h, z_nd_m] at h1
  omega
theorem z_n3 {e : Nat} (h : e < 1000) : ¬ nI e = -3 := fun q => by
  have h1 := congrArg Int32.toInt q
  rw [nI_toInt (by omega)] at h1
  have h2 : (-3 : Int32).toInt = -3 := by decide
  omega
theorem z_inj {a b : Nat} (ha : a < 1000) (hb : b < 1000) (h : nI a = nI b) : a = b := (nI_eq (by omega) (by omega)).mp h
/-- an element below m, or -1 -/
def z_el (x : Int32) (m : Nat) : Prop := x = -1 ∨ ∃ e, e < m ∧ x = nI e
theorem z_el_mono {x : Int32} {m m' : Nat} (h : z_el x m) (hm : m ≤ m') : z_el x m' := by
  rcases h with h | ⟨e, h1, h2⟩
  · exact Or.inl h
  · exact Or.inr ⟨e, by omega, h2⟩
theorem z_el_nd {x : Int32} {m : Nat} (h : z_el x m) (hm : m ≤ 1000) : z_nd x ≤ m ∧ (x = -1 ↔ z_nd x = 0) := by
  rcases h with h | ⟨e, h1, h2⟩
  · rw [h, z_nd_m]
    exact ⟨Nat.zero_le m, ⟨fun _ => rfl, fun _ => rfl⟩⟩
  · rw [h2, z_nd_n (by omega)]
    exact ⟨h1, ⟨fun q => absurd q (z_n1 (by omega)), fun q => by omega⟩⟩
theorem z_el_inj {x y : Int32} {m m' : Nat} (h : z_el x m) (h' : z_el y m') (hm : m ≤ 1000) (hm' : m' ≤ 1000) (he : z_nd x = z_nd y) : x = y := by
  rcases h with h | ⟨e, h1, h2⟩
  · rw [h] at he ⊢
    exact ((z_el_nd h' hm').2.mpr (by rw [← he]; exact z_nd_m)).symm
  · rcases h' with h' | ⟨e', h1', h2'⟩
    · rw [h', h2, z_nd_m, z_nd_n (by omega)] at he
      omega
    · rw [h2, h2', z_nd_n (by omega), z_nd_n (by omega)] at he
      rw [h2, h2', show e = e' by omega]
theorem z_el_neg {x : Int32} {m : Nat} (h : z_el x m) (hm : m ≤ 1000) : x < 0 ↔ x = -1 := by
  rcases h with h | ⟨e, h1, h2⟩
  · rw [h]
    exact ⟨fun _ => rfl, fun _ => by decide⟩
  · rw [h2]
    exact ⟨fun q => absurd q (nI_pos (by omega)), fun q => absurd q (z_n1 (by omega))⟩
def z_par (pa : Nat → Int32) (v : Nat) : Nat := if v = 0 then 0 else z_nd (pa (v - 1))
theorem z_par_0 (pa : Nat → Int32) : z_par pa 0 = 0 := rfl
theorem z_par_s (pa : Nat → Int32) (e : Nat) : z_par pa (e + 1) = z_nd (pa e) := rfl
theorem z_bel0 {pa : Nat → Int32} {c : Nat} (h : tt_bel (z_par pa) 0 c) : c = 0 := by
  obtain ⟨k, hk⟩ := h
  have key : ∀ k, tt_it (z_par pa) k 0 = 0 := by
    intro k
    induction k with
    | zero => rfl
    | succ k ih => exact ih
  rw [key k] at hk
  exact hk.symm
/-- the class's climb to the branch -/
def z_br (pa : Nat → Int32) (t : Int32) : Nat → Int32 → Int32
  | 0, _ => -3
  | k + 1, e => if e = -1 then -3 else if pa e.toNatClampNeg = t then e else z_br pa t k (pa e.toNatClampNeg)
theorem z_br_m (pa : Nat → Int32) (t : Int32) (k : Nat) : z_br pa t k (-1) = -3 := by
  cases k with
  | zero => rfl
  | succ k => exact if_pos rfl
theorem z_br_e {pa : Nat → Int32} {t : Int32} {k e : Nat} (he : e < 1000) (h : pa e = t) : z_br pa t (k + 1) (nI e) = nI e := by
  show (if nI e = -1 then -3 else if pa (nI e).toNatClampNeg = t then nI e else z_br pa t k (pa (nI e).toNatClampNeg)) = nI e
  rw [if_neg (z_n1 he), nI_clamp (by omega), if_pos h]
theorem z_br_n {pa : Nat → Int32} {t : Int32} {k e : Nat} (he : e < 1000) (h : ¬ pa e = t) : z_br pa t (k + 1) (nI e) = z_br pa t k (pa e) := by
  show (if nI e = -1 then -3 else if pa (nI e).toNatClampNeg = t then nI e else z_br pa t k (pa (nI e).toNatClampNeg)) = _
  rw [if_neg (z_n1 he), nI_clamp (by omega), if_neg h]
theorem z_br_sp {pa : Nat → Int32} {t : Int32} {m : Nat} (hm : m ≤ 1000) (hpa : ∀ e, e < m → z_el (pa e) e) (ht : z_el t m) : ∀ (k e : Nat), e < k → e < m →
    (∃ c, c ≤ e ∧ z_br pa t k (nI e) = nI c ∧ tt_bel (z_par pa) (e + 1) (c + 1) ∧ pa c = t) ∨ (z_br pa t k (nI e) = -3 ∧ ∀ c, 0 < c → z_par pa c = z_nd t → ¬ tt_bel (z_par pa) (e + 1) c) := by
  intro k
  induction k with
  | zero => intro e h; exact absurd h (Nat.not_lt_zero e)
  | succ k ih =>
    intro e hk he
    by_cases hp : pa e = t
    · exact Or.inl ⟨e, Nat.le_refl e, z_br_e (by omega) hp, tt_rf _, hp⟩
    · have hself : ∀ c, z_par pa c = z_nd t → ¬ e + 1 = c := fun c h1 h2 => by
        rw [← h2, z_par_s] at h1
        exact hp (z_el_inj (hpa e he) ht (by omega) hm h1)
      rw [z_br_n (by omega) hp]
      rcases hpa e he with h | ⟨q, h1, h2⟩
      · rw [h, z_br_m]
        refine Or.inr ⟨rfl, fun c c0 c1 c2 => ?_⟩
        rcases tt_cs c2 with g | g
        · exact hself c c1 g
        · rw [z_par_s, h, z_nd_m] at g
          have := z_bel0 g
          omega
      · have hup : z_par pa (e + 1) = q + 1 := by rw [z_par_s, h2, z_nd_n (by omega)]
        rw [h2]
        rcases ih q (by omega) (by omega) with ⟨c, g1, g2, g3, g4⟩ | ⟨g1, g2⟩
        · exact Or.inl ⟨c, by omega, g2, tt_up (by rw [hup]; exact g3), g4⟩
        · refine Or.inr ⟨g1, fun c c0 c1 c2 => ?_⟩
          rcases tt_cs c2 with g | g
          · exact hself c c1 g
          · rw [hup] at g
            exact g2 c c0 c1 g
/-- the reference's 'below' -/
def z_bl (pa : Nat → Int32) (top : Int32) : Nat → Int32 → Bool
  | 0, x => decide (x = top)
  | k + 1, x => if 0 ≤ x ∧ ¬ x = top then z_bl pa top k (pa x.toNatClampNeg) else decide (x = top)
theorem z_bl_e {pa : Nat → Int32} {top x : Int32} {k : Nat} (h : x = top) : z_bl pa top k x = true := by
  cases k with
  | zero => exact decide_eq_true h
  | succ k =>
    show (if 0 ≤ x ∧ ¬ x = top then z_bl pa top k (pa x.toNatClampNeg) else decide (x = top)) = true
    rw [if_neg (fun q => q.2 h)]
    exact decide_eq_true h
theorem z_bl_m {pa : Nat → Int32} {top : Int32} {k : Nat} (h : ¬ (-1 : Int32) = top) : z_bl pa top k (-1) = false := by
  cases k with
  | zero => exact decide_eq_false h
  | succ k =>
    show (if 0 ≤ (-1 : Int32) ∧ ¬ (-1 : Int32) = top then z_bl pa top k (pa (-1 : Int32).toNatClampNeg) else decide ((-1 : Int32) = top)) = false
    rw [if_neg (fun q => absurd q.1 (by decide))]
    exact decide_eq_false h
theorem z_bl_n {pa : Nat → Int32} {top : Int32} {k e : Nat} (he : e < 1000) (h : ¬ nI e = top) : z_bl pa top (k + 1) (nI e) = z_bl pa top k (pa e) := by
  show (if 0 ≤ nI e ∧ ¬ nI e = top then z_bl pa top k (pa (nI e).toNatClampNeg) else decide (nI e = top)) = _
  rw [if_pos ⟨nI_pos' (by omega), h⟩, nI_clamp (by omega)]
theorem z_bl_sp {pa : Nat → Int32} {t m : Nat} (hm : m ≤ 1000) (hpa : ∀ e, e < m → z_el (pa e) e) (ht : t < 1000) : ∀ (k e : Nat), e < k → e < m → (z_bl pa (nI t) k (nI e) = true ↔ tt_bel (z_par pa) (e + 1) (t + 1)) := by
  intro k
  induction k with
  | zero => intro e h; exact absurd h (Nat.not_lt_zero e)
  | succ k ih =>
    intro e hk he
    by_cases hp : e = t
    · rw [hp]
      exact ⟨fun _ => tt_rf _, fun _ => z_bl_e rfl⟩
    · rw [z_bl_n (by omega) (fun q => hp (z_inj (by omega) ht q))]
      rcases hpa e he with h | ⟨q, h1, h2⟩
      · rw [h, z_bl_m (fun q => z_n1 ht q.symm)]
        refine ⟨fun q => (by cases q), fun q => ?_⟩
        rcases tt_cs q with g | g
        · omega
        · rw [z_par_s, h, z_nd_m] at g
          have := z_bel0 g
          omega
      · have hup : z_par pa (e + 1) = q + 1 := by rw [z_par_s, h2, z_nd_n (by omega)]
        rw [h2, ih q (by omega) (by omega)]
        refine ⟨fun g => tt_up (by rw [hup]; exact g), fun g => ?_⟩
        rcases tt_cs g with g | g
        · omega
        · rw [hup] at g
          exact g
def z_pl (od : Nat → Int32) (n : Nat) (x : Int32) : Nat := z_fnd (fun p => decide (od p = x)) n 0
/-- is sibling 'one' before 'other' (the class) -/
def z_sib (od sd ro mk : Nat → Int32) (n one other : Nat) : Bool :=
  if sd one = 1 ∧ ¬ z_pl od n (ro one) = z_pl od n (ro other) then decide (z_pl od n (ro other) < z_pl od n (ro one)) else if ¬ mk one = mk other then decide (mk one < mk other) else decide (one < other)
/-- is x ahead of y (the reference) -/
def z_ahd (od sd ro mk : Nat → Int32) (n x y : Nat) : Bool :=
  if sd x = 1 ∧ ¬ ro x = ro y then decide ((if ro y < 0 then n else z_pl od n (ro y)) < (if ro x < 0 then n else z_pl od n (ro x))) else decide (mk x < mk y) || (decide (mk x = mk y) && decide (x < y))
def z_aft (od pa sd ro mk : Nat → Int32) (n x q : Nat) : Bool := !decide (z_br pa (pa x) n (od q) = -3) && z_sib od sd ro mk n (z_br pa (pa x) n (od q)).toNatClampNeg x
def z_bfr (od pa sd ro mk : Nat → Int32) (n x q : Nat) : Bool := !decide (z_br pa (pa x) n (od q) = -3) && z_sib od sd ro mk n x (z_br pa (pa x) n (od q)).toNatClampNeg
def z_beh (od : Nat → Int32) (n : Nat) (x : Int32) : Nat := if x = -1 then 0 else z_pl od n x + 1
def z_plC (od pa sd ro mk : Nat → Int32) (n x : Nat) : Nat :=
  if sd x = 0 then z_dwn (z_bfr od pa sd ro mk n x) (z_pl od n (pa x)) else z_fnd (fun q => !z_aft od pa sd ro mk n x q) (n - z_beh od n (pa x)) (z_beh od n (pa x))
def z_bgn (od pa : Nat → Int32) (n : Nat) (y : Int32) : Nat := z_fnd (fun p => z_bl pa y 31 (od p)) n 0
def z_end (od pa : Nat → Int32) (n : Nat) (y : Int32) : Nat := z_lst (fun p => z_bl pa y 31 (od p)) n 0 0
def z_plR (od pa sd ro mk : Nat → Int32) (n x : Nat) : Nat :=
  z_hom (fun k => (decide (pa (od k).toNatClampNeg = pa x) && decide (sd (od k).toNatClampNeg = sd x)) && z_ahd od sd ro mk n x (od k).toNatClampNeg) (fun k => z_bgn od pa n (od k)) n (if sd x = 0 then z_pl od n (pa x) else if pa x < 0 then n else z_end od pa n (pa x))
def z_rt (sd : Nat → Int32) (v : Nat) : Bool := decide (sd (v - 1) = 1)
def z_mk (mk : Nat → Int32) (v : Nat) : Nat := (mk (v - 1)).toNatClampNeg
def z_od (od : Nat → Int32) (p : Nat) : Nat := z_nd (od p)
/-- the rows, with n elements in the row and m described -/
def z_ok (n m : Nat) (od pa sd ro mk : Nat → Int32) : Prop := n ≤ 30 ∧ m ≤ 31 ∧ n ≤ m ∧ (∀ p, p < n → ∃ e, e < n ∧ od p = nI e) ∧ (∀ e, e < m → z_el (pa e) e) ∧ (∀ e, e < m → z_el (ro e) e) ∧ (∀ e, e < m → sd e = 0 ∨ sd e = 1) ∧ (∀ e, e < m → ∃ r, r < 3 ∧ mk e = nI r)
abbrev z_I (n : Nat) (od pa sd mk : Nat → Int32) : Prop := tt_I n (z_od od) (z_par pa) (z_rt sd) (z_mk mk)
section ZP
variable {n : Nat} {od pa sd ro mk : Nat → Int32}
theorem z_pl_of (hok : z_ok n (n + 1) od pa sd ro mk) (hI : z_I n od pa sd mk) {e : Nat} (he : e < n) : z_pl od n (nI e) < n ∧ od (z_pl od n (nI e)) = nI e := by
  obtain ⟨k1, k2, k3, k4, k5, k6, k7, k8⟩ := hok
  obtain ⟨p, p1, p2⟩ := hI.2.1.2.1 (e + 1) (by omega) he
  obtain ⟨e', e1, e2⟩ := k4 p p1
  have e3 : e' = e := by
    unfold z_od at p2
    rw [e2, z_nd_n (by omega)] at p2
    omega
  rw [e3] at e2
  obtain ⟨f1, f2, f3, f4⟩ := z_fnd_sp (fun p => decide (od p = nI e)) n 0
  have hlt : z_pl od n (nI e) < n := by
    rcases Nat.lt_or_ge p (z_pl od n (nI e)) with g | g
    · have := f3 p (Nat.zero_le p) g
      rw [decide_eq_true e2] at this
      cases this
    · omega
  refine ⟨hlt, ?_⟩
  rcases f4 with g | g
  · unfold z_pl at hlt
    omega
  · exact of_decide_eq_true g
theorem z_pl_m (hok : z_ok n (n + 1) od pa sd ro mk) : z_pl od n (-1) = n := by
  obtain ⟨k1, k2, k3, k4, k5, k6, k7, k8⟩ := hok
  refine z_fnd_eq (Nat.zero_le n) (by omega) (fun q _ hq => ?_) (Or.inl (by omega))
  obtain ⟨e, e1, e2⟩ := k4 q hq
  refine decide_eq_false ?_
  rw [e2]
  exact z_n1 (by omega)
theorem z_pl_inj (hok : z_ok n (n + 1) od pa sd ro mk) (hI : z_I n od pa sd mk) {x y : Int32} (hx : z_el x n) (hy : z_el y n) : z_pl od n x = z_pl od n y ↔ x = y := by
  refine ⟨fun h => ?_, fun h => by rw [h]⟩
  rcases hx with hx | ⟨a, a1, a2⟩
  · rcases hy with hy | ⟨b, b1, b2⟩
    · rw [hx, hy]
    · rw [hx, b2, z_pl_m hok] at h
      have := (z_pl_of hok hI b1).1
      omega
  · have ha := z_pl_of hok hI a1
    rcases hy with hy | ⟨b, b1, b2⟩
    · rw [hy, a2, z_pl_m hok] at h
      omega
    · have hb := z_pl_of hok hI b1
      rw [a2, b2] at h ⊢
      rw [← ha.2, ← hb.2, h]
theorem z_pl_neg (hok : z_ok n (n + 1) od pa sd ro mk) {x : Int32} (hx : z_el x n) : (if x < 0 then n else z_pl od n x) = z_pl od n x := by
  have hn : n ≤ 1000 := by have := hok.1; omega
  by_cases c : x < 0
  · rw [if_pos c, (z_el_neg hx hn).mp c, z_pl_m hok]
  · rw [if_neg c]
/-- an element in the row, its branch of the new one's parent -/
theorem z_br_q (hok : z_ok n (n + 1) od pa sd ro mk) (hI : z_I n od pa sd mk) {q : Nat} (hq : q < n) (bef : Nat → Prop) (f : Nat → Bool) (hf : ∀ c, c < n → (f c = true ↔ bef (c + 1))) :
    (!decide (z_br pa (pa n) n (od q) = -3) && f (z_br pa (pa n) n (od q)).toNatClampNeg) = true ↔ tt_Q (z_od od) (z_par pa) bef (z_nd (pa n)) q := by
  obtain ⟨k1, k2, k3, k4, k5, k6, k7, k8⟩ := hok
  obtain ⟨e, e1, e2⟩ := k4 q hq
  have hoq : z_od od q = e + 1 := by unfold z_od; rw [e2, z_nd_n (by omega)]
  rw [e2]
  rcases z_br_sp (m := n) (by omega) (fun e he => k5 e (by omega)) (k5 n (by omega)) n e e1 e1 with ⟨c, c1, c2, c3, c4⟩ | ⟨c1, c2⟩
  · rw [c2, decide_eq_false (z_n3 (by omega)), nI_clamp (by omega)]
    show f c = true ↔ _
    rw [hf c (by omega)]
    constructor
    · intro h
      exact ⟨c + 1, Nat.succ_pos c, by rw [z_par_s, c4], by rw [hoq]; exact c3, h⟩
    · rintro ⟨c', d1, d2, d3, d4⟩
      rw [hoq] at d3
      have := tt_bru hI.1 (show e + 1 ≤ n by omega) c3 d3 (Nat.succ_pos c) d1 (by rw [z_par_s, c4]) d2
      rw [this]
      exact d4
  · rw [c1, decide_eq_true rfl]
    constructor
    · intro h
      cases h
    · rintro ⟨c', d1, d2, d3, d4⟩
      rw [hoq] at d3
      exact absurd d3 (c2 c' d1 d2)
theorem z_below (hok : z_ok n (n + 1) od pa sd ro mk) {q y : Nat} (hq : q < n) (hy : y < n) : z_bl pa (nI y) 31 (od q) = true ↔ tt_bel (z_par pa) (z_od od q) (y + 1) := by
  obtain ⟨k1, k2, k3, k4, k5, k6, k7, k8⟩ := hok
  obtain ⟨e, e1, e2⟩ := k4 q hq
  have hoq : z_od od q = e + 1 := by unfold z_od; rw [e2, z_nd_n (by omega)]
  rw [hoq, e2]
  exact z_bl_sp (m := n + 1) (by omega) k5 (by omega) 31 e (by omega) (by omega)
/-- the reference's place is the least -/
theorem z_hom_mn (hok : z_ok n (n + 1) od pa sd ro mk) (hI : z_I n od pa sd mk) (b : Bool) (hb : z_rt sd (n + 1) = b) (E : Nat) (ahd : Nat → Prop) (ha : ∀ y, y < n → (z_ahd od sd ro mk n n y = true ↔ ahd (y + 1))) :
    tt_mn n (z_od od) (z_par pa) (z_rt sd) ahd b (z_nd (pa n)) E (z_hom (fun k => (decide (pa (od k).toNatClampNeg = pa n) && decide (sd (od k).toNatClampNeg = sd n)) && z_ahd od sd ro mk n n (od k).toNatClampNeg) (fun k => z_bgn od pa n (od k)) n E) := by
  obtain ⟨h1, h2, h3⟩ := z_hom_sp (fun k => (decide (pa (od k).toNatClampNeg = pa n) && decide (sd (od k).toNatClampNeg = sd n)) && z_ahd od sd ro mk n n (od k).toNatClampNeg) (fun k => z_bgn od pa n (od k)) n E
  have hsd : ∀ y, y < n → (sd y = sd n ↔ z_rt sd (y + 1) = b) := by
    intro y hy
    obtain ⟨k1, k2, k3, k4, k5, k6, k7, k8⟩ := hok
    rw [← hb]
    unfold z_rt
    show sd y = sd n ↔ decide (sd y = 1) = decide (sd n = 1)
    rcases k7 y (by omega) with g | g <;> rcases k7 n (by omega) with g' | g' <;> rw [g, g'] <;> decide
  have hY : ∀ y k, y < n → k < n → od k = nI y → (((decide (pa (od k).toNatClampNeg = pa n) && decide (sd (od k).toNatClampNeg = sd n)) && z_ahd od sd ro mk n n (od k).toNatClampNeg) = true ↔ (z_par pa (y + 1) = z_nd (pa n) ∧ z_rt sd (y + 1) = b ∧ ahd (y + 1))) := by
    intro y k hy hk e
    obtain ⟨k1, k2, k3, k4, k5, k6, k7, k8⟩ := hok
    rw [e, nI_clamp (by omega), Bool.and_eq_true, Bool.and_eq_true, decide_eq_true_iff, decide_eq_true_iff, ha y hy, hsd y hy, z_par_s]
    constructor
    · rintro ⟨⟨g1, g2⟩, g3⟩
      exact ⟨by rw [g1], g2, g3⟩
    · rintro ⟨g1, g2, g3⟩
      exact ⟨⟨z_el_inj (k5 y (by omega)) (k5 n (by omega)) (by omega) (by omega) g1, g2⟩, g3⟩
  have hB : ∀ y k, y < n → k < n → od k = nI y → z_bgn od pa n (od k) < n ∧ tt_bel (z_par pa) (z_od od (z_bgn od pa n (od k))) (y + 1) ∧ ∀ p, p < n → tt_bel (z_par pa) (z_od od p) (y + 1) → z_bgn od pa n (od k) ≤ p := by
    intro y k hy hk e
    obtain ⟨f1, f2, f3, f4⟩ := z_fnd_sp (fun p => z_bl pa (nI y) 31 (od p)) n 0
    have hle : ∀ p, p < n → tt_bel (z_par pa) (z_od od p) (y + 1) → z_fnd (fun p => z_bl pa (nI y) 31 (od p)) n 0 ≤ p := by
      intro p hp hpb
      rcases Nat.lt_or_ge p (z_fnd (fun p => z_bl pa (nI y) 31 (od p)) n 0) with g | g
      · have h5 := f3 p (Nat.zero_le p) g
        have h6 := (z_below hok hp hy).mpr hpb
        rw [h6] at h5
        cases h5
      · exact g
    have hself : tt_bel (z_par pa) (z_od od k) (y + 1) := by
      have := hok.1
      unfold z_od
      rw [e, z_nd_n (by omega)]
      exact tt_rf _
    have hlt := hle k hk hself
    rw [e]
    unfold z_bgn
    refine ⟨by omega, ?_, hle⟩
    rcases f4 with g | g
    · omega
    · exact (z_below hok (by omega) hy).mp g
  refine ⟨h1, fun y p y0 yn yp yr ya hp hpb => ?_, ?_⟩
  · obtain ⟨k, k1, k2⟩ := hI.2.1.2.1 y y0 yn
    obtain ⟨e, e1, e2⟩ := hok.2.2.2.1 k k1
    have hey : e + 1 = y := by
      have := hok.1
      unfold z_od at k2
      rw [e2, z_nd_n (by omega)] at k2
      exact k2
    subst hey
    have h4 := h2 k k1 ((hY e k e1 k1 e2).mpr ⟨yp, yr, ya⟩)
    exact Nat.le_trans h4 ((hB e k e1 k1 e2).2.2 p hp hpb)
  · rcases h3 with g | ⟨k, g1, g2, g3⟩
    · exact Or.inl g
    · right
      obtain ⟨e, e1, e2⟩ := hok.2.2.2.1 k g1
      obtain ⟨a1, a2, a3⟩ := (hY e k e1 g1 e2).mp g2
      obtain ⟨b1, b2, b3⟩ := hB e k e1 g1 e2
      rw [g3]
      exact ⟨e + 1, Nat.succ_pos e, e1, a1, a2, a3, b1, b2⟩
theorem z_mk_lt (hok : z_ok n (n + 1) od pa sd ro mk) {a b : Nat} (ha : a ≤ n) (hb : b ≤ n) : (mk a < mk b ↔ z_mk mk (a + 1) < z_mk mk (b + 1)) ∧ (mk a = mk b ↔ z_mk mk (a + 1) = z_mk mk (b + 1)) := by
  obtain ⟨k1, k2, k3, k4, k5, k6, k7, k8⟩ := hok
  obtain ⟨r, r1, r2⟩ := k8 a (by omega)
  obtain ⟨r', r1', r2'⟩ := k8 b (by omega)
  unfold z_mk
  show (mk a < mk b ↔ (mk a).toNatClampNeg < (mk b).toNatClampNeg) ∧ (mk a = mk b ↔ (mk a).toNatClampNeg = (mk b).toNatClampNeg)
  rw [r2, r2', nI_clamp (by omega), nI_clamp (by omega)]
  exact ⟨nI_ltI (by omega) (by omega), nI_eq (by omega) (by omega)⟩
theorem z_placeR (hok : z_ok n (n + 1) od pa sd ro mk) (hI : z_I n od pa sd mk) (hsd : sd n = 1) : z_plC od pa sd ro mk n n = z_plR od pa sd ro mk n n ∧ tt_pl n (z_od od) (z_par pa) (z_rt sd) (z_mk mk) (z_nd (pa n)) (z_plC od pa sd ro mk n n) := by
  have hok' := hok
  obtain ⟨k1, k2, k3, k4, k5, k6, k7, k8⟩ := hok'
  have h01 : ¬ (1 : Int32) = 0 := by decide
  have hrt : z_rt sd (n + 1) = true := decide_eq_true hsd
  have hs : tt_st n (z_od od) (z_nd (pa n)) (z_beh od n (pa n)) := by
    unfold z_beh
    rcases k5 n (by omega) with g | ⟨e, g1, g2⟩
    · rw [g, if_pos rfl, z_nd_m]
      exact Or.inl ⟨rfl, rfl⟩
    · have := z_pl_of hok hI g1
      rw [g2, if_neg (z_n1 (by omega)), z_nd_n (by omega)]
      refine Or.inr ⟨_, this.1, ?_, by omega, rfl⟩
      unfold z_od
      rw [this.2, z_nd_n (by omega)]
  have hE : tt_en n (z_od od) (z_par pa) (z_nd (pa n)) (if pa n < 0 then n else z_end od pa n (pa n)) := by
    rcases k5 n (by omega) with g | ⟨e, g1, g2⟩
    · rw [g, if_pos (by decide), z_nd_m]
      exact Or.inl ⟨rfl, rfl⟩
    · have hp := z_pl_of hok hI g1
      rw [g2, if_neg (nI_pos (by omega)), z_nd_n (by omega)]
      refine Or.inr ⟨Nat.succ_pos e, ?_⟩
      have hself : z_bl pa (nI e) 31 (od (z_pl od n (nI e))) = true := z_bl_e hp.2
      unfold z_end
      rcases z_lst_sp (fun p => z_bl pa (nI e) 31 (od p)) n 0 0 (Nat.le_refl 0) with ⟨_, h2⟩ | ⟨q, h1, h2, h3, h4, h5⟩
      · have := h2 (z_pl od n (nI e)) (Nat.zero_le _) (by omega)
        rw [hself] at this
        cases this
      · rw [h4]
        refine ⟨⟨q, by omega, (z_below hok (by omega) g1).mp h3, rfl⟩, fun p p1 p2 => ?_⟩
        rcases Nat.lt_or_ge q p with c | c
        · have h6 := h5 p c (by omega)
          have h7 := (z_below hok p1 g1).mpr p2
          rw [h7] at h6
          cases h6
        · omega
  have hbf : ∀ c, c < n → (z_sib od sd ro mk n c n = true ↔ (fun c => z_sib od sd ro mk n (c - 1) n = true) (c + 1)) := fun c _ => Iff.rfl
  have hA : tt_AR n (z_od od) (z_par pa) (fun c => z_sib od sd ro mk n (c - 1) n = true) (z_nd (pa n)) (z_beh od n (pa n)) (z_plC od pa sd ro mk n n) := by
    have hsn : z_beh od n (pa n) ≤ n := by
      rcases hs with ⟨_, h⟩ | ⟨p, h1, _, _, h2⟩ <;> omega
    unfold z_plC
    rw [hsd, if_neg h01]
    obtain ⟨f1, f2, f3, f4⟩ := z_fnd_sp (fun q => !z_aft od pa sd ro mk n n q) (n - z_beh od n (pa n)) (z_beh od n (pa n))
    refine ⟨f1, by omega, fun q q1 q2 => ?_, ?_⟩
    · have h := f3 q q1 q2
      have h' : z_aft od pa sd ro mk n n q = true := by
        cases hz : z_aft od pa sd ro mk n n q with
        | true => rfl
        | false => rw [hz] at h; cases h
      exact (z_br_q hok hI (by omega) _ (fun c => z_sib od sd ro mk n c n) hbf).mp h'
    · rcases f4 with g | g
      · left; omega
      · by_cases hlt : z_fnd (fun q => !z_aft od pa sd ro mk n n q) (n - z_beh od n (pa n)) (z_beh od n (pa n)) < n
        · right
          intro hQ
          have h := (z_br_q hok hI hlt _ (fun c => z_sib od sd ro mk n c n) hbf).mpr hQ
          have h' : z_aft od pa sd ro mk n n (z_fnd (fun q => !z_aft od pa sd ro mk n n q) (n - z_beh od n (pa n)) (z_beh od n (pa n))) = true := h
          rw [h'] at g
          cases g
        · left; omega
  have hm := z_hom_mn hok hI true hrt (if pa n < 0 then n else z_end od pa n (pa n)) (fun y => z_ahd od sd ro mk n n (y - 1) = true) (fun y _ => Iff.rfl)
  have hb : ∀ y, 0 < y → y ≤ n → z_par pa y = z_nd (pa n) → z_rt sd y = true → ((fun c => z_sib od sd ro mk n (c - 1) n = true) y ↔ ¬ (fun y => z_ahd od sd ro mk n n (y - 1) = true) y) := by
    intro y y0 yn yp yr
    obtain ⟨c, rfl⟩ : ∃ c, y = c + 1 := ⟨y - 1, by omega⟩
    have hsc : sd c = 1 := of_decide_eq_true yr
    show z_sib od sd ro mk n c n = true ↔ ¬ z_ahd od sd ro mk n n c = true
    have hrc := z_el_mono (k6 c (by omega)) (show c ≤ n by omega)
    have hrn := k6 n (by omega)
    have hinj := z_pl_inj hok hI hrc hrn
    unfold z_sib z_ahd
    rw [hsc, hsd, z_pl_neg hok hrc, z_pl_neg hok hrn]
    by_cases hro : ro c = ro n
    · rw [hro, if_neg (show ¬ ((1 : Int32) = 1 ∧ ¬ z_pl od n (ro n) = z_pl od n (ro n)) from fun q => q.2 rfl), if_neg (show ¬ ((1 : Int32) = 1 ∧ ¬ ro n = ro n) from fun q => q.2 rfl)]
      have hmk := z_mk_lt hok (show c ≤ n by omega) (Nat.le_refl n)
      have hmk' := z_mk_lt hok (Nat.le_refl n) (show c ≤ n by omega)
      by_cases hm2 : mk c = mk n
      · rw [if_neg (show ¬ ¬ mk c = mk n from fun q => q hm2), hm2]
        have h1 : ¬ mk n < mk n := fun q => by rw [Int32.lt_iff_toInt_lt] at q; omega
        rw [decide_eq_true (show c < n by omega), decide_eq_false h1, decide_eq_false (show ¬ n < c by omega)]
        simp
      · rw [if_pos hm2]
        have hm3 : ¬ mk n = mk c := fun q => hm2 q.symm
        rw [decide_eq_false hm3]
        have hne : ¬ z_mk mk (c + 1) = z_mk mk (n + 1) := fun q => hm2 (hmk.2.mpr q)
        simp only [decide_eq_true_eq, Bool.false_and, Bool.or_false]
        rw [hmk.1, hmk'.1]
        omega
    · have hne : ¬ z_pl od n (ro c) = z_pl od n (ro n) := fun q => hro (hinj.mp q)
      rw [if_pos ⟨rfl, hne⟩, if_pos ⟨rfl, fun q => hro q.symm⟩, decide_eq_true_iff, decide_eq_true_iff]
      omega
  have hR : z_plR od pa sd ro mk n n = z_hom (fun k => (decide (pa (od k).toNatClampNeg = pa n) && decide (sd (od k).toNatClampNeg = sd n)) && z_ahd od sd ro mk n n (od k).toNatClampNeg) (fun k => z_bgn od pa n (od k)) n (if pa n < 0 then n else z_end od pa n (pa n)) := by
    unfold z_plR
    rw [if_neg (show ¬ sd n = 0 by rw [hsd]; exact h01)]
  refine ⟨?_, tt_plR hI (z_par_s pa n) (z_el_nd (k5 n (by omega)) (by omega)).1 hrt hs hA⟩
  rw [hR]
  exact tt_right hI hb hs hE hA hm
theorem z_placeL (hok : z_ok n (n + 1) od pa sd ro mk) (hI : z_I n od pa sd mk) (hsd : sd n = 0) (hpn : ¬ pa n = -1) : z_plC od pa sd ro mk n n = z_plR od pa sd ro mk n n ∧ tt_pl n (z_od od) (z_par pa) (z_rt sd) (z_mk mk) (z_nd (pa n)) (z_plC od pa sd ro mk n n) := by
  have hok' := hok
  obtain ⟨k1, k2, k3, k4, k5, k6, k7, k8⟩ := hok'
  have h01 : ¬ (0 : Int32) = 1 := by decide
  have hrt : z_rt sd (n + 1) = false := decide_eq_false (show ¬ sd n = 1 by rw [hsd]; exact h01)
  obtain ⟨e, g1, g2⟩ : ∃ e, e < n ∧ pa n = nI e := by
    rcases k5 n (by omega) with g | g
    · exact absurd g hpn
    · exact g
  have hp := z_pl_of hok hI g1
  have hst : z_od od (z_pl od n (pa n)) = z_nd (pa n) := by
    unfold z_od
    rw [g2, hp.2]
  have ht : 0 < z_nd (pa n) := by rw [g2, z_nd_n (by omega)]; omega
  have hlt : z_pl od n (pa n) < n := by rw [g2]; exact hp.1
  have hsb : ∀ c, c < n → (z_sib od sd ro mk n n c = true ↔ (fun c => z_mk mk (n + 1) < z_mk mk c) (c + 1)) := by
    intro c hc
    have hmk := z_mk_lt hok (Nat.le_refl n) (show c ≤ n by omega)
    show z_sib od sd ro mk n n c = true ↔ z_mk mk (n + 1) < z_mk mk (c + 1)
    unfold z_sib
    rw [if_neg (fun q => h01 (hsd.symm.trans q.1))]
    by_cases hm2 : mk n = mk c
    · rw [if_neg (fun q => q hm2), decide_eq_true_iff]
      have := hmk.2.mp hm2
      omega
    · rw [if_pos hm2, decide_eq_true_iff]
      exact hmk.1
  have hah : ∀ y, y < n → (z_ahd od sd ro mk n n y = true ↔ (fun c => z_mk mk (n + 1) < z_mk mk c) (y + 1)) := by
    intro c hc
    have hmk := z_mk_lt hok (Nat.le_refl n) (show c ≤ n by omega)
    show z_ahd od sd ro mk n n c = true ↔ z_mk mk (n + 1) < z_mk mk (c + 1)
    unfold z_ahd
    rw [if_neg (fun q => h01 (hsd.symm.trans q.1)), decide_eq_false (show ¬ n < c by omega), Bool.and_false, Bool.or_false, decide_eq_true_iff]
    exact hmk.1
  have hA : tt_AL (z_od od) (z_par pa) (fun c => z_mk mk (n + 1) < z_mk mk c) (z_nd (pa n)) (z_pl od n (pa n)) (z_plC od pa sd ro mk n n) := by
    unfold z_plC
    rw [if_pos hsd]
    obtain ⟨f1, f2, f3⟩ := z_dwn_sp (z_bfr od pa sd ro mk n n) (z_pl od n (pa n))
    refine ⟨f1, fun q q1 q2 => (z_br_q hok hI (by omega) _ (fun c => z_sib od sd ro mk n n c) hsb).mp (f2 q q1 q2), ?_⟩
    rcases f3 with g | g
    · exact Or.inl g
    · by_cases h0 : z_dwn (z_bfr od pa sd ro mk n n) (z_pl od n (pa n)) = 0
      · exact Or.inl h0
      · right
        intro hQ
        have h := (z_br_q hok hI (show z_dwn (z_bfr od pa sd ro mk n n) (z_pl od n (pa n)) - 1 < n by omega) _ (fun c => z_sib od sd ro mk n n c) hsb).mpr hQ
        have h' : z_bfr od pa sd ro mk n n (z_dwn (z_bfr od pa sd ro mk n n) (z_pl od n (pa n)) - 1) = true := h
        rw [h'] at g
        cases g
  have hm := z_hom_mn hok hI false hrt (z_pl od n (pa n)) (fun c => z_mk mk (n + 1) < z_mk mk c) hah
  have hR : z_plR od pa sd ro mk n n = z_hom (fun k => (decide (pa (od k).toNatClampNeg = pa n) && decide (sd (od k).toNatClampNeg = sd n)) && z_ahd od sd ro mk n n (od k).toNatClampNeg) (fun k => z_bgn od pa n (od k)) n (z_pl od n (pa n)) := by
    unfold z_plR
    rw [if_pos hsd]
  refine ⟨?_, tt_plL hI (z_par_s pa n) (z_el_nd (k5 n (by omega)) (by omega)).1 hrt hlt hst ht hA⟩
  rw [hR]
  exact tt_left hI hlt hst ht hA hm
end ZP
