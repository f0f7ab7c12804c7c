-- PURE: what the loops compute. P: a question about a place
/-- the first place from p on where P holds, p + k if none -/
def z_fnd (P : Nat → Bool) : Nat → Nat → Nat
  | 0, p => p
  | k + 1, p => if P p = true then p else z_fnd P k (p + 1)
theorem z_fnd_t {P : Nat → Bool} {k p : Nat} (h : P p = true) : z_fnd P (k + 1) p = p := by
  show (if P p = true then p else z_fnd P k (p + 1)) = p
  rw [if_pos h]
theorem z_fnd_f {P : Nat → Bool} {k p : Nat} (h : P p = false) : z_fnd P (k + 1) p = z_fnd P k (p + 1) := by
  show (if P p = true then p else z_fnd P k (p + 1)) = _
  rw [if_neg (by rw [h]; decide)]
theorem z_fnd_sp (P : Nat → Bool) : ∀ (k p : Nat), p ≤ z_fnd P k p ∧ z_fnd P k p ≤ p + k ∧ (∀ q, p ≤ q → q < z_fnd P k p → P q = false) ∧ (z_fnd P k p = p + k ∨ P (z_fnd P k p) = true)
  | 0, p => ⟨Nat.le_refl p, Nat.le_refl p, fun q h1 h2 => absurd h2 (Nat.not_lt.mpr h1), Or.inl rfl⟩
  | k + 1, p => by
    cases h : P p with
    | true =>
      rw [z_fnd_t h]
      exact ⟨Nat.le_refl p, by omega, fun q h1 h2 => absurd h2 (Nat.not_lt.mpr h1), Or.inr h⟩
    | false =>
      rw [z_fnd_f h]
      obtain ⟨h1, h2, h3, h4⟩ := z_fnd_sp P k (p + 1)
      refine ⟨by omega, by omega, fun q g1 g2 => ?_, ?_⟩
      · rcases Nat.eq_or_lt_of_le g1 with e | e
        · rw [← e]; exact h
        · exact h3 q e g2
      · rcases h4 with e | e
        · left; omega
        · right; exact e
theorem z_fnd_eq {P : Nat → Bool} {k p r : Nat} (h1 : p ≤ r) (h2 : r ≤ p + k) (h3 : ∀ q, p ≤ q → q < r → P q = false) (h4 : r = p + k ∨ P r = true) : z_fnd P k p = r := by
  obtain ⟨g1, g2, g3, g4⟩ := z_fnd_sp P k p
  rcases Nat.lt_trichotomy (z_fnd P k p) r with e | e | e
  · rcases g4 with g | g
    · omega
    · rw [h3 _ g1 e] at g; cases g
  · exact e
  · rcases h4 with g | g
    · omega
    · rw [g3 r h1 e] at g; cases g
theorem z_fnd_c {P P' : Nat → Bool} : ∀ {k p : Nat}, (∀ q, p ≤ q → q < p + k → P q = P' q) → z_fnd P k p = z_fnd P' k p
  | 0, _, _ => rfl
  | k + 1, p, h => by
    show (if P p = true then p else z_fnd P k (p + 1)) = (if P' p = true then p else z_fnd P' k (p + 1))
    rw [h p (Nat.le_refl p) (by omega), z_fnd_c (fun q h1 h2 => h q (by omega) (by omega))]
/-- how many from p on, over k places, more than c -/
def z_cnt (P : Nat → Bool) : Nat → Nat → Nat → Nat
  | 0, _, c => c
  | k + 1, p, c => z_cnt P k (p + 1) (if P p = true then c + 1 else c)
theorem z_cnt_t {P : Nat → Bool} {k p c : Nat} (h : P p = true) : z_cnt P (k + 1) p c = z_cnt P k (p + 1) (c + 1) := by
  show z_cnt P k (p + 1) (if P p = true then c + 1 else c) = _
  rw [if_pos h]
theorem z_cnt_f {P : Nat → Bool} {k p c : Nat} (h : P p = false) : z_cnt P (k + 1) p c = z_cnt P k (p + 1) c := by
  show z_cnt P k (p + 1) (if P p = true then c + 1 else c) = _
  rw [if_neg (by rw [h]; decide)]
def z_num (P : Nat → Bool) : Nat → Nat
  | 0 => 0
  | n + 1 => z_num P n + (if P n = true then 1 else 0)
theorem z_num_s (P : Nat → Bool) (n : Nat) : z_num P (n + 1) = z_num P n + (if P n = true then 1 else 0) := rfl
theorem z_cnt_num (P : Nat → Bool) : ∀ (k p c : Nat), z_cnt P k p c + z_num P p = c + z_num P (p + k)
  | 0, p, c => rfl
  | k + 1, p, c => by
    have h := z_cnt_num P k (p + 1) (if P p = true then c + 1 else c)
    have e : p + 1 + k = p + (k + 1) := by omega
    rw [z_num_s, e] at h
    show z_cnt P k (p + 1) (if P p = true then c + 1 else c) + z_num P p = c + z_num P (p + (k + 1))
    split at h <;> simp_all <;> omega
theorem z_cnt_0 (P : Nat → Bool) (n : Nat) : z_cnt P n 0 0 = z_num P n := by
  have h := z_cnt_num P n 0 0
  rw [Nat.zero_add, Nat.zero_add] at h
  exact h
theorem z_num_c {P P' : Nat → Bool} : ∀ {n : Nat}, (∀ q, q < n → P q = P' q) → z_num P n = z_num P' n
  | 0, _ => rfl
  | n + 1, h => by rw [z_num_s, z_num_s, h n (Nat.lt_succ_self n), z_num_c (fun q hq => h q (by omega))]
theorem z_num_le (P : Nat → Bool) : ∀ (n : Nat), z_num P n ≤ n
  | 0 => Nat.le_refl 0
  | n + 1 => by
    have := z_num_le P n
    rw [z_num_s]
    split <;> omega
theorem z_num_mono (P : Nat → Bool) (n : Nat) : ∀ (k : Nat), z_num P n ≤ z_num P (n + k)
  | 0 => Nat.le_refl _
  | k + 1 => by
    have := z_num_mono P n k
    rw [← Nat.add_assoc, z_num_s]
    omega
/-- the i-th place from p on where P holds: what od holds there; -3 if there is none -/
def z_nth (P : Nat → Bool) (od : Nat → Int32) : Nat → Nat → Int32 → Int32
  | 0, _, _ => -3
  | k + 1, p, i => if P p = true then (if i = 0 then od p else z_nth P od k (p + 1) (i - 1)) else z_nth P od k (p + 1) i
theorem z_nth_0 {P : Nat → Bool} {od : Nat → Int32} {k p : Nat} {i : Int32} (h : P p = true) (hi : i = 0) : z_nth P od (k + 1) p i = od p := by
  show (if P p = true then (if i = 0 then od p else z_nth P od k (p + 1) (i - 1)) else z_nth P od k (p + 1) i) = _
  rw [if_pos h, if_pos hi]
theorem z_nth_t {P : Nat → Bool} {od : Nat → Int32} {k p : Nat} {i : Int32} (h : P p = true) (hi : ¬ i = 0) : z_nth P od (k + 1) p i = z_nth P od k (p + 1) (i - 1) := by
  show (if P p = true then (if i = 0 then od p else z_nth P od k (p + 1) (i - 1)) else z_nth P od k (p + 1) i) = _
  rw [if_pos h, if_neg hi]
theorem z_nth_f {P : Nat → Bool} {od : Nat → Int32} {k p : Nat} {i : Int32} (h : P p = false) : z_nth P od (k + 1) p i = z_nth P od k (p + 1) i := by
  show (if P p = true then (if i = 0 then od p else z_nth P od k (p + 1) (i - 1)) else z_nth P od k (p + 1) i) = _
  rw [if_neg (by rw [h]; decide)]
theorem z_nth_c {P P' : Nat → Bool} {od od' : Nat → Int32} : ∀ {k p : Nat} {i : Int32}, (∀ q, p ≤ q → q < p + k → P q = P' q ∧ od q = od' q) → z_nth P od k p i = z_nth P' od' k p i
  | 0, _, _, _ => rfl
  | k + 1, p, i, h => by
    have h0 := h p (Nat.le_refl p) (by omega)
    have h1 : ∀ j, z_nth P od k (p + 1) j = z_nth P' od' k (p + 1) j := fun j => z_nth_c (fun q h1 h2 => h q (by omega) (by omega))
    show (if P p = true then (if i = 0 then od p else z_nth P od k (p + 1) (i - 1)) else z_nth P od k (p + 1) i) = (if P' p = true then (if i = 0 then od' p else z_nth P' od' k (p + 1) (i - 1)) else z_nth P' od' k (p + 1) i)
    rw [h0.1, h0.2, h1, h1]
/-- what an answer other than -3 tells -/
theorem z_nth_in {P : Nat → Bool} {od : Nat → Int32} : ∀ {k p : Nat} {i : Int32}, z_nth P od k p i ≠ -3 → ∃ j q, i = nI j ∧ p ≤ q ∧ q < p + k ∧ P q = true ∧ z_nth P od k p i = od q ∧ z_num P q = z_num P p + j
  | 0, _, _, h => absurd rfl h
  | k + 1, p, i, h => by
    cases hp : P p with
    | true =>
      by_cases hi : i = 0
      · exact ⟨0, p, by rw [nI_0]; exact hi, Nat.le_refl p, by omega, hp, z_nth_0 hp hi, rfl⟩
      · rw [z_nth_t hp hi] at h ⊢
        obtain ⟨j, q, e1, e2, e3, e4, e5, e6⟩ := z_nth_in h
        refine ⟨j + 1, q, ?_, by omega, by omega, e4, e5, ?_⟩
        · rw [← nI_1, ← e1]
          exact (Int32.sub_add_cancel i 1).symm
        · rw [e6, z_num_s, if_pos hp]
          omega
    | false =>
      rw [z_nth_f hp] at h ⊢
      obtain ⟨j, q, e1, e2, e3, e4, e5, e6⟩ := z_nth_in h
      refine ⟨j, q, e1, by omega, by omega, e4, e5, ?_⟩
      rw [e6, z_num_s, if_neg (by rw [hp]; decide)]
      omega
theorem z_nth_of {P : Nat → Bool} {od : Nat → Int32} : ∀ {k p j : Nat}, j < 1000 → z_num P p + j < z_num P (p + k) → ∃ q, p ≤ q ∧ q < p + k ∧ P q = true ∧ z_nth P od k p (nI j) = od q
  | 0, p, j, _, h => absurd h (by simp)
  | k + 1, p, j, hj, h => by
    have e : p + 1 + k = p + (k + 1) := by omega
    cases hp : P p with
    | true =>
      cases j with
      | zero => exact ⟨p, Nat.le_refl p, by omega, hp, z_nth_0 hp nI_0⟩
      | succ j =>
        have h1 : z_num P (p + 1) + j < z_num P (p + 1 + k) := by
          rw [e, z_num_s, if_pos hp]
          omega
        obtain ⟨q, e1, e2, e3, e4⟩ := z_nth_of (od := od) (by omega) h1
        refine ⟨q, by omega, by omega, e3, ?_⟩
        rw [z_nth_t hp (nI_ne0 (by omega) (by omega)), nI_pred]
        exact e4
    | false =>
      have h1 : z_num P (p + 1) + j < z_num P (p + 1 + k) := by
        rw [e, z_num_s, if_neg (by rw [hp]; decide)]
        omega
      obtain ⟨q, e1, e2, e3, e4⟩ := z_nth_of (od := od) hj h1
      refine ⟨q, by omega, by omega, e3, ?_⟩
      rw [z_nth_f hp]
      exact e4
/-- some place from p on, over k places -/
def z_any (P : Nat → Bool) : Nat → Nat → Bool
  | 0, _ => false
  | k + 1, p => P p || z_any P k (p + 1)
theorem z_any_t {P : Nat → Bool} {k p : Nat} (h : P p = true) : z_any P (k + 1) p = true := by
  show (P p || z_any P k (p + 1)) = true
  rw [h]; rfl
theorem z_any_f {P : Nat → Bool} {k p : Nat} (h : P p = false) : z_any P (k + 1) p = z_any P k (p + 1) := by
  show (P p || z_any P k (p + 1)) = _
  rw [h]; rfl
theorem z_any_c {P P' : Nat → Bool} : ∀ {k p : Nat}, (∀ q, p ≤ q → q < p + k → P q = P' q) → z_any P k p = z_any P' k p
  | 0, _, _ => rfl
  | k + 1, p, h => by
    show (P p || z_any P k (p + 1)) = (P' p || z_any P' k (p + 1))
    rw [h p (Nat.le_refl p) (by omega), z_any_c (fun q h1 h2 => h q (by omega) (by omega))]
theorem z_any_iff {P : Nat → Bool} : ∀ {k p : Nat}, z_any P k p = true ↔ ∃ q, p ≤ q ∧ q < p + k ∧ P q = true
  | 0, p => ⟨fun h => (by cases h), fun ⟨q, h1, h2, _⟩ => (by omega)⟩
  | k + 1, p => by
    show (P p || z_any P k (p + 1)) = true ↔ _
    rw [Bool.or_eq_true, z_any_iff]
    constructor
    · rintro (h | ⟨q, h1, h2, h3⟩)
      · exact ⟨p, Nat.le_refl p, by omega, h⟩
      · exact ⟨q, by omega, by omega, h3⟩
    · rintro ⟨q, h1, h2, h3⟩
      rcases Nat.eq_or_lt_of_le h1 with e | e
      · left; rw [e]; exact h3
      · right; exact ⟨q, e, by omega, h3⟩
/-- a walk down: the least place such that P holds from there to below p -/
def z_dwn (P : Nat → Bool) : Nat → Nat
  | 0 => 0
  | p + 1 => if P p = true then z_dwn P p else p + 1
theorem z_dwn_t {P : Nat → Bool} {p : Nat} (h : P p = true) : z_dwn P (p + 1) = z_dwn P p := by
  show (if P p = true then z_dwn P p else p + 1) = _
  rw [if_pos h]
theorem z_dwn_f {P : Nat → Bool} {p : Nat} (h : P p = false) : z_dwn P (p + 1) = p + 1 := by
  show (if P p = true then z_dwn P p else p + 1) = _
  rw [if_neg (by rw [h]; decide)]
theorem z_dwn_sp (P : Nat → Bool) : ∀ (p : Nat), z_dwn P p ≤ p ∧ (∀ q, z_dwn P p ≤ q → q < p → P q = true) ∧ (z_dwn P p = 0 ∨ P (z_dwn P p - 1) = false)
  | 0 => ⟨Nat.le_refl 0, fun q _ h => absurd h (Nat.not_lt_zero q), Or.inl rfl⟩
  | p + 1 => by
    cases h : P p with
    | true =>
      rw [z_dwn_t h]
      obtain ⟨h1, h2, h3⟩ := z_dwn_sp P p
      refine ⟨by omega, fun q g1 g2 => ?_, h3⟩
      rcases Nat.lt_or_ge q p with e | e
      · exact h2 q g1 e
      · have : q = p := by omega
        rw [this]; exact h
    | false =>
      rw [z_dwn_f h]
      exact ⟨Nat.le_refl _, fun q h1 h2 => absurd h2 (Nat.not_lt.mpr h1), Or.inr h⟩
/-- the place behind the last one where P holds -/
def z_lst (P : Nat → Bool) : Nat → Nat → Nat → Nat
  | 0, _, a => a
  | k + 1, p, a => z_lst P k (p + 1) (if P p = true then p + 1 else a)
theorem z_lst_sp (P : Nat → Bool) : ∀ (k p a : Nat), a ≤ p → (z_lst P k p a = a ∧ ∀ q, p ≤ q → q < p + k → P q = false) ∨ (∃ q, p ≤ q ∧ q < p + k ∧ P q = true ∧ z_lst P k p a = q + 1 ∧ ∀ q', q < q' → q' < p + k → P q' = false)
  | 0, p, a, _ => Or.inl ⟨rfl, fun q h1 h2 => absurd h2 (Nat.not_lt.mpr h1)⟩
  | k + 1, p, a, ha => by
    cases h : P p with
    | true =>
      have e : z_lst P (k + 1) p a = z_lst P k (p + 1) (p + 1) := by
        show z_lst P k (p + 1) (if P p = true then p + 1 else a) = _
        rw [if_pos h]
      rw [e]
      rcases z_lst_sp P k (p + 1) (p + 1) (Nat.le_refl _) with ⟨h1, h2⟩ | ⟨q, h1, h2, h3, h4, h5⟩
      · exact Or.inr ⟨p, Nat.le_refl p, by omega, h, h1, fun q' g1 g2 => h2 q' g1 (by omega)⟩
      · exact Or.inr ⟨q, by omega, by omega, h3, h4, fun q' g1 g2 => h5 q' g1 (by omega)⟩
    | false =>
      have e : z_lst P (k + 1) p a = z_lst P k (p + 1) a := by
        show z_lst P k (p + 1) (if P p = true then p + 1 else a) = _
        rw [if_neg (by rw [h]; decide)]
      rw [e]
      rcases z_lst_sp P k (p + 1) a (by omega) with ⟨h1, h2⟩ | ⟨q, h1, h2, h3, h4, h5⟩
      · refine Or.inl ⟨h1, fun q g1 g2 => ?_⟩
        rcases Nat.eq_or_lt_of_le g1 with e2 | e2
        · rw [← e2]; exact h
        · exact h2 q e2 (by omega)
      · exact Or.inr ⟨q, by omega, by omega, h3, h4, fun q' g1 g2 => h5 q' g1 (by omega)⟩
/-- the least of a and of the B k where Y k holds, k below the count -/
def z_hom (Y : Nat → Bool) (B : Nat → Nat) : Nat → Nat → Nat
  | 0, a => a
  | k + 1, a => z_hom Y B k (if Y k = true ∧ B k < a then B k else a)
theorem z_hom_sp (Y : Nat → Bool) (B : Nat → Nat) : ∀ (k a : Nat), z_hom Y B k a ≤ a ∧ (∀ q, q < k → Y q = true → z_hom Y B k a ≤ B q) ∧ (z_hom Y B k a = a ∨ ∃ q, q < k ∧ Y q = true ∧ z_hom Y B k a = B q)
  | 0, a => ⟨Nat.le_refl a, fun q h => absurd h (Nat.not_lt_zero q), Or.inl rfl⟩
  | k + 1, a => by
    have e : z_hom Y B (k + 1) a = z_hom Y B k (if Y k = true ∧ B k < a then B k else a) := rfl
    rw [e]
    obtain ⟨h1, h2, h3⟩ := z_hom_sp Y B k (if Y k = true ∧ B k < a then B k else a)
    by_cases c : Y k = true ∧ B k < a
    · rw [if_pos c] at h1 h2 h3 ⊢
      refine ⟨by omega, fun q g1 g2 => ?_, ?_⟩
      · rcases Nat.lt_or_ge q k with g | g
        · exact h2 q g g2
        · have : q = k := by omega
          rw [this]; exact h1
      · rcases h3 with g | ⟨q, g1, g2, g3⟩
        · exact Or.inr ⟨k, Nat.lt_succ_self k, c.1, g⟩
        · exact Or.inr ⟨q, by omega, g2, g3⟩
    · rw [if_neg c] at h1 h2 h3 ⊢
      refine ⟨h1, fun q g1 g2 => ?_, ?_⟩
      · rcases Nat.lt_or_ge q k with g | g
        · exact h2 q g g2
        · have e2 : q = k := by omega
          subst e2
          have : ¬ B q < a := fun g => c ⟨g2, g⟩
          omega
      · rcases h3 with g | ⟨q, g1, g2, g3⟩
        · exact Or.inl g
        · exact Or.inr ⟨q, by omega, g2, g3⟩
/-- from place n down to above A: each takes what stood before it -/
def z_shr (A : Nat) : Nat → (Nat → Int32) → (Nat → Int32)
  | 0, f => f
  | p + 1, f => if A < p + 1 then z_shr A p (upd f (p + 1) (f p)) else f
theorem z_shr_sp (A : Nat) : ∀ (p : Nat) (f : Nat → Int32) (j : Nat), z_shr A p f j = if A < j ∧ j ≤ p then f (j - 1) else f j
  | 0, f, j => by
    show f j = _
    rw [if_neg (by omega)]
  | p + 1, f, j => by
    show (if A < p + 1 then z_shr A p (upd f (p + 1) (f p)) else f) j = _
    by_cases c : A < p + 1
    · rw [if_pos c, z_shr_sp A p]
      by_cases c2 : A < j ∧ j ≤ p
      · rw [if_pos c2, if_pos (by omega), pk_un (by omega)]
      · rw [if_neg c2]
        by_cases c3 : j = p + 1
        · subst c3
          rw [pk_us, if_pos (by omega)]
          rfl
        · rw [pk_un c3, if_neg (by omega)]
    · rw [if_neg c, if_neg (by omega)]
/-- from place j on, over k places: each takes what stands behind it -/
def z_shl : Nat → Nat → (Nat → Int32) → (Nat → Int32)
  | 0, _, f => f
  | k + 1, j, f => z_shl k (j + 1) (upd f j (f (j + 1)))
theorem z_shl_sp : ∀ (k j : Nat) (f : Nat → Int32) (i : Nat), z_shl k j f i = if j ≤ i ∧ i < j + k then f (i + 1) else f i
  | 0, j, f, i => by
    show f i = _
    rw [if_neg (by omega)]
  | k + 1, j, f, i => by
    show z_shl k (j + 1) (upd f j (f (j + 1))) i = _
    rw [z_shl_sp k (j + 1)]
    by_cases c : j + 1 ≤ i ∧ i < j + 1 + k
    · rw [if_pos c, if_pos (by omega), pk_un (by omega)]
    · rw [if_neg c]
      by_cases c2 : i = j
      · subst c2
        rw [pk_us, if_pos (by omega)]
      · rw [pk_un c2, if_neg (by omega)]
def z_B (b : Bool) : Int32 := if b = true then 1 else 0
theorem z_B_0 {b : Bool} : z_B b = 0 ↔ b = false := by cases b <;> decide
theorem z_B_n {b : Bool} : (¬ z_B b = 0) ↔ b = true := by cases b <;> decide
theorem z_B_na (b : Bool) : narrow .boolean (.int (z_B b)) = .int (z_B b) := by cases b <;> rfl
theorem z_inc (p : Nat) : nI p + Int32.ofInt 1 = nI (p + 1) := by
  rw [show Int32.ofInt 1 = (1 : Int32) by decide]
  exact nI_1 p
theorem z_dec (x : Int32) : x + Int32.ofInt (-1) = x - 1 := by
  rw [show Int32.ofInt (-1) = -(1 : Int32) by decide, ← Int32.sub_eq_add_neg]
theorem z_dcN (p : Nat) : nI (p + 1) + Int32.ofInt (-1) = nI p := by
  rw [z_dec, nI_pred]
/-- one more place A, where b stands -/
def z_in (g : Nat → Bool) (A : Nat) (b : Bool) : Nat → Bool := fun p => if p < A then g p else if p = A then b else g (p - 1)
theorem z_in_lo (g : Nat → Bool) (b : Bool) {A : Nat} : ∀ {m : Nat}, m ≤ A → z_num (z_in g A b) m = z_num g m
  | 0, _ => rfl
  | m + 1, h => by
    rw [z_num_s, z_num_s, z_in_lo g b (by omega)]
    have : z_in g A b m = g m := if_pos (by omega)
    rw [this]
theorem z_in_num (g : Nat → Bool) (A : Nat) (b : Bool) : ∀ (k : Nat), z_num (z_in g A b) (A + k + 1) = z_num g (A + k) + (if b = true then 1 else 0)
  | 0 => by
    rw [Nat.add_zero, z_num_s, z_in_lo g b (Nat.le_refl A)]
    have : z_in g A b A = b := by
      unfold z_in
      rw [if_neg (Nat.lt_irrefl A), if_pos rfl]
    rw [this]
    rfl
  | k + 1 => by
    rw [z_num_s, ← Nat.add_assoc, z_in_num g A b k, z_num_s]
    have : z_in g A b (A + k + 1) = g (A + k) := by
      unfold z_in
      rw [if_neg (by omega), if_neg (by omega)]
      rfl
    rw [this]
    omega
/-- taking place k out of s places -/
theorem z_take {α : Type} (P : α → Bool) {f f' : Nat → α} {s k : Nat} (hk : k < s) (h1 : ∀ j, j < k → f' j = f j) (h2 : ∀ j, k ≤ j → j < s - 1 → f' j = f (j + 1)) : z_num (fun j => P (f' j)) (s - 1) + (if P (f k) = true then 1 else 0) = z_num (fun j => P (f j)) s := by
  have h := z_in_num (fun j => P (f' j)) k (P (f k)) (s - 1 - k)
  rw [show k + (s - 1 - k) + 1 = s by omega, show k + (s - 1 - k) = s - 1 by omega] at h
  rw [← h]
  refine z_num_c (fun q hq => ?_)
  unfold z_in
  rcases Nat.lt_trichotomy q k with c | c | c
  · rw [if_pos c]
    show P (f' q) = P (f q)
    rw [h1 q c]
  · rw [if_neg (by omega), if_pos c, c]
  · rw [if_neg (by omega), if_neg (by omega)]
    show P (f' (q - 1)) = P (f q)
    rw [h2 (q - 1) (by omega) (by omega), show q - 1 + 1 = q by omega]
theorem z_app {α : Type} (P : α → Bool) {f f' : Nat → α} {s : Nat} (h1 : ∀ j, j < s → f' j = f j) : z_num (fun j => P (f' j)) (s + 1) = z_num (fun j => P (f j)) s + (if P (f' s) = true then 1 else 0) := by
  rw [z_num_s, z_num_c (P' := fun j => P (f j)) (fun q hq => by rw [h1 q hq])]
/-- one place changed -/
theorem z_one (g g' : Nat → Bool) (e : Nat) (h : ∀ j, j ≠ e → g' j = g j) : ∀ (n : Nat), e < n → z_num g' n + (if g e = true then 1 else 0) = z_num g n + (if g' e = true then 1 else 0)
  | 0, he => absurd he (Nat.not_lt_zero e)
  | n + 1, he => by
    rw [z_num_s, z_num_s]
    by_cases c : e = n
    · subst c
      rw [z_num_c (P' := g) (fun q hq => h q (by omega))]
      omega
    · have := z_one g g' e h n (by omega)
      rw [h n (fun q => c q.symm)]
      omega
theorem z_num_pos {g : Nat → Bool} : ∀ {n k : Nat}, k < n → g k = true → 1 ≤ z_num g n
  | 0, k, h, _ => absurd h (Nat.not_lt_zero k)
  | n + 1, k, h, hg => by
    rw [z_num_s]
    by_cases c : k = n
    · subst c
      rw [if_pos hg]
      omega
    · have := z_num_pos (n := n) (by omega) hg
      omega
theorem z_num_0 {g : Nat → Bool} : ∀ {n : Nat}, (∀ k, k < n → g k = false) → z_num g n = 0
  | 0, _ => rfl
  | n + 1, h => by
    rw [z_num_s, h n (Nat.lt_succ_self n), z_num_0 (fun k hk => h k (by omega))]
    rfl
