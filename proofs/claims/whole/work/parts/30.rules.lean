-- THE WORLD AS ONE: cells 0 .. 38 at the addresses ad 0 .. ad 38; cell k holds what the numbers V k say; a walk 'wv' keeps the heap out of sight
abbrev wN : Nat := 39
def wE (cA : ClassId) (n : Nat) (v : Nat → Int32) : va_E := .inl (cA, n, .inl v)
/-- the cells: 0 the class's object, 1 its tree, 2 .. 7 the tree's rows, 8 the row of replicas, 6 r + 9: replica r, its marks, its tray and codes, its wait and codes; 27 the reference's object, 28 .. 38 its rows -/
def wG (cA cR : ClassId) (ad : Nat → Nat) (k : Nat) (v : Nat → Int32) : va_E := match k with
  | 0 => .inr (3, [.ref (ad 1), .ref (ad 8)])
  | 1 => .inr (2, [.ref (ad 2), .ref (ad 3), .ref (ad 4), .ref (ad 5), .ref (ad 6), .ref (ad 7), .int (v 0)])
  | 2 => wE cA 30 v
  | 3 => wE cA 30 v
  | 4 => wE cA 30 v
  | 5 => wE cA 30 v
  | 6 => wE cA 30 v
  | 7 => wE cA 30 v
  | 8 => .inl (cR, 3, .inr (.inr (.inr (.inr (fun i => some (ad (6 * i + 9)))))))
  | 9 => .inr (1, [.ref (ad 10), .ref (ad 11), .ref (ad 13)])
  | 10 => wE cA 30 v
  | 11 => .inr (0, [.ref (ad 12), .int (v 0)])
  | 12 => wE cA 50 v
  | 13 => .inr (0, [.ref (ad 14), .int (v 0)])
  | 14 => wE cA 90 v
  | 15 => .inr (1, [.ref (ad 16), .ref (ad 17), .ref (ad 19)])
  | 16 => wE cA 30 v
  | 17 => .inr (0, [.ref (ad 18), .int (v 0)])
  | 18 => wE cA 50 v
  | 19 => .inr (0, [.ref (ad 20), .int (v 0)])
  | 20 => wE cA 90 v
  | 21 => .inr (1, [.ref (ad 22), .ref (ad 23), .ref (ad 25)])
  | 22 => wE cA 30 v
  | 23 => .inr (0, [.ref (ad 24), .int (v 0)])
  | 24 => wE cA 50 v
  | 25 => .inr (0, [.ref (ad 26), .int (v 0)])
  | 26 => wE cA 90 v
  | 27 => .inr (4, [.int (v 0), .ref (ad 28), .ref (ad 29), .ref (ad 30), .ref (ad 31), .ref (ad 32), .ref (ad 33), .ref (ad 34), .ref (ad 35), .ref (ad 36), .ref (ad 37), .ref (ad 38)])
  | 28 => wE cA 30 v
  | 29 => wE cA 30 v
  | 30 => wE cA 30 v
  | 31 => wE cA 30 v
  | 32 => wE cA 30 v
  | 33 => wE cA 30 v
  | 34 => wE cA 90 v
  | 35 => wE cA 270 v
  | 36 => wE cA 3 v
  | 37 => wE cA 270 v
  | 38 => wE cA 3 v
  | _ => wE cA 0 v
section WG
variable (cA cR : ClassId) (ad : Nat → Nat)
theorem wR3 {P : Nat → Prop} (h0 : P 0) (h1 : P 1) (h2 : P 2) (r : Nat) (hr : r < 3) : P r := by
  rcases (show r = 0 ∨ r = 1 ∨ r = 2 by omega) with e | e | e
  · rw [e]; exact h0
  · rw [e]; exact h1
  · rw [e]; exact h2
theorem wG_rep {r : Nat} (hr : r < 3) (v : Nat → Int32) : wG cA cR ad (6 * r + 9) v = .inr (1, [.ref (ad (6 * r + 10)), .ref (ad (6 * r + 11)), .ref (ad (6 * r + 13))]) := wR3 (P := fun r => wG cA cR ad (6 * r + 9) v = .inr (1, [.ref (ad (6 * r + 10)), .ref (ad (6 * r + 11)), .ref (ad (6 * r + 13))])) rfl rfl rfl r hr
theorem wG_mk {r : Nat} (hr : r < 3) : wG cA cR ad (6 * r + 10) = wE cA 30 := wR3 (P := fun r => wG cA cR ad (6 * r + 10) = wE cA 30) rfl rfl rfl r hr
theorem wG_tm {r : Nat} (hr : r < 3) (v : Nat → Int32) : wG cA cR ad (6 * r + 11) v = .inr (0, [.ref (ad (6 * r + 12)), .int (v 0)]) := wR3 (P := fun r => wG cA cR ad (6 * r + 11) v = .inr (0, [.ref (ad (6 * r + 12)), .int (v 0)])) rfl rfl rfl r hr
theorem wG_tc {r : Nat} (hr : r < 3) : wG cA cR ad (6 * r + 12) = wE cA 50 := wR3 (P := fun r => wG cA cR ad (6 * r + 12) = wE cA 50) rfl rfl rfl r hr
theorem wG_wm {r : Nat} (hr : r < 3) (v : Nat → Int32) : wG cA cR ad (6 * r + 13) v = .inr (0, [.ref (ad (6 * r + 14)), .int (v 0)]) := wR3 (P := fun r => wG cA cR ad (6 * r + 13) v = .inr (0, [.ref (ad (6 * r + 14)), .int (v 0)])) rfl rfl rfl r hr
theorem wG_wc {r : Nat} (hr : r < 3) : wG cA cR ad (6 * r + 14) = wE cA 90 := wR3 (P := fun r => wG cA cR ad (6 * r + 14) = wE cA 90) rfl rfl rfl r hr
theorem wN_r {r : Nat} (hr : r < 3) (j : Nat) (hj : j < 15) : 6 * r + j < wN := by show 6 * r + j < 39; omega
end WG
def wL (cA cR : ClassId) (ad : Nat → Nat) (V : Nat → Nat → Int32) : va_W := (List.range wN).map (fun k => (ad k, wG cA cR ad k (V k)))
theorem wL_at (cA cR : ClassId) (ad : Nat → Nat) (V : Nat → Nat → Int32) {k : Nat} (hk : k < wN) : (wL cA cR ad V)[k]? = some (ad k, wG cA cR ad k (V k)) := by
  unfold wL
  rw [List.getElem?_map, List.getElem?_range hk]
  rfl
theorem wL_lt {cA cR : ClassId} {ad : Nat → Nat} {V : Nat → Nat → Int32} {k : Nat} {q : Nat × va_E} (h : (wL cA cR ad V)[k]? = some q) : k < wN ∧ q = (ad k, wG cA cR ad k (V k)) := by
  have h1 := (List.getElem?_eq_some_iff.mp h).1
  have h2 : k < wN := by
    unfold wL at h1
    rw [List.length_map, List.length_range] at h1
    exact h1
  rw [wL_at cA cR ad V h2] at h
  exact ⟨h2, (Option.some.inj h).symm⟩
theorem wL_set {cA cR : ClassId} {ad : Nat → Nat} {V : Nat → Nat → Int32} {k i : Nat} {x : Int32} {e : va_E} (hk : k < wN) (he : wG cA cR ad k (upd (V k) i x) = e) : (wL cA cR ad V).set k (ad k, e) = wL cA cR ad (wU V k i x) := by
  apply List.ext_getElem?
  intro j
  by_cases hj : j = k
  · subst hj
    rw [wL_at cA cR ad _ hk, List.getElem?_set_self (by unfold wL; rw [List.length_map, List.length_range]; exact hk), wU_s, he]
  · rw [List.getElem?_set_ne (Ne.symm hj)]
    by_cases hl : j < wN
    · rw [wL_at cA cR ad _ hl, wL_at cA cR ad _ hl, wU_n hj]
    · rw [List.getElem?_eq_none (by unfold wL; rw [List.length_map, List.length_range]; omega), List.getElem?_eq_none (by unfold wL; rw [List.length_map, List.length_range]; omega)]
abbrev wT (cA cR : ClassId) : List (ClassId × FieldType) := [(cA, .int), (cR, .object R_Re)]
abbrev gX := (Program × Launch × Env × Room) × (State × MethodId × Array Value × List Frame) × (Method × Code × Nat × Nat) × (State → Prop) × va_G × (Nat → Prop) × Heap
def wv (X : gX) (cA cR : ClassId) (ad : Nat → Nat) (V : Nat → Nat → Int32) (pc : Nat) (ls : Array Slot) (st : List Value) : Prop := match X with
  | ((p, l, e, R), (s, m, args, below), (meth, c, cells, slots), Q, D, A, H0) => ∀ (H : Heap) (locs : List Loc), va_P D vwC (wL cA cR ad V) H → va_S A H0 H locs → W p l e R s m args below meth c H locs cells slots Q (F0 m pc ls st)
def wA (ad : Nat → Nat) : Nat → Prop := fun q => ∃ k, k < wN ∧ q = ad k
def wI (ad : Nat → Nat) : Prop := ∀ i j, i < wN → j < wN → ad i = ad j → i = j
/-- what a walk stands on: the machine, the method's bytes, its class, its words; the launch, the tables' numbers and the room -/
def gok (X : gX) (l : Launch) (D : va_G) (R : Room) (cA cR : ClassId) (ad : Nat → Nat) (cc : ByteArray) (nL : Nat) (own : String) : Prop := match X with
  | ((p, l', e, R'), (s, m, args, below), (meth, c, cells, slots), Q, D', A, H0) => p.tables.exec = Jvm.exec ∧ c.code = cc ∧ c.maxLocals = nL ∧ s.vm.findClass own = some m.cls ∧ (∀ w ∈ wAl, w.before args s = true) ∧ va_K D' vwC (wT cA cR) s ∧ (∀ V, va_D A (wL cA cR ad V)) ∧ meth.locks = false ∧ l' = l ∧ D' = D ∧ R' = R ∧ (∀ q, wA ad q → A q) ∧ cells ≤ R'.cells ∧ slots ≤ R'.slots
section WV
variable {X : gX} {l : Launch} {D : va_G} {R : Room} {cA cR : ClassId} {ad : Nat → Nat} {V : Nat → Nat → Int32} {cc : ByteArray} {nL pc : Nat} {own : String} {ls : Array Slot} {rest : List Value}
theorem r_iconst (h : gok X l D R cA cR ad cc nL own) {n : Int} {v : Int32} (hdg : decode cc pc = .ok (.iconst n, 1)) (hv : Int32.ofInt n = v) (kk : wv X cA cR ad V (pc + 1) ls (.int v :: rest)) : wv X cA cR ad V pc ls rest := by
  obtain ⟨⟨p, l, e, R⟩, ⟨s, m, args, below⟩, ⟨meth, c, cells, slots⟩, Q, D, A, H0⟩ := X
  obtain ⟨hx, hb, hml, hown, hts, hK, hD, hlk, rfl, rfl, rfl, hAw, hcl⟩ := h
  intro H locs hP hS
  exact lv_iconst hx hb hdg hv (kk H locs hP hS)
theorem r_bipush (h : gok X l D R cA cR ad cc nL own) {n : Int} {v : Int32} (hdg : decode cc pc = .ok (.bipush n, 2)) (hv : (Int8.ofInt n).toInt32 = v) (kk : wv X cA cR ad V (pc + 2) ls (.int v :: rest)) : wv X cA cR ad V pc ls rest := by
  obtain ⟨⟨p, l, e, R⟩, ⟨s, m, args, below⟩, ⟨meth, c, cells, slots⟩, Q, D, A, H0⟩ := X
  obtain ⟨hx, hb, hml, hown, hts, hK, hD, hlk, rfl, rfl, rfl, hAw, hcl⟩ := h
  intro H locs hP hS
  exact lv_bipush hx hb hdg hv (kk H locs hP hS)
theorem r_sipush (h : gok X l D R cA cR ad cc nL own) {n : Int} {v : Int32} (hdg : decode cc pc = .ok (.sipush n, 3)) (hv : (Int16.ofInt n).toInt32 = v) (kk : wv X cA cR ad V (pc + 3) ls (.int v :: rest)) : wv X cA cR ad V pc ls rest := by
  obtain ⟨⟨p, l, e, R⟩, ⟨s, m, args, below⟩, ⟨meth, c, cells, slots⟩, Q, D, A, H0⟩ := X
  obtain ⟨hx, hb, hml, hown, hts, hK, hD, hlk, rfl, rfl, rfl, hAw, hcl⟩ := h
  intro H locs hP hS
  exact lv_sipush hx hb hdg hv (kk H locs hP hS)
theorem r_iload_n (h : gok X l D R cA cR ad cc nL own) {k : Fin 4} {i : Nat} {x : Int32} (hdg : decode cc pc = .ok (.iload_n k, 1)) (hi : (k : Nat) = i) (hl : ls[i]? = some (.val (.int x))) (kk : wv X cA cR ad V (pc + 1) ls (.int x :: rest)) : wv X cA cR ad V pc ls rest := by
  obtain ⟨⟨p, l, e, R⟩, ⟨s, m, args, below⟩, ⟨meth, c, cells, slots⟩, Q, D, A, H0⟩ := X
  obtain ⟨hx, hb, hml, hown, hts, hK, hD, hlk, rfl, rfl, rfl, hAw, hcl⟩ := h
  intro H locs hP hS
  exact lv_iload_n hx hb hdg hi hl (kk H locs hP hS)
theorem r_iload (h : gok X l D R cA cR ad cc nL own) {i : Nat} {x : Int32} (hdg : decode cc pc = .ok (.iload i, 2)) (hl : ls[i]? = some (.val (.int x))) (kk : wv X cA cR ad V (pc + 2) ls (.int x :: rest)) : wv X cA cR ad V pc ls rest := by
  obtain ⟨⟨p, l, e, R⟩, ⟨s, m, args, below⟩, ⟨meth, c, cells, slots⟩, Q, D, A, H0⟩ := X
  obtain ⟨hx, hb, hml, hown, hts, hK, hD, hlk, rfl, rfl, rfl, hAw, hcl⟩ := h
  intro H locs hP hS
  exact lv_iload hx hb hdg hl (kk H locs hP hS)
theorem r_aload_n (h : gok X l D R cA cR ad cc nL own) {k : Fin 4} {i x : Nat} (hdg : decode cc pc = .ok (.aload_n k, 1)) (hi : (k : Nat) = i) (hl : ls[i]? = some (.val (.ref x))) (kk : wv X cA cR ad V (pc + 1) ls (.ref x :: rest)) : wv X cA cR ad V pc ls rest := by
  obtain ⟨⟨p, l, e, R⟩, ⟨s, m, args, below⟩, ⟨meth, c, cells, slots⟩, Q, D, A, H0⟩ := X
  obtain ⟨hx, hb, hml, hown, hts, hK, hD, hlk, rfl, rfl, rfl, hAw, hcl⟩ := h
  intro H locs hP hS
  exact lv_aload_n hx hb hdg hi hl (kk H locs hP hS)
theorem r_aload (h : gok X l D R cA cR ad cc nL own) {i x : Nat} (hdg : decode cc pc = .ok (.aload i, 2)) (hl : ls[i]? = some (.val (.ref x))) (kk : wv X cA cR ad V (pc + 2) ls (.ref x :: rest)) : wv X cA cR ad V pc ls rest := by
  obtain ⟨⟨p, l, e, R⟩, ⟨s, m, args, below⟩, ⟨meth, c, cells, slots⟩, Q, D, A, H0⟩ := X
  obtain ⟨hx, hb, hml, hown, hts, hK, hD, hlk, rfl, rfl, rfl, hAw, hcl⟩ := h
  intro H locs hP hS
  exact lv_aload hx hb hdg hl (kk H locs hP hS)
theorem r_iadd (h : gok X l D R cA cR ad cc nL own) {x y : Int32} (hdg : decode cc pc = .ok (.iadd, 1)) (kk : wv X cA cR ad V (pc + 1) ls (.int (x + y) :: rest)) : wv X cA cR ad V pc ls (.int y :: .int x :: rest) := by
  obtain ⟨⟨p, l, e, R⟩, ⟨s, m, args, below⟩, ⟨meth, c, cells, slots⟩, Q, D, A, H0⟩ := X
  obtain ⟨hx, hb, hml, hown, hts, hK, hD, hlk, rfl, rfl, rfl, hAw, hcl⟩ := h
  intro H locs hP hS
  exact lv_iadd hx hb hdg (kk H locs hP hS)
theorem r_isub (h : gok X l D R cA cR ad cc nL own) {x y : Int32} (hdg : decode cc pc = .ok (.isub, 1)) (kk : wv X cA cR ad V (pc + 1) ls (.int (x - y) :: rest)) : wv X cA cR ad V pc ls (.int y :: .int x :: rest) := by
  obtain ⟨⟨p, l, e, R⟩, ⟨s, m, args, below⟩, ⟨meth, c, cells, slots⟩, Q, D, A, H0⟩ := X
  obtain ⟨hx, hb, hml, hown, hts, hK, hD, hlk, rfl, rfl, rfl, hAw, hcl⟩ := h
  intro H locs hP hS
  exact lv_isub hx hb hdg (kk H locs hP hS)
theorem r_imul (h : gok X l D R cA cR ad cc nL own) {x y : Int32} (hdg : decode cc pc = .ok (.imul, 1)) (kk : wv X cA cR ad V (pc + 1) ls (.int (x * y) :: rest)) : wv X cA cR ad V pc ls (.int y :: .int x :: rest) := by
  obtain ⟨⟨p, l, e, R⟩, ⟨s, m, args, below⟩, ⟨meth, c, cells, slots⟩, Q, D, A, H0⟩ := X
  obtain ⟨hx, hb, hml, hown, hts, hK, hD, hlk, rfl, rfl, rfl, hAw, hcl⟩ := h
  intro H locs hP hS
  exact lv_imul hx hb hdg (kk H locs hP hS)
theorem r_iand (h : gok X l D R cA cR ad cc nL own) {x y : Int32} (hdg : decode cc pc = .ok (.iand, 1)) (kk : wv X cA cR ad V (pc + 1) ls (.int (x &&& y) :: rest)) : wv X cA cR ad V pc ls (.int y :: .int x :: rest) := by
  obtain ⟨⟨p, l, e, R⟩, ⟨s, m, args, below⟩, ⟨meth, c, cells, slots⟩, Q, D, A, H0⟩ := X
  obtain ⟨hx, hb, hml, hown, hts, hK, hD, hlk, rfl, rfl, rfl, hAw, hcl⟩ := h
  intro H locs hP hS
  exact lv_iand hx hb hdg (kk H locs hP hS)
theorem r_dup (h : gok X l D R cA cR ad cc nL own) {va : Value} (hdg : decode cc pc = .ok (.dup, 1)) (hva : va.category = 1) (kk : wv X cA cR ad V (pc + 1) ls (va :: va :: rest)) : wv X cA cR ad V pc ls (va :: rest) := by
  obtain ⟨⟨p, l, e, R⟩, ⟨s, m, args, below⟩, ⟨meth, c, cells, slots⟩, Q, D, A, H0⟩ := X
  obtain ⟨hx, hb, hml, hown, hts, hK, hD, hlk, rfl, rfl, rfl, hAw, hcl⟩ := h
  intro H locs hP hS
  exact lv_dup hx hb hdg hva (kk H locs hP hS)
theorem r_pop (h : gok X l D R cA cR ad cc nL own) {va : Value} (hdg : decode cc pc = .ok (.pop, 1)) (hva : va.category = 1) (kk : wv X cA cR ad V (pc + 1) ls rest) : wv X cA cR ad V pc ls (va :: rest) := by
  obtain ⟨⟨p, l, e, R⟩, ⟨s, m, args, below⟩, ⟨meth, c, cells, slots⟩, Q, D, A, H0⟩ := X
  obtain ⟨hx, hb, hml, hown, hts, hK, hD, hlk, rfl, rfl, rfl, hAw, hcl⟩ := h
  intro H locs hP hS
  exact lv_pop hx hb hdg hva (kk H locs hP hS)
theorem r_dup_x1 (h : gok X l D R cA cR ad cc nL own) {va vb : Value} (hdg : decode cc pc = .ok (.dup_x1, 1)) (hva : va.category = 1) (hvb : vb.category = 1) (kk : wv X cA cR ad V (pc + 1) ls (va :: vb :: va :: rest)) : wv X cA cR ad V pc ls (va :: vb :: rest) := by
  obtain ⟨⟨p, l, e, R⟩, ⟨s, m, args, below⟩, ⟨meth, c, cells, slots⟩, Q, D, A, H0⟩ := X
  obtain ⟨hx, hb, hml, hown, hts, hK, hD, hlk, rfl, rfl, rfl, hAw, hcl⟩ := h
  intro H locs hP hS
  exact lv_dup_x1 hx hb hdg hva hvb (kk H locs hP hS)
theorem r_dup2 (h : gok X l D R cA cR ad cc nL own) {va vb : Value} (hdg : decode cc pc = .ok (.dup2, 1)) (hva : va.category = 1) (hvb : vb.category = 1) (kk : wv X cA cR ad V (pc + 1) ls (va :: vb :: va :: vb :: rest)) : wv X cA cR ad V pc ls (va :: vb :: rest) := by
  obtain ⟨⟨p, l, e, R⟩, ⟨s, m, args, below⟩, ⟨meth, c, cells, slots⟩, Q, D, A, H0⟩ := X
  obtain ⟨hx, hb, hml, hown, hts, hK, hD, hlk, rfl, rfl, rfl, hAw, hcl⟩ := h
  intro H locs hP hS
  exact lv_dup2_11 hx hb hdg hva hvb (kk H locs hP hS)
theorem r_istore_n (h : gok X l D R cA cR ad cc nL own) {k : Fin 4} {i : Nat} {x : Int32} {lv lv' : List (Nat × Value)} (hdg : decode cc pc = .ok (.istore_n k, 1)) (hi : (k : Nat) = i) (hh : lv_has ls nL lv) (hn : i < nL) (hl : (i, Value.int x) :: lv.filter (fun q => !(q.1 == i) && !(q.1 + 1 == i && q.2.category == 2)) = lv') (kk : ∀ ls' : Array Slot, lv_has ls' nL lv' → wv X cA cR ad V (pc + 1) ls' rest) : wv X cA cR ad V pc ls (.int x :: rest) := by
  obtain ⟨⟨p, l, e, R⟩, ⟨s, m, args, below⟩, ⟨meth, c, cells, slots⟩, Q, D, A, H0⟩ := X
  obtain ⟨hx, hb, hml, hown, hts, hK, hD, hlk, rfl, rfl, rfl, hAw, hcl⟩ := h
  intro H locs hP hS
  exact lv_istore_n hx hb hdg hi hh hn hl (fun ls' h' => kk ls' h' H locs hP hS)
theorem r_istore (h : gok X l D R cA cR ad cc nL own) {i : Nat} {x : Int32} {lv lv' : List (Nat × Value)} (hdg : decode cc pc = .ok (.istore i, 2)) (hh : lv_has ls nL lv) (hn : i < nL) (hl : (i, Value.int x) :: lv.filter (fun q => !(q.1 == i) && !(q.1 + 1 == i && q.2.category == 2)) = lv') (kk : ∀ ls' : Array Slot, lv_has ls' nL lv' → wv X cA cR ad V (pc + 2) ls' rest) : wv X cA cR ad V pc ls (.int x :: rest) := by
  obtain ⟨⟨p, l, e, R⟩, ⟨s, m, args, below⟩, ⟨meth, c, cells, slots⟩, Q, D, A, H0⟩ := X
  obtain ⟨hx, hb, hml, hown, hts, hK, hD, hlk, rfl, rfl, rfl, hAw, hcl⟩ := h
  intro H locs hP hS
  exact lv_istore hx hb hdg hh hn hl (fun ls' h' => kk ls' h' H locs hP hS)
theorem r_astore_n (h : gok X l D R cA cR ad cc nL own) {k : Fin 4} {i : Nat} {x : Nat} {lv lv' : List (Nat × Value)} (hdg : decode cc pc = .ok (.astore_n k, 1)) (hi : (k : Nat) = i) (hh : lv_has ls nL lv) (hn : i < nL) (hl : (i, Value.ref x) :: lv.filter (fun q => !(q.1 == i) && !(q.1 + 1 == i && q.2.category == 2)) = lv') (kk : ∀ ls' : Array Slot, lv_has ls' nL lv' → wv X cA cR ad V (pc + 1) ls' rest) : wv X cA cR ad V pc ls (.ref x :: rest) := by
  obtain ⟨⟨p, l, e, R⟩, ⟨s, m, args, below⟩, ⟨meth, c, cells, slots⟩, Q, D, A, H0⟩ := X
  obtain ⟨hx, hb, hml, hown, hts, hK, hD, hlk, rfl, rfl, rfl, hAw, hcl⟩ := h
  intro H locs hP hS
  exact lv_astore_n hx hb hdg hi hh hn hl (fun ls' h' => kk ls' h' H locs hP hS)
theorem r_astore (h : gok X l D R cA cR ad cc nL own) {i : Nat} {x : Nat} {lv lv' : List (Nat × Value)} (hdg : decode cc pc = .ok (.astore i, 2)) (hh : lv_has ls nL lv) (hn : i < nL) (hl : (i, Value.ref x) :: lv.filter (fun q => !(q.1 == i) && !(q.1 + 1 == i && q.2.category == 2)) = lv') (kk : ∀ ls' : Array Slot, lv_has ls' nL lv' → wv X cA cR ad V (pc + 2) ls' rest) : wv X cA cR ad V pc ls (.ref x :: rest) := by
  obtain ⟨⟨p, l, e, R⟩, ⟨s, m, args, below⟩, ⟨meth, c, cells, slots⟩, Q, D, A, H0⟩ := X
  obtain ⟨hx, hb, hml, hown, hts, hK, hD, hlk, rfl, rfl, rfl, hAw, hcl⟩ := h
  intro H locs hP hS
  exact lv_astore hx hb hdg hh hn hl (fun ls' h' => kk ls' h' H locs hP hS)
theorem r_iinc (h : gok X l D R cA cR ad cc nL own) {i k : Nat} {n : Int} {x v : Int32} {lv lv' : List (Nat × Value)} (hdg : decode cc pc = .ok (.iinc i n, 3)) (hh : lv_has ls nL lv) (hk : lv[k]? = some (i, .int x)) (hv : x + Int32.ofInt n = v) (hn : i < nL) (hl : (i, Value.int v) :: lv.filter (fun q => !(q.1 == i) && !(q.1 + 1 == i && q.2.category == 2)) = lv') (kk : ∀ ls' : Array Slot, lv_has ls' nL lv' → wv X cA cR ad V (pc + 3) ls' rest) : wv X cA cR ad V pc ls rest := by
  obtain ⟨⟨p, l, e, R⟩, ⟨s, m, args, below⟩, ⟨meth, c, cells, slots⟩, Q, D, A, H0⟩ := X
  obtain ⟨hx, hb, hml, hown, hts, hK, hD, hlk, rfl, rfl, rfl, hAw, hcl⟩ := h
  intro H locs hP hS
  exact lv_iinc hx hb hdg hh hk hv hn hl (fun ls' h' => kk ls' h' H locs hP hS)
theorem r_if_eq (h : gok X l D R cA cR ad cc nL own) {x : Int32} {off : Int} (tgt : Nat) (hdg : decode cc pc = .ok (.ifCond .eq off, 3)) (ht : (pc : Int) + off = (tgt : Int)) (kt : x = 0 → wv X cA cR ad V tgt ls rest) (kf : ¬ x = 0 → wv X cA cR ad V (pc + 3) ls rest) : wv X cA cR ad V pc ls (.int x :: rest) := by
  obtain ⟨⟨p, l, e, R⟩, ⟨s, m, args, below⟩, ⟨meth, c, cells, slots⟩, Q, D, A, H0⟩ := X
  obtain ⟨hx, hb, hml, hown, hts, hK, hD, hlk, rfl, rfl, rfl, hAw, hcl⟩ := h
  intro H locs hP hS
  exact lv_if_eq hx hb hdg ht (fun q => kt (q) H locs hP hS) (fun q => kf (q) H locs hP hS)
theorem r_icmp_eq (h : gok X l D R cA cR ad cc nL own) {x y : Int32} {off : Int} (tgt : Nat) (hdg : decode cc pc = .ok (.if_icmp .eq off, 3)) (ht : (pc : Int) + off = (tgt : Int)) (kt : x = y → wv X cA cR ad V tgt ls rest) (kf : ¬ x = y → wv X cA cR ad V (pc + 3) ls rest) : wv X cA cR ad V pc ls (.int y :: .int x :: rest) := by
  obtain ⟨⟨p, l, e, R⟩, ⟨s, m, args, below⟩, ⟨meth, c, cells, slots⟩, Q, D, A, H0⟩ := X
  obtain ⟨hx, hb, hml, hown, hts, hK, hD, hlk, rfl, rfl, rfl, hAw, hcl⟩ := h
  intro H locs hP hS
  exact lv_icmp_eq hx hb hdg ht (fun q => kt (q) H locs hP hS) (fun q => kf (q) H locs hP hS)
theorem r_if_ne (h : gok X l D R cA cR ad cc nL own) {x : Int32} {off : Int} (tgt : Nat) (hdg : decode cc pc = .ok (.ifCond .ne off, 3)) (ht : (pc : Int) + off = (tgt : Int)) (kt : ¬ x = 0 → wv X cA cR ad V tgt ls rest) (kf : x = 0 → wv X cA cR ad V (pc + 3) ls rest) : wv X cA cR ad V pc ls (.int x :: rest) := by
  obtain ⟨⟨p, l, e, R⟩, ⟨s, m, args, below⟩, ⟨meth, c, cells, slots⟩, Q, D, A, H0⟩ := X
  obtain ⟨hx, hb, hml, hown, hts, hK, hD, hlk, rfl, rfl, rfl, hAw, hcl⟩ := h
  intro H locs hP hS
  exact lv_if_ne hx hb hdg ht (fun q => kt (q) H locs hP hS) (fun q => kf (q) H locs hP hS)
theorem r_icmp_ne (h : gok X l D R cA cR ad cc nL own) {x y : Int32} {off : Int} (tgt : Nat) (hdg : decode cc pc = .ok (.if_icmp .ne off, 3)) (ht : (pc : Int) + off = (tgt : Int)) (kt : ¬ x = y → wv X cA cR ad V tgt ls rest) (kf : x = y → wv X cA cR ad V (pc + 3) ls rest) : wv X cA cR ad V pc ls (.int y :: .int x :: rest) := by
  obtain ⟨⟨p, l, e, R⟩, ⟨s, m, args, below⟩, ⟨meth, c, cells, slots⟩, Q, D, A, H0⟩ := X
  obtain ⟨hx, hb, hml, hown, hts, hK, hD, hlk, rfl, rfl, rfl, hAw, hcl⟩ := h
  intro H locs hP hS
  exact lv_icmp_ne hx hb hdg ht (fun q => kt (q) H locs hP hS) (fun q => kf (q) H locs hP hS)
theorem r_if_lt (h : gok X l D R cA cR ad cc nL own) {x : Int32} {off : Int} (tgt : Nat) (hdg : decode cc pc = .ok (.ifCond .lt off, 3)) (ht : (pc : Int) + off = (tgt : Int)) (kt : x < 0 → wv X cA cR ad V tgt ls rest) (kf : 0 ≤ x → wv X cA cR ad V (pc + 3) ls rest) : wv X cA cR ad V pc ls (.int x :: rest) := by
  obtain ⟨⟨p, l, e, R⟩, ⟨s, m, args, below⟩, ⟨meth, c, cells, slots⟩, Q, D, A, H0⟩ := X
  obtain ⟨hx, hb, hml, hown, hts, hK, hD, hlk, rfl, rfl, rfl, hAw, hcl⟩ := h
  intro H locs hP hS
  exact lv_if_lt hx hb hdg ht (fun q => kt (q) H locs hP hS) (fun q => kf (Int32.not_lt.mp q) H locs hP hS)
theorem r_icmp_lt (h : gok X l D R cA cR ad cc nL own) {x y : Int32} {off : Int} (tgt : Nat) (hdg : decode cc pc = .ok (.if_icmp .lt off, 3)) (ht : (pc : Int) + off = (tgt : Int)) (kt : x < y → wv X cA cR ad V tgt ls rest) (kf : y ≤ x → wv X cA cR ad V (pc + 3) ls rest) : wv X cA cR ad V pc ls (.int y :: .int x :: rest) := by
  obtain ⟨⟨p, l, e, R⟩, ⟨s, m, args, below⟩, ⟨meth, c, cells, slots⟩, Q, D, A, H0⟩ := X
  obtain ⟨hx, hb, hml, hown, hts, hK, hD, hlk, rfl, rfl, rfl, hAw, hcl⟩ := h
  intro H locs hP hS
  exact lv_icmp_lt hx hb hdg ht (fun q => kt (q) H locs hP hS) (fun q => kf (Int32.not_lt.mp q) H locs hP hS)
theorem r_if_ge (h : gok X l D R cA cR ad cc nL own) {x : Int32} {off : Int} (tgt : Nat) (hdg : decode cc pc = .ok (.ifCond .ge off, 3)) (ht : (pc : Int) + off = (tgt : Int)) (kt : 0 ≤ x → wv X cA cR ad V tgt ls rest) (kf : x < 0 → wv X cA cR ad V (pc + 3) ls rest) : wv X cA cR ad V pc ls (.int x :: rest) := by
  obtain ⟨⟨p, l, e, R⟩, ⟨s, m, args, below⟩, ⟨meth, c, cells, slots⟩, Q, D, A, H0⟩ := X
  obtain ⟨hx, hb, hml, hown, hts, hK, hD, hlk, rfl, rfl, rfl, hAw, hcl⟩ := h
  intro H locs hP hS
  exact lv_if_ge hx hb hdg ht (fun q => kt (q) H locs hP hS) (fun q => kf (Int32.not_le.mp q) H locs hP hS)
theorem r_icmp_ge (h : gok X l D R cA cR ad cc nL own) {x y : Int32} {off : Int} (tgt : Nat) (hdg : decode cc pc = .ok (.if_icmp .ge off, 3)) (ht : (pc : Int) + off = (tgt : Int)) (kt : y ≤ x → wv X cA cR ad V tgt ls rest) (kf : x < y → wv X cA cR ad V (pc + 3) ls rest) : wv X cA cR ad V pc ls (.int y :: .int x :: rest) := by
  obtain ⟨⟨p, l, e, R⟩, ⟨s, m, args, below⟩, ⟨meth, c, cells, slots⟩, Q, D, A, H0⟩ := X
  obtain ⟨hx, hb, hml, hown, hts, hK, hD, hlk, rfl, rfl, rfl, hAw, hcl⟩ := h
  intro H locs hP hS
  exact lv_icmp_ge hx hb hdg ht (fun q => kt (q) H locs hP hS) (fun q => kf (Int32.not_le.mp q) H locs hP hS)
theorem r_if_gt (h : gok X l D R cA cR ad cc nL own) {x : Int32} {off : Int} (tgt : Nat) (hdg : decode cc pc = .ok (.ifCond .gt off, 3)) (ht : (pc : Int) + off = (tgt : Int)) (kt : 0 < x → wv X cA cR ad V tgt ls rest) (kf : x ≤ 0 → wv X cA cR ad V (pc + 3) ls rest) : wv X cA cR ad V pc ls (.int x :: rest) := by
  obtain ⟨⟨p, l, e, R⟩, ⟨s, m, args, below⟩, ⟨meth, c, cells, slots⟩, Q, D, A, H0⟩ := X
  obtain ⟨hx, hb, hml, hown, hts, hK, hD, hlk, rfl, rfl, rfl, hAw, hcl⟩ := h
  intro H locs hP hS
  exact lv_if_gt hx hb hdg ht (fun q => kt (q) H locs hP hS) (fun q => kf (Int32.not_lt.mp q) H locs hP hS)
theorem r_icmp_gt (h : gok X l D R cA cR ad cc nL own) {x y : Int32} {off : Int} (tgt : Nat) (hdg : decode cc pc = .ok (.if_icmp .gt off, 3)) (ht : (pc : Int) + off = (tgt : Int)) (kt : y < x → wv X cA cR ad V tgt ls rest) (kf : x ≤ y → wv X cA cR ad V (pc + 3) ls rest) : wv X cA cR ad V pc ls (.int y :: .int x :: rest) := by
  obtain ⟨⟨p, l, e, R⟩, ⟨s, m, args, below⟩, ⟨meth, c, cells, slots⟩, Q, D, A, H0⟩ := X
  obtain ⟨hx, hb, hml, hown, hts, hK, hD, hlk, rfl, rfl, rfl, hAw, hcl⟩ := h
  intro H locs hP hS
  exact lv_icmp_gt hx hb hdg ht (fun q => kt (q) H locs hP hS) (fun q => kf (Int32.not_lt.mp q) H locs hP hS)
theorem r_if_le (h : gok X l D R cA cR ad cc nL own) {x : Int32} {off : Int} (tgt : Nat) (hdg : decode cc pc = .ok (.ifCond .le off, 3)) (ht : (pc : Int) + off = (tgt : Int)) (kt : x ≤ 0 → wv X cA cR ad V tgt ls rest) (kf : 0 < x → wv X cA cR ad V (pc + 3) ls rest) : wv X cA cR ad V pc ls (.int x :: rest) := by
  obtain ⟨⟨p, l, e, R⟩, ⟨s, m, args, below⟩, ⟨meth, c, cells, slots⟩, Q, D, A, H0⟩ := X
  obtain ⟨hx, hb, hml, hown, hts, hK, hD, hlk, rfl, rfl, rfl, hAw, hcl⟩ := h
  intro H locs hP hS
  exact lv_if_le hx hb hdg ht (fun q => kt (q) H locs hP hS) (fun q => kf (Int32.not_le.mp q) H locs hP hS)
theorem r_icmp_le (h : gok X l D R cA cR ad cc nL own) {x y : Int32} {off : Int} (tgt : Nat) (hdg : decode cc pc = .ok (.if_icmp .le off, 3)) (ht : (pc : Int) + off = (tgt : Int)) (kt : x ≤ y → wv X cA cR ad V tgt ls rest) (kf : y < x → wv X cA cR ad V (pc + 3) ls rest) : wv X cA cR ad V pc ls (.int y :: .int x :: rest) := by
  obtain ⟨⟨p, l, e, R⟩, ⟨s, m, args, below⟩, ⟨meth, c, cells, slots⟩, Q, D, A, H0⟩ := X
  obtain ⟨hx, hb, hml, hown, hts, hK, hD, hlk, rfl, rfl, rfl, hAw, hcl⟩ := h
  intro H locs hP hS
  exact lv_icmp_le hx hb hdg ht (fun q => kt (q) H locs hP hS) (fun q => kf (Int32.not_le.mp q) H locs hP hS)
theorem r_if_eq_t (h : gok X l D R cA cR ad cc nL own) {x : Int32} {off : Int} (tgt : Nat) (hdg : decode cc pc = .ok (.ifCond .eq off, 3)) (ht : (pc : Int) + off = (tgt : Int)) (hc : x = 0) (kt : wv X cA cR ad V tgt ls rest) : wv X cA cR ad V pc ls (.int x :: rest) := r_if_eq h tgt hdg ht (fun _ => kt) (fun q => absurd hc (q))
theorem r_if_eq_f (h : gok X l D R cA cR ad cc nL own) {x : Int32} {off : Int} (tgt : Nat) (hdg : decode cc pc = .ok (.ifCond .eq off, 3)) (ht : (pc : Int) + off = (tgt : Int)) (hc : ¬ x = 0) (kf : wv X cA cR ad V (pc + 3) ls rest) : wv X cA cR ad V pc ls (.int x :: rest) := r_if_eq h tgt hdg ht (fun q => absurd hc (fun z => z q)) (fun _ => kf)
theorem r_icmp_eq_t (h : gok X l D R cA cR ad cc nL own) {x y : Int32} {off : Int} (tgt : Nat) (hdg : decode cc pc = .ok (.if_icmp .eq off, 3)) (ht : (pc : Int) + off = (tgt : Int)) (hc : x = y) (kt : wv X cA cR ad V tgt ls rest) : wv X cA cR ad V pc ls (.int y :: .int x :: rest) := r_icmp_eq h tgt hdg ht (fun _ => kt) (fun q => absurd hc (q))
theorem r_icmp_eq_f (h : gok X l D R cA cR ad cc nL own) {x y : Int32} {off : Int} (tgt : Nat) (hdg : decode cc pc = .ok (.if_icmp .eq off, 3)) (ht : (pc : Int) + off = (tgt : Int)) (hc : ¬ x = y) (kf : wv X cA cR ad V (pc + 3) ls rest) : wv X cA cR ad V pc ls (.int y :: .int x :: rest) := r_icmp_eq h tgt hdg ht (fun q => absurd hc (fun z => z q)) (fun _ => kf)
theorem r_if_ne_t (h : gok X l D R cA cR ad cc nL own) {x : Int32} {off : Int} (tgt : Nat) (hdg : decode cc pc = .ok (.ifCond .ne off, 3)) (ht : (pc : Int) + off = (tgt : Int)) (hc : ¬ x = 0) (kt : wv X cA cR ad V tgt ls rest) : wv X cA cR ad V pc ls (.int x :: rest) := r_if_ne h tgt hdg ht (fun _ => kt) (fun q => absurd hc (fun z => z q))
theorem r_if_ne_f (h : gok X l D R cA cR ad cc nL own) {x : Int32} {off : Int} (tgt : Nat) (hdg : decode cc pc = .ok (.ifCond .ne off, 3)) (ht : (pc : Int) + off = (tgt : Int)) (hc : x = 0) (kf : wv X cA cR ad V (pc + 3) ls rest) : wv X cA cR ad V pc ls (.int x :: rest) := r_if_ne h tgt hdg ht (fun q => absurd hc (q)) (fun _ => kf)
theorem r_icmp_ne_t (h : gok X l D R cA cR ad cc nL own) {x y : Int32} {off : Int} (tgt : Nat) (hdg : decode cc pc = .ok (.if_icmp .ne off, 3)) (ht : (pc : Int) + off = (tgt : Int)) (hc : ¬ x = y) (kt : wv X cA cR ad V tgt ls rest) : wv X cA cR ad V pc ls (.int y :: .int x :: rest) := r_icmp_ne h tgt hdg ht (fun _ => kt) (fun q => absurd hc (fun z => z q))
theorem r_icmp_ne_f (h : gok X l D R cA cR ad cc nL own) {x y : Int32} {off : Int} (tgt : Nat) (hdg : decode cc pc = .ok (.if_icmp .ne off, 3)) (ht : (pc : Int) + off = (tgt : Int)) (hc : x = y) (kf : wv X cA cR ad V (pc + 3) ls rest) : wv X cA cR ad V pc ls (.int y :: .int x :: rest) := r_icmp_ne h tgt hdg ht (fun q => absurd hc (q)) (fun _ => kf)
theorem r_if_lt_t (h : gok X l D R cA cR ad cc nL own) {x : Int32} {off : Int} (tgt : Nat) (hdg : decode cc pc = .ok (.ifCond .lt off, 3)) (ht : (pc : Int) + off = (tgt : Int)) (hc : x < 0) (kt : wv X cA cR ad V tgt ls rest) : wv X cA cR ad V pc ls (.int x :: rest) := r_if_lt h tgt hdg ht (fun _ => kt) (fun q => absurd hc (Int32.not_lt.mpr q))
theorem r_if_lt_f (h : gok X l D R cA cR ad cc nL own) {x : Int32} {off : Int} (tgt : Nat) (hdg : decode cc pc = .ok (.ifCond .lt off, 3)) (ht : (pc : Int) + off = (tgt : Int)) (hc : 0 ≤ x) (kf : wv X cA cR ad V (pc + 3) ls rest) : wv X cA cR ad V pc ls (.int x :: rest) := r_if_lt h tgt hdg ht (fun q => absurd hc (Int32.not_le.mpr q)) (fun _ => kf)
theorem r_icmp_lt_t (h : gok X l D R cA cR ad cc nL own) {x y : Int32} {off : Int} (tgt : Nat) (hdg : decode cc pc = .ok (.if_icmp .lt off, 3)) (ht : (pc : Int) + off = (tgt : Int)) (hc : x < y) (kt : wv X cA cR ad V tgt ls rest) : wv X cA cR ad V pc ls (.int y :: .int x :: rest) := r_icmp_lt h tgt hdg ht (fun _ => kt) (fun q => absurd hc (Int32.not_lt.mpr q))
theorem r_icmp_lt_f (h : gok X l D R cA cR ad cc nL own) {x y : Int32} {off : Int} (tgt : Nat) (hdg : decode cc pc = .ok (.if_icmp .lt off, 3)) (ht : (pc : Int) + off = (tgt : Int)) (hc : y ≤ x) (kf : wv X cA cR ad V (pc + 3) ls rest) : wv X cA cR ad V pc ls (.int y :: .int x :: rest) := r_icmp_lt h tgt hdg ht (fun q => absurd hc (Int32.not_le.mpr q)) (fun _ => kf)
theorem r_if_ge_t (h : gok X l D R cA cR ad cc nL own) {x : Int32} {off : Int} (tgt : Nat) (hdg : decode cc pc = .ok (.ifCond .ge off, 3)) (ht : (pc : Int) + off = (tgt : Int)) (hc : 0 ≤ x) (kt : wv X cA cR ad V tgt ls rest) : wv X cA cR ad V pc ls (.int x :: rest) := r_if_ge h tgt hdg ht (fun _ => kt) (fun q => absurd hc (Int32.not_le.mpr q))
theorem r_if_ge_f (h : gok X l D R cA cR ad cc nL own) {x : Int32} {off : Int} (tgt : Nat) (hdg : decode cc pc = .ok (.ifCond .ge off, 3)) (ht : (pc : Int) + off = (tgt : Int)) (hc : x < 0) (kf : wv X cA cR ad V (pc + 3) ls rest) : wv X cA cR ad V pc ls (.int x :: rest) := r_if_ge h tgt hdg ht (fun q => absurd hc (Int32.not_lt.mpr q)) (fun _ => kf)
theorem r_icmp_ge_t (h : gok X l D R cA cR ad cc nL own) {x y : Int32} {off : Int} (tgt : Nat) (hdg : decode cc pc = .ok (.if_icmp .ge off, 3)) (ht : (pc : Int) + off = (tgt : Int)) (hc : y ≤ x) (kt : wv X cA cR ad V tgt ls rest) : wv X cA cR ad V pc ls (.int y :: .int x :: rest) := r_icmp_ge h tgt hdg ht (fun _ => kt) (fun q => absurd hc (Int32.not_le.mpr q))
theorem r_icmp_ge_f (h : gok X l D R cA cR ad cc nL own) {x y : Int32} {off : Int} (tgt : Nat) (hdg : decode cc pc = .ok (.if_icmp .ge off, 3)) (ht : (pc : Int) + off = (tgt : Int)) (hc : x < y) (kf : wv X cA cR ad V (pc + 3) ls rest) : wv X cA cR ad V pc ls (.int y :: .int x :: rest) := r_icmp_ge h tgt hdg ht (fun q => absurd hc (Int32.not_lt.mpr q)) (fun _ => kf)
theorem r_if_gt_t (h : gok X l D R cA cR ad cc nL own) {x : Int32} {off : Int} (tgt : Nat) (hdg : decode cc pc = .ok (.ifCond .gt off, 3)) (ht : (pc : Int) + off = (tgt : Int)) (hc : 0 < x) (kt : wv X cA cR ad V tgt ls rest) : wv X cA cR ad V pc ls (.int x :: rest) := r_if_gt h tgt hdg ht (fun _ => kt) (fun q => absurd hc (Int32.not_lt.mpr q))
theorem r_if_gt_f (h : gok X l D R cA cR ad cc nL own) {x : Int32} {off : Int} (tgt : Nat) (hdg : decode cc pc = .ok (.ifCond .gt off, 3)) (ht : (pc : Int) + off = (tgt : Int)) (hc : x ≤ 0) (kf : wv X cA cR ad V (pc + 3) ls rest) : wv X cA cR ad V pc ls (.int x :: rest) := r_if_gt h tgt hdg ht (fun q => absurd hc (Int32.not_le.mpr q)) (fun _ => kf)
theorem r_icmp_gt_t (h : gok X l D R cA cR ad cc nL own) {x y : Int32} {off : Int} (tgt : Nat) (hdg : decode cc pc = .ok (.if_icmp .gt off, 3)) (ht : (pc : Int) + off = (tgt : Int)) (hc : y < x) (kt : wv X cA cR ad V tgt ls rest) : wv X cA cR ad V pc ls (.int y :: .int x :: rest) := r_icmp_gt h tgt hdg ht (fun _ => kt) (fun q => absurd hc (Int32.not_lt.mpr q))
theorem r_icmp_gt_f (h : gok X l D R cA cR ad cc nL own) {x y : Int32} {off : Int} (tgt : Nat) (hdg : decode cc pc = .ok (.if_icmp .gt off, 3)) (ht : (pc : Int) + off = (tgt : Int)) (hc : x ≤ y) (kf : wv X cA cR ad V (pc + 3) ls rest) : wv X cA cR ad V pc ls (.int y :: .int x :: rest) := r_icmp_gt h tgt hdg ht (fun q => absurd hc (Int32.not_le.mpr q)) (fun _ => kf)
theorem r_if_le_t (h : gok X l D R cA cR ad cc nL own) {x : Int32} {off : Int} (tgt : Nat) (hdg : decode cc pc = .ok (.ifCond .le off, 3)) (ht : (pc : Int) + off = (tgt : Int)) (hc : x ≤ 0) (kt : wv X cA cR ad V tgt ls rest) : wv X cA cR ad V pc ls (.int x :: rest) := r_if_le h tgt hdg ht (fun _ => kt) (fun q => absurd hc (Int32.not_le.mpr q))
theorem r_if_le_f (h : gok X l D R cA cR ad cc nL own) {x : Int32} {off : Int} (tgt : Nat) (hdg : decode cc pc = .ok (.ifCond .le off, 3)) (ht : (pc : Int) + off = (tgt : Int)) (hc : 0 < x) (kf : wv X cA cR ad V (pc + 3) ls rest) : wv X cA cR ad V pc ls (.int x :: rest) := r_if_le h tgt hdg ht (fun q => absurd hc (Int32.not_lt.mpr q)) (fun _ => kf)
theorem r_icmp_le_t (h : gok X l D R cA cR ad cc nL own) {x y : Int32} {off : Int} (tgt : Nat) (hdg : decode cc pc = .ok (.if_icmp .le off, 3)) (ht : (pc : Int) + off = (tgt : Int)) (hc : x ≤ y) (kt : wv X cA cR ad V tgt ls rest) : wv X cA cR ad V pc ls (.int y :: .int x :: rest) := r_icmp_le h tgt hdg ht (fun _ => kt) (fun q => absurd hc (Int32.not_le.mpr q))
theorem r_icmp_le_f (h : gok X l D R cA cR ad cc nL own) {x y : Int32} {off : Int} (tgt : Nat) (hdg : decode cc pc = .ok (.if_icmp .le off, 3)) (ht : (pc : Int) + off = (tgt : Int)) (hc : y < x) (kf : wv X cA cR ad V (pc + 3) ls rest) : wv X cA cR ad V pc ls (.int y :: .int x :: rest) := r_icmp_le h tgt hdg ht (fun q => absurd hc (Int32.not_lt.mpr q)) (fun _ => kf)
theorem r_goto (h : gok X l D R cA cR ad cc nL own) {off : Int} (tgt : Nat) (hdg : decode cc pc = .ok (.goto off, 3)) (ht : (pc : Int) + off = (tgt : Int)) (kk : wv X cA cR ad V tgt ls rest) : wv X cA cR ad V pc ls rest := by
  obtain ⟨⟨p, l, e, R⟩, ⟨s, m, args, below⟩, ⟨meth, c, cells, slots⟩, Q, D, A, H0⟩ := X
  obtain ⟨hx, hb, hml, hown, hts, hK, hD, hlk, rfl, rfl, rfl, hAw, hcl⟩ := h
  intro H locs hP hS
  exact lv_goto hx hb hdg ht (kk H locs hP hS)
theorem r_tabOut (h : gok X l D R cA cR ad cc nL own) {dflt lo hi : Int} {offs : Array Int} {len : Nat} {x : Int32} (tgt : Nat) (hdg : decode cc pc = .ok (.tableswitch dflt lo hi offs, len)) (hh : x.toInt < lo ∨ hi < x.toInt) (ht : (pc : Int) + dflt = (tgt : Int)) (kk : wv X cA cR ad V tgt ls rest) : wv X cA cR ad V pc ls (.int x :: rest) := by
  obtain ⟨⟨p, l, e, R⟩, ⟨s, m, args, below⟩, ⟨meth, c, cells, slots⟩, Q, D, A, H0⟩ := X
  obtain ⟨hx, hb, hml, hown, hts, hK, hD, hlk, rfl, rfl, rfl, hAw, hcl⟩ := h
  intro H locs hP hS
  exact lv_tableOut hx hb hdg hh ht (kk H locs hP hS)
theorem r_tabIn (h : gok X l D R cA cR ad cc nL own) {dflt lo hi : Int} {offs : Array Int} {len : Nat} {x : Int32} {off : Int} (tgt : Nat) (hdg : decode cc pc = .ok (.tableswitch dflt lo hi offs, len)) (h1 : ¬ x.toInt < lo) (h2 : ¬ hi < x.toInt) (ho : offs[(x.toInt - lo).toNat]? = some off) (ht : (pc : Int) + off = (tgt : Int)) (kk : wv X cA cR ad V tgt ls rest) : wv X cA cR ad V pc ls (.int x :: rest) := by
  obtain ⟨⟨p, l, e, R⟩, ⟨s, m, args, below⟩, ⟨meth, c, cells, slots⟩, Q, D, A, H0⟩ := X
  obtain ⟨hx, hb, hml, hown, hts, hK, hD, hlk, rfl, rfl, rfl, hAw, hcl⟩ := h
  intro H locs hP hS
  exact lv_tableIn hx hb hdg h1 h2 ho ht (kk H locs hP hS)
theorem r_top {x : Int32} (y : Int32) (hxy : x = y) (kk : wv X cA cR ad V pc ls (.int y :: rest)) : wv X cA cR ad V pc ls (.int x :: rest) := by subst hxy; exact kk
theorem r_V {V' : Nat → Nat → Int32} (hV : V = V') (kk : wv X cA cR ad V' pc ls rest) : wv X cA cR ad V pc ls rest := by subst hV; exact kk
theorem r_get (h : gok X l D R cA cR ad cc nL own) {k ci N idx j : Nat} {fs : List Value} {C : String} {T : u_T} {v : Value} (hk : k < wN) (hG : wG cA cR ad k (V k) = .inr (ci, fs)) (hc : vwC[ci]? = some (C, T, N)) (hin : ∀ w ∈ u_ws C T N, w ∈ wAl) (hj : j < N) (hlink : Cond.fieldLink own idx C (T j).2.1 (T j).2.2.1 ∈ wAl) (hsame : (T j).1 = C) (hv : fs[j]? = some v) (hdg : decode cc pc = .ok (.getfield idx, 3)) (kk : wv X cA cR ad V (pc + 3) ls (v :: rest)) : wv X cA cR ad V pc ls (.ref (ad k) :: rest) := by
  obtain ⟨⟨p, l, e, R⟩, ⟨s, m, args, below⟩, ⟨meth, c, cells, slots⟩, Q, D, A, H0⟩ := X
  obtain ⟨hx, hb, hml, hown, hts, hK, hD, hlk, rfl, rfl, rfl, hAw, hcl⟩ := h
  intro H locs hP hS
  exact va_get hx hb hts hin hown hK hP k (by rw [wL_at cA cR ad V hk, hG]) hc j hj (hts _ hlink) (by rw [hsame]; exact fun _ q => q) hv hdg (kk H locs hP hS)
theorem r_put (h : gok X l D R cA cR ad cc nL own) {k ci N idx j : Nat} {fs : List Value} {C : String} {T : u_T} {x : Int32} (hk : k < wN) (hG : wG cA cR ad k (V k) = .inr (ci, fs)) (hG2 : wG cA cR ad k (upd (V k) 0 x) = .inr (ci, fs.set j (.int x))) (hc : vwC[ci]? = some (C, T, N)) (hin : ∀ w ∈ u_ws C T N, w ∈ wAl) (ty0 : Nat → FieldType) (hty : ∀ k, k < N → parseFieldDescriptor (T k).2.2.1 = some (ty0 k)) (hnm : ∀ a, a < N → ∀ b, b < N → a ≠ b → (T a).2.1 ≠ (T b).2.1) (hj : j < N) (hlink : Cond.fieldLink own idx C (T j).2.1 (T j).2.2.1 ∈ wAl) (hsame : (T j).1 = C) (hfin : (T j).2.2.2 = false) (hd : parseFieldDescriptor (T j).2.2.1 = some .int) (hl : j < fs.length) (hdg : decode cc pc = .ok (.putfield idx, 3)) (kk : wv X cA cR ad (wU V k 0 x) (pc + 3) ls rest) : wv X cA cR ad V pc ls (.int x :: .ref (ad k) :: rest) := by
  obtain ⟨⟨p, l, e, R⟩, ⟨s, m, args, below⟩, ⟨meth, c, cells, slots⟩, Q, D, A, H0⟩ := X
  obtain ⟨hx, hb, hml, hown, hts, hK, hD, hlk, rfl, rfl, rfl, hAw, hcl⟩ := h
  intro H locs hP hS
  exact va_put (ty := .int) hx hb hts hin ty0 hty hnm hown hK hP (hD V) hS k (by rw [wL_at cA cR ad V hk, hG]) hc j hj (hts _ hlink) (by rw [hsame]; exact fun _ q => q) hfin hd (vp_nar_int x) rfl hl hdg (fun H1 locs1 hP1 _ hS1 => kk H1 locs1 (by rw [← wL_set hk hG2]; exact hP1) hS1)
theorem r_iald (h : gok X l D R cA cR ad cc nL own) {k n : Nat} {i : Int32} (hk : k < wN) (hG : wG cA cR ad k = wE cA n) (hin : vp_in i n) (hdg : decode cc pc = .ok (.iaload, 1)) (kk : wv X cA cR ad V (pc + 1) ls (.int (V k i.toNatClampNeg) :: rest)) : wv X cA cR ad V pc ls (.int i :: .ref (ad k) :: rest) := by
  obtain ⟨⟨p, l, e, R⟩, ⟨s, m, args, below⟩, ⟨meth, c, cells, slots⟩, Q, D, A, H0⟩ := X
  obtain ⟨hx, hb, hml, hown, hts, hK, hD, hlk, rfl, rfl, rfl, hAw, hcl⟩ := h
  intro H locs hP hS
  exact va_iald hx hb hK hP k 0 (by rw [wL_at cA cR ad V hk, hG]; rfl) rfl hin hdg (kk H locs hP hS)
theorem r_iast (h : gok X l D R cA cR ad cc nL own) {k n : Nat} {i x : Int32} (hk : k < wN) (hG : wG cA cR ad k = wE cA n) (hin : vp_in i n) (hdg : decode cc pc = .ok (.iastore, 1)) (kk : wv X cA cR ad (wU V k i.toNatClampNeg x) (pc + 1) ls rest) : wv X cA cR ad V pc ls (.int x :: .int i :: .ref (ad k) :: rest) := by
  obtain ⟨⟨p, l, e, R⟩, ⟨s, m, args, below⟩, ⟨meth, c, cells, slots⟩, Q, D, A, H0⟩ := X
  obtain ⟨hx, hb, hml, hown, hts, hK, hD, hlk, rfl, rfl, rfl, hAw, hcl⟩ := h
  intro H locs hP hS
  exact va_iast hx hb hK hP (hD V) hS k 0 (by rw [wL_at cA cR ad V hk, hG]; rfl) rfl hin hdg (fun H1 locs1 hP1 _ hS1 => kk H1 locs1 (by rw [← wL_set hk (show wG cA cR ad k (upd (V k) i.toNatClampNeg x) = _ by rw [hG])]; exact hP1) hS1)
theorem r_ialdN (h : gok X l D R cA cR ad cc nL own) {k n i : Nat} (hk : k < wN) (hG : wG cA cR ad k = wE cA n) (hi : i < n) (hn : n < 2 ^ 31) (hdg : decode cc pc = .ok (.iaload, 1)) (kk : wv X cA cR ad V (pc + 1) ls (.int (V k i) :: rest)) : wv X cA cR ad V pc ls (.int (nI i) :: .ref (ad k) :: rest) := by
  refine r_iald h hk hG (vp_in_nI hi hn) hdg ?_
  rw [nI_clamp (by omega)]
  exact kk
theorem r_iastN (h : gok X l D R cA cR ad cc nL own) {k n i : Nat} {x : Int32} (hk : k < wN) (hG : wG cA cR ad k = wE cA n) (hi : i < n) (hn : n < 2 ^ 31) (hdg : decode cc pc = .ok (.iastore, 1)) (kk : wv X cA cR ad (wU V k i x) (pc + 1) ls rest) : wv X cA cR ad V pc ls (.int x :: .int (nI i) :: .ref (ad k) :: rest) := by
  refine r_iast h hk hG (vp_in_nI hi hn) hdg ?_
  rw [nI_clamp (by omega)]
  exact kk
theorem r_alen (h : gok X l D R cA cR ad cc nL own) {k n : Nat} {v : Int32} (hk : k < wN) (hG : wG cA cR ad k = wE cA n) (hv : Int32.ofNat n = v) (hdg : decode cc pc = .ok (.arraylength, 1)) (kk : wv X cA cR ad V (pc + 1) ls (.int v :: rest)) : wv X cA cR ad V pc ls (.ref (ad k) :: rest) := by
  obtain ⟨⟨p, l, e, R⟩, ⟨s, m, args, below⟩, ⟨meth, c, cells, slots⟩, Q, D, A, H0⟩ := X
  obtain ⟨hx, hb, hml, hown, hts, hK, hD, hlk, rfl, rfl, rfl, hAw, hcl⟩ := h
  intro H locs hP hS
  exact va_alen (ty := .int) hx hb hK hP k 0 (by rw [wL_at cA cR ad V hk, hG]; rfl) rfl hv hdg (kk H locs hP hS)
theorem r_aald (h : gok X l D R cA cR ad cc nL own) {r : Nat} (hr : r < 3) (hdg : decode cc pc = .ok (.aaload, 1)) (kk : wv X cA cR ad V (pc + 1) ls (.ref (ad (6 * r + 9)) :: rest)) : wv X cA cR ad V pc ls (.int (nI r) :: .ref (ad 8) :: rest) := by
  obtain ⟨⟨p, l, e, R⟩, ⟨s, m, args, below⟩, ⟨meth, c, cells, slots⟩, Q, D, A, H0⟩ := X
  obtain ⟨hx, hb, hml, hown, hts, hK, hD, hlk, rfl, rfl, rfl, hAw, hcl⟩ := h
  intro H locs hP hS
  refine va_aldq (C := R_Re) (n := 3) hx hb hK hP 8 1 (wL_at cA cR ad V (by decide)) rfl (vp_in_nI hr (by decide)) hdg ?_
  rw [nI_clamp (by omega)]
  exact kk H locs hP hS
/-- a contract: the numbers V become V', the answer is ret; nothing but the world's cells has changed -/
theorem wD {ad : Nat → Nat} (h : wI ad) (cA cR : ClassId) (V : Nat → Nat → Int32) : va_D (wA ad) (wL cA cR ad V) := by
  refine ⟨fun i j p q hi hj hpq => ?_, fun k q hk => ?_⟩
  · obtain ⟨i1, i2⟩ := wL_lt hi
    obtain ⟨j1, j2⟩ := wL_lt hj
    subst i2
    subst j2
    exact h i j i1 j1 hpq
  · obtain ⟨i1, i2⟩ := wL_lt hk
    subst i2
    exact ⟨k, i1, rfl⟩
def wP (D : va_G) (cA cR : ClassId) (ad : Nat → Nat) (av : List Value) (V : Nat → Nat → Int32) : Array Value → State → Prop := va_Pc av (fun U => va_P D vwC (wL cA cR ad V) U.heap ∧ va_K D vwC (wT cA cR) U)
def wQ (D : va_G) (cA cR : ClassId) (ad : Nat → Nat) (ret : Option Value) (V' : Nat → Nat → Int32) : Array Value → State → Outcome → State → Prop := fun _ st oc t => oc = .returned ret ∧ va_P D vwC (wL cA cR ad V') t.heap ∧ va_F (wA ad) st t
abbrev wM (l : Launch) (D : va_G) (cA cR : ClassId) (ad : Nat → Nat) (y : MethodName) (ws : List Cond) (fr lo : Nat) (av : List Value) (V : Nat → Nat → Int32) (ret : Option Value) (V' : Nat → Nat → Int32) : Prop :=
  Met l y ws { frames := fr, cells := 0, slots := 0, locals := lo } (wP D cA cR ad av V) (wQ D cA cR ad ret V') 0 0 (wA ad)
/-- the context of a method's walk -/
def gM (X : gX) (D : va_G) (cA cR : ClassId) (ad : Nat → Nat) (rt : Option FieldType) (ret : Option Value) (V' : Nat → Nat → Int32) : Prop := match X with
  | (_, (s, _, args, below), (meth, _, cells, slots), Q, _, A, H0) => meth.sig.returnType = rt ∧ cells = 0 ∧ slots = 0 ∧ Q = MQ below (wQ D cA cR ad ret V') args s 0 0 (wA ad) ∧ A = wA ad ∧ H0 = s.heap
end WV
section WE
variable {X : gX} {l : Launch} {D : va_G} {R : Room} {ret : Option Value} {V' : Nat → Nat → Int32} {cA cR : ClassId} {ad : Nat → Nat} {V : Nat → Nat → Int32} {cc : ByteArray} {nL pc : Nat} {own : String} {ls : Array Slot} {rest : List Value}
theorem r_iret (h : gok X l D R cA cR ad cc nL own) (hM : gM X D cA cR ad (some .int) ret V') {v : Int32} (hdg : decode cc pc = .ok (.ireturn, 1)) (hv : some (.int v) = ret) (hV : V = V') : wv X cA cR ad V pc ls [.int v] := by
  obtain ⟨⟨p, l, e, R⟩, ⟨s, m, args, below⟩, ⟨meth, c, cells, slots⟩, Q, D, A, H0⟩ := X
  obtain ⟨hx, hb, hml, hown, hts, hK, hD, hlk, rfl, rfl, rfl, hAw, hcl⟩ := h
  obtain ⟨hr, rfl, rfl, rfl, rfl, rfl⟩ := hM
  subst hv
  subst hV
  intro H locs hP hS
  exact W.iret (v := v) hx hb hr (fun t ht hW => ⟨rfl, by rw [ht]; exact hP, hS.F ht⟩) hS.2.2 hdg hlk
theorem r_zret (h : gok X l D R cA cR ad cc nL own) (hM : gM X D cA cR ad (some .boolean) ret V') {v : Int32} (hn : narrow .boolean (.int v) = .int v) (hdg : decode cc pc = .ok (.ireturn, 1)) (hv : some (.int v) = ret) (hV : V = V') : wv X cA cR ad V pc ls [.int v] := by
  obtain ⟨⟨p, l, e, R⟩, ⟨s, m, args, below⟩, ⟨meth, c, cells, slots⟩, Q, D, A, H0⟩ := X
  obtain ⟨hx, hb, hml, hown, hts, hK, hD, hlk, rfl, rfl, rfl, hAw, hcl⟩ := h
  obtain ⟨hr, rfl, rfl, rfl, rfl, rfl⟩ := hM
  subst hv
  subst hV
  intro H locs hP hS
  exact W.zret (v := v) (ty := .boolean) hx hb hr hn (fun t ht hW => ⟨rfl, by rw [ht]; exact hP, hS.F ht⟩) hS.2.2 hdg hlk
theorem r_vret (h : gok X l D R cA cR ad cc nL own) (hM : gM X D cA cR ad (none) ret V') (hdg : decode cc pc = .ok (.return_, 1)) (hv : none = ret) (hV : V = V') : wv X cA cR ad V pc ls [] := by
  obtain ⟨⟨p, l, e, R⟩, ⟨s, m, args, below⟩, ⟨meth, c, cells, slots⟩, Q, D, A, H0⟩ := X
  obtain ⟨hx, hb, hml, hown, hts, hK, hD, hlk, rfl, rfl, rfl, hAw, hcl⟩ := h
  obtain ⟨hr, rfl, rfl, rfl, rfl, rfl⟩ := hM
  subst hv
  subst hV
  intro H locs hP hS
  exact W.vret hx hb hr (fun t ht hW => ⟨rfl, by rw [ht]; exact hP, hS.F ht⟩) hS.2.2 hdg hlk
end WE
/-- a contract out of a walk -/
theorem wM_of {l : Launch} {D : va_G} {cA cR : ClassId} {ad : Nat → Nat} (hI : wI ad) {y : MethodName} {fr lo : Nat} {av : List Value} {V V' : Nat → Nat → Int32} {ret : Option Value} {cc : ByteArray} {nL : Nat} {rt : Option FieldType} (hy : plainName y.cls = true) (hn : (lg_sl av).length ≤ nL)
    (k : ∀ (X : gX) (ls : Array Slot), gok X l D { frames := fr, cells := 0, slots := 0, locals := lo } cA cR ad cc nL y.cls → gM X D cA cR ad rt ret V' → lv_has ls nL (lv_args 0 av) → wv X cA cR ad V 0 ls []) : wM l D cA cR ad y (Cond.code y cc nL rt :: wAl) fr lo av V ret V' := by
  refine Met.ofW (cc := cc) (maxL := nL) (ret := rt) hy rfl ?_
  intro p e s m args below meth c s₁ B hml hv
  obtain ⟨rfl, hP, hK⟩ := hv
  have hts0 := atoms_spec (ws := Cond.code y cc nL rt :: wAl) B.pre
  have hts : ∀ w ∈ wAl, w.before av.toArray s = true := fun w hw => hts0 w (List.mem_cons_of_mem _ hw)
  have hown : s.vm.findClass y.cls = some m.cls := findClass_of_methodNamed B.named
  have hl := lv_entry av (n := nL) hn
  rw [lg_entry_eq]
  generalize (lg_sl av ++ List.replicate (nL - (lg_sl av).length) Slot.unset).toArray = ls at hl ⊢
  have h := k ((p, l, e, _), (s, m, av.toArray, below), (meth, c, 0, 0), _, D, wA ad, s.heap) ls ⟨B.exec, B.bytes, hml, hown, hts, hK, wD hI cA cR, B.notSynchronized, rfl, rfl, rfl, fun _ q => q, Nat.le_refl 0, Nat.le_refl 0⟩ ⟨B.returns, rfl, rfl, rfl, rfl, rfl⟩ hl
  exact h s.heap [] hP va_S.rf
/-- the start of a call: blind to frames, and met -/
theorem wP_bl {D : va_G} {cA cR : ClassId} {ad : Nat → Nat} {av : List Value} {V : Nat → Nat → Int32} : FrameBlind (wP D cA cR ad av V) := by
  intro a U g mk q
  obtain ⟨q1, qP, qK⟩ := q
  exact ⟨q1, qP, va_K.moved (u := U) (U := U.calling g mk a) (Vm.Alike.refl U.vm) qK⟩
theorem wP_ok {s : State} {H : Heap} {D : va_G} {cA cR : ClassId} {ad : Nat → Nat} {av : List Value} {V : Nat → Nat → Int32} (hP : va_P D vwC (wL cA cR ad V) H) (hK : va_K D vwC (wT cA cR) s) : ∀ U : State, U.heap = H → s.WarmedH U.vm → wP D cA cR ad av V av.toArray U :=
  fun U hU hW => ⟨rfl, by rw [hU]; exact hP, va_K.moved hW.alike hK⟩
section WC
variable {X : gX} {l : Launch} {D : va_G} {R : Room} {cA cR : ClassId} {ad : Nat → Nat} {V V' : Nat → Nat → Int32} {cc : ByteArray} {nL pc : Nat} {own : String} {ls : Array Slot} {rest st : List Value} {y : MethodName} {bytes : ByteArray} {maxL fr lo idx n : Nat} {rt : Option FieldType} {As : List Value} {lv : List (Nat × Value)}
theorem r_callVi (h : gok X l D R cA cR ad cc nL own) {r : Int32} {C : String} {T : u_T} {N ci k : Nat} {fs : List Value} (hM : wM l D cA cR ad y (Cond.code y bytes maxL rt :: wAl) fr lo (.ref (ad k) :: As) V (some (.int r)) V') (hG : GoodIn wAl (wsV own idx C y (Cond.code y bytes maxL rt :: wAl))) (hd : y.cls = C ∧ y.cls ≠ "java/lang/invoke/MethodHandle" ∧ y.cls ≠ "java/lang/invoke/VarHandle" ∧ (parseMethodDescriptor y.desc).map (fun d => d.parameters.length) = some n) (hn : As.length = n) (hR : fr + 1 ≤ R.frames ∧ 8 + (maxL + 11) + lo ≤ R.locals) (hk : k < wN) (hGk : wG cA cR ad k (V k) = .inr (ci, fs)) (hc : vwC[ci]? = some (C, T, N)) (hh : lv_has ls nL lv) (hst : st = As.reverse ++ .ref (ad k) :: rest) (hsum : (rest.map fun v => v.category).sum ≤ 8) (hdg : decode cc pc = .ok (.invokevirtual idx, 3)) (kk : wv X cA cR ad V' (pc + 3) ls (.int r :: rest)) : wv X cA cR ad V pc ls st := by
  obtain ⟨⟨p, l, e, R⟩, ⟨s, m, args, below⟩, ⟨meth, c, cells, slots⟩, Q, D, A, H0⟩ := X
  obtain ⟨hx, hb, hml, hown, hts, hK, hD, hlk, rfl, rfl, rfl, hAw, hcl⟩ := h
  intro H locs hP hS
  subst hst
  have hr := va_runV (g := F0 m pc ls (As.reverse ++ .ref (ad k) :: rest)) (locs := locs) (cells := cells) (slots := slots) (below := below) (meth := meth) (e := e) ⟨hx, hb, hml, hown, hts⟩ hM (cwV n hts hG rfl rfl rfl hd hR) ⟨wP_bl, va_recv (q := (C, T, N)) (q0 := k) hK hP hc (by rw [wL_at cA cR ad V hk, hGk]), wP_ok hP hK⟩ rfl hn hh.1 rfl (lv_room hsum) hdg ⟨hcl.1, hcl.2⟩
  intro T hT X0
  obtain ⟨v, st₀, t, T', L, h0, X', hL, e1, e2, ⟨hv, hp, hz, hk2⟩, stp⟩ := hr T hT X0
  cases hv
  rw [h0] at hz hk2
  obtain ⟨t2, a1, b1⟩ := kk T'.heap (locs ++ L) (by rw [e1]; exact hp) ⟨Nat.le_trans hS.1 (by rw [e1]; exact hz), fun q h1 h2 => by rw [e1, hk2 q (Nat.lt_of_lt_of_le h1 hS.1) (fun z => h2 (hAw q z))]; exact hS.2.1 q h1 h2, fun q hq => by
      rcases List.mem_append.mp hq with g | g
      · exact hS.2.2 q g
      · exact hAw _ (hL q g)⟩ T' rfl X'
  exact ⟨t2, stp t2 a1, b1⟩
theorem r_callSi (h : gok X l D R cA cR ad cc nL own) {r : Int32} (hM : wM l D cA cR ad y (Cond.code y bytes maxL rt :: wAl) fr lo As V (some (.int r)) V') (hG : GoodIn wAl (wsS own idx y (Cond.code y bytes maxL rt :: wAl))) (hd : y.cls = own ∧ y.cls ≠ "java/lang/invoke/MethodHandle" ∧ y.cls ≠ "java/lang/invoke/VarHandle" ∧ (parseMethodDescriptor y.desc).map (fun d => d.parameters.length) = some n) (hn : As.length = n) (hR : fr + 1 ≤ R.frames ∧ 8 + (maxL + 11) + lo ≤ R.locals) (hh : lv_has ls nL lv) (hst : st = As.reverse ++ rest) (hsum : (rest.map fun v => v.category).sum ≤ 8) (hdg : decode cc pc = .ok (.invokestatic idx, 3)) (kk : wv X cA cR ad V' (pc + 3) ls (.int r :: rest)) : wv X cA cR ad V pc ls st := by
  obtain ⟨⟨p, l, e, R⟩, ⟨s, m, args, below⟩, ⟨meth, c, cells, slots⟩, Q, D, A, H0⟩ := X
  obtain ⟨hx, hb, hml, hown, hts, hK, hD, hlk, rfl, rfl, rfl, hAw, hcl⟩ := h
  intro H locs hP hS
  subst hst
  have hr := va_runS (g := F0 m pc ls (As.reverse ++ rest)) (locs := locs) (cells := cells) (slots := slots) (below := below) (meth := meth) (e := e) ⟨hx, hb, hml, hown, hts⟩ hM (cwS n hts hG rfl rfl rfl hd hR) ⟨wP_bl, wP_ok hP hK⟩ rfl hn hh.1 rfl (lv_room hsum) hdg ⟨hcl.1, hcl.2⟩
  intro T hT X0
  obtain ⟨v, st₀, t, T', L, h0, X', hL, e1, e2, ⟨hv, hp, hz, hk2⟩, stp⟩ := hr T hT X0
  cases hv
  rw [h0] at hz hk2
  obtain ⟨t2, a1, b1⟩ := kk T'.heap (locs ++ L) (by rw [e1]; exact hp) ⟨Nat.le_trans hS.1 (by rw [e1]; exact hz), fun q h1 h2 => by rw [e1, hk2 q (Nat.lt_of_lt_of_le h1 hS.1) (fun z => h2 (hAw q z))]; exact hS.2.1 q h1 h2, fun q hq => by
      rcases List.mem_append.mp hq with g | g
      · exact hS.2.2 q g
      · exact hAw _ (hL q g)⟩ T' rfl X'
  exact ⟨t2, stp t2 a1, b1⟩
theorem r_callVv (h : gok X l D R cA cR ad cc nL own) {C : String} {T : u_T} {N ci k : Nat} {fs : List Value} (hM : wM l D cA cR ad y (Cond.code y bytes maxL rt :: wAl) fr lo (.ref (ad k) :: As) V none V') (hG : GoodIn wAl (wsV own idx C y (Cond.code y bytes maxL rt :: wAl))) (hd : y.cls = C ∧ y.cls ≠ "java/lang/invoke/MethodHandle" ∧ y.cls ≠ "java/lang/invoke/VarHandle" ∧ (parseMethodDescriptor y.desc).map (fun d => d.parameters.length) = some n) (hn : As.length = n) (hR : fr + 1 ≤ R.frames ∧ 8 + (maxL + 11) + lo ≤ R.locals) (hk : k < wN) (hGk : wG cA cR ad k (V k) = .inr (ci, fs)) (hc : vwC[ci]? = some (C, T, N)) (hh : lv_has ls nL lv) (hst : st = As.reverse ++ .ref (ad k) :: rest) (hsum : (rest.map fun v => v.category).sum ≤ 8) (hdg : decode cc pc = .ok (.invokevirtual idx, 3)) (kk : wv X cA cR ad V' (pc + 3) ls rest) : wv X cA cR ad V pc ls st := by
  obtain ⟨⟨p, l, e, R⟩, ⟨s, m, args, below⟩, ⟨meth, c, cells, slots⟩, Q, D, A, H0⟩ := X
  obtain ⟨hx, hb, hml, hown, hts, hK, hD, hlk, rfl, rfl, rfl, hAw, hcl⟩ := h
  intro H locs hP hS
  subst hst
  have hr := va_runV (g := F0 m pc ls (As.reverse ++ .ref (ad k) :: rest)) (locs := locs) (cells := cells) (slots := slots) (below := below) (meth := meth) (e := e) ⟨hx, hb, hml, hown, hts⟩ hM (cwV n hts hG rfl rfl rfl hd hR) ⟨wP_bl, va_recv (q := (C, T, N)) (q0 := k) hK hP hc (by rw [wL_at cA cR ad V hk, hGk]), wP_ok hP hK⟩ rfl hn hh.1 rfl (lv_room hsum) hdg ⟨hcl.1, hcl.2⟩
  intro T hT X0
  obtain ⟨v, st₀, t, T', L, h0, X', hL, e1, e2, ⟨hv, hp, hz, hk2⟩, stp⟩ := hr T hT X0
  cases hv
  rw [h0] at hz hk2
  obtain ⟨t2, a1, b1⟩ := kk T'.heap (locs ++ L) (by rw [e1]; exact hp) ⟨Nat.le_trans hS.1 (by rw [e1]; exact hz), fun q h1 h2 => by rw [e1, hk2 q (Nat.lt_of_lt_of_le h1 hS.1) (fun z => h2 (hAw q z))]; exact hS.2.1 q h1 h2, fun q hq => by
      rcases List.mem_append.mp hq with g | g
      · exact hS.2.2 q g
      · exact hAw _ (hL q g)⟩ T' rfl X'
  exact ⟨t2, stp t2 a1, b1⟩
theorem r_callSv (h : gok X l D R cA cR ad cc nL own) (hM : wM l D cA cR ad y (Cond.code y bytes maxL rt :: wAl) fr lo As V none V') (hG : GoodIn wAl (wsS own idx y (Cond.code y bytes maxL rt :: wAl))) (hd : y.cls = own ∧ y.cls ≠ "java/lang/invoke/MethodHandle" ∧ y.cls ≠ "java/lang/invoke/VarHandle" ∧ (parseMethodDescriptor y.desc).map (fun d => d.parameters.length) = some n) (hn : As.length = n) (hR : fr + 1 ≤ R.frames ∧ 8 + (maxL + 11) + lo ≤ R.locals) (hh : lv_has ls nL lv) (hst : st = As.reverse ++ rest) (hsum : (rest.map fun v => v.category).sum ≤ 8) (hdg : decode cc pc = .ok (.invokestatic idx, 3)) (kk : wv X cA cR ad V' (pc + 3) ls rest) : wv X cA cR ad V pc ls st := by
  obtain ⟨⟨p, l, e, R⟩, ⟨s, m, args, below⟩, ⟨meth, c, cells, slots⟩, Q, D, A, H0⟩ := X
  obtain ⟨hx, hb, hml, hown, hts, hK, hD, hlk, rfl, rfl, rfl, hAw, hcl⟩ := h
  intro H locs hP hS
  subst hst
  have hr := va_runS (g := F0 m pc ls (As.reverse ++ rest)) (locs := locs) (cells := cells) (slots := slots) (below := below) (meth := meth) (e := e) ⟨hx, hb, hml, hown, hts⟩ hM (cwS n hts hG rfl rfl rfl hd hR) ⟨wP_bl, wP_ok hP hK⟩ rfl hn hh.1 rfl (lv_room hsum) hdg ⟨hcl.1, hcl.2⟩
  intro T hT X0
  obtain ⟨v, st₀, t, T', L, h0, X', hL, e1, e2, ⟨hv, hp, hz, hk2⟩, stp⟩ := hr T hT X0
  cases hv
  rw [h0] at hz hk2
  obtain ⟨t2, a1, b1⟩ := kk T'.heap (locs ++ L) (by rw [e1]; exact hp) ⟨Nat.le_trans hS.1 (by rw [e1]; exact hz), fun q h1 h2 => by rw [e1, hk2 q (Nat.lt_of_lt_of_le h1 hS.1) (fun z => h2 (hAw q z))]; exact hS.2.1 q h1 h2, fun q hq => by
      rcases List.mem_append.mp hq with g | g
      · exact hS.2.2 q g
      · exact hAw _ (hL q g)⟩ T' rfl X'
  exact ⟨t2, stp t2 a1, b1⟩
end WC
