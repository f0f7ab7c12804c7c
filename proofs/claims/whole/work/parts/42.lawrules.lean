-- RULES for the law's own walk: the script, and the law's end
def gS (X : gX) (b L : Nat) (xs : Nat → Int32) : Prop := match X with
  | (_, (s, _, _, _), _, _, _, A, H0) => va_X b L xs s H0 ∧ b < H0.size ∧ ¬ A b
def gL (X : gX) (b : Nat) : Prop := match X with
  | ((_, _, _, R), (s, _, args, below), (meth, c, cells, slots), Q, _, A, _) => args = #[Value.ref b] ∧ R = room_1 ∧ cells = 600000 ∧ slots = 7302250 ∧ Q = lw_Z below #[Value.ref b] s ∧ meth.sig.returnType = ret ∧ (∀ q, A q → s.heap.size ≤ q)
section LR
variable {X : gX} {l : Launch} {D : va_G} {R : Room} {cA cR : ClassId} {ad : Nat → Nat} {V : Nat → Nat → Int32} {cc : ByteArray} {nL pc b L : Nat} {xs : Nat → Int32} {own : String} {ls : Array Slot} {rest : List Value}
theorem r_sldN (h : gok X l D R cA cR ad cc nL own) (hS : gS X b L xs) {i : Nat} (hi : i < L) (hL : L < 2 ^ 31) (hdg : decode cc pc = .ok (.iaload, 1)) (kk : wv X cA cR ad V (pc + 1) ls (.int (xs i) :: rest)) : wv X cA cR ad V pc ls (.int (nI i) :: .ref b :: rest) := by
  obtain ⟨⟨p, l, e, R⟩, ⟨s, m, args, below⟩, ⟨meth, c, cells, slots⟩, Q, D, A, H0⟩ := X
  obtain ⟨hx, hb, hml, hown, hts, hK, hD, hlk, rfl, rfl, rfl, hAw, hcl⟩ := h
  obtain ⟨hX, hbl, hbA⟩ := hS
  intro H locs hP hS
  refine va_sld hx hb hX hbl hbA hS (vp_in_nI hi hL) hdg ?_
  rw [nI_clamp (by omega)]
  exact kk H locs hP hS
theorem r_slen (h : gok X l D R cA cR ad cc nL own) (hS : gS X b L xs) (hdg : decode cc pc = .ok (.arraylength, 1)) (kk : wv X cA cR ad V (pc + 1) ls (.int (nI L) :: rest)) : wv X cA cR ad V pc ls (.ref b :: rest) := by
  obtain ⟨⟨p, l, e, R⟩, ⟨s, m, args, below⟩, ⟨meth, c, cells, slots⟩, Q, D, A, H0⟩ := X
  obtain ⟨hx, hb, hml, hown, hts, hK, hD, hlk, rfl, rfl, rfl, hAw, hcl⟩ := h
  obtain ⟨hX, hbl, hbA⟩ := hS
  intro H locs hP hS
  exact va_slen hx hb hX hbl hbA hS hdg (kk H locs hP hS)
theorem r_lret (h : gok X l D R cA cR ad b_La_law nL own) (hL : gL X b) (hdg : decode b_La_law pc = .ok (.ireturn, 1)) : wv X cA cR ad V pc ls [.int 1] := by
  obtain ⟨⟨p, l, e, R⟩, ⟨s, m, args, below⟩, ⟨meth, c, cells, slots⟩, Q, D, A, H0⟩ := X
  obtain ⟨hx, hb, hml, hown, hts, hK, hD, hlk, rfl, rfl, rfl, hAw, hcl⟩ := h
  obtain ⟨rfl, rfl, rfl, rfl, rfl, hr, hA⟩ := hL
  intro H locs hP hS
  exact va_forget (fun q hq => hA _ (hS.2.2 q hq)) (lw_ret hx hb hr hlk hdg)
end LR
theorem z_inc4 (p : Nat) : nI p + Int32.ofInt 4 = nI (p + 4) := by
  rw [show Int32.ofInt 4 = nI 4 by decide]
  exact nI_add p 4
theorem z_L4 {i L : Nat} (hL : L ≤ 2048) (hi : i ≤ 4096) : (nI L - 4 < nI i ↔ L < i + 4) := by
  have h4 : (nI L - 4).toInt = (L : Int) - 4 := pk_sub_toInt (b := 4) (by omega) (by omega)
  rw [Int32.lt_iff_toInt_lt, h4, nI_toInt (by omega)]
  omega
