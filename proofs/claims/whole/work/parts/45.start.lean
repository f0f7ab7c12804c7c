-- THE START: the two objects are made, and the loop begins
theorem kZ_0 : kZ (fun _ _ => 0) (fun _ _ => 0) 0 (fun _ => 0) (fun _ => 0) := by
  refine ⟨⟨nI_0.symm, ⟨⟨by omega, by omega, by omega, fun p h => absurd h (by omega), fun p h => absurd h (by omega), fun p h => absurd h (by omega), fun p h => absurd h (by omega), fun p h => absurd h (by omega)⟩, ⟨⟨rfl, fun v h1 h2 => absurd h1 (by omega)⟩, ⟨fun p h => absurd h (by omega), fun v h1 h2 => absurd h1 (by omega), fun p q h => absurd h (by omega)⟩, fun c h1 h2 => absurd h1 (by omega), fun a p q r h1 h2 h3 => absurd h3 (by omega), fun c p q h1 h2 => absurd h1 (by omega), fun c c' q q' h1 h2 => absurd h1 (by omega)⟩, fun P => rfl⟩, fun r hr => ⟨nI_0.symm, nI_0.symm, fun e h => absurd h (by omega), fun e _ => rfl, Nat.zero_le 50, fun k h => absurd h (Nat.not_lt_zero k), fun k h => absurd h (Nat.not_lt_zero k), fun e h => absurd h (Nat.not_lt_zero e)⟩⟩, fun r hr => ?_, rfl, rfl, rfl, rfl, rfl, rfl, rfl, fun r hr => ⟨fun e _ => rfl, rfl, fun k h => absurd h (Nat.not_lt_zero k), rfl, fun k h => absurd h (Nat.not_lt_zero k)⟩⟩
  show 0 + 0 + kE (fun _ => 0) ≤ 0 + (kE (fun _ => 0) + kE (fun _ => 0) + kE (fun _ => 0))
  omega
theorem arrV_c {cI : ClassId} {N : Nat} {f g : Nat → Value} (h : ∀ j, j < N → f j = g j) : arrV cI N f = arrV cI N g := by
  unfold arrV
  congr 1
  congr 1
  funext i
  exact h i.val i.isLt
set_option maxHeartbeats 4000000 in
set_option maxRecDepth 100000 in
/-- YOUR PART: from the entry, for every script of at most 2048 ints, the law comes to its end with true -/
theorem whole_start {p : Program} {e : Env} {s : State} {m : MethodId} {below : List Frame} {meth : Method} {c : Code} (l : Launch) {b L : Nat} {xs : Nat → Int32} (hL : L ≤ 2048) (C0 : lw_At p s m meth c b L xs) : W p l e room_1 s m #[Value.ref b] below meth c s.heap [] 0 0 (lw_Z below #[Value.ref b] s) (entryFrame m ([Value.ref b] : List Value).toArray 4) := by
  obtain ⟨hx, hb, hr, hml, hown, hts0, hX, hbl, hlocks, hgv⟩ := id C0
  have hts : ∀ w ∈ wAl, w.before #[Value.ref b] s = true := fun w hw => hts0 w (wAl_sub w hw)
  have hown : s.vm.findClass R_La = some m.cls := hown
  have hn1 : va_Nw (.methodLinkNest R_St 11 y_Tr_init R_St) s := va_Nw.of rfl (hts0 _ (List.mem_append_right _ (List.mem_append_left _ (List.mem_of_getElem? (i := 16) (by decide +kernel)))))
  have hn2 : va_Nw (.methodLinkNest R_St 22 y_Re_init R_St) s := va_Nw.of rfl (hts0 _ (List.mem_append_right _ (List.mem_append_left _ (List.mem_of_getElem? (i := 53) (by decide +kernel)))))
  have hao : va_AO R_Re s := va_AO.of (hts0 (.arrayOver (.object R_Re)) (List.mem_append_right _ (List.mem_append_left _ (List.mem_of_getElem? (i := 51) (by decide +kernel)))))
  have hA : ∀ q : Nat, s.heap.size ≤ q → (fun q : Nat => s.heap.size ≤ q) q := fun _ h => h
  have hbA : ¬ (fun q : Nat => s.heap.size ≤ q) b := Nat.not_le.mpr hbl
  obtain ⟨c0, iS0, hKn0⟩ := u_known (C := R_Me) (T := F_Me) (N := 2) (n := 2) hts iw_Me (hts _ ws_Me)
  obtain ⟨c1, iS1, hKn1⟩ := u_known (C := R_Re) (T := F_Re) (N := 3) (n := 3) hts iw_Re (hts _ ws_Re)
  obtain ⟨c2, iS2, hKn2⟩ := u_known (C := R_Tr) (T := F_Tr) (N := 7) (n := 7) hts iw_Tr (hts _ ws_Tr)
  obtain ⟨c3, iS3, hKn3⟩ := u_known (C := R_St) (T := F_St) (N := 2) (n := 2) hts iw_St (hts _ ws_St)
  obtain ⟨c4, iS4, hKn4⟩ := u_known (C := R_Mo) (T := F_Mo) (N := 12) (n := 12) hts iw_Mo (hts _ ws_Mo)
  obtain ⟨dC, dI, hKc⟩ : ∃ (dC : Nat → ClassId) (dI : Nat → Nat → Nat), ∀ (k : Nat) (q : vw_C), vwC[k]? = some q → u_Kn s q.1 q.2.1 q.2.2 (dC k) (dI k) := by
    refine ⟨fun k => if k = 0 then c0 else if k = 1 then c1 else if k = 2 then c2 else if k = 3 then c3 else c4, fun k => if k = 0 then iS0 else if k = 1 then iS1 else if k = 2 then iS2 else if k = 3 then iS3 else iS4, ?_⟩
    intro k q hq
    match k, hq with
    | 0, hq => cases hq; exact hKn0
    | 1, hq => cases hq; exact hKn1
    | 2, hq => cases hq; exact hKn2
    | 3, hq => cases hq; exact hKn3
    | 4, hq => cases hq; exact hKn4
    | k + 5, hq => simp [vwC] at hq
  have hS : va_S (fun q : Nat => s.heap.size ≤ q) s.heap s.heap [] := va_S.rf
  obtain ⟨D, hDd⟩ : ∃ D : va_G, D = (dC, dI) := ⟨_, rfl⟩
  have hK : va_K D vwC [] s := by rw [hDd]; exact ⟨hKc, fun k q h => by simp at h⟩
  have hP : va_P D vwC [] s.heap := fun k q h => by simp at h
  have hD : va_D (fun q : Nat => s.heap.size ≤ q) [] := ⟨fun i j p q h => by simp at h, fun k q h => by simp at h⟩
  have hl := lv_entry ([.ref b]) (n := 4) (Nat.le_of_ble_eq_true rfl)
  rw [lg_entry_eq]
  generalize (lg_sl ([.ref b]) ++ List.replicate (4 - (lg_sl ([.ref b])).length) Slot.unset).toArray = ls at hl ⊢
  have hl : lv_has ls 4 [(0, .ref b)] := hl
  refine va_new (ci := 3) (fs := [.null, .null]) (C := R_St) (T := F_St) (N := 2) hx hb hts iw_St t_St t_St_ok hown (hts _ wl_La_7) (hts _ ws_St) (hts _ wi_St) hK hP hD hS hA rfl (fun j hj => by rcases (show j = 0 ∨ j = 1 by omega) with rfl | rfl <;> rfl) (Nat.le_of_ble_eq_true rfl) (Nat.le_of_ble_eq_true rfl) d_La_law_0 (fun b0 H hP hD hS => ?_)
  have hP : va_P D vwC [(b0, .inr (3, [.null, .null]))] H := hP
  have hD : va_D (fun q : Nat => s.heap.size ≤ q) [(b0, .inr (3, [.null, .null]))] := hD
  refine W.widen (k := 1) (n := 2) (by omega) (by omega) ?_
  refine lv_dup hx hb d_La_law_3 rfl ?_
  have hKc := hK.sub (tys' := []) [] rfl
  have hFc := va_free (wc := [(b0, .inr (3, [.null, .null]))]) hD hS hA [0] rfl
  refine va_callv (va_runI (As := []) (rest := [.ref b0]) ⟨hx, hb, hml, hown, hts⟩ (c_St_init l D b0 H.size) (cwI 0 hts (wAl_c wc_St_init) rfl rfl rfl (hts _ wi_St) (hts _ wm_La_9) (hts _ wn_St_init) rfl (by decide +kernel) ⟨Nat.le_of_ble_eq_true rfl, Nat.le_of_ble_eq_true rfl⟩) ⟨fun a U g mk q => by obtain ⟨q0, q1, qP, qK, qD, z1, z2, z3⟩ := q; exact ⟨q0, q1, qP, va_K.moved (u := U) (U := U.calling g mk a) (Vm.Alike.refl U.vm) qK, qD, va_Nw.same rfl rfl z1, va_Nw.same rfl rfl z2, va_AO.moved (u := U) (U := U.calling g mk a) (Vm.Alike.refl U.vm) z3⟩, fun U hU hW => ⟨rfl, by rw [hU], by rw [hU]; exact hP, va_K.moved hW.alike hKc, hD.weaken (fun _ _ _ _ => trivial), va_Nw.warmM hW hn1, va_Nw.warmM hW hn2, va_AO.moved hW.alike hao⟩⟩ rfl rfl hl.1 rfl (lv_room (Nat.le_of_ble_eq_true rfl)) d_La_law_4 ⟨Nat.le_of_ble_eq_true rfl, Nat.le_of_ble_eq_true rfl⟩) hS (fun q _ h => hFc q h) hFc (fun u t H1 locs ht hvm hw hB hz1 hk1 hS => ?_)
  obtain ⟨b1, b2, b3, b4, b5, b6, b7, b8, b9, b10, b11, b12, b13, b14, b15, b16, b17, b18, b19, b20, b21, b22, b23, b24, b25, b26, cA, cR⟩ := u
  obtain ⟨hP1, hK1, hD1⟩ := hB
  rw [ht] at hP1
  have hK1 := va_K.moved hvm.symm hK1
  obtain ⟨hP, hD⟩ := va_join (wr := []) (w1 := [(b0, .inr (3, [.ref b1, .ref b8])), (b1, .inr (2, [.ref b2, .ref b3, .ref b4, .ref b5, .ref b6, .ref b7, .int 0])), (b2, .inl (cA, 30, .inl (fun _ => 0))), (b3, .inl (cA, 30, .inl (fun _ => 0))), (b4, .inl (cA, 30, .inl (fun _ => 0))), (b5, .inl (cA, 30, .inl (fun _ => 0))), (b6, .inl (cA, 30, .inl (fun _ => 0))), (b7, .inl (cA, 30, .inl (fun _ => 0))), (b8, .inl (cR, 3, .inr (.inr (.inr (.inr (va_up (va_up (va_up (fun _ => none) 0 (some b9)) 1 (some b15)) 2 (some b21))))))), (b9, .inr (1, [.ref b10, .ref b11, .ref b13])), (b10, .inl (cA, 30, .inl (fun _ => 0))), (b11, .inr (0, [.ref b12, .int 0])), (b12, .inl (cA, 50, .inl (fun _ => 0))), (b13, .inr (0, [.ref b14, .int 0])), (b14, .inl (cA, 90, .inl (fun _ => 0))), (b15, .inr (1, [.ref b16, .ref b17, .ref b19])), (b16, .inl (cA, 30, .inl (fun _ => 0))), (b17, .inr (0, [.ref b18, .int 0])), (b18, .inl (cA, 50, .inl (fun _ => 0))), (b19, .inr (0, [.ref b20, .int 0])), (b20, .inl (cA, 90, .inl (fun _ => 0))), (b21, .inr (1, [.ref b22, .ref b23, .ref b25])), (b22, .inl (cA, 30, .inl (fun _ => 0))), (b23, .inr (0, [.ref b24, .int 0])), (b24, .inl (cA, 50, .inl (fun _ => 0))), (b25, .inr (0, [.ref b26, .int 0])), (b26, .inl (cA, 90, .inl (fun _ => 0)))]) hP hD [0] [] rfl rfl (by decide) (by decide) hk1 hFc hP1 hD1
  have hK := hK.app hK1
  generalize H1 = H at hP hS ⊢
  have hP : va_P D vwC [(b0, .inr (3, [.ref b1, .ref b8])), (b1, .inr (2, [.ref b2, .ref b3, .ref b4, .ref b5, .ref b6, .ref b7, .int 0])), (b2, .inl (cA, 30, .inl (fun _ => 0))), (b3, .inl (cA, 30, .inl (fun _ => 0))), (b4, .inl (cA, 30, .inl (fun _ => 0))), (b5, .inl (cA, 30, .inl (fun _ => 0))), (b6, .inl (cA, 30, .inl (fun _ => 0))), (b7, .inl (cA, 30, .inl (fun _ => 0))), (b8, .inl (cR, 3, .inr (.inr (.inr (.inr (va_up (va_up (va_up (fun _ => none) 0 (some b9)) 1 (some b15)) 2 (some b21))))))), (b9, .inr (1, [.ref b10, .ref b11, .ref b13])), (b10, .inl (cA, 30, .inl (fun _ => 0))), (b11, .inr (0, [.ref b12, .int 0])), (b12, .inl (cA, 50, .inl (fun _ => 0))), (b13, .inr (0, [.ref b14, .int 0])), (b14, .inl (cA, 90, .inl (fun _ => 0))), (b15, .inr (1, [.ref b16, .ref b17, .ref b19])), (b16, .inl (cA, 30, .inl (fun _ => 0))), (b17, .inr (0, [.ref b18, .int 0])), (b18, .inl (cA, 50, .inl (fun _ => 0))), (b19, .inr (0, [.ref b20, .int 0])), (b20, .inl (cA, 90, .inl (fun _ => 0))), (b21, .inr (1, [.ref b22, .ref b23, .ref b25])), (b22, .inl (cA, 30, .inl (fun _ => 0))), (b23, .inr (0, [.ref b24, .int 0])), (b24, .inl (cA, 50, .inl (fun _ => 0))), (b25, .inr (0, [.ref b26, .int 0])), (b26, .inl (cA, 90, .inl (fun _ => 0)))] H := hP
  have hD : va_D (fun q : Nat => s.heap.size ≤ q) [(b0, .inr (3, [.ref b1, .ref b8])), (b1, .inr (2, [.ref b2, .ref b3, .ref b4, .ref b5, .ref b6, .ref b7, .int 0])), (b2, .inl (cA, 30, .inl (fun _ => 0))), (b3, .inl (cA, 30, .inl (fun _ => 0))), (b4, .inl (cA, 30, .inl (fun _ => 0))), (b5, .inl (cA, 30, .inl (fun _ => 0))), (b6, .inl (cA, 30, .inl (fun _ => 0))), (b7, .inl (cA, 30, .inl (fun _ => 0))), (b8, .inl (cR, 3, .inr (.inr (.inr (.inr (va_up (va_up (va_up (fun _ => none) 0 (some b9)) 1 (some b15)) 2 (some b21))))))), (b9, .inr (1, [.ref b10, .ref b11, .ref b13])), (b10, .inl (cA, 30, .inl (fun _ => 0))), (b11, .inr (0, [.ref b12, .int 0])), (b12, .inl (cA, 50, .inl (fun _ => 0))), (b13, .inr (0, [.ref b14, .int 0])), (b14, .inl (cA, 90, .inl (fun _ => 0))), (b15, .inr (1, [.ref b16, .ref b17, .ref b19])), (b16, .inl (cA, 30, .inl (fun _ => 0))), (b17, .inr (0, [.ref b18, .int 0])), (b18, .inl (cA, 50, .inl (fun _ => 0))), (b19, .inr (0, [.ref b20, .int 0])), (b20, .inl (cA, 90, .inl (fun _ => 0))), (b21, .inr (1, [.ref b22, .ref b23, .ref b25])), (b22, .inl (cA, 30, .inl (fun _ => 0))), (b23, .inr (0, [.ref b24, .int 0])), (b24, .inl (cA, 50, .inl (fun _ => 0))), (b25, .inr (0, [.ref b26, .int 0])), (b26, .inl (cA, 90, .inl (fun _ => 0)))] := hD
  have hK : va_K D vwC [(cA, .int), (cR, .object R_Re)] s := hK
  refine W.widen (k := 27) (n := 723) (by omega) (by omega) ?_
  refine lv_astore_n (lv' := [(1, .ref b0), (0, .ref b)]) hx hb d_La_law_7 rfl hl (by decide) rfl (fun ls hl => ?_)
  refine va_new (ci := 4) (fs := [.int 0, .null, .null, .null, .null, .null, .null, .null, .null, .null, .null, .null]) (C := R_Mo) (T := F_Mo) (N := 12) hx hb hts iw_Mo t_Mo t_Mo_ok hown (hts _ wl_La_10) (hts _ ws_Mo) (hts _ wi_Mo) hK hP hD hS hA rfl (fun j hj => by rcases (show j = 0 ∨ j = 1 ∨ j = 2 ∨ j = 3 ∨ j = 4 ∨ j = 5 ∨ j = 6 ∨ j = 7 ∨ j = 8 ∨ j = 9 ∨ j = 10 ∨ j = 11 by omega) with rfl | rfl | rfl | rfl | rfl | rfl | rfl | rfl | rfl | rfl | rfl | rfl <;> rfl) (Nat.le_of_ble_eq_true rfl) (Nat.le_of_ble_eq_true rfl) d_La_law_8 (fun b27 H hP hD hS => ?_)
  have hP : va_P D vwC [(b0, .inr (3, [.ref b1, .ref b8])), (b1, .inr (2, [.ref b2, .ref b3, .ref b4, .ref b5, .ref b6, .ref b7, .int 0])), (b2, .inl (cA, 30, .inl (fun _ => 0))), (b3, .inl (cA, 30, .inl (fun _ => 0))), (b4, .inl (cA, 30, .inl (fun _ => 0))), (b5, .inl (cA, 30, .inl (fun _ => 0))), (b6, .inl (cA, 30, .inl (fun _ => 0))), (b7, .inl (cA, 30, .inl (fun _ => 0))), (b8, .inl (cR, 3, .inr (.inr (.inr (.inr (va_up (va_up (va_up (fun _ => none) 0 (some b9)) 1 (some b15)) 2 (some b21))))))), (b9, .inr (1, [.ref b10, .ref b11, .ref b13])), (b10, .inl (cA, 30, .inl (fun _ => 0))), (b11, .inr (0, [.ref b12, .int 0])), (b12, .inl (cA, 50, .inl (fun _ => 0))), (b13, .inr (0, [.ref b14, .int 0])), (b14, .inl (cA, 90, .inl (fun _ => 0))), (b15, .inr (1, [.ref b16, .ref b17, .ref b19])), (b16, .inl (cA, 30, .inl (fun _ => 0))), (b17, .inr (0, [.ref b18, .int 0])), (b18, .inl (cA, 50, .inl (fun _ => 0))), (b19, .inr (0, [.ref b20, .int 0])), (b20, .inl (cA, 90, .inl (fun _ => 0))), (b21, .inr (1, [.ref b22, .ref b23, .ref b25])), (b22, .inl (cA, 30, .inl (fun _ => 0))), (b23, .inr (0, [.ref b24, .int 0])), (b24, .inl (cA, 50, .inl (fun _ => 0))), (b25, .inr (0, [.ref b26, .int 0])), (b26, .inl (cA, 90, .inl (fun _ => 0))), (b27, .inr (4, [.int 0, .null, .null, .null, .null, .null, .null, .null, .null, .null, .null, .null]))] H := hP
  have hD : va_D (fun q : Nat => s.heap.size ≤ q) [(b0, .inr (3, [.ref b1, .ref b8])), (b1, .inr (2, [.ref b2, .ref b3, .ref b4, .ref b5, .ref b6, .ref b7, .int 0])), (b2, .inl (cA, 30, .inl (fun _ => 0))), (b3, .inl (cA, 30, .inl (fun _ => 0))), (b4, .inl (cA, 30, .inl (fun _ => 0))), (b5, .inl (cA, 30, .inl (fun _ => 0))), (b6, .inl (cA, 30, .inl (fun _ => 0))), (b7, .inl (cA, 30, .inl (fun _ => 0))), (b8, .inl (cR, 3, .inr (.inr (.inr (.inr (va_up (va_up (va_up (fun _ => none) 0 (some b9)) 1 (some b15)) 2 (some b21))))))), (b9, .inr (1, [.ref b10, .ref b11, .ref b13])), (b10, .inl (cA, 30, .inl (fun _ => 0))), (b11, .inr (0, [.ref b12, .int 0])), (b12, .inl (cA, 50, .inl (fun _ => 0))), (b13, .inr (0, [.ref b14, .int 0])), (b14, .inl (cA, 90, .inl (fun _ => 0))), (b15, .inr (1, [.ref b16, .ref b17, .ref b19])), (b16, .inl (cA, 30, .inl (fun _ => 0))), (b17, .inr (0, [.ref b18, .int 0])), (b18, .inl (cA, 50, .inl (fun _ => 0))), (b19, .inr (0, [.ref b20, .int 0])), (b20, .inl (cA, 90, .inl (fun _ => 0))), (b21, .inr (1, [.ref b22, .ref b23, .ref b25])), (b22, .inl (cA, 30, .inl (fun _ => 0))), (b23, .inr (0, [.ref b24, .int 0])), (b24, .inl (cA, 50, .inl (fun _ => 0))), (b25, .inr (0, [.ref b26, .int 0])), (b26, .inl (cA, 90, .inl (fun _ => 0))), (b27, .inr (4, [.int 0, .null, .null, .null, .null, .null, .null, .null, .null, .null, .null, .null]))] := hD
  refine W.widen (k := 28) (n := 735) (by omega) (by omega) ?_
  refine lv_dup hx hb d_La_law_11 rfl ?_
  have hPc := hP.sub (ws' := [(b27, .inr (4, [.int 0, .null, .null, .null, .null, .null, .null, .null, .null, .null, .null, .null]))]) [27] rfl
  have hDc := hD.sub (ws' := [(b27, .inr (4, [.int 0, .null, .null, .null, .null, .null, .null, .null, .null, .null, .null, .null]))]) [27] (by decide) rfl
  have hKc := hK.sub (tys' := []) [] rfl
  have hFc := va_free (wc := [(b27, .inr (4, [.int 0, .null, .null, .null, .null, .null, .null, .null, .null, .null, .null, .null]))]) hD hS hA [27] rfl
  refine va_callv (va_runI (As := []) (rest := [.ref b27]) ⟨hx, hb, hml, hown, hts⟩ (c_Mo_init l D b27 H.size) (cwI 0 hts (wAl_c wc_Mo_init) rfl rfl rfl (hts _ wi_Mo) (hts _ wm_La_12) (hts _ wn_Mo_init) rfl (by decide +kernel) ⟨Nat.le_of_ble_eq_true rfl, Nat.le_of_ble_eq_true rfl⟩) ⟨fun a U g mk q => by obtain ⟨q0, q1, qP, qK, qD⟩ := q; exact ⟨q0, q1, qP, va_K.moved (u := U) (U := U.calling g mk a) (Vm.Alike.refl U.vm) qK, qD⟩, fun U hU hW => ⟨rfl, by rw [hU], by rw [hU]; exact hPc, va_K.moved hW.alike hKc, hDc.weaken (fun _ _ _ _ => trivial)⟩⟩ rfl rfl hl.1 rfl (lv_room (Nat.le_of_ble_eq_true rfl)) d_La_law_12 ⟨Nat.le_of_ble_eq_true rfl, Nat.le_of_ble_eq_true rfl⟩) hS (fun q _ h => hFc q h) hFc (fun u t H1 locs ht hvm hw hB hz1 hk1 hS => ?_)
  obtain ⟨b28, b29, b30, b31, b32, b33, b34, b35, b36, b37, b38, cB⟩ := u
  obtain ⟨hP1, hK1, hD1⟩ := hB
  rw [ht] at hP1
  have hK1 := va_K.moved hvm.symm hK1
  obtain ⟨hP, hD⟩ := va_join (wr := [(b0, .inr (3, [.ref b1, .ref b8])), (b1, .inr (2, [.ref b2, .ref b3, .ref b4, .ref b5, .ref b6, .ref b7, .int 0])), (b2, .inl (cA, 30, .inl (fun _ => 0))), (b3, .inl (cA, 30, .inl (fun _ => 0))), (b4, .inl (cA, 30, .inl (fun _ => 0))), (b5, .inl (cA, 30, .inl (fun _ => 0))), (b6, .inl (cA, 30, .inl (fun _ => 0))), (b7, .inl (cA, 30, .inl (fun _ => 0))), (b8, .inl (cR, 3, .inr (.inr (.inr (.inr (va_up (va_up (va_up (fun _ => none) 0 (some b9)) 1 (some b15)) 2 (some b21))))))), (b9, .inr (1, [.ref b10, .ref b11, .ref b13])), (b10, .inl (cA, 30, .inl (fun _ => 0))), (b11, .inr (0, [.ref b12, .int 0])), (b12, .inl (cA, 50, .inl (fun _ => 0))), (b13, .inr (0, [.ref b14, .int 0])), (b14, .inl (cA, 90, .inl (fun _ => 0))), (b15, .inr (1, [.ref b16, .ref b17, .ref b19])), (b16, .inl (cA, 30, .inl (fun _ => 0))), (b17, .inr (0, [.ref b18, .int 0])), (b18, .inl (cA, 50, .inl (fun _ => 0))), (b19, .inr (0, [.ref b20, .int 0])), (b20, .inl (cA, 90, .inl (fun _ => 0))), (b21, .inr (1, [.ref b22, .ref b23, .ref b25])), (b22, .inl (cA, 30, .inl (fun _ => 0))), (b23, .inr (0, [.ref b24, .int 0])), (b24, .inl (cA, 50, .inl (fun _ => 0))), (b25, .inr (0, [.ref b26, .int 0])), (b26, .inl (cA, 90, .inl (fun _ => 0)))]) (w1 := [(b27, .inr (4, [.int 0, .ref b28, .ref b29, .ref b30, .ref b31, .ref b32, .ref b33, .ref b34, .ref b35, .ref b36, .ref b37, .ref b38])), (b28, .inl (cB, 30, .inl (fun _ => 0))), (b29, .inl (cB, 30, .inl (fun _ => 0))), (b30, .inl (cB, 30, .inl (fun _ => 0))), (b31, .inl (cB, 30, .inl (fun _ => 0))), (b32, .inl (cB, 30, .inl (fun _ => 0))), (b33, .inl (cB, 30, .inl (fun _ => 0))), (b34, .inl (cB, 90, .inl (fun _ => 0))), (b35, .inl (cB, 270, .inl (fun _ => 0))), (b36, .inl (cB, 3, .inl (fun _ => 0))), (b37, .inl (cB, 270, .inl (fun _ => 0))), (b38, .inl (cB, 3, .inl (fun _ => 0)))]) hP hD [27] [0, 1, 2, 3, 4, 5, 6, 7, 8, 9, 10, 11, 12, 13, 14, 15, 16, 17, 18, 19, 20, 21, 22, 23, 24, 25, 26] rfl rfl (by decide) (by decide) hk1 hFc hP1 hD1
  have hK := hK.app hK1
  generalize H1 = H at hP hS ⊢
  have hK : va_K D vwC [(cA, .int), (cR, .object R_Re), (cB, .int)] s := hK
  obtain rfl : cA = cB := kA_one (hK.sub (tys' := [(cA, .int), (cB, .int)]) [0, 2] rfl)
  have hK : va_K D vwC (wT cA cR) s := hK.sub [0, 1] rfl
  have hP : va_P D vwC [(b0, .inr (3, [.ref b1, .ref b8])), (b1, .inr (2, [.ref b2, .ref b3, .ref b4, .ref b5, .ref b6, .ref b7, .int 0])), (b2, .inl (cA, 30, .inl (fun _ => 0))), (b3, .inl (cA, 30, .inl (fun _ => 0))), (b4, .inl (cA, 30, .inl (fun _ => 0))), (b5, .inl (cA, 30, .inl (fun _ => 0))), (b6, .inl (cA, 30, .inl (fun _ => 0))), (b7, .inl (cA, 30, .inl (fun _ => 0))), (b8, .inl (cR, 3, .inr (.inr (.inr (.inr (va_up (va_up (va_up (fun _ => none) 0 (some b9)) 1 (some b15)) 2 (some b21))))))), (b9, .inr (1, [.ref b10, .ref b11, .ref b13])), (b10, .inl (cA, 30, .inl (fun _ => 0))), (b11, .inr (0, [.ref b12, .int 0])), (b12, .inl (cA, 50, .inl (fun _ => 0))), (b13, .inr (0, [.ref b14, .int 0])), (b14, .inl (cA, 90, .inl (fun _ => 0))), (b15, .inr (1, [.ref b16, .ref b17, .ref b19])), (b16, .inl (cA, 30, .inl (fun _ => 0))), (b17, .inr (0, [.ref b18, .int 0])), (b18, .inl (cA, 50, .inl (fun _ => 0))), (b19, .inr (0, [.ref b20, .int 0])), (b20, .inl (cA, 90, .inl (fun _ => 0))), (b21, .inr (1, [.ref b22, .ref b23, .ref b25])), (b22, .inl (cA, 30, .inl (fun _ => 0))), (b23, .inr (0, [.ref b24, .int 0])), (b24, .inl (cA, 50, .inl (fun _ => 0))), (b25, .inr (0, [.ref b26, .int 0])), (b26, .inl (cA, 90, .inl (fun _ => 0))), (b27, .inr (4, [.int 0, .ref b28, .ref b29, .ref b30, .ref b31, .ref b32, .ref b33, .ref b34, .ref b35, .ref b36, .ref b37, .ref b38])), (b28, .inl (cA, 30, .inl (fun _ => 0))), (b29, .inl (cA, 30, .inl (fun _ => 0))), (b30, .inl (cA, 30, .inl (fun _ => 0))), (b31, .inl (cA, 30, .inl (fun _ => 0))), (b32, .inl (cA, 30, .inl (fun _ => 0))), (b33, .inl (cA, 30, .inl (fun _ => 0))), (b34, .inl (cA, 90, .inl (fun _ => 0))), (b35, .inl (cA, 270, .inl (fun _ => 0))), (b36, .inl (cA, 3, .inl (fun _ => 0))), (b37, .inl (cA, 270, .inl (fun _ => 0))), (b38, .inl (cA, 3, .inl (fun _ => 0)))] H := hP
  have hD : va_D (fun q : Nat => s.heap.size ≤ q) [(b0, .inr (3, [.ref b1, .ref b8])), (b1, .inr (2, [.ref b2, .ref b3, .ref b4, .ref b5, .ref b6, .ref b7, .int 0])), (b2, .inl (cA, 30, .inl (fun _ => 0))), (b3, .inl (cA, 30, .inl (fun _ => 0))), (b4, .inl (cA, 30, .inl (fun _ => 0))), (b5, .inl (cA, 30, .inl (fun _ => 0))), (b6, .inl (cA, 30, .inl (fun _ => 0))), (b7, .inl (cA, 30, .inl (fun _ => 0))), (b8, .inl (cR, 3, .inr (.inr (.inr (.inr (va_up (va_up (va_up (fun _ => none) 0 (some b9)) 1 (some b15)) 2 (some b21))))))), (b9, .inr (1, [.ref b10, .ref b11, .ref b13])), (b10, .inl (cA, 30, .inl (fun _ => 0))), (b11, .inr (0, [.ref b12, .int 0])), (b12, .inl (cA, 50, .inl (fun _ => 0))), (b13, .inr (0, [.ref b14, .int 0])), (b14, .inl (cA, 90, .inl (fun _ => 0))), (b15, .inr (1, [.ref b16, .ref b17, .ref b19])), (b16, .inl (cA, 30, .inl (fun _ => 0))), (b17, .inr (0, [.ref b18, .int 0])), (b18, .inl (cA, 50, .inl (fun _ => 0))), (b19, .inr (0, [.ref b20, .int 0])), (b20, .inl (cA, 90, .inl (fun _ => 0))), (b21, .inr (1, [.ref b22, .ref b23, .ref b25])), (b22, .inl (cA, 30, .inl (fun _ => 0))), (b23, .inr (0, [.ref b24, .int 0])), (b24, .inl (cA, 50, .inl (fun _ => 0))), (b25, .inr (0, [.ref b26, .int 0])), (b26, .inl (cA, 90, .inl (fun _ => 0))), (b27, .inr (4, [.int 0, .ref b28, .ref b29, .ref b30, .ref b31, .ref b32, .ref b33, .ref b34, .ref b35, .ref b36, .ref b37, .ref b38])), (b28, .inl (cA, 30, .inl (fun _ => 0))), (b29, .inl (cA, 30, .inl (fun _ => 0))), (b30, .inl (cA, 30, .inl (fun _ => 0))), (b31, .inl (cA, 30, .inl (fun _ => 0))), (b32, .inl (cA, 30, .inl (fun _ => 0))), (b33, .inl (cA, 30, .inl (fun _ => 0))), (b34, .inl (cA, 90, .inl (fun _ => 0))), (b35, .inl (cA, 270, .inl (fun _ => 0))), (b36, .inl (cA, 3, .inl (fun _ => 0))), (b37, .inl (cA, 270, .inl (fun _ => 0))), (b38, .inl (cA, 3, .inl (fun _ => 0)))] := hD
  refine W.widen (k := 600000) (n := 7302250) (by omega) (by omega) ?_
  refine lv_astore_n (lv' := [(2, .ref b27), (1, .ref b0), (0, .ref b)]) hx hb d_La_law_15 rfl hl (by decide) rfl (fun ls hl => ?_)
  refine lv_iconst (v := 0) hx hb d_La_law_16 (by decide) ?_
  refine lv_istore_n (lv' := [(3, .int 0), (2, .ref b27), (1, .ref b0), (0, .ref b)]) hx hb d_La_law_17 rfl hl (by decide) rfl (fun ls hl => ?_)
  obtain ⟨ad, had⟩ : ∃ ad : Nat → Nat, ad = fun k => ([b0, b1, b2, b3, b4, b5, b6, b7, b8, b9, b10, b11, b12, b13, b14, b15, b16, b17, b18, b19, b20, b21, b22, b23, b24, b25, b26, b27, b28, b29, b30, b31, b32, b33, b34, b35, b36, b37, b38] : List Nat).getD k 0 := ⟨_, rfl⟩
  have hz0 : ∀ k, k < wN → ∃ x, ([(b0, .inr (3, [.ref b1, .ref b8])), (b1, .inr (2, [.ref b2, .ref b3, .ref b4, .ref b5, .ref b6, .ref b7, .int 0])), (b2, .inl (cA, 30, .inl (fun _ => 0))), (b3, .inl (cA, 30, .inl (fun _ => 0))), (b4, .inl (cA, 30, .inl (fun _ => 0))), (b5, .inl (cA, 30, .inl (fun _ => 0))), (b6, .inl (cA, 30, .inl (fun _ => 0))), (b7, .inl (cA, 30, .inl (fun _ => 0))), (b8, .inl (cR, 3, .inr (.inr (.inr (.inr (va_up (va_up (va_up (fun _ => none) 0 (some b9)) 1 (some b15)) 2 (some b21))))))), (b9, .inr (1, [.ref b10, .ref b11, .ref b13])), (b10, .inl (cA, 30, .inl (fun _ => 0))), (b11, .inr (0, [.ref b12, .int 0])), (b12, .inl (cA, 50, .inl (fun _ => 0))), (b13, .inr (0, [.ref b14, .int 0])), (b14, .inl (cA, 90, .inl (fun _ => 0))), (b15, .inr (1, [.ref b16, .ref b17, .ref b19])), (b16, .inl (cA, 30, .inl (fun _ => 0))), (b17, .inr (0, [.ref b18, .int 0])), (b18, .inl (cA, 50, .inl (fun _ => 0))), (b19, .inr (0, [.ref b20, .int 0])), (b20, .inl (cA, 90, .inl (fun _ => 0))), (b21, .inr (1, [.ref b22, .ref b23, .ref b25])), (b22, .inl (cA, 30, .inl (fun _ => 0))), (b23, .inr (0, [.ref b24, .int 0])), (b24, .inl (cA, 50, .inl (fun _ => 0))), (b25, .inr (0, [.ref b26, .int 0])), (b26, .inl (cA, 90, .inl (fun _ => 0))), (b27, .inr (4, [.int 0, .ref b28, .ref b29, .ref b30, .ref b31, .ref b32, .ref b33, .ref b34, .ref b35, .ref b36, .ref b37, .ref b38])), (b28, .inl (cA, 30, .inl (fun _ => 0))), (b29, .inl (cA, 30, .inl (fun _ => 0))), (b30, .inl (cA, 30, .inl (fun _ => 0))), (b31, .inl (cA, 30, .inl (fun _ => 0))), (b32, .inl (cA, 30, .inl (fun _ => 0))), (b33, .inl (cA, 30, .inl (fun _ => 0))), (b34, .inl (cA, 90, .inl (fun _ => 0))), (b35, .inl (cA, 270, .inl (fun _ => 0))), (b36, .inl (cA, 3, .inl (fun _ => 0))), (b37, .inl (cA, 270, .inl (fun _ => 0))), (b38, .inl (cA, 3, .inl (fun _ => 0)))] : va_W)[k]? = some (ad k, x) := by
    intro k hk
    rw [had]
    match k, hk with
    | 0, _ => exact ⟨_, rfl⟩
    | 1, _ => exact ⟨_, rfl⟩
    | 2, _ => exact ⟨_, rfl⟩
    | 3, _ => exact ⟨_, rfl⟩
    | 4, _ => exact ⟨_, rfl⟩
    | 5, _ => exact ⟨_, rfl⟩
    | 6, _ => exact ⟨_, rfl⟩
    | 7, _ => exact ⟨_, rfl⟩
    | 8, _ => exact ⟨_, rfl⟩
    | 9, _ => exact ⟨_, rfl⟩
    | 10, _ => exact ⟨_, rfl⟩
    | 11, _ => exact ⟨_, rfl⟩
    | 12, _ => exact ⟨_, rfl⟩
    | 13, _ => exact ⟨_, rfl⟩
    | 14, _ => exact ⟨_, rfl⟩
    | 15, _ => exact ⟨_, rfl⟩
    | 16, _ => exact ⟨_, rfl⟩
    | 17, _ => exact ⟨_, rfl⟩
    | 18, _ => exact ⟨_, rfl⟩
    | 19, _ => exact ⟨_, rfl⟩
    | 20, _ => exact ⟨_, rfl⟩
    | 21, _ => exact ⟨_, rfl⟩
    | 22, _ => exact ⟨_, rfl⟩
    | 23, _ => exact ⟨_, rfl⟩
    | 24, _ => exact ⟨_, rfl⟩
    | 25, _ => exact ⟨_, rfl⟩
    | 26, _ => exact ⟨_, rfl⟩
    | 27, _ => exact ⟨_, rfl⟩
    | 28, _ => exact ⟨_, rfl⟩
    | 29, _ => exact ⟨_, rfl⟩
    | 30, _ => exact ⟨_, rfl⟩
    | 31, _ => exact ⟨_, rfl⟩
    | 32, _ => exact ⟨_, rfl⟩
    | 33, _ => exact ⟨_, rfl⟩
    | 34, _ => exact ⟨_, rfl⟩
    | 35, _ => exact ⟨_, rfl⟩
    | 36, _ => exact ⟨_, rfl⟩
    | 37, _ => exact ⟨_, rfl⟩
    | 38, _ => exact ⟨_, rfl⟩
    | k + 39, h => exact absurd h (by show ¬ k + 39 < 39; omega)
  have hI : wI ad := fun i j h1 h2 h3 => by
    obtain ⟨x1, e1⟩ := hz0 i h1
    obtain ⟨x2, e2⟩ := hz0 j h2
    exact hD.1 i j _ _ e1 e2 h3
  have hAw : ∀ q, wA ad q → (fun q : Nat => s.heap.size ≤ q) q := fun q ⟨k, h1, h2⟩ => by
    obtain ⟨x1, e1⟩ := hz0 k h1
    rw [h2]
    exact hD.2 k _ e1
  have hPw : va_P D vwC (wL cA cR ad (fun _ _ => 0)) H := by
    intro k q hk
    obtain ⟨h1, rfl⟩ := wL_lt hk
    rw [had]
    match k, h1 with
    | 0, _ => exact hP 0 _ rfl
    | 1, _ => exact hP 1 _ rfl
    | 2, _ => exact hP 2 _ rfl
    | 3, _ => exact hP 3 _ rfl
    | 4, _ => exact hP 4 _ rfl
    | 5, _ => exact hP 5 _ rfl
    | 6, _ => exact hP 6 _ rfl
    | 7, _ => exact hP 7 _ rfl
    | 8, _ =>
      have h8 : H[b8]? = some (vp_cell cR (3, .inr (.inr (.inr (.inr (va_up (va_up (va_up (fun _ => none) 0 (some b9)) 1 (some b15)) 2 (some b21))))))) := hP 8 _ rfl
      show H[b8]? = some (arrV cR 3 (fun j => va_rf (some (([b0, b1, b2, b3, b4, b5, b6, b7, b8, b9, b10, b11, b12, b13, b14, b15, b16, b17, b18, b19, b20, b21, b22, b23, b24, b25, b26, b27, b28, b29, b30, b31, b32, b33, b34, b35, b36, b37, b38] : List Nat).getD (6 * j + 9) 0))))
      rw [h8]
      rw [vp_cell_q]
      refine congrArg some (arrV_c (fun j hj => ?_))
      rcases (show j = 0 ∨ j = 1 ∨ j = 2 by omega) with e | e | e <;> subst e <;> rfl
    | 9, _ => exact hP 9 _ rfl
    | 10, _ => exact hP 10 _ rfl
    | 11, _ => exact hP 11 _ rfl
    | 12, _ => exact hP 12 _ rfl
    | 13, _ => exact hP 13 _ rfl
    | 14, _ => exact hP 14 _ rfl
    | 15, _ => exact hP 15 _ rfl
    | 16, _ => exact hP 16 _ rfl
    | 17, _ => exact hP 17 _ rfl
    | 18, _ => exact hP 18 _ rfl
    | 19, _ => exact hP 19 _ rfl
    | 20, _ => exact hP 20 _ rfl
    | 21, _ => exact hP 21 _ rfl
    | 22, _ => exact hP 22 _ rfl
    | 23, _ => exact hP 23 _ rfl
    | 24, _ => exact hP 24 _ rfl
    | 25, _ => exact hP 25 _ rfl
    | 26, _ => exact hP 26 _ rfl
    | 27, _ => exact hP 27 _ rfl
    | 28, _ => exact hP 28 _ rfl
    | 29, _ => exact hP 29 _ rfl
    | 30, _ => exact hP 30 _ rfl
    | 31, _ => exact hP 31 _ rfl
    | 32, _ => exact hP 32 _ rfl
    | 33, _ => exact hP 33 _ rfl
    | 34, _ => exact hP 34 _ rfl
    | 35, _ => exact hP 35 _ rfl
    | 36, _ => exact hP 36 _ rfl
    | 37, _ => exact hP 37 _ rfl
    | 38, _ => exact hP 38 _ rfl
    | k + 39, h => exact absurd h (by show ¬ k + 39 < 39; omega)
  have hDw : ∀ V, va_D (fun q : Nat => s.heap.size ≤ q) (wL cA cR ad V) := fun V => (wD hI cA cR V).weaken (fun k q _ h => hAw q.1 h)
  have e0 : b0 = ad 0 := by rw [had]; rfl
  have e27 : b27 = ad 27 := by rw [had]; rfl
  rw [e0, e27] at hl
  have hlw := law_loop l D cA cR ad hI (X := ((p, l, e, room_1), (s, m, #[Value.ref b], below), (meth, c, 600000, 7302250), lw_Z below #[Value.ref b] s, D, (fun q : Nat => s.heap.size ≤ q), s.heap)) (b := b) (L := L) (xs := xs) hL ⟨hx, hb, hml, hown, hts, hK, hDw, hlocks, rfl, rfl, rfl, hAw, Nat.le_refl _, Nat.le_refl _⟩ ⟨hX, hbl, hbA⟩ ⟨rfl, rfl, rfl, rfl, rfl, hr, fun _ h => h⟩ (L + 1) 0 (fun _ _ => 0) ls (Nat.zero_le L) (by omega) ⟨0, _, _, kZ_0⟩ (lv_sub hl [3, 2, 1, 0] rfl)
  exact hlw H _ hPw hS
