-- THE LAW: each case of its switch (laid by gen/law.py)
set_option maxHeartbeats 4000000 in
set_option maxRecDepth 100000 in
theorem law_c3 (l : Launch) (D : va_G) (cA cR : ClassId) (ad : Nat → Nat) (hI : wI ad) {X : gX} {b L : Nat} {xs : Nat → Int32} (hL : L ≤ 2048) (h : gok X l D room_1 cA cR ad b_La_law 4 R_La) (hS : gS X b L xs) (i : Nat) (hi : i + 4 ≤ L) (V : Nat → Nat → Int32) (n : Nat) (ts wz : Nat → Nat) (hZ : kZ V V n ts wz) (nxt : ∀ (V : Nat → Nat → Int32) (ls : Array Slot), (∃ n ts wz, kZ V V n ts wz) → lv_has ls 4 [(0, .ref b), (1, .ref (ad 0)), (2, .ref (ad 27)), (3, .int (nI i))] → wv X cA cR ad V 543 ls []) (ls : Array Slot) (hl : lv_has ls 4 [(0, .ref b), (1, .ref (ad 0)), (2, .ref (ad 27)), (3, .int (nI i))]) : wv X cA cR ad V 217 ls [] := by
  have hV := hZ.1
  have hR := hZ.2.2
  have hK := mK_of hV hR
  have hle := kV_n hV
  rcases z_repc (xs (i + 1)) with hb | ⟨r, hr, ha⟩
  · skip
    refine r_aload_n h d_La_law_217 rfl (lv_at hl 1 rfl) ?_
    refine r_aload_n h d_La_law_218 rfl (lv_at hl 0 rfl) ?_
    refine r_iload_n h d_La_law_219 rfl (lv_at hl 3 rfl) ?_
    refine r_iconst h (v := 1) d_La_law_220 (by decide) ?_
    refine r_iadd h d_La_law_221 ?_
    refine r_top (nI (i + 1)) (nI_add i 1) ?_
    refine r_sldN h hS (i := (i + 1)) (by omega) (by omega) d_La_law_222 ?_
    refine r_callVi h (k := 0) (n := 1) (As := [.int (xs (i + 1))]) (c_St_length_b l D cA cR ad hI V (xs (i + 1)) hb) g_La_27 (by decide +kernel) rfl ⟨by decide, by decide⟩ (by decide) rfl rfl hl rfl (Nat.le_of_ble_eq_true rfl) d_La_law_223 ?_
    refine r_aload_n h d_La_law_226 rfl (lv_at hl 2 rfl) ?_
    refine r_aload_n h d_La_law_227 rfl (lv_at hl 0 rfl) ?_
    refine r_iload_n h d_La_law_228 rfl (lv_at hl 3 rfl) ?_
    refine r_iconst h (v := 1) d_La_law_229 (by decide) ?_
    refine r_iadd h d_La_law_230 ?_
    refine r_top (nI (i + 1)) (nI_add i 1) ?_
    refine r_sldN h hS (i := (i + 1)) (by omega) (by omega) d_La_law_231 ?_
    refine r_callVi h (k := 27) (n := 1) (As := [.int (xs (i + 1))]) (c_Mo_length_b l D cA cR ad hI V (xs (i + 1)) hb) g_La_31 (by decide +kernel) rfl ⟨by decide, by decide⟩ (by decide) rfl rfl hl rfl (Nat.le_of_ble_eq_true rfl) d_La_law_232 ?_
    refine r_icmp_eq_t h 543 d_La_law_235 (by decide) rfl ?_
    exact nxt _ ls ⟨n, ts, wz, hZ⟩ hl
  · skip
    refine r_aload_n h d_La_law_217 rfl (lv_at hl 1 rfl) ?_
    refine r_aload_n h d_La_law_218 rfl (lv_at hl 0 rfl) ?_
    refine r_iload_n h d_La_law_219 rfl (lv_at hl 3 rfl) ?_
    refine r_iconst h (v := 1) d_La_law_220 (by decide) ?_
    refine r_iadd h d_La_law_221 ?_
    refine r_top (nI (i + 1)) (nI_add i 1) ?_
    refine r_sldN h hS (i := (i + 1)) (by omega) (by omega) d_La_law_222 ?_
    refine r_top (nI r) ha ?_
    refine r_callVi h (k := 0) (n := 1) (As := [.int (nI r)]) (c_St_length l D cA cR ad hI V r hr n ts wz hV) g_La_27 (by decide +kernel) rfl ⟨by decide, by decide⟩ (by decide) rfl rfl hl rfl (Nat.le_of_ble_eq_true rfl) d_La_law_223 ?_
    refine r_aload_n h d_La_law_226 rfl (lv_at hl 2 rfl) ?_
    refine r_aload_n h d_La_law_227 rfl (lv_at hl 0 rfl) ?_
    refine r_iload_n h d_La_law_228 rfl (lv_at hl 3 rfl) ?_
    refine r_iconst h (v := 1) d_La_law_229 (by decide) ?_
    refine r_iadd h d_La_law_230 ?_
    refine r_top (nI (i + 1)) (nI_add i 1) ?_
    refine r_sldN h hS (i := (i + 1)) (by omega) (by omega) d_La_law_231 ?_
    refine r_top (nI r) ha ?_
    refine r_callVi h (k := 27) (n := 1) (As := [.int (nI r)]) (c_Mo_length l D cA cR ad hI V r hr n hK) g_La_31 (by decide +kernel) rfl ⟨by decide, by decide⟩ (by decide) rfl rfl hl rfl (Nat.le_of_ble_eq_true rfl) d_La_law_232 ?_
    refine r_icmp_eq_t h 543 d_La_law_235 (by decide) (by rw [s_cnt1 hV hR hr]) ?_
    exact nxt _ ls ⟨n, ts, wz, hZ⟩ hl
set_option maxHeartbeats 4000000 in
set_option maxRecDepth 100000 in
theorem law_c4 (l : Launch) (D : va_G) (cA cR : ClassId) (ad : Nat → Nat) (hI : wI ad) {X : gX} {b L : Nat} {xs : Nat → Int32} (hL : L ≤ 2048) (h : gok X l D room_1 cA cR ad b_La_law 4 R_La) (hS : gS X b L xs) (i : Nat) (hi : i + 4 ≤ L) (V : Nat → Nat → Int32) (n : Nat) (ts wz : Nat → Nat) (hZ : kZ V V n ts wz) (nxt : ∀ (V : Nat → Nat → Int32) (ls : Array Slot), (∃ n ts wz, kZ V V n ts wz) → lv_has ls 4 [(0, .ref b), (1, .ref (ad 0)), (2, .ref (ad 27)), (3, .int (nI i))] → wv X cA cR ad V 543 ls []) (ls : Array Slot) (hl : lv_has ls 4 [(0, .ref b), (1, .ref (ad 0)), (2, .ref (ad 27)), (3, .int (nI i))]) : wv X cA cR ad V 240 ls [] := by
  have hV := hZ.1
  have hR := hZ.2.2
  have hK := mK_of hV hR
  have hle := kV_n hV
  rcases z_repc (xs (i + 1)) with hb | ⟨r, hr, ha⟩
  · skip
    refine r_aload_n h d_La_law_240 rfl (lv_at hl 1 rfl) ?_
    refine r_aload_n h d_La_law_241 rfl (lv_at hl 0 rfl) ?_
    refine r_iload_n h d_La_law_242 rfl (lv_at hl 3 rfl) ?_
    refine r_iconst h (v := 1) d_La_law_243 (by decide) ?_
    refine r_iadd h d_La_law_244 ?_
    refine r_top (nI (i + 1)) (nI_add i 1) ?_
    refine r_sldN h hS (i := (i + 1)) (by omega) (by omega) d_La_law_245 ?_
    refine r_aload_n h d_La_law_246 rfl (lv_at hl 0 rfl) ?_
    refine r_iload_n h d_La_law_247 rfl (lv_at hl 3 rfl) ?_
    refine r_iconst h (v := 2) d_La_law_248 (by decide) ?_
    refine r_iadd h d_La_law_249 ?_
    refine r_top (nI (i + 2)) (nI_add i 2) ?_
    refine r_sldN h hS (i := (i + 2)) (by omega) (by omega) d_La_law_250 ?_
    refine r_callVi h (k := 0) (n := 2) (As := [.int (xs (i + 1)), .int (xs (i + 2))]) (c_St_shown_b l D cA cR ad hI V (xs (i + 1)) hb (xs (i + 2))) g_La_32 (by decide +kernel) rfl ⟨by decide, by decide⟩ (by decide) rfl rfl hl rfl (Nat.le_of_ble_eq_true rfl) d_La_law_251 ?_
    refine r_aload_n h d_La_law_254 rfl (lv_at hl 2 rfl) ?_
    refine r_aload_n h d_La_law_255 rfl (lv_at hl 0 rfl) ?_
    refine r_iload_n h d_La_law_256 rfl (lv_at hl 3 rfl) ?_
    refine r_iconst h (v := 1) d_La_law_257 (by decide) ?_
    refine r_iadd h d_La_law_258 ?_
    refine r_top (nI (i + 1)) (nI_add i 1) ?_
    refine r_sldN h hS (i := (i + 1)) (by omega) (by omega) d_La_law_259 ?_
    refine r_aload_n h d_La_law_260 rfl (lv_at hl 0 rfl) ?_
    refine r_iload_n h d_La_law_261 rfl (lv_at hl 3 rfl) ?_
    refine r_iconst h (v := 2) d_La_law_262 (by decide) ?_
    refine r_iadd h d_La_law_263 ?_
    refine r_top (nI (i + 2)) (nI_add i 2) ?_
    refine r_sldN h hS (i := (i + 2)) (by omega) (by omega) d_La_law_264 ?_
    refine r_callVi h (k := 27) (n := 2) (As := [.int (xs (i + 1)), .int (xs (i + 2))]) (c_Mo_shown_b l D cA cR ad hI V (xs (i + 1)) hb (xs (i + 2))) g_La_35 (by decide +kernel) rfl ⟨by decide, by decide⟩ (by decide) rfl rfl hl rfl (Nat.le_of_ble_eq_true rfl) d_La_law_265 ?_
    refine r_icmp_eq_t h 543 d_La_law_268 (by decide) rfl ?_
    exact nxt _ ls ⟨n, ts, wz, hZ⟩ hl
  · skip
    refine r_aload_n h d_La_law_240 rfl (lv_at hl 1 rfl) ?_
    refine r_aload_n h d_La_law_241 rfl (lv_at hl 0 rfl) ?_
    refine r_iload_n h d_La_law_242 rfl (lv_at hl 3 rfl) ?_
    refine r_iconst h (v := 1) d_La_law_243 (by decide) ?_
    refine r_iadd h d_La_law_244 ?_
    refine r_top (nI (i + 1)) (nI_add i 1) ?_
    refine r_sldN h hS (i := (i + 1)) (by omega) (by omega) d_La_law_245 ?_
    refine r_top (nI r) ha ?_
    refine r_aload_n h d_La_law_246 rfl (lv_at hl 0 rfl) ?_
    refine r_iload_n h d_La_law_247 rfl (lv_at hl 3 rfl) ?_
    refine r_iconst h (v := 2) d_La_law_248 (by decide) ?_
    refine r_iadd h d_La_law_249 ?_
    refine r_top (nI (i + 2)) (nI_add i 2) ?_
    refine r_sldN h hS (i := (i + 2)) (by omega) (by omega) d_La_law_250 ?_
    refine r_callVi h (k := 0) (n := 2) (As := [.int (nI r), .int (xs (i + 2))]) (c_St_shown l D cA cR ad hI V (xs (i + 2)) r hr n ts wz hV) g_La_32 (by decide +kernel) rfl ⟨by decide, by decide⟩ (by decide) rfl rfl hl rfl (Nat.le_of_ble_eq_true rfl) d_La_law_251 ?_
    refine r_aload_n h d_La_law_254 rfl (lv_at hl 2 rfl) ?_
    refine r_aload_n h d_La_law_255 rfl (lv_at hl 0 rfl) ?_
    refine r_iload_n h d_La_law_256 rfl (lv_at hl 3 rfl) ?_
    refine r_iconst h (v := 1) d_La_law_257 (by decide) ?_
    refine r_iadd h d_La_law_258 ?_
    refine r_top (nI (i + 1)) (nI_add i 1) ?_
    refine r_sldN h hS (i := (i + 1)) (by omega) (by omega) d_La_law_259 ?_
    refine r_top (nI r) ha ?_
    refine r_aload_n h d_La_law_260 rfl (lv_at hl 0 rfl) ?_
    refine r_iload_n h d_La_law_261 rfl (lv_at hl 3 rfl) ?_
    refine r_iconst h (v := 2) d_La_law_262 (by decide) ?_
    refine r_iadd h d_La_law_263 ?_
    refine r_top (nI (i + 2)) (nI_add i 2) ?_
    refine r_sldN h hS (i := (i + 2)) (by omega) (by omega) d_La_law_264 ?_
    refine r_callVi h (k := 27) (n := 2) (As := [.int (nI r), .int (xs (i + 2))]) (c_Mo_shown l D cA cR ad hI V (xs (i + 2)) r hr n hK) g_La_35 (by decide +kernel) rfl ⟨by decide, by decide⟩ (by decide) rfl rfl hl rfl (Nat.le_of_ble_eq_true rfl) d_La_law_265 ?_
    refine r_icmp_eq_t h 543 d_La_law_268 (by decide) (s_shown hV hR hr _).symm ?_
    exact nxt _ ls ⟨n, ts, wz, hZ⟩ hl
set_option maxHeartbeats 4000000 in
set_option maxRecDepth 100000 in
theorem law_c5 (l : Launch) (D : va_G) (cA cR : ClassId) (ad : Nat → Nat) (hI : wI ad) {X : gX} {b L : Nat} {xs : Nat → Int32} (hL : L ≤ 2048) (h : gok X l D room_1 cA cR ad b_La_law 4 R_La) (hS : gS X b L xs) (i : Nat) (hi : i + 4 ≤ L) (V : Nat → Nat → Int32) (n : Nat) (ts wz : Nat → Nat) (hZ : kZ V V n ts wz) (nxt : ∀ (V : Nat → Nat → Int32) (ls : Array Slot), (∃ n ts wz, kZ V V n ts wz) → lv_has ls 4 [(0, .ref b), (1, .ref (ad 0)), (2, .ref (ad 27)), (3, .int (nI i))] → wv X cA cR ad V 543 ls []) (ls : Array Slot) (hl : lv_has ls 4 [(0, .ref b), (1, .ref (ad 0)), (2, .ref (ad 27)), (3, .int (nI i))]) : wv X cA cR ad V 273 ls [] := by
  have hV := hZ.1
  have hR := hZ.2.2
  have hK := mK_of hV hR
  have hle := kV_n hV
  rcases z_repc (xs (i + 1)) with hb | ⟨r, hr, ha⟩
  · skip
    refine r_aload_n h d_La_law_273 rfl (lv_at hl 1 rfl) ?_
    refine r_aload_n h d_La_law_274 rfl (lv_at hl 0 rfl) ?_
    refine r_iload_n h d_La_law_275 rfl (lv_at hl 3 rfl) ?_
    refine r_iconst h (v := 1) d_La_law_276 (by decide) ?_
    refine r_iadd h d_La_law_277 ?_
    refine r_top (nI (i + 1)) (nI_add i 1) ?_
    refine r_sldN h hS (i := (i + 1)) (by omega) (by omega) d_La_law_278 ?_
    refine r_aload_n h d_La_law_279 rfl (lv_at hl 0 rfl) ?_
    refine r_iload_n h d_La_law_280 rfl (lv_at hl 3 rfl) ?_
    refine r_iconst h (v := 2) d_La_law_281 (by decide) ?_
    refine r_iadd h d_La_law_282 ?_
    refine r_top (nI (i + 2)) (nI_add i 2) ?_
    refine r_sldN h hS (i := (i + 2)) (by omega) (by omega) d_La_law_283 ?_
    refine r_callVi h (k := 0) (n := 2) (As := [.int (xs (i + 1)), .int (xs (i + 2))]) (c_St_ordered_b l D cA cR ad hI V (xs (i + 1)) hb (xs (i + 2))) g_La_36 (by decide +kernel) rfl ⟨by decide, by decide⟩ (by decide) rfl rfl hl rfl (Nat.le_of_ble_eq_true rfl) d_La_law_284 ?_
    refine r_aload_n h d_La_law_287 rfl (lv_at hl 2 rfl) ?_
    refine r_aload_n h d_La_law_288 rfl (lv_at hl 0 rfl) ?_
    refine r_iload_n h d_La_law_289 rfl (lv_at hl 3 rfl) ?_
    refine r_iconst h (v := 1) d_La_law_290 (by decide) ?_
    refine r_iadd h d_La_law_291 ?_
    refine r_top (nI (i + 1)) (nI_add i 1) ?_
    refine r_sldN h hS (i := (i + 1)) (by omega) (by omega) d_La_law_292 ?_
    refine r_aload_n h d_La_law_293 rfl (lv_at hl 0 rfl) ?_
    refine r_iload_n h d_La_law_294 rfl (lv_at hl 3 rfl) ?_
    refine r_iconst h (v := 2) d_La_law_295 (by decide) ?_
    refine r_iadd h d_La_law_296 ?_
    refine r_top (nI (i + 2)) (nI_add i 2) ?_
    refine r_sldN h hS (i := (i + 2)) (by omega) (by omega) d_La_law_297 ?_
    refine r_callVi h (k := 27) (n := 2) (As := [.int (xs (i + 1)), .int (xs (i + 2))]) (c_Mo_ordered_b l D cA cR ad hI V (xs (i + 1)) hb (xs (i + 2))) g_La_39 (by decide +kernel) rfl ⟨by decide, by decide⟩ (by decide) rfl rfl hl rfl (Nat.le_of_ble_eq_true rfl) d_La_law_298 ?_
    refine r_icmp_eq_t h 543 d_La_law_301 (by decide) rfl ?_
    exact nxt _ ls ⟨n, ts, wz, hZ⟩ hl
  · skip
    refine r_aload_n h d_La_law_273 rfl (lv_at hl 1 rfl) ?_
    refine r_aload_n h d_La_law_274 rfl (lv_at hl 0 rfl) ?_
    refine r_iload_n h d_La_law_275 rfl (lv_at hl 3 rfl) ?_
    refine r_iconst h (v := 1) d_La_law_276 (by decide) ?_
    refine r_iadd h d_La_law_277 ?_
    refine r_top (nI (i + 1)) (nI_add i 1) ?_
    refine r_sldN h hS (i := (i + 1)) (by omega) (by omega) d_La_law_278 ?_
    refine r_top (nI r) ha ?_
    refine r_aload_n h d_La_law_279 rfl (lv_at hl 0 rfl) ?_
    refine r_iload_n h d_La_law_280 rfl (lv_at hl 3 rfl) ?_
    refine r_iconst h (v := 2) d_La_law_281 (by decide) ?_
    refine r_iadd h d_La_law_282 ?_
    refine r_top (nI (i + 2)) (nI_add i 2) ?_
    refine r_sldN h hS (i := (i + 2)) (by omega) (by omega) d_La_law_283 ?_
    refine r_callVi h (k := 0) (n := 2) (As := [.int (nI r), .int (xs (i + 2))]) (c_St_ordered l D cA cR ad hI V (xs (i + 2)) r hr n ts wz hV) g_La_36 (by decide +kernel) rfl ⟨by decide, by decide⟩ (by decide) rfl rfl hl rfl (Nat.le_of_ble_eq_true rfl) d_La_law_284 ?_
    refine r_aload_n h d_La_law_287 rfl (lv_at hl 2 rfl) ?_
    refine r_aload_n h d_La_law_288 rfl (lv_at hl 0 rfl) ?_
    refine r_iload_n h d_La_law_289 rfl (lv_at hl 3 rfl) ?_
    refine r_iconst h (v := 1) d_La_law_290 (by decide) ?_
    refine r_iadd h d_La_law_291 ?_
    refine r_top (nI (i + 1)) (nI_add i 1) ?_
    refine r_sldN h hS (i := (i + 1)) (by omega) (by omega) d_La_law_292 ?_
    refine r_top (nI r) ha ?_
    refine r_aload_n h d_La_law_293 rfl (lv_at hl 0 rfl) ?_
    refine r_iload_n h d_La_law_294 rfl (lv_at hl 3 rfl) ?_
    refine r_iconst h (v := 2) d_La_law_295 (by decide) ?_
    refine r_iadd h d_La_law_296 ?_
    refine r_top (nI (i + 2)) (nI_add i 2) ?_
    refine r_sldN h hS (i := (i + 2)) (by omega) (by omega) d_La_law_297 ?_
    refine r_callVi h (k := 27) (n := 2) (As := [.int (nI r), .int (xs (i + 2))]) (c_Mo_ordered l D cA cR ad hI V (xs (i + 2)) r hr n hK) g_La_39 (by decide +kernel) rfl ⟨by decide, by decide⟩ (by decide) rfl rfl hl rfl (Nat.le_of_ble_eq_true rfl) d_La_law_298 ?_
    refine r_icmp_eq_t h 543 d_La_law_301 (by decide) (s_ord hV hR hr _).symm ?_
    exact nxt _ ls ⟨n, ts, wz, hZ⟩ hl
set_option maxHeartbeats 4000000 in
set_option maxRecDepth 100000 in
theorem law_c6 (l : Launch) (D : va_G) (cA cR : ClassId) (ad : Nat → Nat) (hI : wI ad) {X : gX} {b L : Nat} {xs : Nat → Int32} (hL : L ≤ 2048) (h : gok X l D room_1 cA cR ad b_La_law 4 R_La) (hS : gS X b L xs) (i : Nat) (hi : i + 4 ≤ L) (V : Nat → Nat → Int32) (n : Nat) (ts wz : Nat → Nat) (hZ : kZ V V n ts wz) (nxt : ∀ (V : Nat → Nat → Int32) (ls : Array Slot), (∃ n ts wz, kZ V V n ts wz) → lv_has ls 4 [(0, .ref b), (1, .ref (ad 0)), (2, .ref (ad 27)), (3, .int (nI i))] → wv X cA cR ad V 543 ls []) (ls : Array Slot) (hl : lv_has ls 4 [(0, .ref b), (1, .ref (ad 0)), (2, .ref (ad 27)), (3, .int (nI i))]) : wv X cA cR ad V 306 ls [] := by
  have hV := hZ.1
  have hR := hZ.2.2
  have hK := mK_of hV hR
  have hle := kV_n hV
  rcases z_repc (xs (i + 1)) with hb | ⟨r, hr, ha⟩
  · skip
    refine r_aload_n h d_La_law_306 rfl (lv_at hl 1 rfl) ?_
    refine r_aload_n h d_La_law_307 rfl (lv_at hl 0 rfl) ?_
    refine r_iload_n h d_La_law_308 rfl (lv_at hl 3 rfl) ?_
    refine r_iconst h (v := 1) d_La_law_309 (by decide) ?_
    refine r_iadd h d_La_law_310 ?_
    refine r_top (nI (i + 1)) (nI_add i 1) ?_
    refine r_sldN h hS (i := (i + 1)) (by omega) (by omega) d_La_law_311 ?_
    refine r_callVi h (k := 0) (n := 1) (As := [.int (xs (i + 1))]) (c_St_known_b l D cA cR ad hI V (xs (i + 1)) hb) g_La_40 (by decide +kernel) rfl ⟨by decide, by decide⟩ (by decide) rfl rfl hl rfl (Nat.le_of_ble_eq_true rfl) d_La_law_312 ?_
    refine r_aload_n h d_La_law_315 rfl (lv_at hl 2 rfl) ?_
    refine r_aload_n h d_La_law_316 rfl (lv_at hl 0 rfl) ?_
    refine r_iload_n h d_La_law_317 rfl (lv_at hl 3 rfl) ?_
    refine r_iconst h (v := 1) d_La_law_318 (by decide) ?_
    refine r_iadd h d_La_law_319 ?_
    refine r_top (nI (i + 1)) (nI_add i 1) ?_
    refine r_sldN h hS (i := (i + 1)) (by omega) (by omega) d_La_law_320 ?_
    refine r_callVi h (k := 27) (n := 1) (As := [.int (xs (i + 1))]) (c_Mo_known_b l D cA cR ad hI V (xs (i + 1)) hb) g_La_43 (by decide +kernel) rfl ⟨by decide, by decide⟩ (by decide) rfl rfl hl rfl (Nat.le_of_ble_eq_true rfl) d_La_law_321 ?_
    refine r_icmp_eq_t h 543 d_La_law_324 (by decide) rfl ?_
    exact nxt _ ls ⟨n, ts, wz, hZ⟩ hl
  · skip
    refine r_aload_n h d_La_law_306 rfl (lv_at hl 1 rfl) ?_
    refine r_aload_n h d_La_law_307 rfl (lv_at hl 0 rfl) ?_
    refine r_iload_n h d_La_law_308 rfl (lv_at hl 3 rfl) ?_
    refine r_iconst h (v := 1) d_La_law_309 (by decide) ?_
    refine r_iadd h d_La_law_310 ?_
    refine r_top (nI (i + 1)) (nI_add i 1) ?_
    refine r_sldN h hS (i := (i + 1)) (by omega) (by omega) d_La_law_311 ?_
    refine r_top (nI r) ha ?_
    refine r_callVi h (k := 0) (n := 1) (As := [.int (nI r)]) (c_St_known l D cA cR ad hI V r hr n ts wz hV) g_La_40 (by decide +kernel) rfl ⟨by decide, by decide⟩ (by decide) rfl rfl hl rfl (Nat.le_of_ble_eq_true rfl) d_La_law_312 ?_
    refine r_aload_n h d_La_law_315 rfl (lv_at hl 2 rfl) ?_
    refine r_aload_n h d_La_law_316 rfl (lv_at hl 0 rfl) ?_
    refine r_iload_n h d_La_law_317 rfl (lv_at hl 3 rfl) ?_
    refine r_iconst h (v := 1) d_La_law_318 (by decide) ?_
    refine r_iadd h d_La_law_319 ?_
    refine r_top (nI (i + 1)) (nI_add i 1) ?_
    refine r_sldN h hS (i := (i + 1)) (by omega) (by omega) d_La_law_320 ?_
    refine r_top (nI r) ha ?_
    refine r_callVi h (k := 27) (n := 1) (As := [.int (nI r)]) (c_Mo_known l D cA cR ad hI V r hr n hK) g_La_43 (by decide +kernel) rfl ⟨by decide, by decide⟩ (by decide) rfl rfl hl rfl (Nat.le_of_ble_eq_true rfl) d_La_law_321 ?_
    refine r_icmp_eq_t h 543 d_La_law_324 (by decide) (by rw [s_cnt2 hV hR hr]) ?_
    exact nxt _ ls ⟨n, ts, wz, hZ⟩ hl
set_option maxHeartbeats 4000000 in
set_option maxRecDepth 100000 in
theorem law_c7 (l : Launch) (D : va_G) (cA cR : ClassId) (ad : Nat → Nat) (hI : wI ad) {X : gX} {b L : Nat} {xs : Nat → Int32} (hL : L ≤ 2048) (h : gok X l D room_1 cA cR ad b_La_law 4 R_La) (hS : gS X b L xs) (i : Nat) (hi : i + 4 ≤ L) (V : Nat → Nat → Int32) (n : Nat) (ts wz : Nat → Nat) (hZ : kZ V V n ts wz) (nxt : ∀ (V : Nat → Nat → Int32) (ls : Array Slot), (∃ n ts wz, kZ V V n ts wz) → lv_has ls 4 [(0, .ref b), (1, .ref (ad 0)), (2, .ref (ad 27)), (3, .int (nI i))] → wv X cA cR ad V 543 ls []) (ls : Array Slot) (hl : lv_has ls 4 [(0, .ref b), (1, .ref (ad 0)), (2, .ref (ad 27)), (3, .int (nI i))]) : wv X cA cR ad V 329 ls [] := by
  have hV := hZ.1
  have hR := hZ.2.2
  have hK := mK_of hV hR
  have hle := kV_n hV
  rcases z_repc (xs (i + 1)) with hb | ⟨r, hr, ha⟩
  · skip
    refine r_aload_n h d_La_law_329 rfl (lv_at hl 1 rfl) ?_
    refine r_aload_n h d_La_law_330 rfl (lv_at hl 0 rfl) ?_
    refine r_iload_n h d_La_law_331 rfl (lv_at hl 3 rfl) ?_
    refine r_iconst h (v := 1) d_La_law_332 (by decide) ?_
    refine r_iadd h d_La_law_333 ?_
    refine r_top (nI (i + 1)) (nI_add i 1) ?_
    refine r_sldN h hS (i := (i + 1)) (by omega) (by omega) d_La_law_334 ?_
    refine r_aload_n h d_La_law_335 rfl (lv_at hl 0 rfl) ?_
    refine r_iload_n h d_La_law_336 rfl (lv_at hl 3 rfl) ?_
    refine r_iconst h (v := 2) d_La_law_337 (by decide) ?_
    refine r_iadd h d_La_law_338 ?_
    refine r_top (nI (i + 2)) (nI_add i 2) ?_
    refine r_sldN h hS (i := (i + 2)) (by omega) (by omega) d_La_law_339 ?_
    refine r_callVi h (k := 0) (n := 2) (As := [.int (xs (i + 1)), .int (xs (i + 2))]) (c_St_state_b l D cA cR ad hI V (xs (i + 1)) hb (xs (i + 2))) g_La_44 (by decide +kernel) rfl ⟨by decide, by decide⟩ (by decide) rfl rfl hl rfl (Nat.le_of_ble_eq_true rfl) d_La_law_340 ?_
    refine r_aload_n h d_La_law_343 rfl (lv_at hl 2 rfl) ?_
    refine r_aload_n h d_La_law_344 rfl (lv_at hl 0 rfl) ?_
    refine r_iload_n h d_La_law_345 rfl (lv_at hl 3 rfl) ?_
    refine r_iconst h (v := 1) d_La_law_346 (by decide) ?_
    refine r_iadd h d_La_law_347 ?_
    refine r_top (nI (i + 1)) (nI_add i 1) ?_
    refine r_sldN h hS (i := (i + 1)) (by omega) (by omega) d_La_law_348 ?_
    refine r_aload_n h d_La_law_349 rfl (lv_at hl 0 rfl) ?_
    refine r_iload_n h d_La_law_350 rfl (lv_at hl 3 rfl) ?_
    refine r_iconst h (v := 2) d_La_law_351 (by decide) ?_
    refine r_iadd h d_La_law_352 ?_
    refine r_top (nI (i + 2)) (nI_add i 2) ?_
    refine r_sldN h hS (i := (i + 2)) (by omega) (by omega) d_La_law_353 ?_
    refine r_callVi h (k := 27) (n := 2) (As := [.int (xs (i + 1)), .int (xs (i + 2))]) (c_Mo_state_b l D cA cR ad hI V (xs (i + 1)) hb (xs (i + 2))) g_La_47 (by decide +kernel) rfl ⟨by decide, by decide⟩ (by decide) rfl rfl hl rfl (Nat.le_of_ble_eq_true rfl) d_La_law_354 ?_
    refine r_icmp_eq_t h 543 d_La_law_357 (by decide) rfl ?_
    exact nxt _ ls ⟨n, ts, wz, hZ⟩ hl
  · skip
    refine r_aload_n h d_La_law_329 rfl (lv_at hl 1 rfl) ?_
    refine r_aload_n h d_La_law_330 rfl (lv_at hl 0 rfl) ?_
    refine r_iload_n h d_La_law_331 rfl (lv_at hl 3 rfl) ?_
    refine r_iconst h (v := 1) d_La_law_332 (by decide) ?_
    refine r_iadd h d_La_law_333 ?_
    refine r_top (nI (i + 1)) (nI_add i 1) ?_
    refine r_sldN h hS (i := (i + 1)) (by omega) (by omega) d_La_law_334 ?_
    refine r_top (nI r) ha ?_
    refine r_aload_n h d_La_law_335 rfl (lv_at hl 0 rfl) ?_
    refine r_iload_n h d_La_law_336 rfl (lv_at hl 3 rfl) ?_
    refine r_iconst h (v := 2) d_La_law_337 (by decide) ?_
    refine r_iadd h d_La_law_338 ?_
    refine r_top (nI (i + 2)) (nI_add i 2) ?_
    refine r_sldN h hS (i := (i + 2)) (by omega) (by omega) d_La_law_339 ?_
    refine r_callVi h (k := 0) (n := 2) (As := [.int (nI r), .int (xs (i + 2))]) (c_St_state l D cA cR ad hI V (xs (i + 2)) r hr n ts wz hV) g_La_44 (by decide +kernel) rfl ⟨by decide, by decide⟩ (by decide) rfl rfl hl rfl (Nat.le_of_ble_eq_true rfl) d_La_law_340 ?_
    refine r_aload_n h d_La_law_343 rfl (lv_at hl 2 rfl) ?_
    refine r_aload_n h d_La_law_344 rfl (lv_at hl 0 rfl) ?_
    refine r_iload_n h d_La_law_345 rfl (lv_at hl 3 rfl) ?_
    refine r_iconst h (v := 1) d_La_law_346 (by decide) ?_
    refine r_iadd h d_La_law_347 ?_
    refine r_top (nI (i + 1)) (nI_add i 1) ?_
    refine r_sldN h hS (i := (i + 1)) (by omega) (by omega) d_La_law_348 ?_
    refine r_top (nI r) ha ?_
    refine r_aload_n h d_La_law_349 rfl (lv_at hl 0 rfl) ?_
    refine r_iload_n h d_La_law_350 rfl (lv_at hl 3 rfl) ?_
    refine r_iconst h (v := 2) d_La_law_351 (by decide) ?_
    refine r_iadd h d_La_law_352 ?_
    refine r_top (nI (i + 2)) (nI_add i 2) ?_
    refine r_sldN h hS (i := (i + 2)) (by omega) (by omega) d_La_law_353 ?_
    refine r_callVi h (k := 27) (n := 2) (As := [.int (nI r), .int (xs (i + 2))]) (c_Mo_state l D cA cR ad hI V (xs (i + 2)) r hr n hK) g_La_47 (by decide +kernel) rfl ⟨by decide, by decide⟩ (by decide) rfl rfl hl rfl (Nat.le_of_ble_eq_true rfl) d_La_law_354 ?_
    refine r_icmp_eq_t h 543 d_La_law_357 (by decide) (L_state hZ hr _) ?_
    exact nxt _ ls ⟨n, ts, wz, hZ⟩ hl
set_option maxHeartbeats 4000000 in
set_option maxRecDepth 100000 in
theorem law_c8 (l : Launch) (D : va_G) (cA cR : ClassId) (ad : Nat → Nat) (hI : wI ad) {X : gX} {b L : Nat} {xs : Nat → Int32} (hL : L ≤ 2048) (h : gok X l D room_1 cA cR ad b_La_law 4 R_La) (hS : gS X b L xs) (i : Nat) (hi : i + 4 ≤ L) (V : Nat → Nat → Int32) (n : Nat) (ts wz : Nat → Nat) (hZ : kZ V V n ts wz) (nxt : ∀ (V : Nat → Nat → Int32) (ls : Array Slot), (∃ n ts wz, kZ V V n ts wz) → lv_has ls 4 [(0, .ref b), (1, .ref (ad 0)), (2, .ref (ad 27)), (3, .int (nI i))] → wv X cA cR ad V 543 ls []) (ls : Array Slot) (hl : lv_has ls 4 [(0, .ref b), (1, .ref (ad 0)), (2, .ref (ad 27)), (3, .int (nI i))]) : wv X cA cR ad V 362 ls [] := by
  have hV := hZ.1
  have hR := hZ.2.2
  have hK := mK_of hV hR
  have hle := kV_n hV
  rcases z_repc (xs (i + 1)) with hb | ⟨r, hr, ha⟩
  · skip
    refine r_aload_n h d_La_law_362 rfl (lv_at hl 1 rfl) ?_
    refine r_aload_n h d_La_law_363 rfl (lv_at hl 0 rfl) ?_
    refine r_iload_n h d_La_law_364 rfl (lv_at hl 3 rfl) ?_
    refine r_iconst h (v := 1) d_La_law_365 (by decide) ?_
    refine r_iadd h d_La_law_366 ?_
    refine r_top (nI (i + 1)) (nI_add i 1) ?_
    refine r_sldN h hS (i := (i + 1)) (by omega) (by omega) d_La_law_367 ?_
    refine r_callVi h (k := 0) (n := 1) (As := [.int (xs (i + 1))]) (c_St_tray_b l D cA cR ad hI V (xs (i + 1)) hb) g_La_48 (by decide +kernel) rfl ⟨by decide, by decide⟩ (by decide) rfl rfl hl rfl (Nat.le_of_ble_eq_true rfl) d_La_law_368 ?_
    refine r_aload_n h d_La_law_371 rfl (lv_at hl 2 rfl) ?_
    refine r_aload_n h d_La_law_372 rfl (lv_at hl 0 rfl) ?_
    refine r_iload_n h d_La_law_373 rfl (lv_at hl 3 rfl) ?_
    refine r_iconst h (v := 1) d_La_law_374 (by decide) ?_
    refine r_iadd h d_La_law_375 ?_
    refine r_top (nI (i + 1)) (nI_add i 1) ?_
    refine r_sldN h hS (i := (i + 1)) (by omega) (by omega) d_La_law_376 ?_
    refine r_callVi h (k := 27) (n := 1) (As := [.int (xs (i + 1))]) (c_Mo_tray_b l D cA cR ad hI V (xs (i + 1)) hb) g_La_51 (by decide +kernel) rfl ⟨by decide, by decide⟩ (by decide) rfl rfl hl rfl (Nat.le_of_ble_eq_true rfl) d_La_law_377 ?_
    refine r_icmp_eq_t h 543 d_La_law_380 (by decide) rfl ?_
    exact nxt _ ls ⟨n, ts, wz, hZ⟩ hl
  · skip
    refine r_aload_n h d_La_law_362 rfl (lv_at hl 1 rfl) ?_
    refine r_aload_n h d_La_law_363 rfl (lv_at hl 0 rfl) ?_
    refine r_iload_n h d_La_law_364 rfl (lv_at hl 3 rfl) ?_
    refine r_iconst h (v := 1) d_La_law_365 (by decide) ?_
    refine r_iadd h d_La_law_366 ?_
    refine r_top (nI (i + 1)) (nI_add i 1) ?_
    refine r_sldN h hS (i := (i + 1)) (by omega) (by omega) d_La_law_367 ?_
    refine r_top (nI r) ha ?_
    refine r_callVi h (k := 0) (n := 1) (As := [.int (nI r)]) (c_St_tray l D cA cR ad hI V r hr) g_La_48 (by decide +kernel) rfl ⟨by decide, by decide⟩ (by decide) rfl rfl hl rfl (Nat.le_of_ble_eq_true rfl) d_La_law_368 ?_
    refine r_aload_n h d_La_law_371 rfl (lv_at hl 2 rfl) ?_
    refine r_aload_n h d_La_law_372 rfl (lv_at hl 0 rfl) ?_
    refine r_iload_n h d_La_law_373 rfl (lv_at hl 3 rfl) ?_
    refine r_iconst h (v := 1) d_La_law_374 (by decide) ?_
    refine r_iadd h d_La_law_375 ?_
    refine r_top (nI (i + 1)) (nI_add i 1) ?_
    refine r_sldN h hS (i := (i + 1)) (by omega) (by omega) d_La_law_376 ?_
    refine r_top (nI r) ha ?_
    refine r_callVi h (k := 27) (n := 1) (As := [.int (nI r)]) (c_Mo_tray l D cA cR ad hI V r hr) g_La_51 (by decide +kernel) rfl ⟨by decide, by decide⟩ (by decide) rfl rfl hl rfl (Nat.le_of_ble_eq_true rfl) d_La_law_377 ?_
    refine r_icmp_eq_t h 543 d_La_law_380 (by decide) ((hR.2.2.2.2.2.2.2 r hr).2.1).symm ?_
    exact nxt _ ls ⟨n, ts, wz, hZ⟩ hl
set_option maxHeartbeats 4000000 in
set_option maxRecDepth 100000 in
theorem law_c9 (l : Launch) (D : va_G) (cA cR : ClassId) (ad : Nat → Nat) (hI : wI ad) {X : gX} {b L : Nat} {xs : Nat → Int32} (hL : L ≤ 2048) (h : gok X l D room_1 cA cR ad b_La_law 4 R_La) (hS : gS X b L xs) (i : Nat) (hi : i + 4 ≤ L) (V : Nat → Nat → Int32) (n : Nat) (ts wz : Nat → Nat) (hZ : kZ V V n ts wz) (nxt : ∀ (V : Nat → Nat → Int32) (ls : Array Slot), (∃ n ts wz, kZ V V n ts wz) → lv_has ls 4 [(0, .ref b), (1, .ref (ad 0)), (2, .ref (ad 27)), (3, .int (nI i))] → wv X cA cR ad V 543 ls []) (ls : Array Slot) (hl : lv_has ls 4 [(0, .ref b), (1, .ref (ad 0)), (2, .ref (ad 27)), (3, .int (nI i))]) : wv X cA cR ad V 385 ls [] := by
  have hV := hZ.1
  have hR := hZ.2.2
  have hK := mK_of hV hR
  have hle := kV_n hV
  rcases z_repc (xs (i + 1)) with hb | ⟨r, hr, ha⟩
  · skip
    refine r_aload_n h d_La_law_385 rfl (lv_at hl 1 rfl) ?_
    refine r_aload_n h d_La_law_386 rfl (lv_at hl 0 rfl) ?_
    refine r_iload_n h d_La_law_387 rfl (lv_at hl 3 rfl) ?_
    refine r_iconst h (v := 1) d_La_law_388 (by decide) ?_
    refine r_iadd h d_La_law_389 ?_
    refine r_top (nI (i + 1)) (nI_add i 1) ?_
    refine r_sldN h hS (i := (i + 1)) (by omega) (by omega) d_La_law_390 ?_
    refine r_callVi h (k := 0) (n := 1) (As := [.int (xs (i + 1))]) (c_St_waiting_b l D cA cR ad hI V (xs (i + 1)) hb) g_La_52 (by decide +kernel) rfl ⟨by decide, by decide⟩ (by decide) rfl rfl hl rfl (Nat.le_of_ble_eq_true rfl) d_La_law_391 ?_
    refine r_aload_n h d_La_law_394 rfl (lv_at hl 2 rfl) ?_
    refine r_aload_n h d_La_law_395 rfl (lv_at hl 0 rfl) ?_
    refine r_iload_n h d_La_law_396 rfl (lv_at hl 3 rfl) ?_
    refine r_iconst h (v := 1) d_La_law_397 (by decide) ?_
    refine r_iadd h d_La_law_398 ?_
    refine r_top (nI (i + 1)) (nI_add i 1) ?_
    refine r_sldN h hS (i := (i + 1)) (by omega) (by omega) d_La_law_399 ?_
    refine r_callVi h (k := 27) (n := 1) (As := [.int (xs (i + 1))]) (c_Mo_waiting_b l D cA cR ad hI V (xs (i + 1)) hb) g_La_55 (by decide +kernel) rfl ⟨by decide, by decide⟩ (by decide) rfl rfl hl rfl (Nat.le_of_ble_eq_true rfl) d_La_law_400 ?_
    refine r_icmp_eq_t h 543 d_La_law_403 (by decide) rfl ?_
    exact nxt _ ls ⟨n, ts, wz, hZ⟩ hl
  · skip
    refine r_aload_n h d_La_law_385 rfl (lv_at hl 1 rfl) ?_
    refine r_aload_n h d_La_law_386 rfl (lv_at hl 0 rfl) ?_
    refine r_iload_n h d_La_law_387 rfl (lv_at hl 3 rfl) ?_
    refine r_iconst h (v := 1) d_La_law_388 (by decide) ?_
    refine r_iadd h d_La_law_389 ?_
    refine r_top (nI (i + 1)) (nI_add i 1) ?_
    refine r_sldN h hS (i := (i + 1)) (by omega) (by omega) d_La_law_390 ?_
    refine r_top (nI r) ha ?_
    refine r_callVi h (k := 0) (n := 1) (As := [.int (nI r)]) (c_St_waiting l D cA cR ad hI V r hr) g_La_52 (by decide +kernel) rfl ⟨by decide, by decide⟩ (by decide) rfl rfl hl rfl (Nat.le_of_ble_eq_true rfl) d_La_law_391 ?_
    refine r_aload_n h d_La_law_394 rfl (lv_at hl 2 rfl) ?_
    refine r_aload_n h d_La_law_395 rfl (lv_at hl 0 rfl) ?_
    refine r_iload_n h d_La_law_396 rfl (lv_at hl 3 rfl) ?_
    refine r_iconst h (v := 1) d_La_law_397 (by decide) ?_
    refine r_iadd h d_La_law_398 ?_
    refine r_top (nI (i + 1)) (nI_add i 1) ?_
    refine r_sldN h hS (i := (i + 1)) (by omega) (by omega) d_La_law_399 ?_
    refine r_top (nI r) ha ?_
    refine r_callVi h (k := 27) (n := 1) (As := [.int (nI r)]) (c_Mo_waiting l D cA cR ad hI V r hr) g_La_55 (by decide +kernel) rfl ⟨by decide, by decide⟩ (by decide) rfl rfl hl rfl (Nat.le_of_ble_eq_true rfl) d_La_law_400 ?_
    refine r_icmp_eq_t h 543 d_La_law_403 (by decide) ((hR.2.2.2.2.2.2.2 r hr).2.2.2.1).symm ?_
    exact nxt _ ls ⟨n, ts, wz, hZ⟩ hl
set_option maxHeartbeats 4000000 in
set_option maxRecDepth 100000 in
theorem law_c10 (l : Launch) (D : va_G) (cA cR : ClassId) (ad : Nat → Nat) (hI : wI ad) {X : gX} {b L : Nat} {xs : Nat → Int32} (hL : L ≤ 2048) (h : gok X l D room_1 cA cR ad b_La_law 4 R_La) (hS : gS X b L xs) (i : Nat) (hi : i + 4 ≤ L) (V : Nat → Nat → Int32) (n : Nat) (ts wz : Nat → Nat) (hZ : kZ V V n ts wz) (nxt : ∀ (V : Nat → Nat → Int32) (ls : Array Slot), (∃ n ts wz, kZ V V n ts wz) → lv_has ls 4 [(0, .ref b), (1, .ref (ad 0)), (2, .ref (ad 27)), (3, .int (nI i))] → wv X cA cR ad V 543 ls []) (ls : Array Slot) (hl : lv_has ls 4 [(0, .ref b), (1, .ref (ad 0)), (2, .ref (ad 27)), (3, .int (nI i))]) : wv X cA cR ad V 408 ls [] := by
  have hV := hZ.1
  have hR := hZ.2.2
  have hK := mK_of hV hR
  have hle := kV_n hV
  rcases z_repc (xs (i + 1)) with hb | ⟨r, hr, ha⟩
  · skip
    refine r_aload_n h d_La_law_408 rfl (lv_at hl 1 rfl) ?_
    refine r_aload_n h d_La_law_409 rfl (lv_at hl 0 rfl) ?_
    refine r_iload_n h d_La_law_410 rfl (lv_at hl 3 rfl) ?_
    refine r_iconst h (v := 1) d_La_law_411 (by decide) ?_
    refine r_iadd h d_La_law_412 ?_
    refine r_top (nI (i + 1)) (nI_add i 1) ?_
    refine r_sldN h hS (i := (i + 1)) (by omega) (by omega) d_La_law_413 ?_
    refine r_aload_n h d_La_law_414 rfl (lv_at hl 0 rfl) ?_
    refine r_iload_n h d_La_law_415 rfl (lv_at hl 3 rfl) ?_
    refine r_iconst h (v := 2) d_La_law_416 (by decide) ?_
    refine r_iadd h d_La_law_417 ?_
    refine r_top (nI (i + 2)) (nI_add i 2) ?_
    refine r_sldN h hS (i := (i + 2)) (by omega) (by omega) d_La_law_418 ?_
    refine r_callVi h (k := 0) (n := 2) (As := [.int (xs (i + 1)), .int (xs (i + 2))]) (c_St_message_b l D cA cR ad hI V (xs (i + 1)) hb (xs (i + 2))) g_La_56 (by decide +kernel) rfl ⟨by decide, by decide⟩ (by decide) rfl rfl hl rfl (Nat.le_of_ble_eq_true rfl) d_La_law_419 ?_
    refine r_aload_n h d_La_law_422 rfl (lv_at hl 2 rfl) ?_
    refine r_aload_n h d_La_law_423 rfl (lv_at hl 0 rfl) ?_
    refine r_iload_n h d_La_law_424 rfl (lv_at hl 3 rfl) ?_
    refine r_iconst h (v := 1) d_La_law_425 (by decide) ?_
    refine r_iadd h d_La_law_426 ?_
    refine r_top (nI (i + 1)) (nI_add i 1) ?_
    refine r_sldN h hS (i := (i + 1)) (by omega) (by omega) d_La_law_427 ?_
    refine r_aload_n h d_La_law_428 rfl (lv_at hl 0 rfl) ?_
    refine r_iload_n h d_La_law_429 rfl (lv_at hl 3 rfl) ?_
    refine r_iconst h (v := 2) d_La_law_430 (by decide) ?_
    refine r_iadd h d_La_law_431 ?_
    refine r_top (nI (i + 2)) (nI_add i 2) ?_
    refine r_sldN h hS (i := (i + 2)) (by omega) (by omega) d_La_law_432 ?_
    refine r_callVi h (k := 27) (n := 2) (As := [.int (xs (i + 1)), .int (xs (i + 2))]) (c_Mo_message_b l D cA cR ad hI V (xs (i + 1)) hb (xs (i + 2))) g_La_59 (by decide +kernel) rfl ⟨by decide, by decide⟩ (by decide) rfl rfl hl rfl (Nat.le_of_ble_eq_true rfl) d_La_law_433 ?_
    refine r_icmp_eq_t h 543 d_La_law_436 (by decide) rfl ?_
    exact nxt _ ls ⟨n, ts, wz, hZ⟩ hl
  · skip
    refine r_aload_n h d_La_law_408 rfl (lv_at hl 1 rfl) ?_
    refine r_aload_n h d_La_law_409 rfl (lv_at hl 0 rfl) ?_
    refine r_iload_n h d_La_law_410 rfl (lv_at hl 3 rfl) ?_
    refine r_iconst h (v := 1) d_La_law_411 (by decide) ?_
    refine r_iadd h d_La_law_412 ?_
    refine r_top (nI (i + 1)) (nI_add i 1) ?_
    refine r_sldN h hS (i := (i + 1)) (by omega) (by omega) d_La_law_413 ?_
    refine r_top (nI r) ha ?_
    refine r_aload_n h d_La_law_414 rfl (lv_at hl 0 rfl) ?_
    refine r_iload_n h d_La_law_415 rfl (lv_at hl 3 rfl) ?_
    refine r_iconst h (v := 2) d_La_law_416 (by decide) ?_
    refine r_iadd h d_La_law_417 ?_
    refine r_top (nI (i + 2)) (nI_add i 2) ?_
    refine r_sldN h hS (i := (i + 2)) (by omega) (by omega) d_La_law_418 ?_
    refine r_callVi h (k := 0) (n := 2) (As := [.int (nI r), .int (xs (i + 2))]) (c_St_message l D cA cR ad hI V (xs (i + 2)) r hr n ts wz hV) g_La_56 (by decide +kernel) rfl ⟨by decide, by decide⟩ (by decide) rfl rfl hl rfl (Nat.le_of_ble_eq_true rfl) d_La_law_419 ?_
    refine r_aload_n h d_La_law_422 rfl (lv_at hl 2 rfl) ?_
    refine r_aload_n h d_La_law_423 rfl (lv_at hl 0 rfl) ?_
    refine r_iload_n h d_La_law_424 rfl (lv_at hl 3 rfl) ?_
    refine r_iconst h (v := 1) d_La_law_425 (by decide) ?_
    refine r_iadd h d_La_law_426 ?_
    refine r_top (nI (i + 1)) (nI_add i 1) ?_
    refine r_sldN h hS (i := (i + 1)) (by omega) (by omega) d_La_law_427 ?_
    refine r_top (nI r) ha ?_
    refine r_aload_n h d_La_law_428 rfl (lv_at hl 0 rfl) ?_
    refine r_iload_n h d_La_law_429 rfl (lv_at hl 3 rfl) ?_
    refine r_iconst h (v := 2) d_La_law_430 (by decide) ?_
    refine r_iadd h d_La_law_431 ?_
    refine r_top (nI (i + 2)) (nI_add i 2) ?_
    refine r_sldN h hS (i := (i + 2)) (by omega) (by omega) d_La_law_432 ?_
    refine r_callVi h (k := 27) (n := 2) (As := [.int (nI r), .int (xs (i + 2))]) (c_Mo_message l D cA cR ad hI V (xs (i + 2)) r hr (ts r) (kR_ts hV hR hr).1 (kV_ts hV hr).2) g_La_59 (by decide +kernel) rfl ⟨by decide, by decide⟩ (by decide) rfl rfl hl rfl (Nat.le_of_ble_eq_true rfl) d_La_law_433 ?_
    refine r_icmp_eq_t h 543 d_La_law_436 (by decide) (L_msg hZ hr _) ?_
    exact nxt _ ls ⟨n, ts, wz, hZ⟩ hl
set_option maxHeartbeats 4000000 in
set_option maxRecDepth 100000 in
theorem law_c11 (l : Launch) (D : va_G) (cA cR : ClassId) (ad : Nat → Nat) (hI : wI ad) {X : gX} {b L : Nat} {xs : Nat → Int32} (hL : L ≤ 2048) (h : gok X l D room_1 cA cR ad b_La_law 4 R_La) (hS : gS X b L xs) (i : Nat) (hi : i + 4 ≤ L) (V : Nat → Nat → Int32) (n : Nat) (ts wz : Nat → Nat) (hZ : kZ V V n ts wz) (nxt : ∀ (V : Nat → Nat → Int32) (ls : Array Slot), (∃ n ts wz, kZ V V n ts wz) → lv_has ls 4 [(0, .ref b), (1, .ref (ad 0)), (2, .ref (ad 27)), (3, .int (nI i))] → wv X cA cR ad V 543 ls []) (ls : Array Slot) (hl : lv_has ls 4 [(0, .ref b), (1, .ref (ad 0)), (2, .ref (ad 27)), (3, .int (nI i))]) : wv X cA cR ad V 441 ls [] := by
  have hV := hZ.1
  have hR := hZ.2.2
  have hK := mK_of hV hR
  have hle := kV_n hV
  refine r_aload_n h d_La_law_441 rfl (lv_at hl 1 rfl) ?_
  refine r_callVi h (k := 0) (n := 0) (As := []) (c_St_made l D cA cR ad hI V) g_La_60 (by decide +kernel) rfl ⟨by decide, by decide⟩ (by decide) rfl rfl hl rfl (Nat.le_of_ble_eq_true rfl) d_La_law_442 ?_
  refine r_aload_n h d_La_law_445 rfl (lv_at hl 2 rfl) ?_
  refine r_callVi h (k := 27) (n := 0) (As := []) (c_Mo_made l D cA cR ad hI V) g_La_64 (by decide +kernel) rfl ⟨by decide, by decide⟩ (by decide) rfl rfl hl rfl (Nat.le_of_ble_eq_true rfl) d_La_law_446 ?_
  refine r_icmp_eq_t h 543 d_La_law_449 (by decide) hR.1.symm ?_
  exact nxt _ ls ⟨n, ts, wz, hZ⟩ hl
set_option maxHeartbeats 4000000 in
set_option maxRecDepth 100000 in
theorem law_c12 (l : Launch) (D : va_G) (cA cR : ClassId) (ad : Nat → Nat) (hI : wI ad) {X : gX} {b L : Nat} {xs : Nat → Int32} (hL : L ≤ 2048) (h : gok X l D room_1 cA cR ad b_La_law 4 R_La) (hS : gS X b L xs) (i : Nat) (hi : i + 4 ≤ L) (V : Nat → Nat → Int32) (n : Nat) (ts wz : Nat → Nat) (hZ : kZ V V n ts wz) (nxt : ∀ (V : Nat → Nat → Int32) (ls : Array Slot), (∃ n ts wz, kZ V V n ts wz) → lv_has ls 4 [(0, .ref b), (1, .ref (ad 0)), (2, .ref (ad 27)), (3, .int (nI i))] → wv X cA cR ad V 543 ls []) (ls : Array Slot) (hl : lv_has ls 4 [(0, .ref b), (1, .ref (ad 0)), (2, .ref (ad 27)), (3, .int (nI i))]) : wv X cA cR ad V 454 ls [] := by
  have hV := hZ.1
  have hR := hZ.2.2
  have hK := mK_of hV hR
  have hle := kV_n hV
  refine r_aload_n h d_La_law_454 rfl (lv_at hl 1 rfl) ?_
  refine r_aload_n h d_La_law_455 rfl (lv_at hl 0 rfl) ?_
  refine r_iload_n h d_La_law_456 rfl (lv_at hl 3 rfl) ?_
  refine r_iconst h (v := 1) d_La_law_457 (by decide) ?_
  refine r_iadd h d_La_law_458 ?_
  refine r_top (nI (i + 1)) (nI_add i 1) ?_
  refine r_sldN h hS (i := (i + 1)) (by omega) (by omega) d_La_law_459 ?_
  refine r_aload_n h d_La_law_460 rfl (lv_at hl 0 rfl) ?_
  refine r_iload_n h d_La_law_461 rfl (lv_at hl 3 rfl) ?_
  refine r_iconst h (v := 2) d_La_law_462 (by decide) ?_
  refine r_iadd h d_La_law_463 ?_
  refine r_top (nI (i + 2)) (nI_add i 2) ?_
  refine r_sldN h hS (i := (i + 2)) (by omega) (by omega) d_La_law_464 ?_
  refine r_callVi h (k := 0) (n := 2) (As := [.int (xs (i + 1)), .int (xs (i + 2))]) (c_St_about l D cA cR ad hI V (xs (i + 1)) (xs (i + 2)) n ts wz hV) g_La_65 (by decide +kernel) rfl ⟨by decide, by decide⟩ (by decide) rfl rfl hl rfl (Nat.le_of_ble_eq_true rfl) d_La_law_465 ?_
  refine r_aload_n h d_La_law_468 rfl (lv_at hl 2 rfl) ?_
  refine r_aload_n h d_La_law_469 rfl (lv_at hl 0 rfl) ?_
  refine r_iload_n h d_La_law_470 rfl (lv_at hl 3 rfl) ?_
  refine r_iconst h (v := 1) d_La_law_471 (by decide) ?_
  refine r_iadd h d_La_law_472 ?_
  refine r_top (nI (i + 1)) (nI_add i 1) ?_
  refine r_sldN h hS (i := (i + 1)) (by omega) (by omega) d_La_law_473 ?_
  refine r_aload_n h d_La_law_474 rfl (lv_at hl 0 rfl) ?_
  refine r_iload_n h d_La_law_475 rfl (lv_at hl 3 rfl) ?_
  refine r_iconst h (v := 2) d_La_law_476 (by decide) ?_
  refine r_iadd h d_La_law_477 ?_
  refine r_top (nI (i + 2)) (nI_add i 2) ?_
  refine r_sldN h hS (i := (i + 2)) (by omega) (by omega) d_La_law_478 ?_
  refine r_callVi h (k := 27) (n := 2) (As := [.int (xs (i + 1)), .int (xs (i + 2))]) (c_Mo_about l D cA cR ad hI V (xs (i + 1)) (xs (i + 2)) n hK) g_La_68 (by decide +kernel) rfl ⟨by decide, by decide⟩ (by decide) rfl rfl hl rfl (Nat.le_of_ble_eq_true rfl) d_La_law_479 ?_
  refine r_icmp_eq_t h 543 d_La_law_482 (by decide) (L_about hZ _ _) ?_
  exact nxt _ ls ⟨n, ts, wz, hZ⟩ hl
set_option maxHeartbeats 4000000 in
set_option maxRecDepth 100000 in
theorem law_c13 (l : Launch) (D : va_G) (cA cR : ClassId) (ad : Nat → Nat) (hI : wI ad) {X : gX} {b L : Nat} {xs : Nat → Int32} (hL : L ≤ 2048) (h : gok X l D room_1 cA cR ad b_La_law 4 R_La) (hS : gS X b L xs) (i : Nat) (hi : i + 4 ≤ L) (V : Nat → Nat → Int32) (n : Nat) (ts wz : Nat → Nat) (hZ : kZ V V n ts wz) (nxt : ∀ (V : Nat → Nat → Int32) (ls : Array Slot), (∃ n ts wz, kZ V V n ts wz) → lv_has ls 4 [(0, .ref b), (1, .ref (ad 0)), (2, .ref (ad 27)), (3, .int (nI i))] → wv X cA cR ad V 543 ls []) (ls : Array Slot) (hl : lv_has ls 4 [(0, .ref b), (1, .ref (ad 0)), (2, .ref (ad 27)), (3, .int (nI i))]) : wv X cA cR ad V 487 ls [] := by
  have hV := hZ.1
  have hR := hZ.2.2
  have hK := mK_of hV hR
  have hle := kV_n hV
  refine r_aload_n h d_La_law_487 rfl (lv_at hl 1 rfl) ?_
  refine r_aload_n h d_La_law_488 rfl (lv_at hl 0 rfl) ?_
  refine r_iload_n h d_La_law_489 rfl (lv_at hl 3 rfl) ?_
  refine r_iconst h (v := 1) d_La_law_490 (by decide) ?_
  refine r_iadd h d_La_law_491 ?_
  refine r_top (nI (i + 1)) (nI_add i 1) ?_
  refine r_sldN h hS (i := (i + 1)) (by omega) (by omega) d_La_law_492 ?_
  refine r_callVi h (k := 0) (n := 1) (As := [.int (xs (i + 1))]) (c_St_depth l D cA cR ad hI V (xs (i + 1)) n ts wz hV) g_La_69 (by decide +kernel) rfl ⟨by decide, by decide⟩ (by decide) rfl rfl hl rfl (Nat.le_of_ble_eq_true rfl) d_La_law_493 ?_
  refine r_aload_n h d_La_law_496 rfl (lv_at hl 2 rfl) ?_
  refine r_aload_n h d_La_law_497 rfl (lv_at hl 0 rfl) ?_
  refine r_iload_n h d_La_law_498 rfl (lv_at hl 3 rfl) ?_
  refine r_iconst h (v := 1) d_La_law_499 (by decide) ?_
  refine r_iadd h d_La_law_500 ?_
  refine r_top (nI (i + 1)) (nI_add i 1) ?_
  refine r_sldN h hS (i := (i + 1)) (by omega) (by omega) d_La_law_501 ?_
  refine r_callVi h (k := 27) (n := 1) (As := [.int (xs (i + 1))]) (c_Mo_depth l D cA cR ad hI V (xs (i + 1)) n hK) g_La_72 (by decide +kernel) rfl ⟨by decide, by decide⟩ (by decide) rfl rfl hl rfl (Nat.le_of_ble_eq_true rfl) d_La_law_502 ?_
  refine r_icmp_eq_t h 543 d_La_law_505 (by decide) (L_depth hZ _) ?_
  exact nxt _ ls ⟨n, ts, wz, hZ⟩ hl
set_option maxHeartbeats 4000000 in
set_option maxRecDepth 100000 in
theorem law_c14 (l : Launch) (D : va_G) (cA cR : ClassId) (ad : Nat → Nat) (hI : wI ad) {X : gX} {b L : Nat} {xs : Nat → Int32} (hL : L ≤ 2048) (h : gok X l D room_1 cA cR ad b_La_law 4 R_La) (hS : gS X b L xs) (i : Nat) (hi : i + 4 ≤ L) (V : Nat → Nat → Int32) (n : Nat) (ts wz : Nat → Nat) (hZ : kZ V V n ts wz) (nxt : ∀ (V : Nat → Nat → Int32) (ls : Array Slot), (∃ n ts wz, kZ V V n ts wz) → lv_has ls 4 [(0, .ref b), (1, .ref (ad 0)), (2, .ref (ad 27)), (3, .int (nI i))] → wv X cA cR ad V 543 ls []) (ls : Array Slot) (hl : lv_has ls 4 [(0, .ref b), (1, .ref (ad 0)), (2, .ref (ad 27)), (3, .int (nI i))]) : wv X cA cR ad V 510 ls [] := by
  have hV := hZ.1
  have hR := hZ.2.2
  have hK := mK_of hV hR
  have hle := kV_n hV
  rcases z_repc (xs (i + 1)) with hb | ⟨r, hr, ha⟩
  · skip
    refine r_aload_n h d_La_law_510 rfl (lv_at hl 1 rfl) ?_
    refine r_aload_n h d_La_law_511 rfl (lv_at hl 0 rfl) ?_
    refine r_iload_n h d_La_law_512 rfl (lv_at hl 3 rfl) ?_
    refine r_iconst h (v := 1) d_La_law_513 (by decide) ?_
    refine r_iadd h d_La_law_514 ?_
    refine r_top (nI (i + 1)) (nI_add i 1) ?_
    refine r_sldN h hS (i := (i + 1)) (by omega) (by omega) d_La_law_515 ?_
    refine r_aload_n h d_La_law_516 rfl (lv_at hl 0 rfl) ?_
    refine r_iload_n h d_La_law_517 rfl (lv_at hl 3 rfl) ?_
    refine r_iconst h (v := 2) d_La_law_518 (by decide) ?_
    refine r_iadd h d_La_law_519 ?_
    refine r_top (nI (i + 2)) (nI_add i 2) ?_
    refine r_sldN h hS (i := (i + 2)) (by omega) (by omega) d_La_law_520 ?_
    refine r_callVi h (k := 0) (n := 2) (As := [.int (xs (i + 1)), .int (xs (i + 2))]) (c_St_differ_b l D cA cR ad hI V (xs (i + 1)) hb (xs (i + 2))) g_La_73 (by decide +kernel) rfl ⟨by decide, by decide⟩ (by decide) rfl rfl hl rfl (Nat.le_of_ble_eq_true rfl) d_La_law_521 ?_
    refine r_aload_n h d_La_law_524 rfl (lv_at hl 2 rfl) ?_
    refine r_aload_n h d_La_law_525 rfl (lv_at hl 0 rfl) ?_
    refine r_iload_n h d_La_law_526 rfl (lv_at hl 3 rfl) ?_
    refine r_iconst h (v := 1) d_La_law_527 (by decide) ?_
    refine r_iadd h d_La_law_528 ?_
    refine r_top (nI (i + 1)) (nI_add i 1) ?_
    refine r_sldN h hS (i := (i + 1)) (by omega) (by omega) d_La_law_529 ?_
    refine r_aload_n h d_La_law_530 rfl (lv_at hl 0 rfl) ?_
    refine r_iload_n h d_La_law_531 rfl (lv_at hl 3 rfl) ?_
    refine r_iconst h (v := 2) d_La_law_532 (by decide) ?_
    refine r_iadd h d_La_law_533 ?_
    refine r_top (nI (i + 2)) (nI_add i 2) ?_
    refine r_sldN h hS (i := (i + 2)) (by omega) (by omega) d_La_law_534 ?_
    refine r_callVi h (k := 27) (n := 2) (As := [.int (xs (i + 1)), .int (xs (i + 2))]) (c_Mo_differ_b l D cA cR ad hI V (xs (i + 1)) hb (xs (i + 2))) g_La_76 (by decide +kernel) rfl ⟨by decide, by decide⟩ (by decide) rfl rfl hl rfl (Nat.le_of_ble_eq_true rfl) d_La_law_535 ?_
    refine r_icmp_eq_t h 543 d_La_law_538 (by decide) rfl ?_
    exact nxt _ ls ⟨n, ts, wz, hZ⟩ hl
  · rcases z_repc (xs (i + 2)) with hb | ⟨q, hq, hqa⟩
    · skip
      refine r_aload_n h d_La_law_510 rfl (lv_at hl 1 rfl) ?_
      refine r_aload_n h d_La_law_511 rfl (lv_at hl 0 rfl) ?_
      refine r_iload_n h d_La_law_512 rfl (lv_at hl 3 rfl) ?_
      refine r_iconst h (v := 1) d_La_law_513 (by decide) ?_
      refine r_iadd h d_La_law_514 ?_
      refine r_top (nI (i + 1)) (nI_add i 1) ?_
      refine r_sldN h hS (i := (i + 1)) (by omega) (by omega) d_La_law_515 ?_
      refine r_top (nI r) ha ?_
      refine r_aload_n h d_La_law_516 rfl (lv_at hl 0 rfl) ?_
      refine r_iload_n h d_La_law_517 rfl (lv_at hl 3 rfl) ?_
      refine r_iconst h (v := 2) d_La_law_518 (by decide) ?_
      refine r_iadd h d_La_law_519 ?_
      refine r_top (nI (i + 2)) (nI_add i 2) ?_
      refine r_sldN h hS (i := (i + 2)) (by omega) (by omega) d_La_law_520 ?_
      refine r_callVi h (k := 0) (n := 2) (As := [.int (nI r), .int (xs (i + 2))]) (c_St_differ_c l D cA cR ad hI V r hr (xs (i + 2)) hb) g_La_73 (by decide +kernel) rfl ⟨by decide, by decide⟩ (by decide) rfl rfl hl rfl (Nat.le_of_ble_eq_true rfl) d_La_law_521 ?_
      refine r_aload_n h d_La_law_524 rfl (lv_at hl 2 rfl) ?_
      refine r_aload_n h d_La_law_525 rfl (lv_at hl 0 rfl) ?_
      refine r_iload_n h d_La_law_526 rfl (lv_at hl 3 rfl) ?_
      refine r_iconst h (v := 1) d_La_law_527 (by decide) ?_
      refine r_iadd h d_La_law_528 ?_
      refine r_top (nI (i + 1)) (nI_add i 1) ?_
      refine r_sldN h hS (i := (i + 1)) (by omega) (by omega) d_La_law_529 ?_
      refine r_top (nI r) ha ?_
      refine r_aload_n h d_La_law_530 rfl (lv_at hl 0 rfl) ?_
      refine r_iload_n h d_La_law_531 rfl (lv_at hl 3 rfl) ?_
      refine r_iconst h (v := 2) d_La_law_532 (by decide) ?_
      refine r_iadd h d_La_law_533 ?_
      refine r_top (nI (i + 2)) (nI_add i 2) ?_
      refine r_sldN h hS (i := (i + 2)) (by omega) (by omega) d_La_law_534 ?_
      refine r_callVi h (k := 27) (n := 2) (As := [.int (nI r), .int (xs (i + 2))]) (c_Mo_differ_c l D cA cR ad hI V r hr (xs (i + 2)) hb) g_La_76 (by decide +kernel) rfl ⟨by decide, by decide⟩ (by decide) rfl rfl hl rfl (Nat.le_of_ble_eq_true rfl) d_La_law_535 ?_
      refine r_icmp_eq_t h 543 d_La_law_538 (by decide) rfl ?_
      exact nxt _ ls ⟨n, ts, wz, hZ⟩ hl
    · skip
      refine r_aload_n h d_La_law_510 rfl (lv_at hl 1 rfl) ?_
      refine r_aload_n h d_La_law_511 rfl (lv_at hl 0 rfl) ?_
      refine r_iload_n h d_La_law_512 rfl (lv_at hl 3 rfl) ?_
      refine r_iconst h (v := 1) d_La_law_513 (by decide) ?_
      refine r_iadd h d_La_law_514 ?_
      refine r_top (nI (i + 1)) (nI_add i 1) ?_
      refine r_sldN h hS (i := (i + 1)) (by omega) (by omega) d_La_law_515 ?_
      refine r_top (nI r) ha ?_
      refine r_aload_n h d_La_law_516 rfl (lv_at hl 0 rfl) ?_
      refine r_iload_n h d_La_law_517 rfl (lv_at hl 3 rfl) ?_
      refine r_iconst h (v := 2) d_La_law_518 (by decide) ?_
      refine r_iadd h d_La_law_519 ?_
      refine r_top (nI (i + 2)) (nI_add i 2) ?_
      refine r_sldN h hS (i := (i + 2)) (by omega) (by omega) d_La_law_520 ?_
      refine r_top (nI q) hqa ?_
      refine r_callVi h (k := 0) (n := 2) (As := [.int (nI r), .int (nI q)]) (c_St_differ l D cA cR ad hI V r hr q hq n ts wz hV) g_La_73 (by decide +kernel) rfl ⟨by decide, by decide⟩ (by decide) rfl rfl hl rfl (Nat.le_of_ble_eq_true rfl) d_La_law_521 ?_
      refine r_aload_n h d_La_law_524 rfl (lv_at hl 2 rfl) ?_
      refine r_aload_n h d_La_law_525 rfl (lv_at hl 0 rfl) ?_
      refine r_iload_n h d_La_law_526 rfl (lv_at hl 3 rfl) ?_
      refine r_iconst h (v := 1) d_La_law_527 (by decide) ?_
      refine r_iadd h d_La_law_528 ?_
      refine r_top (nI (i + 1)) (nI_add i 1) ?_
      refine r_sldN h hS (i := (i + 1)) (by omega) (by omega) d_La_law_529 ?_
      refine r_top (nI r) ha ?_
      refine r_aload_n h d_La_law_530 rfl (lv_at hl 0 rfl) ?_
      refine r_iload_n h d_La_law_531 rfl (lv_at hl 3 rfl) ?_
      refine r_iconst h (v := 2) d_La_law_532 (by decide) ?_
      refine r_iadd h d_La_law_533 ?_
      refine r_top (nI (i + 2)) (nI_add i 2) ?_
      refine r_sldN h hS (i := (i + 2)) (by omega) (by omega) d_La_law_534 ?_
      refine r_top (nI q) hqa ?_
      refine r_callVi h (k := 27) (n := 2) (As := [.int (nI r), .int (nI q)]) (c_Mo_differ l D cA cR ad hI V r hr q hq n hK) g_La_76 (by decide +kernel) rfl ⟨by decide, by decide⟩ (by decide) rfl rfl hl rfl (Nat.le_of_ble_eq_true rfl) d_La_law_535 ?_
      refine r_icmp_eq_t h 543 d_La_law_538 (by decide) (L_differ hZ hr hq) ?_
      exact nxt _ ls ⟨n, ts, wz, hZ⟩ hl
set_option maxHeartbeats 4000000 in
set_option maxRecDepth 100000 in
theorem law_c0 (l : Launch) (D : va_G) (cA cR : ClassId) (ad : Nat → Nat) (hI : wI ad) {X : gX} {b L : Nat} {xs : Nat → Int32} (hL : L ≤ 2048) (h : gok X l D room_1 cA cR ad b_La_law 4 R_La) (hS : gS X b L xs) (i : Nat) (hi : i + 4 ≤ L) (V : Nat → Nat → Int32) (n : Nat) (ts wz : Nat → Nat) (hZ : kZ V V n ts wz) (nxt : ∀ (V : Nat → Nat → Int32) (ls : Array Slot), (∃ n ts wz, kZ V V n ts wz) → lv_has ls 4 [(0, .ref b), (1, .ref (ad 0)), (2, .ref (ad 27)), (3, .int (nI i))] → wv X cA cR ad V 543 ls []) (ls : Array Slot) (hl : lv_has ls 4 [(0, .ref b), (1, .ref (ad 0)), (2, .ref (ad 27)), (3, .int (nI i))]) : wv X cA cR ad V 108 ls [] := by
  have hV := hZ.1
  have hR := hZ.2.2
  have hK := mK_of hV hR
  have hle := kV_n hV
  rcases z_repc (xs (i + 1)) with hb | ⟨r, hr, ha⟩
  · skip
    refine r_aload_n h d_La_law_108 rfl (lv_at hl 1 rfl) ?_
    refine r_aload_n h d_La_law_109 rfl (lv_at hl 0 rfl) ?_
    refine r_iload_n h d_La_law_110 rfl (lv_at hl 3 rfl) ?_
    refine r_iconst h (v := 1) d_La_law_111 (by decide) ?_
    refine r_iadd h d_La_law_112 ?_
    refine r_top (nI (i + 1)) (nI_add i 1) ?_
    refine r_sldN h hS (i := (i + 1)) (by omega) (by omega) d_La_law_113 ?_
    refine r_aload_n h d_La_law_114 rfl (lv_at hl 0 rfl) ?_
    refine r_iload_n h d_La_law_115 rfl (lv_at hl 3 rfl) ?_
    refine r_iconst h (v := 2) d_La_law_116 (by decide) ?_
    refine r_iadd h d_La_law_117 ?_
    refine r_top (nI (i + 2)) (nI_add i 2) ?_
    refine r_sldN h hS (i := (i + 2)) (by omega) (by omega) d_La_law_118 ?_
    refine r_aload_n h d_La_law_119 rfl (lv_at hl 0 rfl) ?_
    refine r_iload_n h d_La_law_120 rfl (lv_at hl 3 rfl) ?_
    refine r_iconst h (v := 3) d_La_law_121 (by decide) ?_
    refine r_iadd h d_La_law_122 ?_
    refine r_top (nI (i + 3)) (nI_add i 3) ?_
    refine r_sldN h hS (i := (i + 3)) (by omega) (by omega) d_La_law_123 ?_
    refine r_callVi h (k := 0) (n := 3) (As := [.int (xs (i + 1)), .int (xs (i + 2)), .int (xs (i + 3))]) (c_St_insert_b l D cA cR ad hI V (xs (i + 1)) hb (xs (i + 2)) (xs (i + 3))) g_La_13 (by decide +kernel) rfl ⟨by decide, by decide⟩ (by decide) rfl rfl hl rfl (Nat.le_of_ble_eq_true rfl) d_La_law_124 ?_
    refine r_aload_n h d_La_law_127 rfl (lv_at hl 2 rfl) ?_
    refine r_aload_n h d_La_law_128 rfl (lv_at hl 0 rfl) ?_
    refine r_iload_n h d_La_law_129 rfl (lv_at hl 3 rfl) ?_
    refine r_iconst h (v := 1) d_La_law_130 (by decide) ?_
    refine r_iadd h d_La_law_131 ?_
    refine r_top (nI (i + 1)) (nI_add i 1) ?_
    refine r_sldN h hS (i := (i + 1)) (by omega) (by omega) d_La_law_132 ?_
    refine r_aload_n h d_La_law_133 rfl (lv_at hl 0 rfl) ?_
    refine r_iload_n h d_La_law_134 rfl (lv_at hl 3 rfl) ?_
    refine r_iconst h (v := 2) d_La_law_135 (by decide) ?_
    refine r_iadd h d_La_law_136 ?_
    refine r_top (nI (i + 2)) (nI_add i 2) ?_
    refine r_sldN h hS (i := (i + 2)) (by omega) (by omega) d_La_law_137 ?_
    refine r_aload_n h d_La_law_138 rfl (lv_at hl 0 rfl) ?_
    refine r_iload_n h d_La_law_139 rfl (lv_at hl 3 rfl) ?_
    refine r_iconst h (v := 3) d_La_law_140 (by decide) ?_
    refine r_iadd h d_La_law_141 ?_
    refine r_top (nI (i + 3)) (nI_add i 3) ?_
    refine r_sldN h hS (i := (i + 3)) (by omega) (by omega) d_La_law_142 ?_
    refine r_callVi h (k := 27) (n := 3) (As := [.int (xs (i + 1)), .int (xs (i + 2)), .int (xs (i + 3))]) (c_Mo_insert_b l D cA cR ad hI V (xs (i + 1)) hb (xs (i + 2)) (xs (i + 3))) g_La_17 (by decide +kernel) rfl ⟨by decide, by decide⟩ (by decide) rfl rfl hl rfl (Nat.le_of_ble_eq_true rfl) d_La_law_143 ?_
    refine r_icmp_eq_t h 543 d_La_law_146 (by decide) rfl ?_
    exact nxt _ ls ⟨n, ts, wz, hZ⟩ hl
  · by_cases h1 : xs (i + 2) < 0
    · skip
      refine r_aload_n h d_La_law_108 rfl (lv_at hl 1 rfl) ?_
      refine r_aload_n h d_La_law_109 rfl (lv_at hl 0 rfl) ?_
      refine r_iload_n h d_La_law_110 rfl (lv_at hl 3 rfl) ?_
      refine r_iconst h (v := 1) d_La_law_111 (by decide) ?_
      refine r_iadd h d_La_law_112 ?_
      refine r_top (nI (i + 1)) (nI_add i 1) ?_
      refine r_sldN h hS (i := (i + 1)) (by omega) (by omega) d_La_law_113 ?_
      refine r_top (nI r) ha ?_
      refine r_aload_n h d_La_law_114 rfl (lv_at hl 0 rfl) ?_
      refine r_iload_n h d_La_law_115 rfl (lv_at hl 3 rfl) ?_
      refine r_iconst h (v := 2) d_La_law_116 (by decide) ?_
      refine r_iadd h d_La_law_117 ?_
      refine r_top (nI (i + 2)) (nI_add i 2) ?_
      refine r_sldN h hS (i := (i + 2)) (by omega) (by omega) d_La_law_118 ?_
      refine r_aload_n h d_La_law_119 rfl (lv_at hl 0 rfl) ?_
      refine r_iload_n h d_La_law_120 rfl (lv_at hl 3 rfl) ?_
      refine r_iconst h (v := 3) d_La_law_121 (by decide) ?_
      refine r_iadd h d_La_law_122 ?_
      refine r_top (nI (i + 3)) (nI_add i 3) ?_
      refine r_sldN h hS (i := (i + 3)) (by omega) (by omega) d_La_law_123 ?_
      refine r_callVi h (k := 0) (n := 3) (As := [.int (nI r), .int (xs (i + 2)), .int (xs (i + 3))]) (c_St_insert_c l D cA cR ad hI V (xs (i + 2)) (xs (i + 3)) r hr n ts wz hV h1) g_La_13 (by decide +kernel) rfl ⟨by decide, by decide⟩ (by decide) rfl rfl hl rfl (Nat.le_of_ble_eq_true rfl) d_La_law_124 ?_
      refine r_aload_n h d_La_law_127 rfl (lv_at hl 2 rfl) ?_
      refine r_aload_n h d_La_law_128 rfl (lv_at hl 0 rfl) ?_
      refine r_iload_n h d_La_law_129 rfl (lv_at hl 3 rfl) ?_
      refine r_iconst h (v := 1) d_La_law_130 (by decide) ?_
      refine r_iadd h d_La_law_131 ?_
      refine r_top (nI (i + 1)) (nI_add i 1) ?_
      refine r_sldN h hS (i := (i + 1)) (by omega) (by omega) d_La_law_132 ?_
      refine r_top (nI r) ha ?_
      refine r_aload_n h d_La_law_133 rfl (lv_at hl 0 rfl) ?_
      refine r_iload_n h d_La_law_134 rfl (lv_at hl 3 rfl) ?_
      refine r_iconst h (v := 2) d_La_law_135 (by decide) ?_
      refine r_iadd h d_La_law_136 ?_
      refine r_top (nI (i + 2)) (nI_add i 2) ?_
      refine r_sldN h hS (i := (i + 2)) (by omega) (by omega) d_La_law_137 ?_
      refine r_aload_n h d_La_law_138 rfl (lv_at hl 0 rfl) ?_
      refine r_iload_n h d_La_law_139 rfl (lv_at hl 3 rfl) ?_
      refine r_iconst h (v := 3) d_La_law_140 (by decide) ?_
      refine r_iadd h d_La_law_141 ?_
      refine r_top (nI (i + 3)) (nI_add i 3) ?_
      refine r_sldN h hS (i := (i + 3)) (by omega) (by omega) d_La_law_142 ?_
      refine r_callVi h (k := 27) (n := 3) (As := [.int (nI r), .int (xs (i + 2)), .int (xs (i + 3))]) (c_Mo_insert_c l D cA cR ad hI V (xs (i + 2)) (xs (i + 3)) r hr n hK h1) g_La_17 (by decide +kernel) rfl ⟨by decide, by decide⟩ (by decide) rfl rfl hl rfl (Nat.le_of_ble_eq_true rfl) d_La_law_143 ?_
      refine r_icmp_eq_t h 543 d_La_law_146 (by decide) rfl ?_
      exact nxt _ ls ⟨n, ts, wz, hZ⟩ hl
    · have h1 : 0 ≤ xs (i + 2) := Int32.not_lt.mp h1
      by_cases h2 : xs (i + 2) ≤ nI (kCnt V n r 1)
      · by_cases h3 : n < 30
        · cases h4 : kFull V (nI r) with
          | true =>
            refine r_aload_n h d_La_law_108 rfl (lv_at hl 1 rfl) ?_
            refine r_aload_n h d_La_law_109 rfl (lv_at hl 0 rfl) ?_
            refine r_iload_n h d_La_law_110 rfl (lv_at hl 3 rfl) ?_
            refine r_iconst h (v := 1) d_La_law_111 (by decide) ?_
            refine r_iadd h d_La_law_112 ?_
            refine r_top (nI (i + 1)) (nI_add i 1) ?_
            refine r_sldN h hS (i := (i + 1)) (by omega) (by omega) d_La_law_113 ?_
            refine r_top (nI r) ha ?_
            refine r_aload_n h d_La_law_114 rfl (lv_at hl 0 rfl) ?_
            refine r_iload_n h d_La_law_115 rfl (lv_at hl 3 rfl) ?_
            refine r_iconst h (v := 2) d_La_law_116 (by decide) ?_
            refine r_iadd h d_La_law_117 ?_
            refine r_top (nI (i + 2)) (nI_add i 2) ?_
            refine r_sldN h hS (i := (i + 2)) (by omega) (by omega) d_La_law_118 ?_
            refine r_aload_n h d_La_law_119 rfl (lv_at hl 0 rfl) ?_
            refine r_iload_n h d_La_law_120 rfl (lv_at hl 3 rfl) ?_
            refine r_iconst h (v := 3) d_La_law_121 (by decide) ?_
            refine r_iadd h d_La_law_122 ?_
            refine r_top (nI (i + 3)) (nI_add i 3) ?_
            refine r_sldN h hS (i := (i + 3)) (by omega) (by omega) d_La_law_123 ?_
            refine r_callVi h (k := 0) (n := 3) (As := [.int (nI r), .int (xs (i + 2)), .int (xs (i + 3))]) (c_St_insert_f l D cA cR ad hI V (xs (i + 2)) (xs (i + 3)) r hr n ts wz hV h1 h2 h3 h4) g_La_13 (by decide +kernel) rfl ⟨by decide, by decide⟩ (by decide) rfl rfl hl rfl (Nat.le_of_ble_eq_true rfl) d_La_law_124 ?_
            refine r_aload_n h d_La_law_127 rfl (lv_at hl 2 rfl) ?_
            refine r_aload_n h d_La_law_128 rfl (lv_at hl 0 rfl) ?_
            refine r_iload_n h d_La_law_129 rfl (lv_at hl 3 rfl) ?_
            refine r_iconst h (v := 1) d_La_law_130 (by decide) ?_
            refine r_iadd h d_La_law_131 ?_
            refine r_top (nI (i + 1)) (nI_add i 1) ?_
            refine r_sldN h hS (i := (i + 1)) (by omega) (by omega) d_La_law_132 ?_
            refine r_top (nI r) ha ?_
            refine r_aload_n h d_La_law_133 rfl (lv_at hl 0 rfl) ?_
            refine r_iload_n h d_La_law_134 rfl (lv_at hl 3 rfl) ?_
            refine r_iconst h (v := 2) d_La_law_135 (by decide) ?_
            refine r_iadd h d_La_law_136 ?_
            refine r_top (nI (i + 2)) (nI_add i 2) ?_
            refine r_sldN h hS (i := (i + 2)) (by omega) (by omega) d_La_law_137 ?_
            refine r_aload_n h d_La_law_138 rfl (lv_at hl 0 rfl) ?_
            refine r_iload_n h d_La_law_139 rfl (lv_at hl 3 rfl) ?_
            refine r_iconst h (v := 3) d_La_law_140 (by decide) ?_
            refine r_iadd h d_La_law_141 ?_
            refine r_top (nI (i + 3)) (nI_add i 3) ?_
            refine r_sldN h hS (i := (i + 3)) (by omega) (by omega) d_La_law_142 ?_
            refine r_callVi h (k := 27) (n := 3) (As := [.int (nI r), .int (xs (i + 2)), .int (xs (i + 3))]) (c_Mo_insert_f l D cA cR ad hI V (xs (i + 2)) (xs (i + 3)) r hr n hK h1 (by rw [s_cnt1 hV hR hr]; exact h2) h3 (by rw [s_full hV hR]; exact h4)) g_La_17 (by decide +kernel) rfl ⟨by decide, by decide⟩ (by decide) rfl rfl hl rfl (Nat.le_of_ble_eq_true rfl) d_La_law_143 ?_
            refine r_icmp_eq_t h 543 d_La_law_146 (by decide) rfl ?_
            exact nxt _ ls ⟨n, ts, wz, hZ⟩ hl
          | false =>
            obtain ⟨V1, hV1⟩ : ∃ V1, V1 = kSnd (wU (kMake V n r (kA V n r (xs (i + 2))) (xs (i + 3))) (6 * r + 10) n 1) r (nI n) := ⟨_, rfl⟩
            obtain ⟨q1, q2, q3, q4, q5, q6, q7, q8⟩ := L_ins (ch := xs (i + 3)) hZ hr h1 h2 h3 h4 hV1
            refine r_aload_n h d_La_law_108 rfl (lv_at hl 1 rfl) ?_
            refine r_aload_n h d_La_law_109 rfl (lv_at hl 0 rfl) ?_
            refine r_iload_n h d_La_law_110 rfl (lv_at hl 3 rfl) ?_
            refine r_iconst h (v := 1) d_La_law_111 (by decide) ?_
            refine r_iadd h d_La_law_112 ?_
            refine r_top (nI (i + 1)) (nI_add i 1) ?_
            refine r_sldN h hS (i := (i + 1)) (by omega) (by omega) d_La_law_113 ?_
            refine r_top (nI r) ha ?_
            refine r_aload_n h d_La_law_114 rfl (lv_at hl 0 rfl) ?_
            refine r_iload_n h d_La_law_115 rfl (lv_at hl 3 rfl) ?_
            refine r_iconst h (v := 2) d_La_law_116 (by decide) ?_
            refine r_iadd h d_La_law_117 ?_
            refine r_top (nI (i + 2)) (nI_add i 2) ?_
            refine r_sldN h hS (i := (i + 2)) (by omega) (by omega) d_La_law_118 ?_
            refine r_aload_n h d_La_law_119 rfl (lv_at hl 0 rfl) ?_
            refine r_iload_n h d_La_law_120 rfl (lv_at hl 3 rfl) ?_
            refine r_iconst h (v := 3) d_La_law_121 (by decide) ?_
            refine r_iadd h d_La_law_122 ?_
            refine r_top (nI (i + 3)) (nI_add i 3) ?_
            refine r_sldN h hS (i := (i + 3)) (by omega) (by omega) d_La_law_123 ?_
            refine r_callVi h (k := 0) (n := 3) (As := [.int (nI r), .int (xs (i + 2)), .int (xs (i + 3))]) (c_St_insert l D cA cR ad hI V (xs (i + 2)) (xs (i + 3)) r hr n ts wz hV h1 h2 h3 h4) g_La_13 (by decide +kernel) rfl ⟨by decide, by decide⟩ (by decide) rfl rfl hl rfl (Nat.le_of_ble_eq_true rfl) d_La_law_124 ?_
            refine r_V (V' := V1) hV1.symm ?_
            refine r_aload_n h d_La_law_127 rfl (lv_at hl 2 rfl) ?_
            refine r_aload_n h d_La_law_128 rfl (lv_at hl 0 rfl) ?_
            refine r_iload_n h d_La_law_129 rfl (lv_at hl 3 rfl) ?_
            refine r_iconst h (v := 1) d_La_law_130 (by decide) ?_
            refine r_iadd h d_La_law_131 ?_
            refine r_top (nI (i + 1)) (nI_add i 1) ?_
            refine r_sldN h hS (i := (i + 1)) (by omega) (by omega) d_La_law_132 ?_
            refine r_top (nI r) ha ?_
            refine r_aload_n h d_La_law_133 rfl (lv_at hl 0 rfl) ?_
            refine r_iload_n h d_La_law_134 rfl (lv_at hl 3 rfl) ?_
            refine r_iconst h (v := 2) d_La_law_135 (by decide) ?_
            refine r_iadd h d_La_law_136 ?_
            refine r_top (nI (i + 2)) (nI_add i 2) ?_
            refine r_sldN h hS (i := (i + 2)) (by omega) (by omega) d_La_law_137 ?_
            refine r_aload_n h d_La_law_138 rfl (lv_at hl 0 rfl) ?_
            refine r_iload_n h d_La_law_139 rfl (lv_at hl 3 rfl) ?_
            refine r_iconst h (v := 3) d_La_law_140 (by decide) ?_
            refine r_iadd h d_La_law_141 ?_
            refine r_top (nI (i + 3)) (nI_add i 3) ?_
            refine r_sldN h hS (i := (i + 3)) (by omega) (by omega) d_La_law_142 ?_
            refine r_callVi h (k := 27) (n := 3) (As := [.int (nI r), .int (xs (i + 2)), .int (xs (i + 3))]) (c_Mo_insert l D cA cR ad hI V1 (xs (i + 2)) (xs (i + 3)) r hr n q1 h1 q2 h3 q3 q4 q5 q6 q7) g_La_17 (by decide +kernel) rfl ⟨by decide, by decide⟩ (by decide) rfl rfl hl rfl (Nat.le_of_ble_eq_true rfl) d_La_law_143 ?_
            refine r_icmp_eq_t h 543 d_La_law_146 (by decide) rfl ?_
            exact nxt _ ls q8 hl
        · have h30 : n = 30 := by omega
          refine r_aload_n h d_La_law_108 rfl (lv_at hl 1 rfl) ?_
          refine r_aload_n h d_La_law_109 rfl (lv_at hl 0 rfl) ?_
          refine r_iload_n h d_La_law_110 rfl (lv_at hl 3 rfl) ?_
          refine r_iconst h (v := 1) d_La_law_111 (by decide) ?_
          refine r_iadd h d_La_law_112 ?_
          refine r_top (nI (i + 1)) (nI_add i 1) ?_
          refine r_sldN h hS (i := (i + 1)) (by omega) (by omega) d_La_law_113 ?_
          refine r_top (nI r) ha ?_
          refine r_aload_n h d_La_law_114 rfl (lv_at hl 0 rfl) ?_
          refine r_iload_n h d_La_law_115 rfl (lv_at hl 3 rfl) ?_
          refine r_iconst h (v := 2) d_La_law_116 (by decide) ?_
          refine r_iadd h d_La_law_117 ?_
          refine r_top (nI (i + 2)) (nI_add i 2) ?_
          refine r_sldN h hS (i := (i + 2)) (by omega) (by omega) d_La_law_118 ?_
          refine r_aload_n h d_La_law_119 rfl (lv_at hl 0 rfl) ?_
          refine r_iload_n h d_La_law_120 rfl (lv_at hl 3 rfl) ?_
          refine r_iconst h (v := 3) d_La_law_121 (by decide) ?_
          refine r_iadd h d_La_law_122 ?_
          refine r_top (nI (i + 3)) (nI_add i 3) ?_
          refine r_sldN h hS (i := (i + 3)) (by omega) (by omega) d_La_law_123 ?_
          refine r_callVi h (k := 0) (n := 3) (As := [.int (nI r), .int (xs (i + 2)), .int (xs (i + 3))]) (c_St_insert_e l D cA cR ad hI V (xs (i + 2)) (xs (i + 3)) r hr n ts wz hV h1 h2 (by rw [hV.1, h30]; decide)) g_La_13 (by decide +kernel) rfl ⟨by decide, by decide⟩ (by decide) rfl rfl hl rfl (Nat.le_of_ble_eq_true rfl) d_La_law_124 ?_
          refine r_aload_n h d_La_law_127 rfl (lv_at hl 2 rfl) ?_
          refine r_aload_n h d_La_law_128 rfl (lv_at hl 0 rfl) ?_
          refine r_iload_n h d_La_law_129 rfl (lv_at hl 3 rfl) ?_
          refine r_iconst h (v := 1) d_La_law_130 (by decide) ?_
          refine r_iadd h d_La_law_131 ?_
          refine r_top (nI (i + 1)) (nI_add i 1) ?_
          refine r_sldN h hS (i := (i + 1)) (by omega) (by omega) d_La_law_132 ?_
          refine r_top (nI r) ha ?_
          refine r_aload_n h d_La_law_133 rfl (lv_at hl 0 rfl) ?_
          refine r_iload_n h d_La_law_134 rfl (lv_at hl 3 rfl) ?_
          refine r_iconst h (v := 2) d_La_law_135 (by decide) ?_
          refine r_iadd h d_La_law_136 ?_
          refine r_top (nI (i + 2)) (nI_add i 2) ?_
          refine r_sldN h hS (i := (i + 2)) (by omega) (by omega) d_La_law_137 ?_
          refine r_aload_n h d_La_law_138 rfl (lv_at hl 0 rfl) ?_
          refine r_iload_n h d_La_law_139 rfl (lv_at hl 3 rfl) ?_
          refine r_iconst h (v := 3) d_La_law_140 (by decide) ?_
          refine r_iadd h d_La_law_141 ?_
          refine r_top (nI (i + 3)) (nI_add i 3) ?_
          refine r_sldN h hS (i := (i + 3)) (by omega) (by omega) d_La_law_142 ?_
          refine r_callVi h (k := 27) (n := 3) (As := [.int (nI r), .int (xs (i + 2)), .int (xs (i + 3))]) (c_Mo_insert_e l D cA cR ad hI V (xs (i + 2)) (xs (i + 3)) r hr n hK h1 (by rw [s_cnt1 hV hR hr]; exact h2) h30) g_La_17 (by decide +kernel) rfl ⟨by decide, by decide⟩ (by decide) rfl rfl hl rfl (Nat.le_of_ble_eq_true rfl) d_La_law_143 ?_
          refine r_icmp_eq_t h 543 d_La_law_146 (by decide) rfl ?_
          exact nxt _ ls ⟨n, ts, wz, hZ⟩ hl
      · have h2 := Int32.not_le.mp h2
        refine r_aload_n h d_La_law_108 rfl (lv_at hl 1 rfl) ?_
        refine r_aload_n h d_La_law_109 rfl (lv_at hl 0 rfl) ?_
        refine r_iload_n h d_La_law_110 rfl (lv_at hl 3 rfl) ?_
        refine r_iconst h (v := 1) d_La_law_111 (by decide) ?_
        refine r_iadd h d_La_law_112 ?_
        refine r_top (nI (i + 1)) (nI_add i 1) ?_
        refine r_sldN h hS (i := (i + 1)) (by omega) (by omega) d_La_law_113 ?_
        refine r_top (nI r) ha ?_
        refine r_aload_n h d_La_law_114 rfl (lv_at hl 0 rfl) ?_
        refine r_iload_n h d_La_law_115 rfl (lv_at hl 3 rfl) ?_
        refine r_iconst h (v := 2) d_La_law_116 (by decide) ?_
        refine r_iadd h d_La_law_117 ?_
        refine r_top (nI (i + 2)) (nI_add i 2) ?_
        refine r_sldN h hS (i := (i + 2)) (by omega) (by omega) d_La_law_118 ?_
        refine r_aload_n h d_La_law_119 rfl (lv_at hl 0 rfl) ?_
        refine r_iload_n h d_La_law_120 rfl (lv_at hl 3 rfl) ?_
        refine r_iconst h (v := 3) d_La_law_121 (by decide) ?_
        refine r_iadd h d_La_law_122 ?_
        refine r_top (nI (i + 3)) (nI_add i 3) ?_
        refine r_sldN h hS (i := (i + 3)) (by omega) (by omega) d_La_law_123 ?_
        refine r_callVi h (k := 0) (n := 3) (As := [.int (nI r), .int (xs (i + 2)), .int (xs (i + 3))]) (c_St_insert_d l D cA cR ad hI V (xs (i + 2)) (xs (i + 3)) r hr n ts wz hV h1 h2) g_La_13 (by decide +kernel) rfl ⟨by decide, by decide⟩ (by decide) rfl rfl hl rfl (Nat.le_of_ble_eq_true rfl) d_La_law_124 ?_
        refine r_aload_n h d_La_law_127 rfl (lv_at hl 2 rfl) ?_
        refine r_aload_n h d_La_law_128 rfl (lv_at hl 0 rfl) ?_
        refine r_iload_n h d_La_law_129 rfl (lv_at hl 3 rfl) ?_
        refine r_iconst h (v := 1) d_La_law_130 (by decide) ?_
        refine r_iadd h d_La_law_131 ?_
        refine r_top (nI (i + 1)) (nI_add i 1) ?_
        refine r_sldN h hS (i := (i + 1)) (by omega) (by omega) d_La_law_132 ?_
        refine r_top (nI r) ha ?_
        refine r_aload_n h d_La_law_133 rfl (lv_at hl 0 rfl) ?_
        refine r_iload_n h d_La_law_134 rfl (lv_at hl 3 rfl) ?_
        refine r_iconst h (v := 2) d_La_law_135 (by decide) ?_
        refine r_iadd h d_La_law_136 ?_
        refine r_top (nI (i + 2)) (nI_add i 2) ?_
        refine r_sldN h hS (i := (i + 2)) (by omega) (by omega) d_La_law_137 ?_
        refine r_aload_n h d_La_law_138 rfl (lv_at hl 0 rfl) ?_
        refine r_iload_n h d_La_law_139 rfl (lv_at hl 3 rfl) ?_
        refine r_iconst h (v := 3) d_La_law_140 (by decide) ?_
        refine r_iadd h d_La_law_141 ?_
        refine r_top (nI (i + 3)) (nI_add i 3) ?_
        refine r_sldN h hS (i := (i + 3)) (by omega) (by omega) d_La_law_142 ?_
        refine r_callVi h (k := 27) (n := 3) (As := [.int (nI r), .int (xs (i + 2)), .int (xs (i + 3))]) (c_Mo_insert_d l D cA cR ad hI V (xs (i + 2)) (xs (i + 3)) r hr n hK h1 (by rw [s_cnt1 hV hR hr]; exact h2)) g_La_17 (by decide +kernel) rfl ⟨by decide, by decide⟩ (by decide) rfl rfl hl rfl (Nat.le_of_ble_eq_true rfl) d_La_law_143 ?_
        refine r_icmp_eq_t h 543 d_La_law_146 (by decide) rfl ?_
        exact nxt _ ls ⟨n, ts, wz, hZ⟩ hl
set_option maxHeartbeats 4000000 in
set_option maxRecDepth 100000 in
theorem law_c1 (l : Launch) (D : va_G) (cA cR : ClassId) (ad : Nat → Nat) (hI : wI ad) {X : gX} {b L : Nat} {xs : Nat → Int32} (hL : L ≤ 2048) (h : gok X l D room_1 cA cR ad b_La_law 4 R_La) (hS : gS X b L xs) (i : Nat) (hi : i + 4 ≤ L) (V : Nat → Nat → Int32) (n : Nat) (ts wz : Nat → Nat) (hZ : kZ V V n ts wz) (nxt : ∀ (V : Nat → Nat → Int32) (ls : Array Slot), (∃ n ts wz, kZ V V n ts wz) → lv_has ls 4 [(0, .ref b), (1, .ref (ad 0)), (2, .ref (ad 27)), (3, .int (nI i))] → wv X cA cR ad V 543 ls []) (ls : Array Slot) (hl : lv_has ls 4 [(0, .ref b), (1, .ref (ad 0)), (2, .ref (ad 27)), (3, .int (nI i))]) : wv X cA cR ad V 151 ls [] := by
  have hV := hZ.1
  have hR := hZ.2.2
  have hK := mK_of hV hR
  have hle := kV_n hV
  rcases z_repc (xs (i + 1)) with hb | ⟨r, hr, ha⟩
  · skip
    refine r_aload_n h d_La_law_151 rfl (lv_at hl 1 rfl) ?_
    refine r_aload_n h d_La_law_152 rfl (lv_at hl 0 rfl) ?_
    refine r_iload_n h d_La_law_153 rfl (lv_at hl 3 rfl) ?_
    refine r_iconst h (v := 1) d_La_law_154 (by decide) ?_
    refine r_iadd h d_La_law_155 ?_
    refine r_top (nI (i + 1)) (nI_add i 1) ?_
    refine r_sldN h hS (i := (i + 1)) (by omega) (by omega) d_La_law_156 ?_
    refine r_aload_n h d_La_law_157 rfl (lv_at hl 0 rfl) ?_
    refine r_iload_n h d_La_law_158 rfl (lv_at hl 3 rfl) ?_
    refine r_iconst h (v := 2) d_La_law_159 (by decide) ?_
    refine r_iadd h d_La_law_160 ?_
    refine r_top (nI (i + 2)) (nI_add i 2) ?_
    refine r_sldN h hS (i := (i + 2)) (by omega) (by omega) d_La_law_161 ?_
    refine r_callVi h (k := 0) (n := 2) (As := [.int (xs (i + 1)), .int (xs (i + 2))]) (c_St_erase_b l D cA cR ad hI V (xs (i + 1)) hb (xs (i + 2))) g_La_18 (by decide +kernel) rfl ⟨by decide, by decide⟩ (by decide) rfl rfl hl rfl (Nat.le_of_ble_eq_true rfl) d_La_law_162 ?_
    refine r_aload_n h d_La_law_165 rfl (lv_at hl 2 rfl) ?_
    refine r_aload_n h d_La_law_166 rfl (lv_at hl 0 rfl) ?_
    refine r_iload_n h d_La_law_167 rfl (lv_at hl 3 rfl) ?_
    refine r_iconst h (v := 1) d_La_law_168 (by decide) ?_
    refine r_iadd h d_La_law_169 ?_
    refine r_top (nI (i + 1)) (nI_add i 1) ?_
    refine r_sldN h hS (i := (i + 1)) (by omega) (by omega) d_La_law_170 ?_
    refine r_aload_n h d_La_law_171 rfl (lv_at hl 0 rfl) ?_
    refine r_iload_n h d_La_law_172 rfl (lv_at hl 3 rfl) ?_
    refine r_iconst h (v := 2) d_La_law_173 (by decide) ?_
    refine r_iadd h d_La_law_174 ?_
    refine r_top (nI (i + 2)) (nI_add i 2) ?_
    refine r_sldN h hS (i := (i + 2)) (by omega) (by omega) d_La_law_175 ?_
    refine r_callVi h (k := 27) (n := 2) (As := [.int (xs (i + 1)), .int (xs (i + 2))]) (c_Mo_erase_b l D cA cR ad hI V (xs (i + 1)) hb (xs (i + 2))) g_La_22 (by decide +kernel) rfl ⟨by decide, by decide⟩ (by decide) rfl rfl hl rfl (Nat.le_of_ble_eq_true rfl) d_La_law_176 ?_
    refine r_icmp_eq_t h 543 d_La_law_179 (by decide) rfl ?_
    exact nxt _ ls ⟨n, ts, wz, hZ⟩ hl
  · by_cases hs : kShown V n r (xs (i + 2)) = -3
    · by_cases h1 : xs (i + 2) < 0
      · skip
        refine r_aload_n h d_La_law_151 rfl (lv_at hl 1 rfl) ?_
        refine r_aload_n h d_La_law_152 rfl (lv_at hl 0 rfl) ?_
        refine r_iload_n h d_La_law_153 rfl (lv_at hl 3 rfl) ?_
        refine r_iconst h (v := 1) d_La_law_154 (by decide) ?_
        refine r_iadd h d_La_law_155 ?_
        refine r_top (nI (i + 1)) (nI_add i 1) ?_
        refine r_sldN h hS (i := (i + 1)) (by omega) (by omega) d_La_law_156 ?_
        refine r_top (nI r) ha ?_
        refine r_aload_n h d_La_law_157 rfl (lv_at hl 0 rfl) ?_
        refine r_iload_n h d_La_law_158 rfl (lv_at hl 3 rfl) ?_
        refine r_iconst h (v := 2) d_La_law_159 (by decide) ?_
        refine r_iadd h d_La_law_160 ?_
        refine r_top (nI (i + 2)) (nI_add i 2) ?_
        refine r_sldN h hS (i := (i + 2)) (by omega) (by omega) d_La_law_161 ?_
        refine r_callVi h (k := 0) (n := 2) (As := [.int (nI r), .int (xs (i + 2))]) (c_St_erase_c l D cA cR ad hI V (xs (i + 2)) r hr n ts wz hV hs) g_La_18 (by decide +kernel) rfl ⟨by decide, by decide⟩ (by decide) rfl rfl hl rfl (Nat.le_of_ble_eq_true rfl) d_La_law_162 ?_
        refine r_aload_n h d_La_law_165 rfl (lv_at hl 2 rfl) ?_
        refine r_aload_n h d_La_law_166 rfl (lv_at hl 0 rfl) ?_
        refine r_iload_n h d_La_law_167 rfl (lv_at hl 3 rfl) ?_
        refine r_iconst h (v := 1) d_La_law_168 (by decide) ?_
        refine r_iadd h d_La_law_169 ?_
        refine r_top (nI (i + 1)) (nI_add i 1) ?_
        refine r_sldN h hS (i := (i + 1)) (by omega) (by omega) d_La_law_170 ?_
        refine r_top (nI r) ha ?_
        refine r_aload_n h d_La_law_171 rfl (lv_at hl 0 rfl) ?_
        refine r_iload_n h d_La_law_172 rfl (lv_at hl 3 rfl) ?_
        refine r_iconst h (v := 2) d_La_law_173 (by decide) ?_
        refine r_iadd h d_La_law_174 ?_
        refine r_top (nI (i + 2)) (nI_add i 2) ?_
        refine r_sldN h hS (i := (i + 2)) (by omega) (by omega) d_La_law_175 ?_
        refine r_callVi h (k := 27) (n := 2) (As := [.int (nI r), .int (xs (i + 2))]) (c_Mo_erase_c l D cA cR ad hI V (xs (i + 2)) r hr n hK h1) g_La_22 (by decide +kernel) rfl ⟨by decide, by decide⟩ (by decide) rfl rfl hl rfl (Nat.le_of_ble_eq_true rfl) d_La_law_176 ?_
        refine r_icmp_eq_t h 543 d_La_law_179 (by decide) rfl ?_
        exact nxt _ ls ⟨n, ts, wz, hZ⟩ hl
      · have h2 : nI (mCnt V n r 1 1) ≤ xs (i + 2) := by
          rw [s_cnt1 hV hR hr]
          rcases (s_none hV r _).mp hs with q | q
          · exact absurd q h1
          · exact q
        refine r_aload_n h d_La_law_151 rfl (lv_at hl 1 rfl) ?_
        refine r_aload_n h d_La_law_152 rfl (lv_at hl 0 rfl) ?_
        refine r_iload_n h d_La_law_153 rfl (lv_at hl 3 rfl) ?_
        refine r_iconst h (v := 1) d_La_law_154 (by decide) ?_
        refine r_iadd h d_La_law_155 ?_
        refine r_top (nI (i + 1)) (nI_add i 1) ?_
        refine r_sldN h hS (i := (i + 1)) (by omega) (by omega) d_La_law_156 ?_
        refine r_top (nI r) ha ?_
        refine r_aload_n h d_La_law_157 rfl (lv_at hl 0 rfl) ?_
        refine r_iload_n h d_La_law_158 rfl (lv_at hl 3 rfl) ?_
        refine r_iconst h (v := 2) d_La_law_159 (by decide) ?_
        refine r_iadd h d_La_law_160 ?_
        refine r_top (nI (i + 2)) (nI_add i 2) ?_
        refine r_sldN h hS (i := (i + 2)) (by omega) (by omega) d_La_law_161 ?_
        refine r_callVi h (k := 0) (n := 2) (As := [.int (nI r), .int (xs (i + 2))]) (c_St_erase_c l D cA cR ad hI V (xs (i + 2)) r hr n ts wz hV hs) g_La_18 (by decide +kernel) rfl ⟨by decide, by decide⟩ (by decide) rfl rfl hl rfl (Nat.le_of_ble_eq_true rfl) d_La_law_162 ?_
        refine r_aload_n h d_La_law_165 rfl (lv_at hl 2 rfl) ?_
        refine r_aload_n h d_La_law_166 rfl (lv_at hl 0 rfl) ?_
        refine r_iload_n h d_La_law_167 rfl (lv_at hl 3 rfl) ?_
        refine r_iconst h (v := 1) d_La_law_168 (by decide) ?_
        refine r_iadd h d_La_law_169 ?_
        refine r_top (nI (i + 1)) (nI_add i 1) ?_
        refine r_sldN h hS (i := (i + 1)) (by omega) (by omega) d_La_law_170 ?_
        refine r_top (nI r) ha ?_
        refine r_aload_n h d_La_law_171 rfl (lv_at hl 0 rfl) ?_
        refine r_iload_n h d_La_law_172 rfl (lv_at hl 3 rfl) ?_
        refine r_iconst h (v := 2) d_La_law_173 (by decide) ?_
        refine r_iadd h d_La_law_174 ?_
        refine r_top (nI (i + 2)) (nI_add i 2) ?_
        refine r_sldN h hS (i := (i + 2)) (by omega) (by omega) d_La_law_175 ?_
        refine r_callVi h (k := 27) (n := 2) (As := [.int (nI r), .int (xs (i + 2))]) (c_Mo_erase_d l D cA cR ad hI V (xs (i + 2)) r hr n hK (Int32.not_lt.mp h1) h2) g_La_22 (by decide +kernel) rfl ⟨by decide, by decide⟩ (by decide) rfl rfl hl rfl (Nat.le_of_ble_eq_true rfl) d_La_law_176 ?_
        refine r_icmp_eq_t h 543 d_La_law_179 (by decide) rfl ?_
        exact nxt _ ls ⟨n, ts, wz, hZ⟩ hl
    · obtain ⟨e, he, hse, hme⟩ := s_el hV r hs
      cases h4 : kFull V (nI r) with
      | true =>
        have hno := fun q => hs ((s_none hV r _).mpr q)
        refine r_aload_n h d_La_law_151 rfl (lv_at hl 1 rfl) ?_
        refine r_aload_n h d_La_law_152 rfl (lv_at hl 0 rfl) ?_
        refine r_iload_n h d_La_law_153 rfl (lv_at hl 3 rfl) ?_
        refine r_iconst h (v := 1) d_La_law_154 (by decide) ?_
        refine r_iadd h d_La_law_155 ?_
        refine r_top (nI (i + 1)) (nI_add i 1) ?_
        refine r_sldN h hS (i := (i + 1)) (by omega) (by omega) d_La_law_156 ?_
        refine r_top (nI r) ha ?_
        refine r_aload_n h d_La_law_157 rfl (lv_at hl 0 rfl) ?_
        refine r_iload_n h d_La_law_158 rfl (lv_at hl 3 rfl) ?_
        refine r_iconst h (v := 2) d_La_law_159 (by decide) ?_
        refine r_iadd h d_La_law_160 ?_
        refine r_top (nI (i + 2)) (nI_add i 2) ?_
        refine r_sldN h hS (i := (i + 2)) (by omega) (by omega) d_La_law_161 ?_
        refine r_callVi h (k := 0) (n := 2) (As := [.int (nI r), .int (xs (i + 2))]) (c_St_erase_d l D cA cR ad hI V (xs (i + 2)) r hr n ts wz hV hs h4) g_La_18 (by decide +kernel) rfl ⟨by decide, by decide⟩ (by decide) rfl rfl hl rfl (Nat.le_of_ble_eq_true rfl) d_La_law_162 ?_
        refine r_aload_n h d_La_law_165 rfl (lv_at hl 2 rfl) ?_
        refine r_aload_n h d_La_law_166 rfl (lv_at hl 0 rfl) ?_
        refine r_iload_n h d_La_law_167 rfl (lv_at hl 3 rfl) ?_
        refine r_iconst h (v := 1) d_La_law_168 (by decide) ?_
        refine r_iadd h d_La_law_169 ?_
        refine r_top (nI (i + 1)) (nI_add i 1) ?_
        refine r_sldN h hS (i := (i + 1)) (by omega) (by omega) d_La_law_170 ?_
        refine r_top (nI r) ha ?_
        refine r_aload_n h d_La_law_171 rfl (lv_at hl 0 rfl) ?_
        refine r_iload_n h d_La_law_172 rfl (lv_at hl 3 rfl) ?_
        refine r_iconst h (v := 2) d_La_law_173 (by decide) ?_
        refine r_iadd h d_La_law_174 ?_
        refine r_top (nI (i + 2)) (nI_add i 2) ?_
        refine r_sldN h hS (i := (i + 2)) (by omega) (by omega) d_La_law_175 ?_
        refine r_callVi h (k := 27) (n := 2) (As := [.int (nI r), .int (xs (i + 2))]) (c_Mo_erase_e l D cA cR ad hI V (xs (i + 2)) r hr n hK (Int32.not_lt.mp (fun q => hno (Or.inl q))) (by rw [s_cnt1 hV hR hr]; exact Int32.not_le.mp (fun q => hno (Or.inr q))) (by rw [s_full hV hR]; exact h4)) g_La_22 (by decide +kernel) rfl ⟨by decide, by decide⟩ (by decide) rfl rfl hl rfl (Nat.le_of_ble_eq_true rfl) d_La_law_176 ?_
        refine r_icmp_eq_t h 543 d_La_law_179 (by decide) rfl ?_
        exact nxt _ ls ⟨n, ts, wz, hZ⟩ hl
      | false =>
        obtain ⟨V1, hV1⟩ : ∃ V1, V1 = kSnd (wU V (6 * r + 10) e 2) r (-10 - nI e) := ⟨_, rfl⟩
        obtain ⟨q1, q2, q3, q4, q5, q6, q7⟩ := L_era hZ hr he hse hme h4 hV1
        refine r_aload_n h d_La_law_151 rfl (lv_at hl 1 rfl) ?_
        refine r_aload_n h d_La_law_152 rfl (lv_at hl 0 rfl) ?_
        refine r_iload_n h d_La_law_153 rfl (lv_at hl 3 rfl) ?_
        refine r_iconst h (v := 1) d_La_law_154 (by decide) ?_
        refine r_iadd h d_La_law_155 ?_
        refine r_top (nI (i + 1)) (nI_add i 1) ?_
        refine r_sldN h hS (i := (i + 1)) (by omega) (by omega) d_La_law_156 ?_
        refine r_top (nI r) ha ?_
        refine r_aload_n h d_La_law_157 rfl (lv_at hl 0 rfl) ?_
        refine r_iload_n h d_La_law_158 rfl (lv_at hl 3 rfl) ?_
        refine r_iconst h (v := 2) d_La_law_159 (by decide) ?_
        refine r_iadd h d_La_law_160 ?_
        refine r_top (nI (i + 2)) (nI_add i 2) ?_
        refine r_sldN h hS (i := (i + 2)) (by omega) (by omega) d_La_law_161 ?_
        refine r_callVi h (k := 0) (n := 2) (As := [.int (nI r), .int (xs (i + 2))]) (c_St_erase l D cA cR ad hI V (xs (i + 2)) r hr n ts wz hV e he hse h4) g_La_18 (by decide +kernel) rfl ⟨by decide, by decide⟩ (by decide) rfl rfl hl rfl (Nat.le_of_ble_eq_true rfl) d_La_law_162 ?_
        refine r_V (V' := V1) hV1.symm ?_
        refine r_aload_n h d_La_law_165 rfl (lv_at hl 2 rfl) ?_
        refine r_aload_n h d_La_law_166 rfl (lv_at hl 0 rfl) ?_
        refine r_iload_n h d_La_law_167 rfl (lv_at hl 3 rfl) ?_
        refine r_iconst h (v := 1) d_La_law_168 (by decide) ?_
        refine r_iadd h d_La_law_169 ?_
        refine r_top (nI (i + 1)) (nI_add i 1) ?_
        refine r_sldN h hS (i := (i + 1)) (by omega) (by omega) d_La_law_170 ?_
        refine r_top (nI r) ha ?_
        refine r_aload_n h d_La_law_171 rfl (lv_at hl 0 rfl) ?_
        refine r_iload_n h d_La_law_172 rfl (lv_at hl 3 rfl) ?_
        refine r_iconst h (v := 2) d_La_law_173 (by decide) ?_
        refine r_iadd h d_La_law_174 ?_
        refine r_top (nI (i + 2)) (nI_add i 2) ?_
        refine r_sldN h hS (i := (i + 2)) (by omega) (by omega) d_La_law_175 ?_
        refine r_callVi h (k := 27) (n := 2) (As := [.int (nI r), .int (xs (i + 2))]) (c_Mo_erase l D cA cR ad hI V1 (xs (i + 2)) r hr n q1 q2 q3 q4 e he q5 q6) g_La_22 (by decide +kernel) rfl ⟨by decide, by decide⟩ (by decide) rfl rfl hl rfl (Nat.le_of_ble_eq_true rfl) d_La_law_176 ?_
        refine r_icmp_eq_t h 543 d_La_law_179 (by decide) rfl ?_
        exact nxt _ ls q7 hl
set_option maxHeartbeats 4000000 in
set_option maxRecDepth 100000 in
theorem law_c2 (l : Launch) (D : va_G) (cA cR : ClassId) (ad : Nat → Nat) (hI : wI ad) {X : gX} {b L : Nat} {xs : Nat → Int32} (hL : L ≤ 2048) (h : gok X l D room_1 cA cR ad b_La_law 4 R_La) (hS : gS X b L xs) (i : Nat) (hi : i + 4 ≤ L) (V : Nat → Nat → Int32) (n : Nat) (ts wz : Nat → Nat) (hZ : kZ V V n ts wz) (nxt : ∀ (V : Nat → Nat → Int32) (ls : Array Slot), (∃ n ts wz, kZ V V n ts wz) → lv_has ls 4 [(0, .ref b), (1, .ref (ad 0)), (2, .ref (ad 27)), (3, .int (nI i))] → wv X cA cR ad V 543 ls []) (ls : Array Slot) (hl : lv_has ls 4 [(0, .ref b), (1, .ref (ad 0)), (2, .ref (ad 27)), (3, .int (nI i))]) : wv X cA cR ad V 184 ls [] := by
  have hV := hZ.1
  have hR := hZ.2.2
  have hK := mK_of hV hR
  have hle := kV_n hV
  rcases z_repc (xs (i + 1)) with hb | ⟨r, hr, ha⟩
  · skip
    refine r_aload_n h d_La_law_184 rfl (lv_at hl 1 rfl) ?_
    refine r_aload_n h d_La_law_185 rfl (lv_at hl 0 rfl) ?_
    refine r_iload_n h d_La_law_186 rfl (lv_at hl 3 rfl) ?_
    refine r_iconst h (v := 1) d_La_law_187 (by decide) ?_
    refine r_iadd h d_La_law_188 ?_
    refine r_top (nI (i + 1)) (nI_add i 1) ?_
    refine r_sldN h hS (i := (i + 1)) (by omega) (by omega) d_La_law_189 ?_
    refine r_aload_n h d_La_law_190 rfl (lv_at hl 0 rfl) ?_
    refine r_iload_n h d_La_law_191 rfl (lv_at hl 3 rfl) ?_
    refine r_iconst h (v := 2) d_La_law_192 (by decide) ?_
    refine r_iadd h d_La_law_193 ?_
    refine r_top (nI (i + 2)) (nI_add i 2) ?_
    refine r_sldN h hS (i := (i + 2)) (by omega) (by omega) d_La_law_194 ?_
    refine r_callVi h (k := 0) (n := 2) (As := [.int (xs (i + 1)), .int (xs (i + 2))]) (c_St_deliver_b l D cA cR ad hI V (xs (i + 1)) hb (xs (i + 2))) g_La_23 (by decide +kernel) rfl ⟨by decide, by decide⟩ (by decide) rfl rfl hl rfl (Nat.le_of_ble_eq_true rfl) d_La_law_195 ?_
    refine r_aload_n h d_La_law_198 rfl (lv_at hl 2 rfl) ?_
    refine r_aload_n h d_La_law_199 rfl (lv_at hl 0 rfl) ?_
    refine r_iload_n h d_La_law_200 rfl (lv_at hl 3 rfl) ?_
    refine r_iconst h (v := 1) d_La_law_201 (by decide) ?_
    refine r_iadd h d_La_law_202 ?_
    refine r_top (nI (i + 1)) (nI_add i 1) ?_
    refine r_sldN h hS (i := (i + 1)) (by omega) (by omega) d_La_law_203 ?_
    refine r_aload_n h d_La_law_204 rfl (lv_at hl 0 rfl) ?_
    refine r_iload_n h d_La_law_205 rfl (lv_at hl 3 rfl) ?_
    refine r_iconst h (v := 2) d_La_law_206 (by decide) ?_
    refine r_iadd h d_La_law_207 ?_
    refine r_top (nI (i + 2)) (nI_add i 2) ?_
    refine r_sldN h hS (i := (i + 2)) (by omega) (by omega) d_La_law_208 ?_
    refine r_callVi h (k := 27) (n := 2) (As := [.int (xs (i + 1)), .int (xs (i + 2))]) (c_Mo_deliver_b l D cA cR ad hI V (xs (i + 1)) hb (xs (i + 2))) g_La_26 (by decide +kernel) rfl ⟨by decide, by decide⟩ (by decide) rfl rfl hl rfl (Nat.le_of_ble_eq_true rfl) d_La_law_209 ?_
    refine r_icmp_eq_t h 543 d_La_law_212 (by decide) rfl ?_
    exact nxt _ ls ⟨n, ts, wz, hZ⟩ hl
  · cases h1 : (decide (0 ≤ xs (i + 2)) && decide (xs (i + 2) < V (6 * r + 11) 0)) with
    | false =>
      refine r_aload_n h d_La_law_184 rfl (lv_at hl 1 rfl) ?_
      refine r_aload_n h d_La_law_185 rfl (lv_at hl 0 rfl) ?_
      refine r_iload_n h d_La_law_186 rfl (lv_at hl 3 rfl) ?_
      refine r_iconst h (v := 1) d_La_law_187 (by decide) ?_
      refine r_iadd h d_La_law_188 ?_
      refine r_top (nI (i + 1)) (nI_add i 1) ?_
      refine r_sldN h hS (i := (i + 1)) (by omega) (by omega) d_La_law_189 ?_
      refine r_top (nI r) ha ?_
      refine r_aload_n h d_La_law_190 rfl (lv_at hl 0 rfl) ?_
      refine r_iload_n h d_La_law_191 rfl (lv_at hl 3 rfl) ?_
      refine r_iconst h (v := 2) d_La_law_192 (by decide) ?_
      refine r_iadd h d_La_law_193 ?_
      refine r_top (nI (i + 2)) (nI_add i 2) ?_
      refine r_sldN h hS (i := (i + 2)) (by omega) (by omega) d_La_law_194 ?_
      refine r_callVi h (k := 0) (n := 2) (As := [.int (nI r), .int (xs (i + 2))]) (c_St_deliver_c l D cA cR ad hI V (xs (i + 2)) r hr h1) g_La_23 (by decide +kernel) rfl ⟨by decide, by decide⟩ (by decide) rfl rfl hl rfl (Nat.le_of_ble_eq_true rfl) d_La_law_195 ?_
      refine r_aload_n h d_La_law_198 rfl (lv_at hl 2 rfl) ?_
      refine r_aload_n h d_La_law_199 rfl (lv_at hl 0 rfl) ?_
      refine r_iload_n h d_La_law_200 rfl (lv_at hl 3 rfl) ?_
      refine r_iconst h (v := 1) d_La_law_201 (by decide) ?_
      refine r_iadd h d_La_law_202 ?_
      refine r_top (nI (i + 1)) (nI_add i 1) ?_
      refine r_sldN h hS (i := (i + 1)) (by omega) (by omega) d_La_law_203 ?_
      refine r_top (nI r) ha ?_
      refine r_aload_n h d_La_law_204 rfl (lv_at hl 0 rfl) ?_
      refine r_iload_n h d_La_law_205 rfl (lv_at hl 3 rfl) ?_
      refine r_iconst h (v := 2) d_La_law_206 (by decide) ?_
      refine r_iadd h d_La_law_207 ?_
      refine r_top (nI (i + 2)) (nI_add i 2) ?_
      refine r_sldN h hS (i := (i + 2)) (by omega) (by omega) d_La_law_208 ?_
      refine r_callVi h (k := 27) (n := 2) (As := [.int (nI r), .int (xs (i + 2))]) (c_Mo_deliver_c l D cA cR ad hI V (xs (i + 2)) r hr (by rw [(hR.2.2.2.2.2.2.2 r hr).2.1]; exact h1)) g_La_26 (by decide +kernel) rfl ⟨by decide, by decide⟩ (by decide) rfl rfl hl rfl (Nat.le_of_ble_eq_true rfl) d_La_law_209 ?_
      refine r_icmp_eq_t h 543 d_La_law_212 (by decide) rfl ?_
      exact nxt _ ls ⟨n, ts, wz, hZ⟩ hl
    | true =>
      obtain ⟨k, hk, hka⟩ := z_has (kV_ts hV hr).1 (by have := (kV_ts hV hr).2; omega) h1
      cases hrd : kRdy (kTake V (6 * r + 11) (ts r) k) r (V (6 * r + 12) k) with
      | false =>
        obtain ⟨V1, hV1⟩ : ∃ V1, V1 = kPut (kTake V (6 * r + 11) (ts r) k) (6 * r + 13) (wz r) (V (6 * r + 12) k) := ⟨_, rfl⟩
        obtain ⟨ho, q2⟩ := L_del0 hZ hr hk hrd hV1
        obtain ⟨hZ1, h35, hr1⟩ := L_del hZ hr hk ho
        refine r_aload_n h d_La_law_184 rfl (lv_at hl 1 rfl) ?_
        refine r_aload_n h d_La_law_185 rfl (lv_at hl 0 rfl) ?_
        refine r_iload_n h d_La_law_186 rfl (lv_at hl 3 rfl) ?_
        refine r_iconst h (v := 1) d_La_law_187 (by decide) ?_
        refine r_iadd h d_La_law_188 ?_
        refine r_top (nI (i + 1)) (nI_add i 1) ?_
        refine r_sldN h hS (i := (i + 1)) (by omega) (by omega) d_La_law_189 ?_
        refine r_top (nI r) ha ?_
        refine r_aload_n h d_La_law_190 rfl (lv_at hl 0 rfl) ?_
        refine r_iload_n h d_La_law_191 rfl (lv_at hl 3 rfl) ?_
        refine r_iconst h (v := 2) d_La_law_192 (by decide) ?_
        refine r_iadd h d_La_law_193 ?_
        refine r_top (nI (i + 2)) (nI_add i 2) ?_
        refine r_sldN h hS (i := (i + 2)) (by omega) (by omega) d_La_law_194 ?_
        refine r_top (nI k) hka ?_
        refine r_callVi h (k := 0) (n := 2) (As := [.int (nI r), .int (nI k)]) (c_St_deliver_d l D cA cR ad hI V r hr n ts wz V hZ k hk hrd) g_La_23 (by decide +kernel) rfl ⟨by decide, by decide⟩ (by decide) rfl rfl hl rfl (Nat.le_of_ble_eq_true rfl) d_La_law_195 ?_
        refine r_V (V' := V1) hV1.symm ?_
        refine r_aload_n h d_La_law_198 rfl (lv_at hl 2 rfl) ?_
        refine r_aload_n h d_La_law_199 rfl (lv_at hl 0 rfl) ?_
        refine r_iload_n h d_La_law_200 rfl (lv_at hl 3 rfl) ?_
        refine r_iconst h (v := 1) d_La_law_201 (by decide) ?_
        refine r_iadd h d_La_law_202 ?_
        refine r_top (nI (i + 1)) (nI_add i 1) ?_
        refine r_sldN h hS (i := (i + 1)) (by omega) (by omega) d_La_law_203 ?_
        refine r_top (nI r) ha ?_
        refine r_aload_n h d_La_law_204 rfl (lv_at hl 0 rfl) ?_
        refine r_iload_n h d_La_law_205 rfl (lv_at hl 3 rfl) ?_
        refine r_iconst h (v := 2) d_La_law_206 (by decide) ?_
        refine r_iadd h d_La_law_207 ?_
        refine r_top (nI (i + 2)) (nI_add i 2) ?_
        refine r_sldN h hS (i := (i + 2)) (by omega) (by omega) d_La_law_208 ?_
        refine r_top (nI k) hka ?_
        refine r_callVi h (k := 27) (n := 2) (As := [.int (nI r), .int (nI k)]) (c_Mo_deliver_d l D cA cR ad hI V1 r hr V n ts wz hZ1 k hk (hr1.trans hrd)) g_La_26 (by decide +kernel) rfl ⟨by decide, by decide⟩ (by decide) rfl rfl hl rfl (Nat.le_of_ble_eq_true rfl) d_La_law_209 ?_
        refine r_icmp_eq_t h 543 d_La_law_212 (by decide) rfl ?_
        exact nxt _ ls q2 hl
      | true =>
        obtain ⟨V1, hV1⟩ : ∃ V1, V1 = (kWk r (wz r) (kEff (kTake V (6 * r + 11) (ts r) k) r (V (6 * r + 12) k)) (wz r)).1 := ⟨_, rfl⟩
        obtain ⟨ho, q1, q2⟩ := L_del1 hZ hr hk hrd hV1
        obtain ⟨hZ1, h35, hr1⟩ := L_del hZ hr hk ho
        refine r_aload_n h d_La_law_184 rfl (lv_at hl 1 rfl) ?_
        refine r_aload_n h d_La_law_185 rfl (lv_at hl 0 rfl) ?_
        refine r_iload_n h d_La_law_186 rfl (lv_at hl 3 rfl) ?_
        refine r_iconst h (v := 1) d_La_law_187 (by decide) ?_
        refine r_iadd h d_La_law_188 ?_
        refine r_top (nI (i + 1)) (nI_add i 1) ?_
        refine r_sldN h hS (i := (i + 1)) (by omega) (by omega) d_La_law_189 ?_
        refine r_top (nI r) ha ?_
        refine r_aload_n h d_La_law_190 rfl (lv_at hl 0 rfl) ?_
        refine r_iload_n h d_La_law_191 rfl (lv_at hl 3 rfl) ?_
        refine r_iconst h (v := 2) d_La_law_192 (by decide) ?_
        refine r_iadd h d_La_law_193 ?_
        refine r_top (nI (i + 2)) (nI_add i 2) ?_
        refine r_sldN h hS (i := (i + 2)) (by omega) (by omega) d_La_law_194 ?_
        refine r_top (nI k) hka ?_
        refine r_callVi h (k := 0) (n := 2) (As := [.int (nI r), .int (nI k)]) (c_St_deliver l D cA cR ad hI V r hr n ts wz V hZ k hk hrd) g_La_23 (by decide +kernel) rfl ⟨by decide, by decide⟩ (by decide) rfl rfl hl rfl (Nat.le_of_ble_eq_true rfl) d_La_law_195 ?_
        refine r_V (V' := V1) hV1.symm ?_
        refine r_aload_n h d_La_law_198 rfl (lv_at hl 2 rfl) ?_
        refine r_aload_n h d_La_law_199 rfl (lv_at hl 0 rfl) ?_
        refine r_iload_n h d_La_law_200 rfl (lv_at hl 3 rfl) ?_
        refine r_iconst h (v := 1) d_La_law_201 (by decide) ?_
        refine r_iadd h d_La_law_202 ?_
        refine r_top (nI (i + 1)) (nI_add i 1) ?_
        refine r_sldN h hS (i := (i + 1)) (by omega) (by omega) d_La_law_203 ?_
        refine r_top (nI r) ha ?_
        refine r_aload_n h d_La_law_204 rfl (lv_at hl 0 rfl) ?_
        refine r_iload_n h d_La_law_205 rfl (lv_at hl 3 rfl) ?_
        refine r_iconst h (v := 2) d_La_law_206 (by decide) ?_
        refine r_iadd h d_La_law_207 ?_
        refine r_top (nI (i + 2)) (nI_add i 2) ?_
        refine r_sldN h hS (i := (i + 2)) (by omega) (by omega) d_La_law_208 ?_
        refine r_top (nI k) hka ?_
        refine r_callVi h (k := 27) (n := 2) (As := [.int (nI r), .int (nI k)]) (c_Mo_deliver l D cA cR ad hI V1 r hr V n ts wz hZ1 k hk (hr1.trans hrd)) g_La_26 (by decide +kernel) rfl ⟨by decide, by decide⟩ (by decide) rfl rfl hl rfl (Nat.le_of_ble_eq_true rfl) d_La_law_209 ?_
        refine r_icmp_eq_t h 543 d_La_law_212 (by decide) (by rw [q1]) ?_
        exact nxt _ ls q2 hl
set_option maxHeartbeats 4000000 in
set_option maxRecDepth 100000 in
/-- the law's loop -/
theorem law_loop (l : Launch) (D : va_G) (cA cR : ClassId) (ad : Nat → Nat) (hI : wI ad) {X : gX} {b L : Nat} {xs : Nat → Int32} (hL : L ≤ 2048) (h : gok X l D room_1 cA cR ad b_La_law 4 R_La) (hS : gS X b L xs) (hG : gL X b) : ∀ (f i : Nat) (V : Nat → Nat → Int32) (ls : Array Slot), i ≤ L → L < i + f → (∃ n ts wz, kZ V V n ts wz) → lv_has ls 4 [(0, .ref b), (1, .ref (ad 0)), (2, .ref (ad 27)), (3, .int (nI i))] → wv X cA cR ad V 18 ls [] := by
  intro f
  induction f with
  | zero => intro i V ls h1 h2; exact absurd h2 (by omega)
  | succ f ih =>
    intro i V ls h1 h2 hZ hl
    have nxt : i + 4 ≤ L → ∀ (V : Nat → Nat → Int32) (ls : Array Slot), (∃ n ts wz, kZ V V n ts wz) → lv_has ls 4 [(0, .ref b), (1, .ref (ad 0)), (2, .ref (ad 27)), (3, .int (nI i))] → wv X cA cR ad V 543 ls [] := by
      intro hi V ls hZ hl
      refine r_iinc h (v := nI (i + 4)) (lv' := [(3, .int (nI (i + 4))), (0, .ref b), (1, .ref (ad 0)), (2, .ref (ad 27))]) d_La_law_543 hl (k := 3) rfl (z_inc4 i) (by decide) rfl (fun ls hl => ?_)
      refine r_goto h 18 d_La_law_546 (by decide) ?_
      exact ih (i + 4) V ls (by omega) (by omega) hZ (lv_sub hl [1, 2, 3, 0] rfl)
    obtain ⟨n, ts, wz, hZ⟩ := hZ
    refine r_iload_n h d_La_law_18 rfl (lv_at hl 3 rfl) ?_
    refine r_aload_n h d_La_law_19 rfl (lv_at hl 0 rfl) ?_
    refine r_slen h hS d_La_law_20 ?_
    refine r_iconst h (v := 4) d_La_law_21 (by decide) ?_
    refine r_isub h d_La_law_22 ?_
    refine r_icmp_gt h 549 d_La_law_23 (by decide) (fun c23 => ?_) (fun c23 => ?_)
    · skip
      refine r_iconst h (v := 1) d_La_law_549 (by decide) ?_
      exact r_lret h hG d_La_law_550
    · skip
      have hi : i + 4 ≤ L := by
        rcases Nat.lt_or_ge L (i + 4) with q | q
        · exact absurd ((z_L4 hL (by omega)).mpr q) (Int32.not_lt.mpr c23)
        · exact q
      refine r_aload_n h d_La_law_26 rfl (lv_at hl 0 rfl) ?_
      refine r_iload_n h d_La_law_27 rfl (lv_at hl 3 rfl) ?_
      refine r_sldN h hS (i := i) (by omega) (by omega) d_La_law_28 ?_
      refine r_bipush h (v := 15) d_La_law_29 (by decide) ?_
      refine r_iand h d_La_law_31 ?_
      obtain ⟨j, hj, hjx⟩ := pk_andE (xs i) (m := 15) 4 (by decide)
      refine r_top (nI j) hjx ?_
      match j, hj with
      | 0, _ => exact r_tabIn h 108 d_La_law_32 (by decide) (by decide) rfl (by decide) (law_c0 l D cA cR ad hI hL h hS i hi V n ts wz hZ (nxt hi) ls hl)
      | 1, _ => exact r_tabIn h 151 d_La_law_32 (by decide) (by decide) rfl (by decide) (law_c1 l D cA cR ad hI hL h hS i hi V n ts wz hZ (nxt hi) ls hl)
      | 2, _ => exact r_tabIn h 184 d_La_law_32 (by decide) (by decide) rfl (by decide) (law_c2 l D cA cR ad hI hL h hS i hi V n ts wz hZ (nxt hi) ls hl)
      | 3, _ => exact r_tabIn h 217 d_La_law_32 (by decide) (by decide) rfl (by decide) (law_c3 l D cA cR ad hI hL h hS i hi V n ts wz hZ (nxt hi) ls hl)
      | 4, _ => exact r_tabIn h 240 d_La_law_32 (by decide) (by decide) rfl (by decide) (law_c4 l D cA cR ad hI hL h hS i hi V n ts wz hZ (nxt hi) ls hl)
      | 5, _ => exact r_tabIn h 273 d_La_law_32 (by decide) (by decide) rfl (by decide) (law_c5 l D cA cR ad hI hL h hS i hi V n ts wz hZ (nxt hi) ls hl)
      | 6, _ => exact r_tabIn h 306 d_La_law_32 (by decide) (by decide) rfl (by decide) (law_c6 l D cA cR ad hI hL h hS i hi V n ts wz hZ (nxt hi) ls hl)
      | 7, _ => exact r_tabIn h 329 d_La_law_32 (by decide) (by decide) rfl (by decide) (law_c7 l D cA cR ad hI hL h hS i hi V n ts wz hZ (nxt hi) ls hl)
      | 8, _ => exact r_tabIn h 362 d_La_law_32 (by decide) (by decide) rfl (by decide) (law_c8 l D cA cR ad hI hL h hS i hi V n ts wz hZ (nxt hi) ls hl)
      | 9, _ => exact r_tabIn h 385 d_La_law_32 (by decide) (by decide) rfl (by decide) (law_c9 l D cA cR ad hI hL h hS i hi V n ts wz hZ (nxt hi) ls hl)
      | 10, _ => exact r_tabIn h 408 d_La_law_32 (by decide) (by decide) rfl (by decide) (law_c10 l D cA cR ad hI hL h hS i hi V n ts wz hZ (nxt hi) ls hl)
      | 11, _ => exact r_tabIn h 441 d_La_law_32 (by decide) (by decide) rfl (by decide) (law_c11 l D cA cR ad hI hL h hS i hi V n ts wz hZ (nxt hi) ls hl)
      | 12, _ => exact r_tabIn h 454 d_La_law_32 (by decide) (by decide) rfl (by decide) (law_c12 l D cA cR ad hI hL h hS i hi V n ts wz hZ (nxt hi) ls hl)
      | 13, _ => exact r_tabIn h 487 d_La_law_32 (by decide) (by decide) rfl (by decide) (law_c13 l D cA cR ad hI hL h hS i hi V n ts wz hZ (nxt hi) ls hl)
      | 14, _ => exact r_tabIn h 510 d_La_law_32 (by decide) (by decide) rfl (by decide) (law_c14 l D cA cR ad hI hL h hS i hi V n ts wz hZ (nxt hi) ls hl)
      | 15, _ => exact r_tabOut h 543 d_La_law_32 (by decide) (by decide) (nxt hi V ls ⟨n, ts, wz, hZ⟩ hl)
      | j + 16, hj => exact absurd hj (by omega)
