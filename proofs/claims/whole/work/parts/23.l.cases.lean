set_option maxRecDepth 100000 in
set_option maxHeartbeats 4000000 in
theorem lk_feed {p : Program} {l : Launch} {e : Env} {s : State} {m : MethodId} {below : List Frame} {meth : Method} {c : Code} {b L : Nat} {xs : Nat → Int32} (C0 : lw_At p s m meth c b L xs) {D : va_G} {cy : CY} {z : CZ} (hV : lV D cy z (fun q => s.heap.size ≤ q) s) (n : Nat) {Rl : CS → MS → Prop} (hS : st_feed n Rl) {ad am : Nat → Nat} {γ : CS} {μ : MS} (hRl : Rl γ μ) {j : Nat} (hj : j < 65) {x3 : Int32} (hin : ∀ k : Nat, k < 7 → vp_in (x3 + nI k) L) {H : Heap} {locs : List Loc} {ls : Array Slot} (hB : lB D ad am cy (fun q => s.heap.size ≤ q) s.heap γ μ H locs) (hl : lv_has ls 4 [(0, .ref b), (1, .ref (ad 0)), (2, .ref (am 0)), (3, .int x3)])
    (hN : ∀ (ad1 : Nat → Nat) (γ1 : CS) (μ1 : MS) (H1 : Heap) (locs1 : List Loc) (ls1 : Array Slot), Rl γ1 μ1 → lB D ad1 am cy (fun q => s.heap.size ≤ q) s.heap γ1 μ1 H1 locs1 → lv_has ls1 4 [(0, .ref b), (1, .ref (ad1 0)), (2, .ref (am 0)), (3, .int x3)] → W p l e room_1 s m #[Value.ref b] below meth c H1 locs1 (59 + 3 * (j + 1)) (2231 + 45 * (j + 1)) (lw_Z below #[Value.ref b] s) (F0 m 1332 ls1 [])) : W p l e room_1 s m #[Value.ref b] below meth c H locs (59 + 3 * j) (2231 + 45 * j) (lw_Z below #[Value.ref b] s) (F0 m 188 ls []) := by
  obtain ⟨hx, hb, hr, hml, hown, hts, hX, hbl, hlocks, hgv⟩ := id C0
  have hbA : ¬ (fun q : Nat => s.heap.size ≤ q) b := Nat.not_le.mpr hbl
  obtain ⟨v1, e1⟩ : ∃ v : Int32, v = xs (x3 + 1).toNatClampNeg := ⟨_, rfl⟩
  obtain ⟨v2, e2⟩ : ∃ v : Int32, v = xs (x3 + 2).toNatClampNeg := ⟨_, rfl⟩
  obtain ⟨v3, e3⟩ : ∃ v : Int32, v = xs (x3 + 3).toNatClampNeg := ⟨_, rfl⟩
  refine lv_aload_n hx hb dL_law_188 rfl (lv_at hl 1 rfl) ?_
  refine lv_aload_n hx hb dL_law_189 rfl (lv_at hl 0 rfl) ?_
  refine lv_iload_n hx hb dL_law_190 rfl (lv_at hl 3 rfl) ?_
  refine lv_iconst (v := 1) hx hb dL_law_191 (by decide) ?_
  refine lv_iadd hx hb dL_law_192 ?_
  refine va_sld hx hb hX hbl hbA hB.2.2.2 (hin 1 (by decide)) dL_law_193 ?_
  refine W.eq (g2 := F0 m 194 ls [.int v1, .ref (ad 0)]) (by rw [e1]) ?_
  refine lv_aload_n hx hb dL_law_194 rfl (lv_at hl 0 rfl) ?_
  refine lv_iload_n hx hb dL_law_195 rfl (lv_at hl 3 rfl) ?_
  refine lv_iconst (v := 2) hx hb dL_law_196 (by decide) ?_
  refine lv_iadd hx hb dL_law_197 ?_
  refine va_sld hx hb hX hbl hbA hB.2.2.2 (hin 2 (by decide)) dL_law_198 ?_
  refine W.eq (g2 := F0 m 199 ls [.int v2, .int v1, .ref (ad 0)]) (by rw [e2]) ?_
  refine lv_i2l hx hb dL_law_199 rfl ?_
  refine lv_bipush (v := 32) hx hb dL_law_200 (by decide) ?_
  refine lv_lshl hx hb dL_law_202 rfl ?_
  refine lv_aload_n hx hb dL_law_203 rfl (lv_at hl 0 rfl) ?_
  refine lv_iload_n hx hb dL_law_204 rfl (lv_at hl 3 rfl) ?_
  refine lv_iconst (v := 3) hx hb dL_law_205 (by decide) ?_
  refine lv_iadd hx hb dL_law_206 ?_
  refine va_sld hx hb hX hbl hbA hB.2.2.2 (hin 3 (by decide)) dL_law_207 ?_
  refine W.eq (g2 := F0 m 208 ls [.int v3, .long ((Int32.toInt64 v2) <<< (Int32.toInt64 32 &&& 63)), .int v1, .ref (ad 0)]) (by rw [e3]) ?_
  refine lv_i2l hx hb dL_law_208 rfl ?_
  refine lv_ldc2 (own := RL) (v := 4294967295) hx hb hown (hts _ qLo_constantLong_13) dL_law_209 ?_
  refine lv_land hx hb dL_law_212 ?_
  refine lv_lor hx hb dL_law_213 ?_
  obtain ⟨r0, γ1, μ1, hk1, hk2, hRl1⟩ := hS γ μ v1 (((Int32.toInt64 v2) <<< (Int32.toInt64 32 &&& 63)) ||| ((Int32.toInt64 v3) &&& 4294967295)) hRl
  refine lx_call (rv := some (.int r0)) (av := [.int v1, .long (((Int32.toInt64 v2) <<< (Int32.toInt64 32 &&& 63)) ||| ((Int32.toInt64 v3) &&& 4294967295))]) (rest := []) hx hb hml hown hts hl.1 hV hB (cc_X7_feed l D ad cy z n γ v1 (((Int32.toInt64 v2) <<< (Int32.toInt64 32 &&& 63)) ||| ((Int32.toInt64 v3) &&& 4294967295)) hk1) (cwV 2 hts (gL_v wsC_in allC qLo_methodLink_15 qLp_im_X7_feed qLp_se_X7_feed qLx_ini7 qLp_co_X7_feed) rfl rfl rfl (by decide +kernel) ⟨Nat.le_of_ble_eq_true rfl, Nat.le_of_ble_eq_true rfl⟩) rfl rfl (lv_room (Nat.le_of_ble_eq_true rfl)) dL_law_214 (by show 59 + 3 * j + 0 ≤ 600000; omega) (by show 2231 + 45 * j + 0 ≤ 7302249; omega) (fun H locs hB => ?_)
  refine W.eq (g2 := F0 m 217 ls [.int r0]) rfl ?_
  refine lv_aload_n hx hb dL_law_217 rfl (lv_at hl 2 rfl) ?_
  refine lv_aload_n hx hb dL_law_218 rfl (lv_at hl 0 rfl) ?_
  refine lv_iload_n hx hb dL_law_219 rfl (lv_at hl 3 rfl) ?_
  refine lv_iconst (v := 1) hx hb dL_law_220 (by decide) ?_
  refine lv_iadd hx hb dL_law_221 ?_
  refine va_sld hx hb hX hbl hbA hB.2.2.2 (hin 1 (by decide)) dL_law_222 ?_
  refine W.eq (g2 := F0 m 223 ls [.int v1, .ref (am 0), .int r0]) (by rw [e1]) ?_
  refine lv_aload_n hx hb dL_law_223 rfl (lv_at hl 0 rfl) ?_
  refine lv_iload_n hx hb dL_law_224 rfl (lv_at hl 3 rfl) ?_
  refine lv_iconst (v := 2) hx hb dL_law_225 (by decide) ?_
  refine lv_iadd hx hb dL_law_226 ?_
  refine va_sld hx hb hX hbl hbA hB.2.2.2 (hin 2 (by decide)) dL_law_227 ?_
  refine W.eq (g2 := F0 m 228 ls [.int v2, .int v1, .ref (am 0), .int r0]) (by rw [e2]) ?_
  refine lv_i2l hx hb dL_law_228 rfl ?_
  refine lv_bipush (v := 32) hx hb dL_law_229 (by decide) ?_
  refine lv_lshl hx hb dL_law_231 rfl ?_
  refine lv_aload_n hx hb dL_law_232 rfl (lv_at hl 0 rfl) ?_
  refine lv_iload_n hx hb dL_law_233 rfl (lv_at hl 3 rfl) ?_
  refine lv_iconst (v := 3) hx hb dL_law_234 (by decide) ?_
  refine lv_iadd hx hb dL_law_235 ?_
  refine va_sld hx hb hX hbl hbA hB.2.2.2 (hin 3 (by decide)) dL_law_236 ?_
  refine W.eq (g2 := F0 m 237 ls [.int v3, .long ((Int32.toInt64 v2) <<< (Int32.toInt64 32 &&& 63)), .int v1, .ref (am 0), .int r0]) (by rw [e3]) ?_
  refine lv_i2l hx hb dL_law_237 rfl ?_
  refine lv_ldc2 (own := RL) (v := 4294967295) hx hb hown (hts _ qLo_constantLong_13) dL_law_238 ?_
  refine lv_land hx hb dL_law_241 ?_
  refine lv_lor hx hb dL_law_242 ?_
  refine lm_calli (r0 := r0) (av := [.int v1, .long (((Int32.toInt64 v2) <<< (Int32.toInt64 32 &&& 63)) ||| ((Int32.toInt64 v3) &&& 4294967295))]) (rest := [.int r0]) hx hb hml hown hts hl.1 hV hB (cm_feed l D am cy.1 n μ v1 (((Int32.toInt64 v2) <<< (Int32.toInt64 32 &&& 63)) ||| ((Int32.toInt64 v3) &&& 4294967295)) hk2) (cwV 2 hts (gL_v wsM_in allM qLo_methodLink_19 qLp_im_X8_feed qLp_se_X8_feed qLx_ini8 qLp_co_X8_feed) rfl rfl rfl (by decide +kernel) ⟨Nat.le_of_ble_eq_true rfl, Nat.le_of_ble_eq_true rfl⟩) rfl rfl (lv_room (Nat.le_of_ble_eq_true rfl)) dL_law_243 (by show 59 + 3 * j + 0 ≤ 600000; omega) (by show 2231 + 45 * j + 0 ≤ 7302249; omega) (fun H locs hB => ?_)
  refine lv_icmp_eq (tgt := 1332) hx hb dL_law_246 (by decide) (fun _ => ?_) (fun c2 => absurd rfl c2)
  refine W.widen (k := 59 + 3 * (j + 1)) (n := 2231 + 45 * (j + 1)) (by omega) (by omega) ?_
  exact hN ad γ1 μ1 _ _ _ hRl1 hB hl
set_option maxRecDepth 100000 in
set_option maxHeartbeats 4000000 in
theorem lk_plate {p : Program} {l : Launch} {e : Env} {s : State} {m : MethodId} {below : List Frame} {meth : Method} {c : Code} {b L : Nat} {xs : Nat → Int32} (C0 : lw_At p s m meth c b L xs) {D : va_G} {cy : CY} {z : CZ} (hV : lV D cy z (fun q => s.heap.size ≤ q) s) (n : Nat) {Rl : CS → MS → Prop} (hS : st_plate n Rl) {ad am : Nat → Nat} {γ : CS} {μ : MS} (hRl : Rl γ μ) {j : Nat} (hj : j < 65) {x3 : Int32} (hin : ∀ k : Nat, k < 7 → vp_in (x3 + nI k) L) {H : Heap} {locs : List Loc} {ls : Array Slot} (hB : lB D ad am cy (fun q => s.heap.size ≤ q) s.heap γ μ H locs) (hl : lv_has ls 4 [(0, .ref b), (1, .ref (ad 0)), (2, .ref (am 0)), (3, .int x3)])
    (hN : ∀ (ad1 : Nat → Nat) (γ1 : CS) (μ1 : MS) (H1 : Heap) (locs1 : List Loc) (ls1 : Array Slot), Rl γ1 μ1 → lB D ad1 am cy (fun q => s.heap.size ≤ q) s.heap γ1 μ1 H1 locs1 → lv_has ls1 4 [(0, .ref b), (1, .ref (ad1 0)), (2, .ref (am 0)), (3, .int x3)] → W p l e room_1 s m #[Value.ref b] below meth c H1 locs1 (59 + 3 * (j + 1)) (2231 + 45 * (j + 1)) (lw_Z below #[Value.ref b] s) (F0 m 1332 ls1 [])) : W p l e room_1 s m #[Value.ref b] below meth c H locs (59 + 3 * j) (2231 + 45 * j) (lw_Z below #[Value.ref b] s) (F0 m 251 ls []) := by
  obtain ⟨hx, hb, hr, hml, hown, hts, hX, hbl, hlocks, hgv⟩ := id C0
  have hbA : ¬ (fun q : Nat => s.heap.size ≤ q) b := Nat.not_le.mpr hbl
  refine lv_aload_n hx hb dL_law_251 rfl (lv_at hl 1 rfl) ?_
  obtain ⟨r0, γ1, μ1, hk1, hk2, hRl1⟩ := hS γ μ hRl
  have hBo := hB
  refine lx_callA (rv := fun _ => some (.int r0)) (av := []) (rest := []) hx hb hml hown hts hl.1 hV hB (cc_X7_plate l D ad cy z n γ hk1) (cwV 0 hts (gL_v wsC_in allC qLo_methodLink_20 qLp_im_X7_plate qLp_se_X7_plate qLx_ini7 qLp_co_X7_plate) rfl rfl rfl (by decide +kernel) ⟨Nat.le_of_ble_eq_true rfl, Nat.le_of_ble_eq_true rfl⟩) rfl rfl (lv_room (Nat.le_of_ble_eq_true rfl)) dL_law_252 (by show 59 + 3 * j + 1 ≤ 600000; omega) (by show 2231 + 45 * j + 5 ≤ 7302249; omega) (fun ad1 had H locs hB => ?_)
  have hl : lv_has ls 4 [(0, .ref b), (1, .ref (ad1 0)), (2, .ref (am 0)), (3, .int x3)] := by rw [had 0 (Nat.lt_of_lt_of_le (by decide) hBo.1)]; exact hl
  refine W.eq (g2 := F0 m 255 ls [.int r0]) rfl ?_
  refine W.widen (k := 59 + 3 * j + 3) (n := 2231 + 45 * j + 45) (by omega) (by omega) ?_
  refine lv_aload_n hx hb dL_law_255 rfl (lv_at hl 2 rfl) ?_
  refine lm_calli (r0 := r0) (av := []) (rest := [.int r0]) hx hb hml hown hts hl.1 hV hB (cm_plate l D am cy.1 n μ hk2) (cwV 0 hts (gL_v wsM_in allM qLo_methodLink_24 qLp_im_X8_plate qLp_se_X8_plate qLx_ini8 qLp_co_X8_plate) rfl rfl rfl (by decide +kernel) ⟨Nat.le_of_ble_eq_true rfl, Nat.le_of_ble_eq_true rfl⟩) rfl rfl (lv_room (Nat.le_of_ble_eq_true rfl)) dL_law_256 (by show 59 + 3 * j + 3 + 0 ≤ 600000; omega) (by show 2231 + 45 * j + 45 + 0 ≤ 7302249; omega) (fun H locs hB => ?_)
  refine lv_icmp_eq (tgt := 1332) hx hb dL_law_259 (by decide) (fun _ => ?_) (fun c2 => absurd rfl c2)
  refine W.widen (k := 59 + 3 * (j + 1)) (n := 2231 + 45 * (j + 1)) (by omega) (by omega) ?_
  exact hN ad1 γ1 μ1 _ _ _ hRl1 hB hl
set_option maxRecDepth 100000 in
set_option maxHeartbeats 4000000 in
theorem lk_plateOf {p : Program} {l : Launch} {e : Env} {s : State} {m : MethodId} {below : List Frame} {meth : Method} {c : Code} {b L : Nat} {xs : Nat → Int32} (C0 : lw_At p s m meth c b L xs) {D : va_G} {cy : CY} {z : CZ} (hV : lV D cy z (fun q => s.heap.size ≤ q) s) (n : Nat) {Rl : CS → MS → Prop} (hS : st_plateOf n Rl) {ad am : Nat → Nat} {γ : CS} {μ : MS} (hRl : Rl γ μ) {j : Nat} (hj : j < 65) {x3 : Int32} (hin : ∀ k : Nat, k < 7 → vp_in (x3 + nI k) L) {H : Heap} {locs : List Loc} {ls : Array Slot} (hB : lB D ad am cy (fun q => s.heap.size ≤ q) s.heap γ μ H locs) (hl : lv_has ls 4 [(0, .ref b), (1, .ref (ad 0)), (2, .ref (am 0)), (3, .int x3)])
    (hN : ∀ (ad1 : Nat → Nat) (γ1 : CS) (μ1 : MS) (H1 : Heap) (locs1 : List Loc) (ls1 : Array Slot), Rl γ1 μ1 → lB D ad1 am cy (fun q => s.heap.size ≤ q) s.heap γ1 μ1 H1 locs1 → lv_has ls1 4 [(0, .ref b), (1, .ref (ad1 0)), (2, .ref (am 0)), (3, .int x3)] → W p l e room_1 s m #[Value.ref b] below meth c H1 locs1 (59 + 3 * (j + 1)) (2231 + 45 * (j + 1)) (lw_Z below #[Value.ref b] s) (F0 m 1332 ls1 [])) : W p l e room_1 s m #[Value.ref b] below meth c H locs (59 + 3 * j) (2231 + 45 * j) (lw_Z below #[Value.ref b] s) (F0 m 264 ls []) := by
  obtain ⟨hx, hb, hr, hml, hown, hts, hX, hbl, hlocks, hgv⟩ := id C0
  have hbA : ¬ (fun q : Nat => s.heap.size ≤ q) b := Nat.not_le.mpr hbl
  obtain ⟨v1, e1⟩ : ∃ v : Int32, v = xs (x3 + 1).toNatClampNeg := ⟨_, rfl⟩
  obtain ⟨v2, e2⟩ : ∃ v : Int32, v = xs (x3 + 2).toNatClampNeg := ⟨_, rfl⟩
  refine lv_aload_n hx hb dL_law_264 rfl (lv_at hl 1 rfl) ?_
  refine lv_aload_n hx hb dL_law_265 rfl (lv_at hl 0 rfl) ?_
  refine lv_iload_n hx hb dL_law_266 rfl (lv_at hl 3 rfl) ?_
  refine lv_iconst (v := 1) hx hb dL_law_267 (by decide) ?_
  refine lv_iadd hx hb dL_law_268 ?_
  refine va_sld hx hb hX hbl hbA hB.2.2.2 (hin 1 (by decide)) dL_law_269 ?_
  refine W.eq (g2 := F0 m 270 ls [.int v1, .ref (ad 0)]) (by rw [e1]) ?_
  refine lv_aload_n hx hb dL_law_270 rfl (lv_at hl 0 rfl) ?_
  refine lv_iload_n hx hb dL_law_271 rfl (lv_at hl 3 rfl) ?_
  refine lv_iconst (v := 2) hx hb dL_law_272 (by decide) ?_
  refine lv_iadd hx hb dL_law_273 ?_
  refine va_sld hx hb hX hbl hbA hB.2.2.2 (hin 2 (by decide)) dL_law_274 ?_
  refine W.eq (g2 := F0 m 275 ls [.int v2, .int v1, .ref (ad 0)]) (by rw [e2]) ?_
  obtain ⟨r0, γ1, μ1, hk1, hk2, hRl1⟩ := hS γ μ v1 v2 hRl
  refine lx_call (rv := some (.int r0)) (av := [.int v1, .int v2]) (rest := []) hx hb hml hown hts hl.1 hV hB (cc_X7_plateOf l D ad cy z n γ v1 v2 hk1) (cwV 2 hts (gL_v wsC_in allC qLo_methodLink_25 qLp_im_X7_plateOf qLp_se_X7_plateOf qLx_ini7 qLp_co_X7_plateOf) rfl rfl rfl (by decide +kernel) ⟨Nat.le_of_ble_eq_true rfl, Nat.le_of_ble_eq_true rfl⟩) rfl rfl (lv_room (Nat.le_of_ble_eq_true rfl)) dL_law_275 (by show 59 + 3 * j + 0 ≤ 600000; omega) (by show 2231 + 45 * j + 0 ≤ 7302249; omega) (fun H locs hB => ?_)
  refine W.eq (g2 := F0 m 278 ls [.int r0]) rfl ?_
  refine lv_aload_n hx hb dL_law_278 rfl (lv_at hl 2 rfl) ?_
  refine lv_aload_n hx hb dL_law_279 rfl (lv_at hl 0 rfl) ?_
  refine lv_iload_n hx hb dL_law_280 rfl (lv_at hl 3 rfl) ?_
  refine lv_iconst (v := 1) hx hb dL_law_281 (by decide) ?_
  refine lv_iadd hx hb dL_law_282 ?_
  refine va_sld hx hb hX hbl hbA hB.2.2.2 (hin 1 (by decide)) dL_law_283 ?_
  refine W.eq (g2 := F0 m 284 ls [.int v1, .ref (am 0), .int r0]) (by rw [e1]) ?_
  refine lv_aload_n hx hb dL_law_284 rfl (lv_at hl 0 rfl) ?_
  refine lv_iload_n hx hb dL_law_285 rfl (lv_at hl 3 rfl) ?_
  refine lv_iconst (v := 2) hx hb dL_law_286 (by decide) ?_
  refine lv_iadd hx hb dL_law_287 ?_
  refine va_sld hx hb hX hbl hbA hB.2.2.2 (hin 2 (by decide)) dL_law_288 ?_
  refine W.eq (g2 := F0 m 289 ls [.int v2, .int v1, .ref (am 0), .int r0]) (by rw [e2]) ?_
  refine lm_calli (r0 := r0) (av := [.int v1, .int v2]) (rest := [.int r0]) hx hb hml hown hts hl.1 hV hB (cm_plateOf l D am cy.1 n μ v1 v2 hk2) (cwV 2 hts (gL_v wsM_in allM qLo_methodLink_29 qLp_im_X8_plateOf qLp_se_X8_plateOf qLx_ini8 qLp_co_X8_plateOf) rfl rfl rfl (by decide +kernel) ⟨Nat.le_of_ble_eq_true rfl, Nat.le_of_ble_eq_true rfl⟩) rfl rfl (lv_room (Nat.le_of_ble_eq_true rfl)) dL_law_289 (by show 59 + 3 * j + 0 ≤ 600000; omega) (by show 2231 + 45 * j + 0 ≤ 7302249; omega) (fun H locs hB => ?_)
  refine lv_icmp_eq (tgt := 1332) hx hb dL_law_292 (by decide) (fun _ => ?_) (fun c2 => absurd rfl c2)
  refine W.widen (k := 59 + 3 * (j + 1)) (n := 2231 + 45 * (j + 1)) (by omega) (by omega) ?_
  exact hN ad γ1 μ1 _ _ _ hRl1 hB hl
set_option maxRecDepth 100000 in
set_option maxHeartbeats 4000000 in
theorem lk_loss {p : Program} {l : Launch} {e : Env} {s : State} {m : MethodId} {below : List Frame} {meth : Method} {c : Code} {b L : Nat} {xs : Nat → Int32} (C0 : lw_At p s m meth c b L xs) {D : va_G} {cy : CY} {z : CZ} (hV : lV D cy z (fun q => s.heap.size ≤ q) s) (n : Nat) {Rl : CS → MS → Prop} (hS : st_loss n Rl) {ad am : Nat → Nat} {γ : CS} {μ : MS} (hRl : Rl γ μ) {j : Nat} (hj : j < 65) {x3 : Int32} (hin : ∀ k : Nat, k < 7 → vp_in (x3 + nI k) L) {H : Heap} {locs : List Loc} {ls : Array Slot} (hB : lB D ad am cy (fun q => s.heap.size ≤ q) s.heap γ μ H locs) (hl : lv_has ls 4 [(0, .ref b), (1, .ref (ad 0)), (2, .ref (am 0)), (3, .int x3)])
    (hN : ∀ (ad1 : Nat → Nat) (γ1 : CS) (μ1 : MS) (H1 : Heap) (locs1 : List Loc) (ls1 : Array Slot), Rl γ1 μ1 → lB D ad1 am cy (fun q => s.heap.size ≤ q) s.heap γ1 μ1 H1 locs1 → lv_has ls1 4 [(0, .ref b), (1, .ref (ad1 0)), (2, .ref (am 0)), (3, .int x3)] → W p l e room_1 s m #[Value.ref b] below meth c H1 locs1 (59 + 3 * (j + 1)) (2231 + 45 * (j + 1)) (lw_Z below #[Value.ref b] s) (F0 m 1332 ls1 [])) : W p l e room_1 s m #[Value.ref b] below meth c H locs (59 + 3 * j) (2231 + 45 * j) (lw_Z below #[Value.ref b] s) (F0 m 297 ls []) := by
  obtain ⟨hx, hb, hr, hml, hown, hts, hX, hbl, hlocks, hgv⟩ := id C0
  have hbA : ¬ (fun q : Nat => s.heap.size ≤ q) b := Nat.not_le.mpr hbl
  obtain ⟨v1, e1⟩ : ∃ v : Int32, v = xs (x3 + 1).toNatClampNeg := ⟨_, rfl⟩
  obtain ⟨v2, e2⟩ : ∃ v : Int32, v = xs (x3 + 2).toNatClampNeg := ⟨_, rfl⟩
  obtain ⟨v3, e3⟩ : ∃ v : Int32, v = xs (x3 + 3).toNatClampNeg := ⟨_, rfl⟩
  refine lv_aload_n hx hb dL_law_297 rfl (lv_at hl 1 rfl) ?_
  refine lv_aload_n hx hb dL_law_298 rfl (lv_at hl 0 rfl) ?_
  refine lv_iload_n hx hb dL_law_299 rfl (lv_at hl 3 rfl) ?_
  refine lv_iconst (v := 1) hx hb dL_law_300 (by decide) ?_
  refine lv_iadd hx hb dL_law_301 ?_
  refine va_sld hx hb hX hbl hbA hB.2.2.2 (hin 1 (by decide)) dL_law_302 ?_
  refine W.eq (g2 := F0 m 303 ls [.int v1, .ref (ad 0)]) (by rw [e1]) ?_
  refine lv_aload_n hx hb dL_law_303 rfl (lv_at hl 0 rfl) ?_
  refine lv_iload_n hx hb dL_law_304 rfl (lv_at hl 3 rfl) ?_
  refine lv_iconst (v := 2) hx hb dL_law_305 (by decide) ?_
  refine lv_iadd hx hb dL_law_306 ?_
  refine va_sld hx hb hX hbl hbA hB.2.2.2 (hin 2 (by decide)) dL_law_307 ?_
  refine W.eq (g2 := F0 m 308 ls [.int v2, .int v1, .ref (ad 0)]) (by rw [e2]) ?_
  refine lv_aload_n hx hb dL_law_308 rfl (lv_at hl 0 rfl) ?_
  refine lv_iload_n hx hb dL_law_309 rfl (lv_at hl 3 rfl) ?_
  refine lv_iconst (v := 3) hx hb dL_law_310 (by decide) ?_
  refine lv_iadd hx hb dL_law_311 ?_
  refine va_sld hx hb hX hbl hbA hB.2.2.2 (hin 3 (by decide)) dL_law_312 ?_
  refine W.eq (g2 := F0 m 313 ls [.int v3, .int v2, .int v1, .ref (ad 0)]) (by rw [e3]) ?_
  obtain ⟨r0, γ1, μ1, hk1, hk2, hRl1⟩ := hS γ μ v1 v2 v3 hRl
  have hBo := hB
  refine lx_callA (rv := fun _ => some (.int r0)) (av := [.int v1, .int v2, .int v3]) (rest := []) hx hb hml hown hts hl.1 hV hB (cc_X7_loss l D ad cy z n γ v1 v2 v3 hk1) (cwV 3 hts (gL_v wsC_in allC qLo_methodLink_30 qLp_im_X7_loss qLp_se_X7_loss qLx_ini7 qLp_co_X7_loss) rfl rfl rfl (by decide +kernel) ⟨Nat.le_of_ble_eq_true rfl, Nat.le_of_ble_eq_true rfl⟩) rfl rfl (lv_room (Nat.le_of_ble_eq_true rfl)) dL_law_313 (by show 59 + 3 * j + 3 ≤ 600000; omega) (by show 2231 + 45 * j + 45 ≤ 7302249; omega) (fun ad1 had H locs hB => ?_)
  have hl : lv_has ls 4 [(0, .ref b), (1, .ref (ad1 0)), (2, .ref (am 0)), (3, .int x3)] := by rw [had 0 (Nat.lt_of_lt_of_le (by decide) hBo.1)]; exact hl
  refine W.eq (g2 := F0 m 316 ls [.int r0]) rfl ?_
  refine W.widen (k := 59 + 3 * j + 3) (n := 2231 + 45 * j + 45) (by omega) (by omega) ?_
  refine lv_aload_n hx hb dL_law_316 rfl (lv_at hl 2 rfl) ?_
  refine lv_aload_n hx hb dL_law_317 rfl (lv_at hl 0 rfl) ?_
  refine lv_iload_n hx hb dL_law_318 rfl (lv_at hl 3 rfl) ?_
  refine lv_iconst (v := 1) hx hb dL_law_319 (by decide) ?_
  refine lv_iadd hx hb dL_law_320 ?_
  refine va_sld hx hb hX hbl hbA hB.2.2.2 (hin 1 (by decide)) dL_law_321 ?_
  refine W.eq (g2 := F0 m 322 ls [.int v1, .ref (am 0), .int r0]) (by rw [e1]) ?_
  refine lv_aload_n hx hb dL_law_322 rfl (lv_at hl 0 rfl) ?_
  refine lv_iload_n hx hb dL_law_323 rfl (lv_at hl 3 rfl) ?_
  refine lv_iconst (v := 2) hx hb dL_law_324 (by decide) ?_
  refine lv_iadd hx hb dL_law_325 ?_
  refine va_sld hx hb hX hbl hbA hB.2.2.2 (hin 2 (by decide)) dL_law_326 ?_
  refine W.eq (g2 := F0 m 327 ls [.int v2, .int v1, .ref (am 0), .int r0]) (by rw [e2]) ?_
  refine lv_aload_n hx hb dL_law_327 rfl (lv_at hl 0 rfl) ?_
  refine lv_iload_n hx hb dL_law_328 rfl (lv_at hl 3 rfl) ?_
  refine lv_iconst (v := 3) hx hb dL_law_329 (by decide) ?_
  refine lv_iadd hx hb dL_law_330 ?_
  refine va_sld hx hb hX hbl hbA hB.2.2.2 (hin 3 (by decide)) dL_law_331 ?_
  refine W.eq (g2 := F0 m 332 ls [.int v3, .int v2, .int v1, .ref (am 0), .int r0]) (by rw [e3]) ?_
  refine lm_calli (r0 := r0) (av := [.int v1, .int v2, .int v3]) (rest := [.int r0]) hx hb hml hown hts hl.1 hV hB (cm_loss l D am cy.1 n μ v1 v2 v3 hk2) (cwV 3 hts (gL_v wsM_in allM qLo_methodLink_34 qLp_im_X8_loss qLp_se_X8_loss qLx_ini8 qLp_co_X8_loss) rfl rfl rfl (by decide +kernel) ⟨Nat.le_of_ble_eq_true rfl, Nat.le_of_ble_eq_true rfl⟩) rfl rfl (lv_room (Nat.le_of_ble_eq_true rfl)) dL_law_332 (by show 59 + 3 * j + 3 + 0 ≤ 600000; omega) (by show 2231 + 45 * j + 45 + 0 ≤ 7302249; omega) (fun H locs hB => ?_)
  refine lv_icmp_eq (tgt := 1332) hx hb dL_law_335 (by decide) (fun _ => ?_) (fun c2 => absurd rfl c2)
  refine W.widen (k := 59 + 3 * (j + 1)) (n := 2231 + 45 * (j + 1)) (by omega) (by omega) ?_
  exact hN ad1 γ1 μ1 _ _ _ hRl1 hB hl
set_option maxRecDepth 100000 in
set_option maxHeartbeats 4000000 in
theorem lk_lossOf {p : Program} {l : Launch} {e : Env} {s : State} {m : MethodId} {below : List Frame} {meth : Method} {c : Code} {b L : Nat} {xs : Nat → Int32} (C0 : lw_At p s m meth c b L xs) {D : va_G} {cy : CY} {z : CZ} (hV : lV D cy z (fun q => s.heap.size ≤ q) s) (n : Nat) {Rl : CS → MS → Prop} (hS : st_lossOf n Rl) {ad am : Nat → Nat} {γ : CS} {μ : MS} (hRl : Rl γ μ) {j : Nat} (hj : j < 65) {x3 : Int32} (hin : ∀ k : Nat, k < 7 → vp_in (x3 + nI k) L) {H : Heap} {locs : List Loc} {ls : Array Slot} (hB : lB D ad am cy (fun q => s.heap.size ≤ q) s.heap γ μ H locs) (hl : lv_has ls 4 [(0, .ref b), (1, .ref (ad 0)), (2, .ref (am 0)), (3, .int x3)])
    (hN : ∀ (ad1 : Nat → Nat) (γ1 : CS) (μ1 : MS) (H1 : Heap) (locs1 : List Loc) (ls1 : Array Slot), Rl γ1 μ1 → lB D ad1 am cy (fun q => s.heap.size ≤ q) s.heap γ1 μ1 H1 locs1 → lv_has ls1 4 [(0, .ref b), (1, .ref (ad1 0)), (2, .ref (am 0)), (3, .int x3)] → W p l e room_1 s m #[Value.ref b] below meth c H1 locs1 (59 + 3 * (j + 1)) (2231 + 45 * (j + 1)) (lw_Z below #[Value.ref b] s) (F0 m 1332 ls1 [])) : W p l e room_1 s m #[Value.ref b] below meth c H locs (59 + 3 * j) (2231 + 45 * j) (lw_Z below #[Value.ref b] s) (F0 m 340 ls []) := by
  obtain ⟨hx, hb, hr, hml, hown, hts, hX, hbl, hlocks, hgv⟩ := id C0
  have hbA : ¬ (fun q : Nat => s.heap.size ≤ q) b := Nat.not_le.mpr hbl
  obtain ⟨v1, e1⟩ : ∃ v : Int32, v = xs (x3 + 1).toNatClampNeg := ⟨_, rfl⟩
  obtain ⟨v2, e2⟩ : ∃ v : Int32, v = xs (x3 + 2).toNatClampNeg := ⟨_, rfl⟩
  refine lv_aload_n hx hb dL_law_340 rfl (lv_at hl 1 rfl) ?_
  refine lv_aload_n hx hb dL_law_341 rfl (lv_at hl 0 rfl) ?_
  refine lv_iload_n hx hb dL_law_342 rfl (lv_at hl 3 rfl) ?_
  refine lv_iconst (v := 1) hx hb dL_law_343 (by decide) ?_
  refine lv_iadd hx hb dL_law_344 ?_
  refine va_sld hx hb hX hbl hbA hB.2.2.2 (hin 1 (by decide)) dL_law_345 ?_
  refine W.eq (g2 := F0 m 346 ls [.int v1, .ref (ad 0)]) (by rw [e1]) ?_
  refine lv_aload_n hx hb dL_law_346 rfl (lv_at hl 0 rfl) ?_
  refine lv_iload_n hx hb dL_law_347 rfl (lv_at hl 3 rfl) ?_
  refine lv_iconst (v := 2) hx hb dL_law_348 (by decide) ?_
  refine lv_iadd hx hb dL_law_349 ?_
  refine va_sld hx hb hX hbl hbA hB.2.2.2 (hin 2 (by decide)) dL_law_350 ?_
  refine W.eq (g2 := F0 m 351 ls [.int v2, .int v1, .ref (ad 0)]) (by rw [e2]) ?_
  obtain ⟨r0, γ1, μ1, hk1, hk2, hRl1⟩ := hS γ μ v1 v2 hRl
  refine lx_call (rv := some (.int r0)) (av := [.int v1, .int v2]) (rest := []) hx hb hml hown hts hl.1 hV hB (cc_X7_lossOf l D ad cy z n γ v1 v2 hk1) (cwV 2 hts (gL_v wsC_in allC qLo_methodLink_35 qLp_im_X7_lossOf qLp_se_X7_lossOf qLx_ini7 qLp_co_X7_lossOf) rfl rfl rfl (by decide +kernel) ⟨Nat.le_of_ble_eq_true rfl, Nat.le_of_ble_eq_true rfl⟩) rfl rfl (lv_room (Nat.le_of_ble_eq_true rfl)) dL_law_351 (by show 59 + 3 * j + 0 ≤ 600000; omega) (by show 2231 + 45 * j + 0 ≤ 7302249; omega) (fun H locs hB => ?_)
  refine W.eq (g2 := F0 m 354 ls [.int r0]) rfl ?_
  refine lv_aload_n hx hb dL_law_354 rfl (lv_at hl 2 rfl) ?_
  refine lv_aload_n hx hb dL_law_355 rfl (lv_at hl 0 rfl) ?_
  refine lv_iload_n hx hb dL_law_356 rfl (lv_at hl 3 rfl) ?_
  refine lv_iconst (v := 1) hx hb dL_law_357 (by decide) ?_
  refine lv_iadd hx hb dL_law_358 ?_
  refine va_sld hx hb hX hbl hbA hB.2.2.2 (hin 1 (by decide)) dL_law_359 ?_
  refine W.eq (g2 := F0 m 360 ls [.int v1, .ref (am 0), .int r0]) (by rw [e1]) ?_
  refine lv_aload_n hx hb dL_law_360 rfl (lv_at hl 0 rfl) ?_
  refine lv_iload_n hx hb dL_law_361 rfl (lv_at hl 3 rfl) ?_
  refine lv_iconst (v := 2) hx hb dL_law_362 (by decide) ?_
  refine lv_iadd hx hb dL_law_363 ?_
  refine va_sld hx hb hX hbl hbA hB.2.2.2 (hin 2 (by decide)) dL_law_364 ?_
  refine W.eq (g2 := F0 m 365 ls [.int v2, .int v1, .ref (am 0), .int r0]) (by rw [e2]) ?_
  refine lm_calli (r0 := r0) (av := [.int v1, .int v2]) (rest := [.int r0]) hx hb hml hown hts hl.1 hV hB (cm_lossOf l D am cy.1 n μ v1 v2 hk2) (cwV 2 hts (gL_v wsM_in allM qLo_methodLink_38 qLp_im_X8_lossOf qLp_se_X8_lossOf qLx_ini8 qLp_co_X8_lossOf) rfl rfl rfl (by decide +kernel) ⟨Nat.le_of_ble_eq_true rfl, Nat.le_of_ble_eq_true rfl⟩) rfl rfl (lv_room (Nat.le_of_ble_eq_true rfl)) dL_law_365 (by show 59 + 3 * j + 0 ≤ 600000; omega) (by show 2231 + 45 * j + 0 ≤ 7302249; omega) (fun H locs hB => ?_)
  refine lv_icmp_eq (tgt := 1332) hx hb dL_law_368 (by decide) (fun _ => ?_) (fun c2 => absurd rfl c2)
  refine W.widen (k := 59 + 3 * (j + 1)) (n := 2231 + 45 * (j + 1)) (by omega) (by omega) ?_
  exact hN ad γ1 μ1 _ _ _ hRl1 hB hl
set_option maxRecDepth 100000 in
set_option maxHeartbeats 4000000 in
theorem lk_floor {p : Program} {l : Launch} {e : Env} {s : State} {m : MethodId} {below : List Frame} {meth : Method} {c : Code} {b L : Nat} {xs : Nat → Int32} (C0 : lw_At p s m meth c b L xs) {D : va_G} {cy : CY} {z : CZ} (hV : lV D cy z (fun q => s.heap.size ≤ q) s) (n : Nat) {Rl : CS → MS → Prop} (hS : st_floor n Rl) {ad am : Nat → Nat} {γ : CS} {μ : MS} (hRl : Rl γ μ) {j : Nat} (hj : j < 65) {x3 : Int32} (hin : ∀ k : Nat, k < 7 → vp_in (x3 + nI k) L) {H : Heap} {locs : List Loc} {ls : Array Slot} (hB : lB D ad am cy (fun q => s.heap.size ≤ q) s.heap γ μ H locs) (hl : lv_has ls 4 [(0, .ref b), (1, .ref (ad 0)), (2, .ref (am 0)), (3, .int x3)])
    (hN : ∀ (ad1 : Nat → Nat) (γ1 : CS) (μ1 : MS) (H1 : Heap) (locs1 : List Loc) (ls1 : Array Slot), Rl γ1 μ1 → lB D ad1 am cy (fun q => s.heap.size ≤ q) s.heap γ1 μ1 H1 locs1 → lv_has ls1 4 [(0, .ref b), (1, .ref (ad1 0)), (2, .ref (am 0)), (3, .int x3)] → W p l e room_1 s m #[Value.ref b] below meth c H1 locs1 (59 + 3 * (j + 1)) (2231 + 45 * (j + 1)) (lw_Z below #[Value.ref b] s) (F0 m 1332 ls1 [])) : W p l e room_1 s m #[Value.ref b] below meth c H locs (59 + 3 * j) (2231 + 45 * j) (lw_Z below #[Value.ref b] s) (F0 m 373 ls []) := by
  obtain ⟨hx, hb, hr, hml, hown, hts, hX, hbl, hlocks, hgv⟩ := id C0
  have hbA : ¬ (fun q : Nat => s.heap.size ≤ q) b := Nat.not_le.mpr hbl
  obtain ⟨v1, e1⟩ : ∃ v : Int32, v = xs (x3 + 1).toNatClampNeg := ⟨_, rfl⟩
  obtain ⟨v2, e2⟩ : ∃ v : Int32, v = xs (x3 + 2).toNatClampNeg := ⟨_, rfl⟩
  obtain ⟨v3, e3⟩ : ∃ v : Int32, v = xs (x3 + 3).toNatClampNeg := ⟨_, rfl⟩
  refine lv_aload_n hx hb dL_law_373 rfl (lv_at hl 1 rfl) ?_
  refine lv_aload_n hx hb dL_law_374 rfl (lv_at hl 0 rfl) ?_
  refine lv_iload_n hx hb dL_law_375 rfl (lv_at hl 3 rfl) ?_
  refine lv_iconst (v := 1) hx hb dL_law_376 (by decide) ?_
  refine lv_iadd hx hb dL_law_377 ?_
  refine va_sld hx hb hX hbl hbA hB.2.2.2 (hin 1 (by decide)) dL_law_378 ?_
  refine W.eq (g2 := F0 m 379 ls [.int v1, .ref (ad 0)]) (by rw [e1]) ?_
  refine lv_aload_n hx hb dL_law_379 rfl (lv_at hl 0 rfl) ?_
  refine lv_iload_n hx hb dL_law_380 rfl (lv_at hl 3 rfl) ?_
  refine lv_iconst (v := 2) hx hb dL_law_381 (by decide) ?_
  refine lv_iadd hx hb dL_law_382 ?_
  refine va_sld hx hb hX hbl hbA hB.2.2.2 (hin 2 (by decide)) dL_law_383 ?_
  refine W.eq (g2 := F0 m 384 ls [.int v2, .int v1, .ref (ad 0)]) (by rw [e2]) ?_
  refine lv_aload_n hx hb dL_law_384 rfl (lv_at hl 0 rfl) ?_
  refine lv_iload_n hx hb dL_law_385 rfl (lv_at hl 3 rfl) ?_
  refine lv_iconst (v := 3) hx hb dL_law_386 (by decide) ?_
  refine lv_iadd hx hb dL_law_387 ?_
  refine va_sld hx hb hX hbl hbA hB.2.2.2 (hin 3 (by decide)) dL_law_388 ?_
  refine W.eq (g2 := F0 m 389 ls [.int v3, .int v2, .int v1, .ref (ad 0)]) (by rw [e3]) ?_
  obtain ⟨r0, γ1, μ1, hk1, hk2, hRl1⟩ := hS γ μ v1 v2 v3 hRl
  refine lx_call (rv := some (.int r0)) (av := [.int v1, .int v2, .int v3]) (rest := []) hx hb hml hown hts hl.1 hV hB (cc_X7_floor l D ad cy z n γ v1 v2 v3 hk1) (cwV 3 hts (gL_v wsC_in allC qLo_methodLink_39 qLp_im_X7_floor qLp_se_X7_floor qLx_ini7 qLp_co_X7_floor) rfl rfl rfl (by decide +kernel) ⟨Nat.le_of_ble_eq_true rfl, Nat.le_of_ble_eq_true rfl⟩) rfl rfl (lv_room (Nat.le_of_ble_eq_true rfl)) dL_law_389 (by show 59 + 3 * j + 0 ≤ 600000; omega) (by show 2231 + 45 * j + 0 ≤ 7302249; omega) (fun H locs hB => ?_)
  refine W.eq (g2 := F0 m 392 ls [.int r0]) rfl ?_
  refine lv_aload_n hx hb dL_law_392 rfl (lv_at hl 2 rfl) ?_
  refine lv_aload_n hx hb dL_law_393 rfl (lv_at hl 0 rfl) ?_
  refine lv_iload_n hx hb dL_law_394 rfl (lv_at hl 3 rfl) ?_
  refine lv_iconst (v := 1) hx hb dL_law_395 (by decide) ?_
  refine lv_iadd hx hb dL_law_396 ?_
  refine va_sld hx hb hX hbl hbA hB.2.2.2 (hin 1 (by decide)) dL_law_397 ?_
  refine W.eq (g2 := F0 m 398 ls [.int v1, .ref (am 0), .int r0]) (by rw [e1]) ?_
  refine lv_aload_n hx hb dL_law_398 rfl (lv_at hl 0 rfl) ?_
  refine lv_iload_n hx hb dL_law_399 rfl (lv_at hl 3 rfl) ?_
  refine lv_iconst (v := 2) hx hb dL_law_400 (by decide) ?_
  refine lv_iadd hx hb dL_law_401 ?_
  refine va_sld hx hb hX hbl hbA hB.2.2.2 (hin 2 (by decide)) dL_law_402 ?_
  refine W.eq (g2 := F0 m 403 ls [.int v2, .int v1, .ref (am 0), .int r0]) (by rw [e2]) ?_
  refine lv_aload_n hx hb dL_law_403 rfl (lv_at hl 0 rfl) ?_
  refine lv_iload_n hx hb dL_law_404 rfl (lv_at hl 3 rfl) ?_
  refine lv_iconst (v := 3) hx hb dL_law_405 (by decide) ?_
  refine lv_iadd hx hb dL_law_406 ?_
  refine va_sld hx hb hX hbl hbA hB.2.2.2 (hin 3 (by decide)) dL_law_407 ?_
  refine W.eq (g2 := F0 m 408 ls [.int v3, .int v2, .int v1, .ref (am 0), .int r0]) (by rw [e3]) ?_
  refine lm_calli (r0 := r0) (av := [.int v1, .int v2, .int v3]) (rest := [.int r0]) hx hb hml hown hts hl.1 hV hB (cm_floor l D am cy.1 n μ v1 v2 v3 hk2) (cwV 3 hts (gL_v wsM_in allM qLo_methodLink_42 qLp_im_X8_floor qLp_se_X8_floor qLx_ini8 qLp_co_X8_floor) rfl rfl rfl (by decide +kernel) ⟨Nat.le_of_ble_eq_true rfl, Nat.le_of_ble_eq_true rfl⟩) rfl rfl (lv_room (Nat.le_of_ble_eq_true rfl)) dL_law_408 (by show 59 + 3 * j + 0 ≤ 600000; omega) (by show 2231 + 45 * j + 0 ≤ 7302249; omega) (fun H locs hB => ?_)
  refine lv_icmp_eq (tgt := 1332) hx hb dL_law_411 (by decide) (fun _ => ?_) (fun c2 => absurd rfl c2)
  refine W.widen (k := 59 + 3 * (j + 1)) (n := 2231 + 45 * (j + 1)) (by omega) (by omega) ?_
  exact hN ad γ1 μ1 _ _ _ hRl1 hB hl
set_option maxRecDepth 100000 in
set_option maxHeartbeats 4000000 in
theorem lk_air {p : Program} {l : Launch} {e : Env} {s : State} {m : MethodId} {below : List Frame} {meth : Method} {c : Code} {b L : Nat} {xs : Nat → Int32} (C0 : lw_At p s m meth c b L xs) {D : va_G} {cy : CY} {z : CZ} (hV : lV D cy z (fun q => s.heap.size ≤ q) s) (n : Nat) {Rl : CS → MS → Prop} (hS : st_air n Rl) {ad am : Nat → Nat} {γ : CS} {μ : MS} (hRl : Rl γ μ) {j : Nat} (hj : j < 65) {x3 : Int32} (hin : ∀ k : Nat, k < 7 → vp_in (x3 + nI k) L) {H : Heap} {locs : List Loc} {ls : Array Slot} (hB : lB D ad am cy (fun q => s.heap.size ≤ q) s.heap γ μ H locs) (hl : lv_has ls 4 [(0, .ref b), (1, .ref (ad 0)), (2, .ref (am 0)), (3, .int x3)])
    (hN : ∀ (ad1 : Nat → Nat) (γ1 : CS) (μ1 : MS) (H1 : Heap) (locs1 : List Loc) (ls1 : Array Slot), Rl γ1 μ1 → lB D ad1 am cy (fun q => s.heap.size ≤ q) s.heap γ1 μ1 H1 locs1 → lv_has ls1 4 [(0, .ref b), (1, .ref (ad1 0)), (2, .ref (am 0)), (3, .int x3)] → W p l e room_1 s m #[Value.ref b] below meth c H1 locs1 (59 + 3 * (j + 1)) (2231 + 45 * (j + 1)) (lw_Z below #[Value.ref b] s) (F0 m 1332 ls1 [])) : W p l e room_1 s m #[Value.ref b] below meth c H locs (59 + 3 * j) (2231 + 45 * j) (lw_Z below #[Value.ref b] s) (F0 m 416 ls []) := by
  obtain ⟨hx, hb, hr, hml, hown, hts, hX, hbl, hlocks, hgv⟩ := id C0
  have hbA : ¬ (fun q : Nat => s.heap.size ≤ q) b := Nat.not_le.mpr hbl
  obtain ⟨v1, e1⟩ : ∃ v : Int32, v = xs (x3 + 1).toNatClampNeg := ⟨_, rfl⟩
  refine lv_aload_n hx hb dL_law_416 rfl (lv_at hl 1 rfl) ?_
  refine lv_aload_n hx hb dL_law_417 rfl (lv_at hl 0 rfl) ?_
  refine lv_iload_n hx hb dL_law_418 rfl (lv_at hl 3 rfl) ?_
  refine lv_iconst (v := 1) hx hb dL_law_419 (by decide) ?_
  refine lv_iadd hx hb dL_law_420 ?_
  refine va_sld hx hb hX hbl hbA hB.2.2.2 (hin 1 (by decide)) dL_law_421 ?_
  refine W.eq (g2 := F0 m 422 ls [.int v1, .ref (ad 0)]) (by rw [e1]) ?_
  refine lv_if_eq (tgt := 429) hx hb dL_law_422 (by decide) (fun cz => ?_) (fun cz => ?_)
  · skip
    refine lv_iconst (v := 0) hx hb dL_law_429 (by decide) ?_
    obtain ⟨r0, γ1, μ1, hk1, hk2, hRl1⟩ := hS γ μ 0 hRl (Or.inl rfl)
    refine lx_call (rv := some (.int r0)) (av := [.int 0]) (rest := []) hx hb hml hown hts hl.1 hV hB (cc_X7_air l D ad cy z n γ 0 hk1) (cwV 1 hts (gL_v wsC_in allC qLo_methodLink_43 qLp_im_X7_air qLp_se_X7_air qLx_ini7 qLp_co_X7_air) rfl rfl rfl (by decide +kernel) ⟨Nat.le_of_ble_eq_true rfl, Nat.le_of_ble_eq_true rfl⟩) rfl rfl (lv_room (Nat.le_of_ble_eq_true rfl)) dL_law_430 (by show 59 + 3 * j + 0 ≤ 600000; omega) (by show 2231 + 45 * j + 0 ≤ 7302249; omega) (fun H locs hB => ?_)
    refine W.eq (g2 := F0 m 433 ls [.int r0]) rfl ?_
    refine lv_aload_n hx hb dL_law_433 rfl (lv_at hl 2 rfl) ?_
    refine lv_aload_n hx hb dL_law_434 rfl (lv_at hl 0 rfl) ?_
    refine lv_iload_n hx hb dL_law_435 rfl (lv_at hl 3 rfl) ?_
    refine lv_iconst (v := 1) hx hb dL_law_436 (by decide) ?_
    refine lv_iadd hx hb dL_law_437 ?_
    refine va_sld hx hb hX hbl hbA hB.2.2.2 (hin 1 (by decide)) dL_law_438 ?_
    refine W.eq (g2 := F0 m 439 ls [.int v1, .ref (am 0), .int r0]) (by rw [e1]) ?_
    refine lv_if_eq (tgt := 446) hx hb dL_law_439 (by decide) (fun _ => ?_) (fun c2 => absurd cz c2)
    refine lv_iconst (v := 0) hx hb dL_law_446 (by decide) ?_
    refine lm_calli (r0 := r0) (av := [.int 0]) (rest := [.int r0]) hx hb hml hown hts hl.1 hV hB (cm_air l D am cy.1 n μ 0 hk2) (cwV 1 hts (gL_v wsM_in allM qLo_methodLink_47 qLp_im_X8_air qLp_se_X8_air qLx_ini8 qLp_co_X8_air) rfl rfl rfl (by decide +kernel) ⟨Nat.le_of_ble_eq_true rfl, Nat.le_of_ble_eq_true rfl⟩) rfl rfl (lv_room (Nat.le_of_ble_eq_true rfl)) dL_law_447 (by show 59 + 3 * j + 0 ≤ 600000; omega) (by show 2231 + 45 * j + 0 ≤ 7302249; omega) (fun H locs hB => ?_)
    refine lv_icmp_eq (tgt := 1332) hx hb dL_law_450 (by decide) (fun _ => ?_) (fun c2 => absurd rfl c2)
    refine W.widen (k := 59 + 3 * (j + 1)) (n := 2231 + 45 * (j + 1)) (by omega) (by omega) ?_
    exact hN ad γ1 μ1 _ _ _ hRl1 hB hl
  · skip
    refine lv_iconst (v := 1) hx hb dL_law_425 (by decide) ?_
    refine lv_goto (tgt := 430) hx hb dL_law_426 (by decide) ?_
    obtain ⟨r0, γ1, μ1, hk1, hk2, hRl1⟩ := hS γ μ 1 hRl (Or.inr rfl)
    refine lx_call (rv := some (.int r0)) (av := [.int 1]) (rest := []) hx hb hml hown hts hl.1 hV hB (cc_X7_air l D ad cy z n γ 1 hk1) (cwV 1 hts (gL_v wsC_in allC qLo_methodLink_43 qLp_im_X7_air qLp_se_X7_air qLx_ini7 qLp_co_X7_air) rfl rfl rfl (by decide +kernel) ⟨Nat.le_of_ble_eq_true rfl, Nat.le_of_ble_eq_true rfl⟩) rfl rfl (lv_room (Nat.le_of_ble_eq_true rfl)) dL_law_430 (by show 59 + 3 * j + 0 ≤ 600000; omega) (by show 2231 + 45 * j + 0 ≤ 7302249; omega) (fun H locs hB => ?_)
    refine W.eq (g2 := F0 m 433 ls [.int r0]) rfl ?_
    refine lv_aload_n hx hb dL_law_433 rfl (lv_at hl 2 rfl) ?_
    refine lv_aload_n hx hb dL_law_434 rfl (lv_at hl 0 rfl) ?_
    refine lv_iload_n hx hb dL_law_435 rfl (lv_at hl 3 rfl) ?_
    refine lv_iconst (v := 1) hx hb dL_law_436 (by decide) ?_
    refine lv_iadd hx hb dL_law_437 ?_
    refine va_sld hx hb hX hbl hbA hB.2.2.2 (hin 1 (by decide)) dL_law_438 ?_
    refine W.eq (g2 := F0 m 439 ls [.int v1, .ref (am 0), .int r0]) (by rw [e1]) ?_
    refine lv_if_eq (tgt := 446) hx hb dL_law_439 (by decide) (fun c2 => absurd c2 cz) (fun _ => ?_)
    refine lv_iconst (v := 1) hx hb dL_law_442 (by decide) ?_
    refine lv_goto (tgt := 447) hx hb dL_law_443 (by decide) ?_
    refine lm_calli (r0 := r0) (av := [.int 1]) (rest := [.int r0]) hx hb hml hown hts hl.1 hV hB (cm_air l D am cy.1 n μ 1 hk2) (cwV 1 hts (gL_v wsM_in allM qLo_methodLink_47 qLp_im_X8_air qLp_se_X8_air qLx_ini8 qLp_co_X8_air) rfl rfl rfl (by decide +kernel) ⟨Nat.le_of_ble_eq_true rfl, Nat.le_of_ble_eq_true rfl⟩) rfl rfl (lv_room (Nat.le_of_ble_eq_true rfl)) dL_law_447 (by show 59 + 3 * j + 0 ≤ 600000; omega) (by show 2231 + 45 * j + 0 ≤ 7302249; omega) (fun H locs hB => ?_)
    refine lv_icmp_eq (tgt := 1332) hx hb dL_law_450 (by decide) (fun _ => ?_) (fun c2 => absurd rfl c2)
    refine W.widen (k := 59 + 3 * (j + 1)) (n := 2231 + 45 * (j + 1)) (by omega) (by omega) ?_
    exact hN ad γ1 μ1 _ _ _ hRl1 hB hl
set_option maxRecDepth 100000 in
set_option maxHeartbeats 4000000 in
theorem lk_toneAt {p : Program} {l : Launch} {e : Env} {s : State} {m : MethodId} {below : List Frame} {meth : Method} {c : Code} {b L : Nat} {xs : Nat → Int32} (C0 : lw_At p s m meth c b L xs) {D : va_G} {cy : CY} {z : CZ} (hV : lV D cy z (fun q => s.heap.size ≤ q) s) (n : Nat) {Rl : CS → MS → Prop} (hS : st_toneAt n Rl) {ad am : Nat → Nat} {γ : CS} {μ : MS} (hRl : Rl γ μ) {j : Nat} (hj : j < 65) {x3 : Int32} (hin : ∀ k : Nat, k < 7 → vp_in (x3 + nI k) L) {H : Heap} {locs : List Loc} {ls : Array Slot} (hB : lB D ad am cy (fun q => s.heap.size ≤ q) s.heap γ μ H locs) (hl : lv_has ls 4 [(0, .ref b), (1, .ref (ad 0)), (2, .ref (am 0)), (3, .int x3)])
    (hN : ∀ (ad1 : Nat → Nat) (γ1 : CS) (μ1 : MS) (H1 : Heap) (locs1 : List Loc) (ls1 : Array Slot), Rl γ1 μ1 → lB D ad1 am cy (fun q => s.heap.size ≤ q) s.heap γ1 μ1 H1 locs1 → lv_has ls1 4 [(0, .ref b), (1, .ref (ad1 0)), (2, .ref (am 0)), (3, .int x3)] → W p l e room_1 s m #[Value.ref b] below meth c H1 locs1 (59 + 3 * (j + 1)) (2231 + 45 * (j + 1)) (lw_Z below #[Value.ref b] s) (F0 m 1332 ls1 [])) : W p l e room_1 s m #[Value.ref b] below meth c H locs (59 + 3 * j) (2231 + 45 * j) (lw_Z below #[Value.ref b] s) (F0 m 455 ls []) := by
  obtain ⟨hx, hb, hr, hml, hown, hts, hX, hbl, hlocks, hgv⟩ := id C0
  have hbA : ¬ (fun q : Nat => s.heap.size ≤ q) b := Nat.not_le.mpr hbl
  obtain ⟨v1, e1⟩ : ∃ v : Int32, v = xs (x3 + 1).toNatClampNeg := ⟨_, rfl⟩
  obtain ⟨v2, e2⟩ : ∃ v : Int32, v = xs (x3 + 2).toNatClampNeg := ⟨_, rfl⟩
  refine lv_aload_n hx hb dL_law_455 rfl (lv_at hl 1 rfl) ?_
  refine lv_aload_n hx hb dL_law_456 rfl (lv_at hl 0 rfl) ?_
  refine lv_iload_n hx hb dL_law_457 rfl (lv_at hl 3 rfl) ?_
  refine lv_iconst (v := 1) hx hb dL_law_458 (by decide) ?_
  refine lv_iadd hx hb dL_law_459 ?_
  refine va_sld hx hb hX hbl hbA hB.2.2.2 (hin 1 (by decide)) dL_law_460 ?_
  refine W.eq (g2 := F0 m 461 ls [.int v1, .ref (ad 0)]) (by rw [e1]) ?_
  refine lv_aload_n hx hb dL_law_461 rfl (lv_at hl 0 rfl) ?_
  refine lv_iload_n hx hb dL_law_462 rfl (lv_at hl 3 rfl) ?_
  refine lv_iconst (v := 2) hx hb dL_law_463 (by decide) ?_
  refine lv_iadd hx hb dL_law_464 ?_
  refine va_sld hx hb hX hbl hbA hB.2.2.2 (hin 2 (by decide)) dL_law_465 ?_
  refine W.eq (g2 := F0 m 466 ls [.int v2, .int v1, .ref (ad 0)]) (by rw [e2]) ?_
  obtain ⟨r0, γ1, μ1, hk1, hk2, hRl1⟩ := hS γ μ v1 v2 hRl
  refine lx_call (rv := some (.int r0)) (av := [.int v1, .int v2]) (rest := []) hx hb hml hown hts hl.1 hV hB (cc_X7_toneAt l D ad cy z n γ v1 v2 hk1) (cwV 2 hts (gL_v wsC_in allC qLo_methodLink_48 qLp_im_X7_toneAt qLp_se_X7_toneAt qLx_ini7 qLp_co_X7_toneAt) rfl rfl rfl (by decide +kernel) ⟨Nat.le_of_ble_eq_true rfl, Nat.le_of_ble_eq_true rfl⟩) rfl rfl (lv_room (Nat.le_of_ble_eq_true rfl)) dL_law_466 (by show 59 + 3 * j + 0 ≤ 600000; omega) (by show 2231 + 45 * j + 0 ≤ 7302249; omega) (fun H locs hB => ?_)
  refine W.eq (g2 := F0 m 469 ls [.int r0]) rfl ?_
  refine lv_aload_n hx hb dL_law_469 rfl (lv_at hl 2 rfl) ?_
  refine lv_aload_n hx hb dL_law_470 rfl (lv_at hl 0 rfl) ?_
  refine lv_iload_n hx hb dL_law_471 rfl (lv_at hl 3 rfl) ?_
  refine lv_iconst (v := 1) hx hb dL_law_472 (by decide) ?_
  refine lv_iadd hx hb dL_law_473 ?_
  refine va_sld hx hb hX hbl hbA hB.2.2.2 (hin 1 (by decide)) dL_law_474 ?_
  refine W.eq (g2 := F0 m 475 ls [.int v1, .ref (am 0), .int r0]) (by rw [e1]) ?_
  refine lv_aload_n hx hb dL_law_475 rfl (lv_at hl 0 rfl) ?_
  refine lv_iload_n hx hb dL_law_476 rfl (lv_at hl 3 rfl) ?_
  refine lv_iconst (v := 2) hx hb dL_law_477 (by decide) ?_
  refine lv_iadd hx hb dL_law_478 ?_
  refine va_sld hx hb hX hbl hbA hB.2.2.2 (hin 2 (by decide)) dL_law_479 ?_
  refine W.eq (g2 := F0 m 480 ls [.int v2, .int v1, .ref (am 0), .int r0]) (by rw [e2]) ?_
  refine lm_calli (r0 := r0) (av := [.int v1, .int v2]) (rest := [.int r0]) hx hb hml hown hts hl.1 hV hB (cm_toneAt l D am cy.1 n μ v1 v2 hk2) (cwV 2 hts (gL_v wsM_in allM qLo_methodLink_51 qLp_im_X8_toneAt qLp_se_X8_toneAt qLx_ini8 qLp_co_X8_toneAt) rfl rfl rfl (by decide +kernel) ⟨Nat.le_of_ble_eq_true rfl, Nat.le_of_ble_eq_true rfl⟩) rfl rfl (lv_room (Nat.le_of_ble_eq_true rfl)) dL_law_480 (by show 59 + 3 * j + 0 ≤ 600000; omega) (by show 2231 + 45 * j + 0 ≤ 7302249; omega) (fun H locs hB => ?_)
  refine lv_icmp_eq (tgt := 1332) hx hb dL_law_483 (by decide) (fun _ => ?_) (fun c2 => absurd rfl c2)
  refine W.widen (k := 59 + 3 * (j + 1)) (n := 2231 + 45 * (j + 1)) (by omega) (by omega) ?_
  exact hN ad γ1 μ1 _ _ _ hRl1 hB hl
set_option maxRecDepth 100000 in
set_option maxHeartbeats 4000000 in
theorem lk_takes {p : Program} {l : Launch} {e : Env} {s : State} {m : MethodId} {below : List Frame} {meth : Method} {c : Code} {b L : Nat} {xs : Nat → Int32} (C0 : lw_At p s m meth c b L xs) {D : va_G} {cy : CY} {z : CZ} (hV : lV D cy z (fun q => s.heap.size ≤ q) s) (n : Nat) {Rl : CS → MS → Prop} (hS : st_takes n Rl) {ad am : Nat → Nat} {γ : CS} {μ : MS} (hRl : Rl γ μ) {j : Nat} (hj : j < 65) {x3 : Int32} (hin : ∀ k : Nat, k < 7 → vp_in (x3 + nI k) L) {H : Heap} {locs : List Loc} {ls : Array Slot} (hB : lB D ad am cy (fun q => s.heap.size ≤ q) s.heap γ μ H locs) (hl : lv_has ls 4 [(0, .ref b), (1, .ref (ad 0)), (2, .ref (am 0)), (3, .int x3)])
    (hN : ∀ (ad1 : Nat → Nat) (γ1 : CS) (μ1 : MS) (H1 : Heap) (locs1 : List Loc) (ls1 : Array Slot), Rl γ1 μ1 → lB D ad1 am cy (fun q => s.heap.size ≤ q) s.heap γ1 μ1 H1 locs1 → lv_has ls1 4 [(0, .ref b), (1, .ref (ad1 0)), (2, .ref (am 0)), (3, .int x3)] → W p l e room_1 s m #[Value.ref b] below meth c H1 locs1 (59 + 3 * (j + 1)) (2231 + 45 * (j + 1)) (lw_Z below #[Value.ref b] s) (F0 m 1332 ls1 [])) : W p l e room_1 s m #[Value.ref b] below meth c H locs (59 + 3 * j) (2231 + 45 * j) (lw_Z below #[Value.ref b] s) (F0 m 488 ls []) := by
  obtain ⟨hx, hb, hr, hml, hown, hts, hX, hbl, hlocks, hgv⟩ := id C0
  have hbA : ¬ (fun q : Nat => s.heap.size ≤ q) b := Nat.not_le.mpr hbl
  obtain ⟨v1, e1⟩ : ∃ v : Int32, v = xs (x3 + 1).toNatClampNeg := ⟨_, rfl⟩
  obtain ⟨v2, e2⟩ : ∃ v : Int32, v = xs (x3 + 2).toNatClampNeg := ⟨_, rfl⟩
  obtain ⟨v3, e3⟩ : ∃ v : Int32, v = xs (x3 + 3).toNatClampNeg := ⟨_, rfl⟩
  obtain ⟨v4, e4⟩ : ∃ v : Int32, v = xs (x3 + 4).toNatClampNeg := ⟨_, rfl⟩
  obtain ⟨v5, e5⟩ : ∃ v : Int32, v = xs (x3 + 5).toNatClampNeg := ⟨_, rfl⟩
  refine lv_aload_n hx hb dL_law_488 rfl (lv_at hl 1 rfl) ?_
  refine lv_aload_n hx hb dL_law_489 rfl (lv_at hl 0 rfl) ?_
  refine lv_iload_n hx hb dL_law_490 rfl (lv_at hl 3 rfl) ?_
  refine lv_iconst (v := 1) hx hb dL_law_491 (by decide) ?_
  refine lv_iadd hx hb dL_law_492 ?_
  refine va_sld hx hb hX hbl hbA hB.2.2.2 (hin 1 (by decide)) dL_law_493 ?_
  refine W.eq (g2 := F0 m 494 ls [.int v1, .ref (ad 0)]) (by rw [e1]) ?_
  refine lv_aload_n hx hb dL_law_494 rfl (lv_at hl 0 rfl) ?_
  refine lv_iload_n hx hb dL_law_495 rfl (lv_at hl 3 rfl) ?_
  refine lv_iconst (v := 2) hx hb dL_law_496 (by decide) ?_
  refine lv_iadd hx hb dL_law_497 ?_
  refine va_sld hx hb hX hbl hbA hB.2.2.2 (hin 2 (by decide)) dL_law_498 ?_
  refine W.eq (g2 := F0 m 499 ls [.int v2, .int v1, .ref (ad 0)]) (by rw [e2]) ?_
  refine lv_aload_n hx hb dL_law_499 rfl (lv_at hl 0 rfl) ?_
  refine lv_iload_n hx hb dL_law_500 rfl (lv_at hl 3 rfl) ?_
  refine lv_iconst (v := 3) hx hb dL_law_501 (by decide) ?_
  refine lv_iadd hx hb dL_law_502 ?_
  refine va_sld hx hb hX hbl hbA hB.2.2.2 (hin 3 (by decide)) dL_law_503 ?_
  refine W.eq (g2 := F0 m 504 ls [.int v3, .int v2, .int v1, .ref (ad 0)]) (by rw [e3]) ?_
  refine lv_aload_n hx hb dL_law_504 rfl (lv_at hl 0 rfl) ?_
  refine lv_iload_n hx hb dL_law_505 rfl (lv_at hl 3 rfl) ?_
  refine lv_iconst (v := 4) hx hb dL_law_506 (by decide) ?_
  refine lv_iadd hx hb dL_law_507 ?_
  refine va_sld hx hb hX hbl hbA hB.2.2.2 (hin 4 (by decide)) dL_law_508 ?_
  refine W.eq (g2 := F0 m 509 ls [.int v4, .int v3, .int v2, .int v1, .ref (ad 0)]) (by rw [e4]) ?_
  refine lv_aload_n hx hb dL_law_509 rfl (lv_at hl 0 rfl) ?_
  refine lv_iload_n hx hb dL_law_510 rfl (lv_at hl 3 rfl) ?_
  refine lv_iconst (v := 5) hx hb dL_law_511 (by decide) ?_
  refine lv_iadd hx hb dL_law_512 ?_
  refine va_sld hx hb hX hbl hbA hB.2.2.2 (hin 5 (by decide)) dL_law_513 ?_
  refine W.eq (g2 := F0 m 514 ls [.int v5, .int v4, .int v3, .int v2, .int v1, .ref (ad 0)]) (by rw [e5]) ?_
  obtain ⟨r0, γ1, μ1, hk1, hk2, hRl1⟩ := hS γ μ v1 v2 v3 v4 v5 hRl
  refine lx_call (rv := some (.int r0)) (av := [.int v1, .int v2, .int v3, .int v4, .int v5]) (rest := []) hx hb hml hown hts hl.1 hV hB (cc_X7_takes l D ad cy z n γ v1 v2 v3 v4 v5 hk1) (cwV 5 hts (gL_v wsC_in allC qLo_methodLink_52 qLp_im_X7_takes qLp_se_X7_takes qLx_ini7 qLp_co_X7_takes) rfl rfl rfl (by decide +kernel) ⟨Nat.le_of_ble_eq_true rfl, Nat.le_of_ble_eq_true rfl⟩) rfl rfl (lv_room (Nat.le_of_ble_eq_true rfl)) dL_law_514 (by show 59 + 3 * j + 0 ≤ 600000; omega) (by show 2231 + 45 * j + 0 ≤ 7302249; omega) (fun H locs hB => ?_)
  refine W.eq (g2 := F0 m 517 ls [.int r0]) rfl ?_
  refine lv_aload_n hx hb dL_law_517 rfl (lv_at hl 2 rfl) ?_
  refine lv_aload_n hx hb dL_law_518 rfl (lv_at hl 0 rfl) ?_
  refine lv_iload_n hx hb dL_law_519 rfl (lv_at hl 3 rfl) ?_
  refine lv_iconst (v := 1) hx hb dL_law_520 (by decide) ?_
  refine lv_iadd hx hb dL_law_521 ?_
  refine va_sld hx hb hX hbl hbA hB.2.2.2 (hin 1 (by decide)) dL_law_522 ?_
  refine W.eq (g2 := F0 m 523 ls [.int v1, .ref (am 0), .int r0]) (by rw [e1]) ?_
  refine lv_aload_n hx hb dL_law_523 rfl (lv_at hl 0 rfl) ?_
  refine lv_iload_n hx hb dL_law_524 rfl (lv_at hl 3 rfl) ?_
  refine lv_iconst (v := 2) hx hb dL_law_525 (by decide) ?_
  refine lv_iadd hx hb dL_law_526 ?_
  refine va_sld hx hb hX hbl hbA hB.2.2.2 (hin 2 (by decide)) dL_law_527 ?_
  refine W.eq (g2 := F0 m 528 ls [.int v2, .int v1, .ref (am 0), .int r0]) (by rw [e2]) ?_
  refine lv_aload_n hx hb dL_law_528 rfl (lv_at hl 0 rfl) ?_
  refine lv_iload_n hx hb dL_law_529 rfl (lv_at hl 3 rfl) ?_
  refine lv_iconst (v := 3) hx hb dL_law_530 (by decide) ?_
  refine lv_iadd hx hb dL_law_531 ?_
  refine va_sld hx hb hX hbl hbA hB.2.2.2 (hin 3 (by decide)) dL_law_532 ?_
  refine W.eq (g2 := F0 m 533 ls [.int v3, .int v2, .int v1, .ref (am 0), .int r0]) (by rw [e3]) ?_
  refine lv_aload_n hx hb dL_law_533 rfl (lv_at hl 0 rfl) ?_
  refine lv_iload_n hx hb dL_law_534 rfl (lv_at hl 3 rfl) ?_
  refine lv_iconst (v := 4) hx hb dL_law_535 (by decide) ?_
  refine lv_iadd hx hb dL_law_536 ?_
  refine va_sld hx hb hX hbl hbA hB.2.2.2 (hin 4 (by decide)) dL_law_537 ?_
  refine W.eq (g2 := F0 m 538 ls [.int v4, .int v3, .int v2, .int v1, .ref (am 0), .int r0]) (by rw [e4]) ?_
  refine lv_aload_n hx hb dL_law_538 rfl (lv_at hl 0 rfl) ?_
  refine lv_iload_n hx hb dL_law_539 rfl (lv_at hl 3 rfl) ?_
  refine lv_iconst (v := 5) hx hb dL_law_540 (by decide) ?_
  refine lv_iadd hx hb dL_law_541 ?_
  refine va_sld hx hb hX hbl hbA hB.2.2.2 (hin 5 (by decide)) dL_law_542 ?_
  refine W.eq (g2 := F0 m 543 ls [.int v5, .int v4, .int v3, .int v2, .int v1, .ref (am 0), .int r0]) (by rw [e5]) ?_
  refine lm_calli (r0 := r0) (av := [.int v1, .int v2, .int v3, .int v4, .int v5]) (rest := [.int r0]) hx hb hml hown hts hl.1 hV hB (cm_takes l D am cy.1 n μ v1 v2 v3 v4 v5 hk2) (cwV 5 hts (gL_v wsM_in allM qLo_methodLink_56 qLp_im_X8_takes qLp_se_X8_takes qLx_ini8 qLp_co_X8_takes) rfl rfl rfl (by decide +kernel) ⟨Nat.le_of_ble_eq_true rfl, Nat.le_of_ble_eq_true rfl⟩) rfl rfl (lv_room (Nat.le_of_ble_eq_true rfl)) dL_law_543 (by show 59 + 3 * j + 0 ≤ 600000; omega) (by show 2231 + 45 * j + 0 ≤ 7302249; omega) (fun H locs hB => ?_)
  refine lv_icmp_eq (tgt := 1332) hx hb dL_law_546 (by decide) (fun _ => ?_) (fun c2 => absurd rfl c2)
  refine W.widen (k := 59 + 3 * (j + 1)) (n := 2231 + 45 * (j + 1)) (by omega) (by omega) ?_
  exact hN ad γ1 μ1 _ _ _ hRl1 hB hl
set_option maxRecDepth 100000 in
set_option maxHeartbeats 4000000 in
theorem lk_spin {p : Program} {l : Launch} {e : Env} {s : State} {m : MethodId} {below : List Frame} {meth : Method} {c : Code} {b L : Nat} {xs : Nat → Int32} (C0 : lw_At p s m meth c b L xs) {D : va_G} {cy : CY} {z : CZ} (hV : lV D cy z (fun q => s.heap.size ≤ q) s) (n : Nat) {Rl : CS → MS → Prop} (hS : st_spin n Rl) {ad am : Nat → Nat} {γ : CS} {μ : MS} (hRl : Rl γ μ) {j : Nat} (hj : j < 65) {x3 : Int32} (hin : ∀ k : Nat, k < 7 → vp_in (x3 + nI k) L) {H : Heap} {locs : List Loc} {ls : Array Slot} (hB : lB D ad am cy (fun q => s.heap.size ≤ q) s.heap γ μ H locs) (hl : lv_has ls 4 [(0, .ref b), (1, .ref (ad 0)), (2, .ref (am 0)), (3, .int x3)])
    (hN : ∀ (ad1 : Nat → Nat) (γ1 : CS) (μ1 : MS) (H1 : Heap) (locs1 : List Loc) (ls1 : Array Slot), Rl γ1 μ1 → lB D ad1 am cy (fun q => s.heap.size ≤ q) s.heap γ1 μ1 H1 locs1 → lv_has ls1 4 [(0, .ref b), (1, .ref (ad1 0)), (2, .ref (am 0)), (3, .int x3)] → W p l e room_1 s m #[Value.ref b] below meth c H1 locs1 (59 + 3 * (j + 1)) (2231 + 45 * (j + 1)) (lw_Z below #[Value.ref b] s) (F0 m 1332 ls1 [])) : W p l e room_1 s m #[Value.ref b] below meth c H locs (59 + 3 * j) (2231 + 45 * j) (lw_Z below #[Value.ref b] s) (F0 m 551 ls []) := by
  obtain ⟨hx, hb, hr, hml, hown, hts, hX, hbl, hlocks, hgv⟩ := id C0
  have hbA : ¬ (fun q : Nat => s.heap.size ≤ q) b := Nat.not_le.mpr hbl
  obtain ⟨v1, e1⟩ : ∃ v : Int32, v = xs (x3 + 1).toNatClampNeg := ⟨_, rfl⟩
  obtain ⟨v2, e2⟩ : ∃ v : Int32, v = xs (x3 + 2).toNatClampNeg := ⟨_, rfl⟩
  obtain ⟨v3, e3⟩ : ∃ v : Int32, v = xs (x3 + 3).toNatClampNeg := ⟨_, rfl⟩
  refine lv_aload_n hx hb dL_law_551 rfl (lv_at hl 1 rfl) ?_
  refine lv_aload_n hx hb dL_law_552 rfl (lv_at hl 0 rfl) ?_
  refine lv_iload_n hx hb dL_law_553 rfl (lv_at hl 3 rfl) ?_
  refine lv_iconst (v := 1) hx hb dL_law_554 (by decide) ?_
  refine lv_iadd hx hb dL_law_555 ?_
  refine va_sld hx hb hX hbl hbA hB.2.2.2 (hin 1 (by decide)) dL_law_556 ?_
  refine W.eq (g2 := F0 m 557 ls [.int v1, .ref (ad 0)]) (by rw [e1]) ?_
  refine lv_aload_n hx hb dL_law_557 rfl (lv_at hl 0 rfl) ?_
  refine lv_iload_n hx hb dL_law_558 rfl (lv_at hl 3 rfl) ?_
  refine lv_iconst (v := 2) hx hb dL_law_559 (by decide) ?_
  refine lv_iadd hx hb dL_law_560 ?_
  refine va_sld hx hb hX hbl hbA hB.2.2.2 (hin 2 (by decide)) dL_law_561 ?_
  refine W.eq (g2 := F0 m 562 ls [.int v2, .int v1, .ref (ad 0)]) (by rw [e2]) ?_
  refine lv_aload_n hx hb dL_law_562 rfl (lv_at hl 0 rfl) ?_
  refine lv_iload_n hx hb dL_law_563 rfl (lv_at hl 3 rfl) ?_
  refine lv_iconst (v := 3) hx hb dL_law_564 (by decide) ?_
  refine lv_iadd hx hb dL_law_565 ?_
  refine va_sld hx hb hX hbl hbA hB.2.2.2 (hin 3 (by decide)) dL_law_566 ?_
  refine W.eq (g2 := F0 m 567 ls [.int v3, .int v2, .int v1, .ref (ad 0)]) (by rw [e3]) ?_
  obtain ⟨r0, γ1, μ1, hk1, hk2, hRl1⟩ := hS γ μ v1 v2 v3 hRl
  refine lx_call (rv := some (.int r0)) (av := [.int v1, .int v2, .int v3]) (rest := []) hx hb hml hown hts hl.1 hV hB (cc_X7_spin l D ad cy z n γ v1 v2 v3 hk1) (cwV 3 hts (gL_v wsC_in allC qLo_methodLink_57 qLp_im_X7_spin qLp_se_X7_spin qLx_ini7 qLp_co_X7_spin) rfl rfl rfl (by decide +kernel) ⟨Nat.le_of_ble_eq_true rfl, Nat.le_of_ble_eq_true rfl⟩) rfl rfl (lv_room (Nat.le_of_ble_eq_true rfl)) dL_law_567 (by show 59 + 3 * j + 0 ≤ 600000; omega) (by show 2231 + 45 * j + 0 ≤ 7302249; omega) (fun H locs hB => ?_)
  refine W.eq (g2 := F0 m 570 ls [.int r0]) rfl ?_
  refine lv_aload_n hx hb dL_law_570 rfl (lv_at hl 2 rfl) ?_
  refine lv_aload_n hx hb dL_law_571 rfl (lv_at hl 0 rfl) ?_
  refine lv_iload_n hx hb dL_law_572 rfl (lv_at hl 3 rfl) ?_
  refine lv_iconst (v := 1) hx hb dL_law_573 (by decide) ?_
  refine lv_iadd hx hb dL_law_574 ?_
  refine va_sld hx hb hX hbl hbA hB.2.2.2 (hin 1 (by decide)) dL_law_575 ?_
  refine W.eq (g2 := F0 m 576 ls [.int v1, .ref (am 0), .int r0]) (by rw [e1]) ?_
  refine lv_aload_n hx hb dL_law_576 rfl (lv_at hl 0 rfl) ?_
  refine lv_iload_n hx hb dL_law_577 rfl (lv_at hl 3 rfl) ?_
  refine lv_iconst (v := 2) hx hb dL_law_578 (by decide) ?_
  refine lv_iadd hx hb dL_law_579 ?_
  refine va_sld hx hb hX hbl hbA hB.2.2.2 (hin 2 (by decide)) dL_law_580 ?_
  refine W.eq (g2 := F0 m 581 ls [.int v2, .int v1, .ref (am 0), .int r0]) (by rw [e2]) ?_
  refine lv_aload_n hx hb dL_law_581 rfl (lv_at hl 0 rfl) ?_
  refine lv_iload_n hx hb dL_law_582 rfl (lv_at hl 3 rfl) ?_
  refine lv_iconst (v := 3) hx hb dL_law_583 (by decide) ?_
  refine lv_iadd hx hb dL_law_584 ?_
  refine va_sld hx hb hX hbl hbA hB.2.2.2 (hin 3 (by decide)) dL_law_585 ?_
  refine W.eq (g2 := F0 m 586 ls [.int v3, .int v2, .int v1, .ref (am 0), .int r0]) (by rw [e3]) ?_
  refine lm_calli (r0 := r0) (av := [.int v1, .int v2, .int v3]) (rest := [.int r0]) hx hb hml hown hts hl.1 hV hB (cm_spin l D am cy.1 n μ v1 v2 v3 hk2) (cwV 3 hts (gL_v wsM_in allM qLo_methodLink_60 qLp_im_X8_spin qLp_se_X8_spin qLx_ini8 qLp_co_X8_spin) rfl rfl rfl (by decide +kernel) ⟨Nat.le_of_ble_eq_true rfl, Nat.le_of_ble_eq_true rfl⟩) rfl rfl (lv_room (Nat.le_of_ble_eq_true rfl)) dL_law_586 (by show 59 + 3 * j + 0 ≤ 600000; omega) (by show 2231 + 45 * j + 0 ≤ 7302249; omega) (fun H locs hB => ?_)
  refine lv_icmp_eq (tgt := 1332) hx hb dL_law_589 (by decide) (fun _ => ?_) (fun c2 => absurd rfl c2)
  refine W.widen (k := 59 + 3 * (j + 1)) (n := 2231 + 45 * (j + 1)) (by omega) (by omega) ?_
  exact hN ad γ1 μ1 _ _ _ hRl1 hB hl
set_option maxRecDepth 100000 in
set_option maxHeartbeats 4000000 in
theorem lk_tick {p : Program} {l : Launch} {e : Env} {s : State} {m : MethodId} {below : List Frame} {meth : Method} {c : Code} {b L : Nat} {xs : Nat → Int32} (C0 : lw_At p s m meth c b L xs) {D : va_G} {cy : CY} {z : CZ} (hV : lV D cy z (fun q => s.heap.size ≤ q) s) (n : Nat) {Rl : CS → MS → Prop} (hS : st_tick n Rl) {ad am : Nat → Nat} {γ : CS} {μ : MS} (hRl : Rl γ μ) {j : Nat} (hj : j < 65) {x3 : Int32} (hin : ∀ k : Nat, k < 7 → vp_in (x3 + nI k) L) {H : Heap} {locs : List Loc} {ls : Array Slot} (hB : lB D ad am cy (fun q => s.heap.size ≤ q) s.heap γ μ H locs) (hl : lv_has ls 4 [(0, .ref b), (1, .ref (ad 0)), (2, .ref (am 0)), (3, .int x3)])
    (hN : ∀ (ad1 : Nat → Nat) (γ1 : CS) (μ1 : MS) (H1 : Heap) (locs1 : List Loc) (ls1 : Array Slot), Rl γ1 μ1 → lB D ad1 am cy (fun q => s.heap.size ≤ q) s.heap γ1 μ1 H1 locs1 → lv_has ls1 4 [(0, .ref b), (1, .ref (ad1 0)), (2, .ref (am 0)), (3, .int x3)] → W p l e room_1 s m #[Value.ref b] below meth c H1 locs1 (59 + 3 * (j + 1)) (2231 + 45 * (j + 1)) (lw_Z below #[Value.ref b] s) (F0 m 1332 ls1 [])) : W p l e room_1 s m #[Value.ref b] below meth c H locs (59 + 3 * j) (2231 + 45 * j) (lw_Z below #[Value.ref b] s) (F0 m 594 ls []) := by
  obtain ⟨hx, hb, hr, hml, hown, hts, hX, hbl, hlocks, hgv⟩ := id C0
  have hbA : ¬ (fun q : Nat => s.heap.size ≤ q) b := Nat.not_le.mpr hbl
  obtain ⟨v1, e1⟩ : ∃ v : Int32, v = xs (x3 + 1).toNatClampNeg := ⟨_, rfl⟩
  refine lv_aload_n hx hb dL_law_594 rfl (lv_at hl 1 rfl) ?_
  refine lv_aload_n hx hb dL_law_595 rfl (lv_at hl 0 rfl) ?_
  refine lv_iload_n hx hb dL_law_596 rfl (lv_at hl 3 rfl) ?_
  refine lv_iconst (v := 1) hx hb dL_law_597 (by decide) ?_
  refine lv_iadd hx hb dL_law_598 ?_
  refine va_sld hx hb hX hbl hbA hB.2.2.2 (hin 1 (by decide)) dL_law_599 ?_
  refine W.eq (g2 := F0 m 600 ls [.int v1, .ref (ad 0)]) (by rw [e1]) ?_
  obtain ⟨r0, γ1, μ1, hk1, hk2, hRl1⟩ := hS γ μ v1 hRl
  refine lx_call (rv := some (.int r0)) (av := [.int v1]) (rest := []) hx hb hml hown hts hl.1 hV hB (cc_X7_tick l D ad cy z n γ v1 hk1) (cwV 1 hts (gL_v wsC_in allC qLo_methodLink_61 qLp_im_X7_tick qLp_se_X7_tick qLx_ini7 qLp_co_X7_tick) rfl rfl rfl (by decide +kernel) ⟨Nat.le_of_ble_eq_true rfl, Nat.le_of_ble_eq_true rfl⟩) rfl rfl (lv_room (Nat.le_of_ble_eq_true rfl)) dL_law_600 (by show 59 + 3 * j + 0 ≤ 600000; omega) (by show 2231 + 45 * j + 0 ≤ 7302249; omega) (fun H locs hB => ?_)
  refine W.eq (g2 := F0 m 603 ls [.int r0]) rfl ?_
  refine lv_aload_n hx hb dL_law_603 rfl (lv_at hl 2 rfl) ?_
  refine lv_aload_n hx hb dL_law_604 rfl (lv_at hl 0 rfl) ?_
  refine lv_iload_n hx hb dL_law_605 rfl (lv_at hl 3 rfl) ?_
  refine lv_iconst (v := 1) hx hb dL_law_606 (by decide) ?_
  refine lv_iadd hx hb dL_law_607 ?_
  refine va_sld hx hb hX hbl hbA hB.2.2.2 (hin 1 (by decide)) dL_law_608 ?_
  refine W.eq (g2 := F0 m 609 ls [.int v1, .ref (am 0), .int r0]) (by rw [e1]) ?_
  refine lm_calli (r0 := r0) (av := [.int v1]) (rest := [.int r0]) hx hb hml hown hts hl.1 hV hB (cm_tick l D am cy.1 n μ v1 hk2) (cwV 1 hts (gL_v wsM_in allM qLo_methodLink_65 qLp_im_X8_tick qLp_se_X8_tick qLx_ini8 qLp_co_X8_tick) rfl rfl rfl (by decide +kernel) ⟨Nat.le_of_ble_eq_true rfl, Nat.le_of_ble_eq_true rfl⟩) rfl rfl (lv_room (Nat.le_of_ble_eq_true rfl)) dL_law_609 (by show 59 + 3 * j + 0 ≤ 600000; omega) (by show 2231 + 45 * j + 0 ≤ 7302249; omega) (fun H locs hB => ?_)
  refine lv_icmp_eq (tgt := 1332) hx hb dL_law_612 (by decide) (fun _ => ?_) (fun c2 => absurd rfl c2)
  refine W.widen (k := 59 + 3 * (j + 1)) (n := 2231 + 45 * (j + 1)) (by omega) (by omega) ?_
  exact hN ad γ1 μ1 _ _ _ hRl1 hB hl
set_option maxRecDepth 100000 in
set_option maxHeartbeats 4000000 in
theorem lk_state {p : Program} {l : Launch} {e : Env} {s : State} {m : MethodId} {below : List Frame} {meth : Method} {c : Code} {b L : Nat} {xs : Nat → Int32} (C0 : lw_At p s m meth c b L xs) {D : va_G} {cy : CY} {z : CZ} (hV : lV D cy z (fun q => s.heap.size ≤ q) s) (n : Nat) {Rl : CS → MS → Prop} (hS : st_state n Rl) {ad am : Nat → Nat} {γ : CS} {μ : MS} (hRl : Rl γ μ) {j : Nat} (hj : j < 65) {x3 : Int32} (hin : ∀ k : Nat, k < 7 → vp_in (x3 + nI k) L) {H : Heap} {locs : List Loc} {ls : Array Slot} (hB : lB D ad am cy (fun q => s.heap.size ≤ q) s.heap γ μ H locs) (hl : lv_has ls 4 [(0, .ref b), (1, .ref (ad 0)), (2, .ref (am 0)), (3, .int x3)])
    (hN : ∀ (ad1 : Nat → Nat) (γ1 : CS) (μ1 : MS) (H1 : Heap) (locs1 : List Loc) (ls1 : Array Slot), Rl γ1 μ1 → lB D ad1 am cy (fun q => s.heap.size ≤ q) s.heap γ1 μ1 H1 locs1 → lv_has ls1 4 [(0, .ref b), (1, .ref (ad1 0)), (2, .ref (am 0)), (3, .int x3)] → W p l e room_1 s m #[Value.ref b] below meth c H1 locs1 (59 + 3 * (j + 1)) (2231 + 45 * (j + 1)) (lw_Z below #[Value.ref b] s) (F0 m 1332 ls1 [])) : W p l e room_1 s m #[Value.ref b] below meth c H locs (59 + 3 * j) (2231 + 45 * j) (lw_Z below #[Value.ref b] s) (F0 m 617 ls []) := by
  obtain ⟨hx, hb, hr, hml, hown, hts, hX, hbl, hlocks, hgv⟩ := id C0
  have hbA : ¬ (fun q : Nat => s.heap.size ≤ q) b := Nat.not_le.mpr hbl
  obtain ⟨v1, e1⟩ : ∃ v : Int32, v = xs (x3 + 1).toNatClampNeg := ⟨_, rfl⟩
  refine lv_aload_n hx hb dL_law_617 rfl (lv_at hl 1 rfl) ?_
  refine lv_aload_n hx hb dL_law_618 rfl (lv_at hl 0 rfl) ?_
  refine lv_iload_n hx hb dL_law_619 rfl (lv_at hl 3 rfl) ?_
  refine lv_iconst (v := 1) hx hb dL_law_620 (by decide) ?_
  refine lv_iadd hx hb dL_law_621 ?_
  refine va_sld hx hb hX hbl hbA hB.2.2.2 (hin 1 (by decide)) dL_law_622 ?_
  refine W.eq (g2 := F0 m 623 ls [.int v1, .ref (ad 0)]) (by rw [e1]) ?_
  obtain ⟨r0, γ1, μ1, hk1, hk2, hRl1⟩ := hS γ μ v1 hRl
  refine lx_call (rv := some (.int r0)) (av := [.int v1]) (rest := []) hx hb hml hown hts hl.1 hV hB (cc_X7_state l D ad cy z n γ v1 hk1) (cwV 1 hts (gL_v wsC_in allC qLo_methodLink_66 qLp_im_X7_state qLp_se_X7_state qLx_ini7 qLp_co_X7_state) rfl rfl rfl (by decide +kernel) ⟨Nat.le_of_ble_eq_true rfl, Nat.le_of_ble_eq_true rfl⟩) rfl rfl (lv_room (Nat.le_of_ble_eq_true rfl)) dL_law_623 (by show 59 + 3 * j + 0 ≤ 600000; omega) (by show 2231 + 45 * j + 0 ≤ 7302249; omega) (fun H locs hB => ?_)
  refine W.eq (g2 := F0 m 626 ls [.int r0]) rfl ?_
  refine lv_aload_n hx hb dL_law_626 rfl (lv_at hl 2 rfl) ?_
  refine lv_aload_n hx hb dL_law_627 rfl (lv_at hl 0 rfl) ?_
  refine lv_iload_n hx hb dL_law_628 rfl (lv_at hl 3 rfl) ?_
  refine lv_iconst (v := 1) hx hb dL_law_629 (by decide) ?_
  refine lv_iadd hx hb dL_law_630 ?_
  refine va_sld hx hb hX hbl hbA hB.2.2.2 (hin 1 (by decide)) dL_law_631 ?_
  refine W.eq (g2 := F0 m 632 ls [.int v1, .ref (am 0), .int r0]) (by rw [e1]) ?_
  refine lm_calli (r0 := r0) (av := [.int v1]) (rest := [.int r0]) hx hb hml hown hts hl.1 hV hB (cm_state l D am cy.1 n μ v1 hk2) (cwV 1 hts (gL_v wsM_in allM qLo_methodLink_69 qLp_im_X8_state qLp_se_X8_state qLx_ini8 qLp_co_X8_state) rfl rfl rfl (by decide +kernel) ⟨Nat.le_of_ble_eq_true rfl, Nat.le_of_ble_eq_true rfl⟩) rfl rfl (lv_room (Nat.le_of_ble_eq_true rfl)) dL_law_632 (by show 59 + 3 * j + 0 ≤ 600000; omega) (by show 2231 + 45 * j + 0 ≤ 7302249; omega) (fun H locs hB => ?_)
  refine lv_icmp_eq (tgt := 1332) hx hb dL_law_635 (by decide) (fun _ => ?_) (fun c2 => absurd rfl c2)
  refine W.widen (k := 59 + 3 * (j + 1)) (n := 2231 + 45 * (j + 1)) (by omega) (by omega) ?_
  exact hN ad γ1 μ1 _ _ _ hRl1 hB hl
set_option maxRecDepth 100000 in
set_option maxHeartbeats 4000000 in
theorem lk_rolled {p : Program} {l : Launch} {e : Env} {s : State} {m : MethodId} {below : List Frame} {meth : Method} {c : Code} {b L : Nat} {xs : Nat → Int32} (C0 : lw_At p s m meth c b L xs) {D : va_G} {cy : CY} {z : CZ} (hV : lV D cy z (fun q => s.heap.size ≤ q) s) (n : Nat) {Rl : CS → MS → Prop} (hS : st_rolled n Rl) {ad am : Nat → Nat} {γ : CS} {μ : MS} (hRl : Rl γ μ) {j : Nat} (hj : j < 65) {x3 : Int32} (hin : ∀ k : Nat, k < 7 → vp_in (x3 + nI k) L) {H : Heap} {locs : List Loc} {ls : Array Slot} (hB : lB D ad am cy (fun q => s.heap.size ≤ q) s.heap γ μ H locs) (hl : lv_has ls 4 [(0, .ref b), (1, .ref (ad 0)), (2, .ref (am 0)), (3, .int x3)])
    (hN : ∀ (ad1 : Nat → Nat) (γ1 : CS) (μ1 : MS) (H1 : Heap) (locs1 : List Loc) (ls1 : Array Slot), Rl γ1 μ1 → lB D ad1 am cy (fun q => s.heap.size ≤ q) s.heap γ1 μ1 H1 locs1 → lv_has ls1 4 [(0, .ref b), (1, .ref (ad1 0)), (2, .ref (am 0)), (3, .int x3)] → W p l e room_1 s m #[Value.ref b] below meth c H1 locs1 (59 + 3 * (j + 1)) (2231 + 45 * (j + 1)) (lw_Z below #[Value.ref b] s) (F0 m 1332 ls1 [])) : W p l e room_1 s m #[Value.ref b] below meth c H locs (59 + 3 * j) (2231 + 45 * j) (lw_Z below #[Value.ref b] s) (F0 m 640 ls []) := by
  obtain ⟨hx, hb, hr, hml, hown, hts, hX, hbl, hlocks, hgv⟩ := id C0
  have hbA : ¬ (fun q : Nat => s.heap.size ≤ q) b := Nat.not_le.mpr hbl
  refine lv_aload_n hx hb dL_law_640 rfl (lv_at hl 1 rfl) ?_
  obtain ⟨r0, γ1, μ1, hk1, hk2, hRl1⟩ := hS γ μ hRl
  refine lx_call (rv := some (.long r0)) (av := []) (rest := []) hx hb hml hown hts hl.1 hV hB (cc_X7_rolled l D ad cy z n γ hk1) (cwV 0 hts (gL_v wsC_in allC qLo_methodLink_70 qLp_im_X7_rolled qLp_se_X7_rolled qLx_ini7 qLp_co_X7_rolled) rfl rfl rfl (by decide +kernel) ⟨Nat.le_of_ble_eq_true rfl, Nat.le_of_ble_eq_true rfl⟩) rfl rfl (lv_room (Nat.le_of_ble_eq_true rfl)) dL_law_641 (by show 59 + 3 * j + 0 ≤ 600000; omega) (by show 2231 + 45 * j + 0 ≤ 7302249; omega) (fun H locs hB => ?_)
  refine W.eq (g2 := F0 m 644 ls [.long r0]) rfl ?_
  refine lv_aload_n hx hb dL_law_644 rfl (lv_at hl 2 rfl) ?_
  refine lm_calll (r0 := r0) (av := []) (rest := [.long r0]) hx hb hml hown hts hl.1 hV hB (cm_rolled l D am cy.1 n μ hk2) (cwV 0 hts (gL_v wsM_in allM qLo_methodLink_74 qLp_im_X8_rolled qLp_se_X8_rolled qLx_ini8 qLp_co_X8_rolled) rfl rfl rfl (by decide +kernel) ⟨Nat.le_of_ble_eq_true rfl, Nat.le_of_ble_eq_true rfl⟩) rfl rfl (lv_room (Nat.le_of_ble_eq_true rfl)) dL_law_645 (by show 59 + 3 * j + 0 ≤ 600000; omega) (by show 2231 + 45 * j + 0 ≤ 7302249; omega) (fun H locs hB => ?_)
  refine W.lcmp hx hb dL_law_648 ?_
  refine lv_if_eq (tgt := 1332) hx hb dL_law_649 (by decide) (fun _ => ?_) (fun c2 => absurd (cmp_self _) c2)
  refine W.widen (k := 59 + 3 * (j + 1)) (n := 2231 + 45 * (j + 1)) (by omega) (by omega) ?_
  exact hN ad γ1 μ1 _ _ _ hRl1 hB hl
set_option maxRecDepth 100000 in
set_option maxHeartbeats 4000000 in
theorem lk_tenth {p : Program} {l : Launch} {e : Env} {s : State} {m : MethodId} {below : List Frame} {meth : Method} {c : Code} {b L : Nat} {xs : Nat → Int32} (C0 : lw_At p s m meth c b L xs) {D : va_G} {cy : CY} {z : CZ} (hV : lV D cy z (fun q => s.heap.size ≤ q) s) (n : Nat) {Rl : CS → MS → Prop} (hS : st_tenth n Rl) {ad am : Nat → Nat} {γ : CS} {μ : MS} (hRl : Rl γ μ) {j : Nat} (hj : j < 65) {x3 : Int32} (hin : ∀ k : Nat, k < 7 → vp_in (x3 + nI k) L) {H : Heap} {locs : List Loc} {ls : Array Slot} (hB : lB D ad am cy (fun q => s.heap.size ≤ q) s.heap γ μ H locs) (hl : lv_has ls 4 [(0, .ref b), (1, .ref (ad 0)), (2, .ref (am 0)), (3, .int x3)])
    (hN : ∀ (ad1 : Nat → Nat) (γ1 : CS) (μ1 : MS) (H1 : Heap) (locs1 : List Loc) (ls1 : Array Slot), Rl γ1 μ1 → lB D ad1 am cy (fun q => s.heap.size ≤ q) s.heap γ1 μ1 H1 locs1 → lv_has ls1 4 [(0, .ref b), (1, .ref (ad1 0)), (2, .ref (am 0)), (3, .int x3)] → W p l e room_1 s m #[Value.ref b] below meth c H1 locs1 (59 + 3 * (j + 1)) (2231 + 45 * (j + 1)) (lw_Z below #[Value.ref b] s) (F0 m 1332 ls1 [])) : W p l e room_1 s m #[Value.ref b] below meth c H locs (59 + 3 * j) (2231 + 45 * j) (lw_Z below #[Value.ref b] s) (F0 m 654 ls []) := by
  obtain ⟨hx, hb, hr, hml, hown, hts, hX, hbl, hlocks, hgv⟩ := id C0
  have hbA : ¬ (fun q : Nat => s.heap.size ≤ q) b := Nat.not_le.mpr hbl
  obtain ⟨v1, e1⟩ : ∃ v : Int32, v = xs (x3 + 1).toNatClampNeg := ⟨_, rfl⟩
  obtain ⟨v2, e2⟩ : ∃ v : Int32, v = xs (x3 + 2).toNatClampNeg := ⟨_, rfl⟩
  refine lv_aload_n hx hb dL_law_654 rfl (lv_at hl 1 rfl) ?_
  refine lv_aload_n hx hb dL_law_655 rfl (lv_at hl 0 rfl) ?_
  refine lv_iload_n hx hb dL_law_656 rfl (lv_at hl 3 rfl) ?_
  refine lv_iconst (v := 1) hx hb dL_law_657 (by decide) ?_
  refine lv_iadd hx hb dL_law_658 ?_
  refine va_sld hx hb hX hbl hbA hB.2.2.2 (hin 1 (by decide)) dL_law_659 ?_
  refine W.eq (g2 := F0 m 660 ls [.int v1, .ref (ad 0)]) (by rw [e1]) ?_
  refine lv_aload_n hx hb dL_law_660 rfl (lv_at hl 0 rfl) ?_
  refine lv_iload_n hx hb dL_law_661 rfl (lv_at hl 3 rfl) ?_
  refine lv_iconst (v := 2) hx hb dL_law_662 (by decide) ?_
  refine lv_iadd hx hb dL_law_663 ?_
  refine va_sld hx hb hX hbl hbA hB.2.2.2 (hin 2 (by decide)) dL_law_664 ?_
  refine W.eq (g2 := F0 m 665 ls [.int v2, .int v1, .ref (ad 0)]) (by rw [e2]) ?_
  obtain ⟨r0, γ1, μ1, hk1, hk2, hRl1⟩ := hS γ μ v1 v2 hRl
  refine lx_call (rv := some (.int r0)) (av := [.int v1, .int v2]) (rest := []) hx hb hml hown hts hl.1 hV hB (cc_X7_tenth l D ad cy z n γ v1 v2 hk1) (cwV 2 hts (gL_v wsC_in allC qLo_methodLink_75 qLp_im_X7_tenth qLp_se_X7_tenth qLx_ini7 qLp_co_X7_tenth) rfl rfl rfl (by decide +kernel) ⟨Nat.le_of_ble_eq_true rfl, Nat.le_of_ble_eq_true rfl⟩) rfl rfl (lv_room (Nat.le_of_ble_eq_true rfl)) dL_law_665 (by show 59 + 3 * j + 0 ≤ 600000; omega) (by show 2231 + 45 * j + 0 ≤ 7302249; omega) (fun H locs hB => ?_)
  refine W.eq (g2 := F0 m 668 ls [.int r0]) rfl ?_
  refine lv_aload_n hx hb dL_law_668 rfl (lv_at hl 2 rfl) ?_
  refine lv_aload_n hx hb dL_law_669 rfl (lv_at hl 0 rfl) ?_
  refine lv_iload_n hx hb dL_law_670 rfl (lv_at hl 3 rfl) ?_
  refine lv_iconst (v := 1) hx hb dL_law_671 (by decide) ?_
  refine lv_iadd hx hb dL_law_672 ?_
  refine va_sld hx hb hX hbl hbA hB.2.2.2 (hin 1 (by decide)) dL_law_673 ?_
  refine W.eq (g2 := F0 m 674 ls [.int v1, .ref (am 0), .int r0]) (by rw [e1]) ?_
  refine lv_aload_n hx hb dL_law_674 rfl (lv_at hl 0 rfl) ?_
  refine lv_iload_n hx hb dL_law_675 rfl (lv_at hl 3 rfl) ?_
  refine lv_iconst (v := 2) hx hb dL_law_676 (by decide) ?_
  refine lv_iadd hx hb dL_law_677 ?_
  refine va_sld hx hb hX hbl hbA hB.2.2.2 (hin 2 (by decide)) dL_law_678 ?_
  refine W.eq (g2 := F0 m 679 ls [.int v2, .int v1, .ref (am 0), .int r0]) (by rw [e2]) ?_
  refine lm_calli (r0 := r0) (av := [.int v1, .int v2]) (rest := [.int r0]) hx hb hml hown hts hl.1 hV hB (cm_tenth l D am cy.1 n μ v1 v2 hk2) (cwV 2 hts (gL_v wsM_in allM qLo_methodLink_78 qLp_im_X8_tenth qLp_se_X8_tenth qLx_ini8 qLp_co_X8_tenth) rfl rfl rfl (by decide +kernel) ⟨Nat.le_of_ble_eq_true rfl, Nat.le_of_ble_eq_true rfl⟩) rfl rfl (lv_room (Nat.le_of_ble_eq_true rfl)) dL_law_679 (by show 59 + 3 * j + 0 ≤ 600000; omega) (by show 2231 + 45 * j + 0 ≤ 7302249; omega) (fun H locs hB => ?_)
  refine lv_icmp_eq (tgt := 1332) hx hb dL_law_682 (by decide) (fun _ => ?_) (fun c2 => absurd rfl c2)
  refine W.widen (k := 59 + 3 * (j + 1)) (n := 2231 + 45 * (j + 1)) (by omega) (by omega) ?_
  exact hN ad γ1 μ1 _ _ _ hRl1 hB hl
set_option maxRecDepth 100000 in
set_option maxHeartbeats 4000000 in
theorem lk_lasts {p : Program} {l : Launch} {e : Env} {s : State} {m : MethodId} {below : List Frame} {meth : Method} {c : Code} {b L : Nat} {xs : Nat → Int32} (C0 : lw_At p s m meth c b L xs) {D : va_G} {cy : CY} {z : CZ} (hV : lV D cy z (fun q => s.heap.size ≤ q) s) (n : Nat) {Rl : CS → MS → Prop} (hS : st_lasts n Rl) {ad am : Nat → Nat} {γ : CS} {μ : MS} (hRl : Rl γ μ) {j : Nat} (hj : j < 65) {x3 : Int32} (hin : ∀ k : Nat, k < 7 → vp_in (x3 + nI k) L) {H : Heap} {locs : List Loc} {ls : Array Slot} (hB : lB D ad am cy (fun q => s.heap.size ≤ q) s.heap γ μ H locs) (hl : lv_has ls 4 [(0, .ref b), (1, .ref (ad 0)), (2, .ref (am 0)), (3, .int x3)])
    (hN : ∀ (ad1 : Nat → Nat) (γ1 : CS) (μ1 : MS) (H1 : Heap) (locs1 : List Loc) (ls1 : Array Slot), Rl γ1 μ1 → lB D ad1 am cy (fun q => s.heap.size ≤ q) s.heap γ1 μ1 H1 locs1 → lv_has ls1 4 [(0, .ref b), (1, .ref (ad1 0)), (2, .ref (am 0)), (3, .int x3)] → W p l e room_1 s m #[Value.ref b] below meth c H1 locs1 (59 + 3 * (j + 1)) (2231 + 45 * (j + 1)) (lw_Z below #[Value.ref b] s) (F0 m 1332 ls1 [])) : W p l e room_1 s m #[Value.ref b] below meth c H locs (59 + 3 * j) (2231 + 45 * j) (lw_Z below #[Value.ref b] s) (F0 m 687 ls []) := by
  obtain ⟨hx, hb, hr, hml, hown, hts, hX, hbl, hlocks, hgv⟩ := id C0
  have hbA : ¬ (fun q : Nat => s.heap.size ≤ q) b := Nat.not_le.mpr hbl
  obtain ⟨v1, e1⟩ : ∃ v : Int32, v = xs (x3 + 1).toNatClampNeg := ⟨_, rfl⟩
  obtain ⟨v2, e2⟩ : ∃ v : Int32, v = xs (x3 + 2).toNatClampNeg := ⟨_, rfl⟩
  obtain ⟨v3, e3⟩ : ∃ v : Int32, v = xs (x3 + 3).toNatClampNeg := ⟨_, rfl⟩
  obtain ⟨v4, e4⟩ : ∃ v : Int32, v = xs (x3 + 4).toNatClampNeg := ⟨_, rfl⟩
  refine lv_aload_n hx hb dL_law_687 rfl (lv_at hl 1 rfl) ?_
  refine lv_aload_n hx hb dL_law_688 rfl (lv_at hl 0 rfl) ?_
  refine lv_iload_n hx hb dL_law_689 rfl (lv_at hl 3 rfl) ?_
  refine lv_iconst (v := 1) hx hb dL_law_690 (by decide) ?_
  refine lv_iadd hx hb dL_law_691 ?_
  refine va_sld hx hb hX hbl hbA hB.2.2.2 (hin 1 (by decide)) dL_law_692 ?_
  refine W.eq (g2 := F0 m 693 ls [.int v1, .ref (ad 0)]) (by rw [e1]) ?_
  refine lv_aload_n hx hb dL_law_693 rfl (lv_at hl 0 rfl) ?_
  refine lv_iload_n hx hb dL_law_694 rfl (lv_at hl 3 rfl) ?_
  refine lv_iconst (v := 2) hx hb dL_law_695 (by decide) ?_
  refine lv_iadd hx hb dL_law_696 ?_
  refine va_sld hx hb hX hbl hbA hB.2.2.2 (hin 2 (by decide)) dL_law_697 ?_
  refine W.eq (g2 := F0 m 698 ls [.int v2, .int v1, .ref (ad 0)]) (by rw [e2]) ?_
  refine lv_aload_n hx hb dL_law_698 rfl (lv_at hl 0 rfl) ?_
  refine lv_iload_n hx hb dL_law_699 rfl (lv_at hl 3 rfl) ?_
  refine lv_iconst (v := 3) hx hb dL_law_700 (by decide) ?_
  refine lv_iadd hx hb dL_law_701 ?_
  refine va_sld hx hb hX hbl hbA hB.2.2.2 (hin 3 (by decide)) dL_law_702 ?_
  refine W.eq (g2 := F0 m 703 ls [.int v3, .int v2, .int v1, .ref (ad 0)]) (by rw [e3]) ?_
  refine lv_aload_n hx hb dL_law_703 rfl (lv_at hl 0 rfl) ?_
  refine lv_iload_n hx hb dL_law_704 rfl (lv_at hl 3 rfl) ?_
  refine lv_iconst (v := 4) hx hb dL_law_705 (by decide) ?_
  refine lv_iadd hx hb dL_law_706 ?_
  refine va_sld hx hb hX hbl hbA hB.2.2.2 (hin 4 (by decide)) dL_law_707 ?_
  refine W.eq (g2 := F0 m 708 ls [.int v4, .int v3, .int v2, .int v1, .ref (ad 0)]) (by rw [e4]) ?_
  obtain ⟨r0, γ1, μ1, hk1, hk2, hRl1⟩ := hS γ μ v1 v2 v3 v4 hRl
  refine lx_call (rv := some (.int r0)) (av := [.int v1, .int v2, .int v3, .int v4]) (rest := []) hx hb hml hown hts hl.1 hV hB (cc_X7_lasts l D ad cy z n γ v1 v2 v3 v4 hk1) (cwV 4 hts (gL_v wsC_in allC qLo_methodLink_79 qLp_im_X7_lasts qLp_se_X7_lasts qLx_ini7 qLp_co_X7_lasts) rfl rfl rfl (by decide +kernel) ⟨Nat.le_of_ble_eq_true rfl, Nat.le_of_ble_eq_true rfl⟩) rfl rfl (lv_room (Nat.le_of_ble_eq_true rfl)) dL_law_708 (by show 59 + 3 * j + 0 ≤ 600000; omega) (by show 2231 + 45 * j + 0 ≤ 7302249; omega) (fun H locs hB => ?_)
  refine W.eq (g2 := F0 m 711 ls [.int r0]) rfl ?_
  refine lv_aload_n hx hb dL_law_711 rfl (lv_at hl 2 rfl) ?_
  refine lv_aload_n hx hb dL_law_712 rfl (lv_at hl 0 rfl) ?_
  refine lv_iload_n hx hb dL_law_713 rfl (lv_at hl 3 rfl) ?_
  refine lv_iconst (v := 1) hx hb dL_law_714 (by decide) ?_
  refine lv_iadd hx hb dL_law_715 ?_
  refine va_sld hx hb hX hbl hbA hB.2.2.2 (hin 1 (by decide)) dL_law_716 ?_
  refine W.eq (g2 := F0 m 717 ls [.int v1, .ref (am 0), .int r0]) (by rw [e1]) ?_
  refine lv_aload_n hx hb dL_law_717 rfl (lv_at hl 0 rfl) ?_
  refine lv_iload_n hx hb dL_law_718 rfl (lv_at hl 3 rfl) ?_
  refine lv_iconst (v := 2) hx hb dL_law_719 (by decide) ?_
  refine lv_iadd hx hb dL_law_720 ?_
  refine va_sld hx hb hX hbl hbA hB.2.2.2 (hin 2 (by decide)) dL_law_721 ?_
  refine W.eq (g2 := F0 m 722 ls [.int v2, .int v1, .ref (am 0), .int r0]) (by rw [e2]) ?_
  refine lv_aload_n hx hb dL_law_722 rfl (lv_at hl 0 rfl) ?_
  refine lv_iload_n hx hb dL_law_723 rfl (lv_at hl 3 rfl) ?_
  refine lv_iconst (v := 3) hx hb dL_law_724 (by decide) ?_
  refine lv_iadd hx hb dL_law_725 ?_
  refine va_sld hx hb hX hbl hbA hB.2.2.2 (hin 3 (by decide)) dL_law_726 ?_
  refine W.eq (g2 := F0 m 727 ls [.int v3, .int v2, .int v1, .ref (am 0), .int r0]) (by rw [e3]) ?_
  refine lv_aload_n hx hb dL_law_727 rfl (lv_at hl 0 rfl) ?_
  refine lv_iload_n hx hb dL_law_728 rfl (lv_at hl 3 rfl) ?_
  refine lv_iconst (v := 4) hx hb dL_law_729 (by decide) ?_
  refine lv_iadd hx hb dL_law_730 ?_
  refine va_sld hx hb hX hbl hbA hB.2.2.2 (hin 4 (by decide)) dL_law_731 ?_
  refine W.eq (g2 := F0 m 732 ls [.int v4, .int v3, .int v2, .int v1, .ref (am 0), .int r0]) (by rw [e4]) ?_
  refine lm_calli (r0 := r0) (av := [.int v1, .int v2, .int v3, .int v4]) (rest := [.int r0]) hx hb hml hown hts hl.1 hV hB (cm_lasts l D am cy.1 n μ v1 v2 v3 v4 hk2) (cwV 4 hts (gL_v wsM_in allM qLo_methodLink_83 qLp_im_X8_lasts qLp_se_X8_lasts qLx_ini8 qLp_co_X8_lasts) rfl rfl rfl (by decide +kernel) ⟨Nat.le_of_ble_eq_true rfl, Nat.le_of_ble_eq_true rfl⟩) rfl rfl (lv_room (Nat.le_of_ble_eq_true rfl)) dL_law_732 (by show 59 + 3 * j + 0 ≤ 600000; omega) (by show 2231 + 45 * j + 0 ≤ 7302249; omega) (fun H locs hB => ?_)
  refine lv_icmp_eq (tgt := 1332) hx hb dL_law_735 (by decide) (fun _ => ?_) (fun c2 => absurd rfl c2)
  refine W.widen (k := 59 + 3 * (j + 1)) (n := 2231 + 45 * (j + 1)) (by omega) (by omega) ?_
  exact hN ad γ1 μ1 _ _ _ hRl1 hB hl
set_option maxRecDepth 100000 in
set_option maxHeartbeats 4000000 in
theorem lk_rules {p : Program} {l : Launch} {e : Env} {s : State} {m : MethodId} {below : List Frame} {meth : Method} {c : Code} {b L : Nat} {xs : Nat → Int32} (C0 : lw_At p s m meth c b L xs) {D : va_G} {cy : CY} {z : CZ} (hV : lV D cy z (fun q => s.heap.size ≤ q) s) (n : Nat) {Rl : CS → MS → Prop} (hS : st_rules n Rl) {ad am : Nat → Nat} {γ : CS} {μ : MS} (hRl : Rl γ μ) {j : Nat} (hj : j < 65) {x3 : Int32} (hin : ∀ k : Nat, k < 7 → vp_in (x3 + nI k) L) {H : Heap} {locs : List Loc} {ls : Array Slot} (hB : lB D ad am cy (fun q => s.heap.size ≤ q) s.heap γ μ H locs) (hl : lv_has ls 4 [(0, .ref b), (1, .ref (ad 0)), (2, .ref (am 0)), (3, .int x3)])
    (hN : ∀ (ad1 : Nat → Nat) (γ1 : CS) (μ1 : MS) (H1 : Heap) (locs1 : List Loc) (ls1 : Array Slot), Rl γ1 μ1 → lB D ad1 am cy (fun q => s.heap.size ≤ q) s.heap γ1 μ1 H1 locs1 → lv_has ls1 4 [(0, .ref b), (1, .ref (ad1 0)), (2, .ref (am 0)), (3, .int x3)] → W p l e room_1 s m #[Value.ref b] below meth c H1 locs1 (59 + 3 * (j + 1)) (2231 + 45 * (j + 1)) (lw_Z below #[Value.ref b] s) (F0 m 1332 ls1 [])) : W p l e room_1 s m #[Value.ref b] below meth c H locs (59 + 3 * j) (2231 + 45 * j) (lw_Z below #[Value.ref b] s) (F0 m 740 ls []) := by
  obtain ⟨hx, hb, hr, hml, hown, hts, hX, hbl, hlocks, hgv⟩ := id C0
  have hbA : ¬ (fun q : Nat => s.heap.size ≤ q) b := Nat.not_le.mpr hbl
  obtain ⟨v1, e1⟩ : ∃ v : Int32, v = xs (x3 + 1).toNatClampNeg := ⟨_, rfl⟩
  refine lv_aload_n hx hb dL_law_740 rfl (lv_at hl 1 rfl) ?_
  refine lv_aload_n hx hb dL_law_741 rfl (lv_at hl 0 rfl) ?_
  refine lv_iload_n hx hb dL_law_742 rfl (lv_at hl 3 rfl) ?_
  refine lv_iconst (v := 1) hx hb dL_law_743 (by decide) ?_
  refine lv_iadd hx hb dL_law_744 ?_
  refine va_sld hx hb hX hbl hbA hB.2.2.2 (hin 1 (by decide)) dL_law_745 ?_
  refine W.eq (g2 := F0 m 746 ls [.int v1, .ref (ad 0)]) (by rw [e1]) ?_
  obtain ⟨r0, γ1, μ1, hk1, hk2, hRl1⟩ := hS γ μ v1 hRl
  refine lx_call (rv := some (.int r0)) (av := [.int v1]) (rest := []) hx hb hml hown hts hl.1 hV hB (cc_X7_rules l D ad cy z n γ v1 hk1) (cwV 1 hts (gL_v wsC_in allC qLo_methodLink_84 qLp_im_X7_rules qLp_se_X7_rules qLx_ini7 qLp_co_X7_rules) rfl rfl rfl (by decide +kernel) ⟨Nat.le_of_ble_eq_true rfl, Nat.le_of_ble_eq_true rfl⟩) rfl rfl (lv_room (Nat.le_of_ble_eq_true rfl)) dL_law_746 (by show 59 + 3 * j + 0 ≤ 600000; omega) (by show 2231 + 45 * j + 0 ≤ 7302249; omega) (fun H locs hB => ?_)
  refine W.eq (g2 := F0 m 749 ls [.int r0]) rfl ?_
  refine lv_aload_n hx hb dL_law_749 rfl (lv_at hl 2 rfl) ?_
  refine lv_aload_n hx hb dL_law_750 rfl (lv_at hl 0 rfl) ?_
  refine lv_iload_n hx hb dL_law_751 rfl (lv_at hl 3 rfl) ?_
  refine lv_iconst (v := 1) hx hb dL_law_752 (by decide) ?_
  refine lv_iadd hx hb dL_law_753 ?_
  refine va_sld hx hb hX hbl hbA hB.2.2.2 (hin 1 (by decide)) dL_law_754 ?_
  refine W.eq (g2 := F0 m 755 ls [.int v1, .ref (am 0), .int r0]) (by rw [e1]) ?_
  refine lm_calli (r0 := r0) (av := [.int v1]) (rest := [.int r0]) hx hb hml hown hts hl.1 hV hB (cm_rules l D am cy.1 n μ v1 hk2) (cwV 1 hts (gL_v wsM_in allM qLo_methodLink_87 qLp_im_X8_rules qLp_se_X8_rules qLx_ini8 qLp_co_X8_rules) rfl rfl rfl (by decide +kernel) ⟨Nat.le_of_ble_eq_true rfl, Nat.le_of_ble_eq_true rfl⟩) rfl rfl (lv_room (Nat.le_of_ble_eq_true rfl)) dL_law_755 (by show 59 + 3 * j + 0 ≤ 600000; omega) (by show 2231 + 45 * j + 0 ≤ 7302249; omega) (fun H locs hB => ?_)
  refine lv_icmp_eq (tgt := 1332) hx hb dL_law_758 (by decide) (fun _ => ?_) (fun c2 => absurd rfl c2)
  refine W.widen (k := 59 + 3 * (j + 1)) (n := 2231 + 45 * (j + 1)) (by omega) (by omega) ?_
  exact hN ad γ1 μ1 _ _ _ hRl1 hB hl
set_option maxRecDepth 100000 in
set_option maxHeartbeats 4000000 in
theorem lk_passes {p : Program} {l : Launch} {e : Env} {s : State} {m : MethodId} {below : List Frame} {meth : Method} {c : Code} {b L : Nat} {xs : Nat → Int32} (C0 : lw_At p s m meth c b L xs) {D : va_G} {cy : CY} {z : CZ} (hV : lV D cy z (fun q => s.heap.size ≤ q) s) (n : Nat) {Rl : CS → MS → Prop} (hS : st_passes n Rl) {ad am : Nat → Nat} {γ : CS} {μ : MS} (hRl : Rl γ μ) {j : Nat} (hj : j < 65) {x3 : Int32} (hin : ∀ k : Nat, k < 7 → vp_in (x3 + nI k) L) {H : Heap} {locs : List Loc} {ls : Array Slot} (hB : lB D ad am cy (fun q => s.heap.size ≤ q) s.heap γ μ H locs) (hl : lv_has ls 4 [(0, .ref b), (1, .ref (ad 0)), (2, .ref (am 0)), (3, .int x3)])
    (hN : ∀ (ad1 : Nat → Nat) (γ1 : CS) (μ1 : MS) (H1 : Heap) (locs1 : List Loc) (ls1 : Array Slot), Rl γ1 μ1 → lB D ad1 am cy (fun q => s.heap.size ≤ q) s.heap γ1 μ1 H1 locs1 → lv_has ls1 4 [(0, .ref b), (1, .ref (ad1 0)), (2, .ref (am 0)), (3, .int x3)] → W p l e room_1 s m #[Value.ref b] below meth c H1 locs1 (59 + 3 * (j + 1)) (2231 + 45 * (j + 1)) (lw_Z below #[Value.ref b] s) (F0 m 1332 ls1 [])) : W p l e room_1 s m #[Value.ref b] below meth c H locs (59 + 3 * j) (2231 + 45 * j) (lw_Z below #[Value.ref b] s) (F0 m 763 ls []) := by
  obtain ⟨hx, hb, hr, hml, hown, hts, hX, hbl, hlocks, hgv⟩ := id C0
  have hbA : ¬ (fun q : Nat => s.heap.size ≤ q) b := Nat.not_le.mpr hbl
  refine lv_aload_n hx hb dL_law_763 rfl (lv_at hl 1 rfl) ?_
  obtain ⟨r0, γ1, μ1, hk1, hk2, hRl1⟩ := hS γ μ hRl
  refine lx_call (rv := some (.int r0)) (av := []) (rest := []) hx hb hml hown hts hl.1 hV hB (cc_X7_passes l D ad cy z n γ hk1) (cwV 0 hts (gL_v wsC_in allC qLo_methodLink_88 qLp_im_X7_passes qLp_se_X7_passes qLx_ini7 qLp_co_X7_passes) rfl rfl rfl (by decide +kernel) ⟨Nat.le_of_ble_eq_true rfl, Nat.le_of_ble_eq_true rfl⟩) rfl rfl (lv_room (Nat.le_of_ble_eq_true rfl)) dL_law_764 (by show 59 + 3 * j + 0 ≤ 600000; omega) (by show 2231 + 45 * j + 0 ≤ 7302249; omega) (fun H locs hB => ?_)
  refine W.eq (g2 := F0 m 767 ls [.int r0]) rfl ?_
  refine lv_aload_n hx hb dL_law_767 rfl (lv_at hl 2 rfl) ?_
  refine lm_calli (r0 := r0) (av := []) (rest := [.int r0]) hx hb hml hown hts hl.1 hV hB (cm_passes l D am cy.1 n μ hk2) (cwV 0 hts (gL_v wsM_in allM qLo_methodLink_91 qLp_im_X8_passes qLp_se_X8_passes qLx_ini8 qLp_co_X8_passes) rfl rfl rfl (by decide +kernel) ⟨Nat.le_of_ble_eq_true rfl, Nat.le_of_ble_eq_true rfl⟩) rfl rfl (lv_room (Nat.le_of_ble_eq_true rfl)) dL_law_768 (by show 59 + 3 * j + 0 ≤ 600000; omega) (by show 2231 + 45 * j + 0 ≤ 7302249; omega) (fun H locs hB => ?_)
  refine lv_icmp_eq (tgt := 1332) hx hb dL_law_771 (by decide) (fun _ => ?_) (fun c2 => absurd rfl c2)
  refine W.widen (k := 59 + 3 * (j + 1)) (n := 2231 + 45 * (j + 1)) (by omega) (by omega) ?_
  exact hN ad γ1 μ1 _ _ _ hRl1 hB hl
set_option maxRecDepth 100000 in
set_option maxHeartbeats 4000000 in
theorem lk_heard {p : Program} {l : Launch} {e : Env} {s : State} {m : MethodId} {below : List Frame} {meth : Method} {c : Code} {b L : Nat} {xs : Nat → Int32} (C0 : lw_At p s m meth c b L xs) {D : va_G} {cy : CY} {z : CZ} (hV : lV D cy z (fun q => s.heap.size ≤ q) s) (n : Nat) {Rl : CS → MS → Prop} (hS : st_heard n Rl) {ad am : Nat → Nat} {γ : CS} {μ : MS} (hRl : Rl γ μ) {j : Nat} (hj : j < 65) {x3 : Int32} (hin : ∀ k : Nat, k < 7 → vp_in (x3 + nI k) L) {H : Heap} {locs : List Loc} {ls : Array Slot} (hB : lB D ad am cy (fun q => s.heap.size ≤ q) s.heap γ μ H locs) (hl : lv_has ls 4 [(0, .ref b), (1, .ref (ad 0)), (2, .ref (am 0)), (3, .int x3)])
    (hN : ∀ (ad1 : Nat → Nat) (γ1 : CS) (μ1 : MS) (H1 : Heap) (locs1 : List Loc) (ls1 : Array Slot), Rl γ1 μ1 → lB D ad1 am cy (fun q => s.heap.size ≤ q) s.heap γ1 μ1 H1 locs1 → lv_has ls1 4 [(0, .ref b), (1, .ref (ad1 0)), (2, .ref (am 0)), (3, .int x3)] → W p l e room_1 s m #[Value.ref b] below meth c H1 locs1 (59 + 3 * (j + 1)) (2231 + 45 * (j + 1)) (lw_Z below #[Value.ref b] s) (F0 m 1332 ls1 [])) : W p l e room_1 s m #[Value.ref b] below meth c H locs (59 + 3 * j) (2231 + 45 * j) (lw_Z below #[Value.ref b] s) (F0 m 776 ls []) := by
  obtain ⟨hx, hb, hr, hml, hown, hts, hX, hbl, hlocks, hgv⟩ := id C0
  have hbA : ¬ (fun q : Nat => s.heap.size ≤ q) b := Nat.not_le.mpr hbl
  obtain ⟨v1, e1⟩ : ∃ v : Int32, v = xs (x3 + 1).toNatClampNeg := ⟨_, rfl⟩
  refine lv_aload_n hx hb dL_law_776 rfl (lv_at hl 1 rfl) ?_
  refine lv_aload_n hx hb dL_law_777 rfl (lv_at hl 0 rfl) ?_
  refine lv_iload_n hx hb dL_law_778 rfl (lv_at hl 3 rfl) ?_
  refine lv_iconst (v := 1) hx hb dL_law_779 (by decide) ?_
  refine lv_iadd hx hb dL_law_780 ?_
  refine va_sld hx hb hX hbl hbA hB.2.2.2 (hin 1 (by decide)) dL_law_781 ?_
  refine W.eq (g2 := F0 m 782 ls [.int v1, .ref (ad 0)]) (by rw [e1]) ?_
  obtain ⟨r0, γ1, μ1, hk1, hk2, hRl1⟩ := hS γ μ v1 hRl
  refine lx_call (rv := some (.int r0)) (av := [.int v1]) (rest := []) hx hb hml hown hts hl.1 hV hB (cc_X7_heard l D ad cy z n γ v1 hk1) (cwV 1 hts (gL_v wsC_in allC qLo_methodLink_92 qLp_im_X7_heard qLp_se_X7_heard qLx_ini7 qLp_co_X7_heard) rfl rfl rfl (by decide +kernel) ⟨Nat.le_of_ble_eq_true rfl, Nat.le_of_ble_eq_true rfl⟩) rfl rfl (lv_room (Nat.le_of_ble_eq_true rfl)) dL_law_782 (by show 59 + 3 * j + 0 ≤ 600000; omega) (by show 2231 + 45 * j + 0 ≤ 7302249; omega) (fun H locs hB => ?_)
  refine W.eq (g2 := F0 m 785 ls [.int r0]) rfl ?_
  refine lv_aload_n hx hb dL_law_785 rfl (lv_at hl 2 rfl) ?_
  refine lv_aload_n hx hb dL_law_786 rfl (lv_at hl 0 rfl) ?_
  refine lv_iload_n hx hb dL_law_787 rfl (lv_at hl 3 rfl) ?_
  refine lv_iconst (v := 1) hx hb dL_law_788 (by decide) ?_
  refine lv_iadd hx hb dL_law_789 ?_
  refine va_sld hx hb hX hbl hbA hB.2.2.2 (hin 1 (by decide)) dL_law_790 ?_
  refine W.eq (g2 := F0 m 791 ls [.int v1, .ref (am 0), .int r0]) (by rw [e1]) ?_
  refine lm_calli (r0 := r0) (av := [.int v1]) (rest := [.int r0]) hx hb hml hown hts hl.1 hV hB (cm_heard l D am cy.1 n μ v1 hk2) (cwV 1 hts (gL_v wsM_in allM qLo_methodLink_95 qLp_im_X8_heard qLp_se_X8_heard qLx_ini8 qLp_co_X8_heard) rfl rfl rfl (by decide +kernel) ⟨Nat.le_of_ble_eq_true rfl, Nat.le_of_ble_eq_true rfl⟩) rfl rfl (lv_room (Nat.le_of_ble_eq_true rfl)) dL_law_791 (by show 59 + 3 * j + 0 ≤ 600000; omega) (by show 2231 + 45 * j + 0 ≤ 7302249; omega) (fun H locs hB => ?_)
  refine lv_icmp_eq (tgt := 1332) hx hb dL_law_794 (by decide) (fun _ => ?_) (fun c2 => absurd rfl c2)
  refine W.widen (k := 59 + 3 * (j + 1)) (n := 2231 + 45 * (j + 1)) (by omega) (by omega) ?_
  exact hN ad γ1 μ1 _ _ _ hRl1 hB hl
set_option maxRecDepth 100000 in
set_option maxHeartbeats 4000000 in
theorem lk_hush {p : Program} {l : Launch} {e : Env} {s : State} {m : MethodId} {below : List Frame} {meth : Method} {c : Code} {b L : Nat} {xs : Nat → Int32} (C0 : lw_At p s m meth c b L xs) {D : va_G} {cy : CY} {z : CZ} (hV : lV D cy z (fun q => s.heap.size ≤ q) s) (n : Nat) {Rl : CS → MS → Prop} (hS : st_hush n Rl) {ad am : Nat → Nat} {γ : CS} {μ : MS} (hRl : Rl γ μ) {j : Nat} (hj : j < 65) {x3 : Int32} (hin : ∀ k : Nat, k < 7 → vp_in (x3 + nI k) L) {H : Heap} {locs : List Loc} {ls : Array Slot} (hB : lB D ad am cy (fun q => s.heap.size ≤ q) s.heap γ μ H locs) (hl : lv_has ls 4 [(0, .ref b), (1, .ref (ad 0)), (2, .ref (am 0)), (3, .int x3)])
    (hN : ∀ (ad1 : Nat → Nat) (γ1 : CS) (μ1 : MS) (H1 : Heap) (locs1 : List Loc) (ls1 : Array Slot), Rl γ1 μ1 → lB D ad1 am cy (fun q => s.heap.size ≤ q) s.heap γ1 μ1 H1 locs1 → lv_has ls1 4 [(0, .ref b), (1, .ref (ad1 0)), (2, .ref (am 0)), (3, .int x3)] → W p l e room_1 s m #[Value.ref b] below meth c H1 locs1 (59 + 3 * (j + 1)) (2231 + 45 * (j + 1)) (lw_Z below #[Value.ref b] s) (F0 m 1332 ls1 [])) : W p l e room_1 s m #[Value.ref b] below meth c H locs (59 + 3 * j) (2231 + 45 * j) (lw_Z below #[Value.ref b] s) (F0 m 799 ls []) := by
  obtain ⟨hx, hb, hr, hml, hown, hts, hX, hbl, hlocks, hgv⟩ := id C0
  have hbA : ¬ (fun q : Nat => s.heap.size ≤ q) b := Nat.not_le.mpr hbl
  refine lv_aload_n hx hb dL_law_799 rfl (lv_at hl 1 rfl) ?_
  obtain ⟨r0, γ1, μ1, hk1, hk2, hRl1⟩ := hS γ μ hRl
  refine lx_call (rv := some (.int r0)) (av := []) (rest := []) hx hb hml hown hts hl.1 hV hB (cc_X7_hush l D ad cy z n γ hk1) (cwV 0 hts (gL_v wsC_in allC qLo_methodLink_96 qLp_im_X7_hush qLp_se_X7_hush qLx_ini7 qLp_co_X7_hush) rfl rfl rfl (by decide +kernel) ⟨Nat.le_of_ble_eq_true rfl, Nat.le_of_ble_eq_true rfl⟩) rfl rfl (lv_room (Nat.le_of_ble_eq_true rfl)) dL_law_800 (by show 59 + 3 * j + 0 ≤ 600000; omega) (by show 2231 + 45 * j + 0 ≤ 7302249; omega) (fun H locs hB => ?_)
  refine W.eq (g2 := F0 m 803 ls [.int r0]) rfl ?_
  refine lv_aload_n hx hb dL_law_803 rfl (lv_at hl 2 rfl) ?_
  refine lm_calli (r0 := r0) (av := []) (rest := [.int r0]) hx hb hml hown hts hl.1 hV hB (cm_hush l D am cy.1 n μ hk2) (cwV 0 hts (gL_v wsM_in allM qLo_methodLink_99 qLp_im_X8_hush qLp_se_X8_hush qLx_ini8 qLp_co_X8_hush) rfl rfl rfl (by decide +kernel) ⟨Nat.le_of_ble_eq_true rfl, Nat.le_of_ble_eq_true rfl⟩) rfl rfl (lv_room (Nat.le_of_ble_eq_true rfl)) dL_law_804 (by show 59 + 3 * j + 0 ≤ 600000; omega) (by show 2231 + 45 * j + 0 ≤ 7302249; omega) (fun H locs hB => ?_)
  refine lv_icmp_eq (tgt := 1332) hx hb dL_law_807 (by decide) (fun _ => ?_) (fun c2 => absurd rfl c2)
  refine W.widen (k := 59 + 3 * (j + 1)) (n := 2231 + 45 * (j + 1)) (by omega) (by omega) ?_
  exact hN ad γ1 μ1 _ _ _ hRl1 hB hl
set_option maxRecDepth 100000 in
set_option maxHeartbeats 4000000 in
theorem lk_slip {p : Program} {l : Launch} {e : Env} {s : State} {m : MethodId} {below : List Frame} {meth : Method} {c : Code} {b L : Nat} {xs : Nat → Int32} (C0 : lw_At p s m meth c b L xs) {D : va_G} {cy : CY} {z : CZ} (hV : lV D cy z (fun q => s.heap.size ≤ q) s) (n : Nat) {Rl : CS → MS → Prop} (hS : st_slip n Rl) {ad am : Nat → Nat} {γ : CS} {μ : MS} (hRl : Rl γ μ) {j : Nat} (hj : j < 65) {x3 : Int32} (hin : ∀ k : Nat, k < 7 → vp_in (x3 + nI k) L) {H : Heap} {locs : List Loc} {ls : Array Slot} (hB : lB D ad am cy (fun q => s.heap.size ≤ q) s.heap γ μ H locs) (hl : lv_has ls 4 [(0, .ref b), (1, .ref (ad 0)), (2, .ref (am 0)), (3, .int x3)])
    (hN : ∀ (ad1 : Nat → Nat) (γ1 : CS) (μ1 : MS) (H1 : Heap) (locs1 : List Loc) (ls1 : Array Slot), Rl γ1 μ1 → lB D ad1 am cy (fun q => s.heap.size ≤ q) s.heap γ1 μ1 H1 locs1 → lv_has ls1 4 [(0, .ref b), (1, .ref (ad1 0)), (2, .ref (am 0)), (3, .int x3)] → W p l e room_1 s m #[Value.ref b] below meth c H1 locs1 (59 + 3 * (j + 1)) (2231 + 45 * (j + 1)) (lw_Z below #[Value.ref b] s) (F0 m 1332 ls1 [])) : W p l e room_1 s m #[Value.ref b] below meth c H locs (59 + 3 * j) (2231 + 45 * j) (lw_Z below #[Value.ref b] s) (F0 m 812 ls []) := by
  obtain ⟨hx, hb, hr, hml, hown, hts, hX, hbl, hlocks, hgv⟩ := id C0
  have hbA : ¬ (fun q : Nat => s.heap.size ≤ q) b := Nat.not_le.mpr hbl
  obtain ⟨v1, e1⟩ : ∃ v : Int32, v = xs (x3 + 1).toNatClampNeg := ⟨_, rfl⟩
  refine lv_aload_n hx hb dL_law_812 rfl (lv_at hl 1 rfl) ?_
  refine lv_aload_n hx hb dL_law_813 rfl (lv_at hl 0 rfl) ?_
  refine lv_iload_n hx hb dL_law_814 rfl (lv_at hl 3 rfl) ?_
  refine lv_iconst (v := 1) hx hb dL_law_815 (by decide) ?_
  refine lv_iadd hx hb dL_law_816 ?_
  refine va_sld hx hb hX hbl hbA hB.2.2.2 (hin 1 (by decide)) dL_law_817 ?_
  refine W.eq (g2 := F0 m 818 ls [.int v1, .ref (ad 0)]) (by rw [e1]) ?_
  obtain ⟨r0, γ1, μ1, hk1, hk2, hRl1⟩ := hS γ μ v1 hRl
  refine lx_call (rv := some (.int r0)) (av := [.int v1]) (rest := []) hx hb hml hown hts hl.1 hV hB (cc_X7_slip l D ad cy z n γ v1 hk1) (cwV 1 hts (gL_v wsC_in allC qLo_methodLink_100 qLp_im_X7_slip qLp_se_X7_slip qLx_ini7 qLp_co_X7_slip) rfl rfl rfl (by decide +kernel) ⟨Nat.le_of_ble_eq_true rfl, Nat.le_of_ble_eq_true rfl⟩) rfl rfl (lv_room (Nat.le_of_ble_eq_true rfl)) dL_law_818 (by show 59 + 3 * j + 0 ≤ 600000; omega) (by show 2231 + 45 * j + 0 ≤ 7302249; omega) (fun H locs hB => ?_)
  refine W.eq (g2 := F0 m 821 ls [.int r0]) rfl ?_
  refine lv_aload_n hx hb dL_law_821 rfl (lv_at hl 2 rfl) ?_
  refine lv_aload_n hx hb dL_law_822 rfl (lv_at hl 0 rfl) ?_
  refine lv_iload_n hx hb dL_law_823 rfl (lv_at hl 3 rfl) ?_
  refine lv_iconst (v := 1) hx hb dL_law_824 (by decide) ?_
  refine lv_iadd hx hb dL_law_825 ?_
  refine va_sld hx hb hX hbl hbA hB.2.2.2 (hin 1 (by decide)) dL_law_826 ?_
  refine W.eq (g2 := F0 m 827 ls [.int v1, .ref (am 0), .int r0]) (by rw [e1]) ?_
  refine lm_calli (r0 := r0) (av := [.int v1]) (rest := [.int r0]) hx hb hml hown hts hl.1 hV hB (cm_slip l D am cy.1 n μ v1 hk2) (cwV 1 hts (gL_v wsM_in allM qLo_methodLink_103 qLp_im_X8_slip qLp_se_X8_slip qLx_ini8 qLp_co_X8_slip) rfl rfl rfl (by decide +kernel) ⟨Nat.le_of_ble_eq_true rfl, Nat.le_of_ble_eq_true rfl⟩) rfl rfl (lv_room (Nat.le_of_ble_eq_true rfl)) dL_law_827 (by show 59 + 3 * j + 0 ≤ 600000; omega) (by show 2231 + 45 * j + 0 ≤ 7302249; omega) (fun H locs hB => ?_)
  refine lv_icmp_eq (tgt := 1332) hx hb dL_law_830 (by decide) (fun _ => ?_) (fun c2 => absurd rfl c2)
  refine W.widen (k := 59 + 3 * (j + 1)) (n := 2231 + 45 * (j + 1)) (by omega) (by omega) ?_
  exact hN ad γ1 μ1 _ _ _ hRl1 hB hl
set_option maxRecDepth 100000 in
set_option maxHeartbeats 4000000 in
theorem lk_firstOff {p : Program} {l : Launch} {e : Env} {s : State} {m : MethodId} {below : List Frame} {meth : Method} {c : Code} {b L : Nat} {xs : Nat → Int32} (C0 : lw_At p s m meth c b L xs) {D : va_G} {cy : CY} {z : CZ} (hV : lV D cy z (fun q => s.heap.size ≤ q) s) (n : Nat) {Rl : CS → MS → Prop} (hS : st_firstOff n Rl) {ad am : Nat → Nat} {γ : CS} {μ : MS} (hRl : Rl γ μ) {j : Nat} (hj : j < 65) {x3 : Int32} (hin : ∀ k : Nat, k < 7 → vp_in (x3 + nI k) L) {H : Heap} {locs : List Loc} {ls : Array Slot} (hB : lB D ad am cy (fun q => s.heap.size ≤ q) s.heap γ μ H locs) (hl : lv_has ls 4 [(0, .ref b), (1, .ref (ad 0)), (2, .ref (am 0)), (3, .int x3)])
    (hN : ∀ (ad1 : Nat → Nat) (γ1 : CS) (μ1 : MS) (H1 : Heap) (locs1 : List Loc) (ls1 : Array Slot), Rl γ1 μ1 → lB D ad1 am cy (fun q => s.heap.size ≤ q) s.heap γ1 μ1 H1 locs1 → lv_has ls1 4 [(0, .ref b), (1, .ref (ad1 0)), (2, .ref (am 0)), (3, .int x3)] → W p l e room_1 s m #[Value.ref b] below meth c H1 locs1 (59 + 3 * (j + 1)) (2231 + 45 * (j + 1)) (lw_Z below #[Value.ref b] s) (F0 m 1332 ls1 [])) : W p l e room_1 s m #[Value.ref b] below meth c H locs (59 + 3 * j) (2231 + 45 * j) (lw_Z below #[Value.ref b] s) (F0 m 835 ls []) := by
  obtain ⟨hx, hb, hr, hml, hown, hts, hX, hbl, hlocks, hgv⟩ := id C0
  have hbA : ¬ (fun q : Nat => s.heap.size ≤ q) b := Nat.not_le.mpr hbl
  obtain ⟨v1, e1⟩ : ∃ v : Int32, v = xs (x3 + 1).toNatClampNeg := ⟨_, rfl⟩
  refine lv_aload_n hx hb dL_law_835 rfl (lv_at hl 1 rfl) ?_
  refine lv_aload_n hx hb dL_law_836 rfl (lv_at hl 0 rfl) ?_
  refine lv_iload_n hx hb dL_law_837 rfl (lv_at hl 3 rfl) ?_
  refine lv_iconst (v := 1) hx hb dL_law_838 (by decide) ?_
  refine lv_iadd hx hb dL_law_839 ?_
  refine va_sld hx hb hX hbl hbA hB.2.2.2 (hin 1 (by decide)) dL_law_840 ?_
  refine W.eq (g2 := F0 m 841 ls [.int v1, .ref (ad 0)]) (by rw [e1]) ?_
  obtain ⟨r0, γ1, μ1, hk1, hk2, hRl1⟩ := hS γ μ v1 hRl
  refine lx_call (rv := some (.int r0)) (av := [.int v1]) (rest := []) hx hb hml hown hts hl.1 hV hB (cc_X7_firstOff l D ad cy z n γ v1 hk1) (cwV 1 hts (gL_v wsC_in allC qLo_methodLink_104 qLp_im_X7_firstOff qLp_se_X7_firstOff qLx_ini7 qLp_co_X7_firstOff) rfl rfl rfl (by decide +kernel) ⟨Nat.le_of_ble_eq_true rfl, Nat.le_of_ble_eq_true rfl⟩) rfl rfl (lv_room (Nat.le_of_ble_eq_true rfl)) dL_law_841 (by show 59 + 3 * j + 0 ≤ 600000; omega) (by show 2231 + 45 * j + 0 ≤ 7302249; omega) (fun H locs hB => ?_)
  refine W.eq (g2 := F0 m 844 ls [.int r0]) rfl ?_
  refine lv_aload_n hx hb dL_law_844 rfl (lv_at hl 2 rfl) ?_
  refine lv_aload_n hx hb dL_law_845 rfl (lv_at hl 0 rfl) ?_
  refine lv_iload_n hx hb dL_law_846 rfl (lv_at hl 3 rfl) ?_
  refine lv_iconst (v := 1) hx hb dL_law_847 (by decide) ?_
  refine lv_iadd hx hb dL_law_848 ?_
  refine va_sld hx hb hX hbl hbA hB.2.2.2 (hin 1 (by decide)) dL_law_849 ?_
  refine W.eq (g2 := F0 m 850 ls [.int v1, .ref (am 0), .int r0]) (by rw [e1]) ?_
  refine lm_calli (r0 := r0) (av := [.int v1]) (rest := [.int r0]) hx hb hml hown hts hl.1 hV hB (cm_firstOff l D am cy.1 n μ v1 hk2) (cwV 1 hts (gL_v wsM_in allM qLo_methodLink_107 qLp_im_X8_firstOff qLp_se_X8_firstOff qLx_ini8 qLp_co_X8_firstOff) rfl rfl rfl (by decide +kernel) ⟨Nat.le_of_ble_eq_true rfl, Nat.le_of_ble_eq_true rfl⟩) rfl rfl (lv_room (Nat.le_of_ble_eq_true rfl)) dL_law_850 (by show 59 + 3 * j + 0 ≤ 600000; omega) (by show 2231 + 45 * j + 0 ≤ 7302249; omega) (fun H locs hB => ?_)
  refine lv_icmp_eq (tgt := 1332) hx hb dL_law_853 (by decide) (fun _ => ?_) (fun c2 => absurd rfl c2)
  refine W.widen (k := 59 + 3 * (j + 1)) (n := 2231 + 45 * (j + 1)) (by omega) (by omega) ?_
  exact hN ad γ1 μ1 _ _ _ hRl1 hB hl
set_option maxRecDepth 100000 in
set_option maxHeartbeats 4000000 in
theorem lk_supposed {p : Program} {l : Launch} {e : Env} {s : State} {m : MethodId} {below : List Frame} {meth : Method} {c : Code} {b L : Nat} {xs : Nat → Int32} (C0 : lw_At p s m meth c b L xs) {D : va_G} {cy : CY} {z : CZ} (hV : lV D cy z (fun q => s.heap.size ≤ q) s) (n : Nat) {Rl : CS → MS → Prop} (hS : st_supposed n Rl) {ad am : Nat → Nat} {γ : CS} {μ : MS} (hRl : Rl γ μ) {j : Nat} (hj : j < 65) {x3 : Int32} (hin : ∀ k : Nat, k < 7 → vp_in (x3 + nI k) L) {H : Heap} {locs : List Loc} {ls : Array Slot} (hB : lB D ad am cy (fun q => s.heap.size ≤ q) s.heap γ μ H locs) (hl : lv_has ls 4 [(0, .ref b), (1, .ref (ad 0)), (2, .ref (am 0)), (3, .int x3)])
    (hN : ∀ (ad1 : Nat → Nat) (γ1 : CS) (μ1 : MS) (H1 : Heap) (locs1 : List Loc) (ls1 : Array Slot), Rl γ1 μ1 → lB D ad1 am cy (fun q => s.heap.size ≤ q) s.heap γ1 μ1 H1 locs1 → lv_has ls1 4 [(0, .ref b), (1, .ref (ad1 0)), (2, .ref (am 0)), (3, .int x3)] → W p l e room_1 s m #[Value.ref b] below meth c H1 locs1 (59 + 3 * (j + 1)) (2231 + 45 * (j + 1)) (lw_Z below #[Value.ref b] s) (F0 m 1332 ls1 [])) : W p l e room_1 s m #[Value.ref b] below meth c H locs (59 + 3 * j) (2231 + 45 * j) (lw_Z below #[Value.ref b] s) (F0 m 858 ls []) := by
  obtain ⟨hx, hb, hr, hml, hown, hts, hX, hbl, hlocks, hgv⟩ := id C0
  have hbA : ¬ (fun q : Nat => s.heap.size ≤ q) b := Nat.not_le.mpr hbl
  obtain ⟨v1, e1⟩ : ∃ v : Int32, v = xs (x3 + 1).toNatClampNeg := ⟨_, rfl⟩
  refine lv_aload_n hx hb dL_law_858 rfl (lv_at hl 1 rfl) ?_
  refine lv_aload_n hx hb dL_law_859 rfl (lv_at hl 0 rfl) ?_
  refine lv_iload_n hx hb dL_law_860 rfl (lv_at hl 3 rfl) ?_
  refine lv_iconst (v := 1) hx hb dL_law_861 (by decide) ?_
  refine lv_iadd hx hb dL_law_862 ?_
  refine va_sld hx hb hX hbl hbA hB.2.2.2 (hin 1 (by decide)) dL_law_863 ?_
  refine W.eq (g2 := F0 m 864 ls [.int v1, .ref (ad 0)]) (by rw [e1]) ?_
  obtain ⟨r0, γ1, μ1, hk1, hk2, hRl1⟩ := hS γ μ v1 hRl
  refine lx_call (rv := some (.int r0)) (av := [.int v1]) (rest := []) hx hb hml hown hts hl.1 hV hB (cc_X7_supposed l D ad cy z n γ v1 hk1) (cwV 1 hts (gL_v wsC_in allC qLo_methodLink_108 qLp_im_X7_supposed qLp_se_X7_supposed qLx_ini7 qLp_co_X7_supposed) rfl rfl rfl (by decide +kernel) ⟨Nat.le_of_ble_eq_true rfl, Nat.le_of_ble_eq_true rfl⟩) rfl rfl (lv_room (Nat.le_of_ble_eq_true rfl)) dL_law_864 (by show 59 + 3 * j + 0 ≤ 600000; omega) (by show 2231 + 45 * j + 0 ≤ 7302249; omega) (fun H locs hB => ?_)
  refine W.eq (g2 := F0 m 867 ls [.int r0]) rfl ?_
  refine lv_aload_n hx hb dL_law_867 rfl (lv_at hl 2 rfl) ?_
  refine lv_aload_n hx hb dL_law_868 rfl (lv_at hl 0 rfl) ?_
  refine lv_iload_n hx hb dL_law_869 rfl (lv_at hl 3 rfl) ?_
  refine lv_iconst (v := 1) hx hb dL_law_870 (by decide) ?_
  refine lv_iadd hx hb dL_law_871 ?_
  refine va_sld hx hb hX hbl hbA hB.2.2.2 (hin 1 (by decide)) dL_law_872 ?_
  refine W.eq (g2 := F0 m 873 ls [.int v1, .ref (am 0), .int r0]) (by rw [e1]) ?_
  refine lm_calli (r0 := r0) (av := [.int v1]) (rest := [.int r0]) hx hb hml hown hts hl.1 hV hB (cm_supposed l D am cy.1 n μ v1 hk2) (cwV 1 hts (gL_v wsM_in allM qLo_methodLink_111 qLp_im_X8_supposed qLp_se_X8_supposed qLx_ini8 qLp_co_X8_supposed) rfl rfl rfl (by decide +kernel) ⟨Nat.le_of_ble_eq_true rfl, Nat.le_of_ble_eq_true rfl⟩) rfl rfl (lv_room (Nat.le_of_ble_eq_true rfl)) dL_law_873 (by show 59 + 3 * j + 0 ≤ 600000; omega) (by show 2231 + 45 * j + 0 ≤ 7302249; omega) (fun H locs hB => ?_)
  refine lv_icmp_eq (tgt := 1332) hx hb dL_law_876 (by decide) (fun _ => ?_) (fun c2 => absurd rfl c2)
  refine W.widen (k := 59 + 3 * (j + 1)) (n := 2231 + 45 * (j + 1)) (by omega) (by omega) ?_
  exact hN ad γ1 μ1 _ _ _ hRl1 hB hl
set_option maxRecDepth 100000 in
set_option maxHeartbeats 4000000 in
theorem lk_ahead {p : Program} {l : Launch} {e : Env} {s : State} {m : MethodId} {below : List Frame} {meth : Method} {c : Code} {b L : Nat} {xs : Nat → Int32} (C0 : lw_At p s m meth c b L xs) {D : va_G} {cy : CY} {z : CZ} (hV : lV D cy z (fun q => s.heap.size ≤ q) s) (n : Nat) {Rl : CS → MS → Prop} (hS : st_ahead n Rl) {ad am : Nat → Nat} {γ : CS} {μ : MS} (hRl : Rl γ μ) {j : Nat} (hj : j < 65) {x3 : Int32} (hin : ∀ k : Nat, k < 7 → vp_in (x3 + nI k) L) {H : Heap} {locs : List Loc} {ls : Array Slot} (hB : lB D ad am cy (fun q => s.heap.size ≤ q) s.heap γ μ H locs) (hl : lv_has ls 4 [(0, .ref b), (1, .ref (ad 0)), (2, .ref (am 0)), (3, .int x3)])
    (hN : ∀ (ad1 : Nat → Nat) (γ1 : CS) (μ1 : MS) (H1 : Heap) (locs1 : List Loc) (ls1 : Array Slot), Rl γ1 μ1 → lB D ad1 am cy (fun q => s.heap.size ≤ q) s.heap γ1 μ1 H1 locs1 → lv_has ls1 4 [(0, .ref b), (1, .ref (ad1 0)), (2, .ref (am 0)), (3, .int x3)] → W p l e room_1 s m #[Value.ref b] below meth c H1 locs1 (59 + 3 * (j + 1)) (2231 + 45 * (j + 1)) (lw_Z below #[Value.ref b] s) (F0 m 1332 ls1 [])) : W p l e room_1 s m #[Value.ref b] below meth c H locs (59 + 3 * j) (2231 + 45 * j) (lw_Z below #[Value.ref b] s) (F0 m 881 ls []) := by
  obtain ⟨hx, hb, hr, hml, hown, hts, hX, hbl, hlocks, hgv⟩ := id C0
  have hbA : ¬ (fun q : Nat => s.heap.size ≤ q) b := Nat.not_le.mpr hbl
  obtain ⟨v1, e1⟩ : ∃ v : Int32, v = xs (x3 + 1).toNatClampNeg := ⟨_, rfl⟩
  obtain ⟨v2, e2⟩ : ∃ v : Int32, v = xs (x3 + 2).toNatClampNeg := ⟨_, rfl⟩
  obtain ⟨v3, e3⟩ : ∃ v : Int32, v = xs (x3 + 3).toNatClampNeg := ⟨_, rfl⟩
  refine lv_aload_n hx hb dL_law_881 rfl (lv_at hl 1 rfl) ?_
  refine lv_aload_n hx hb dL_law_882 rfl (lv_at hl 0 rfl) ?_
  refine lv_iload_n hx hb dL_law_883 rfl (lv_at hl 3 rfl) ?_
  refine lv_iconst (v := 1) hx hb dL_law_884 (by decide) ?_
  refine lv_iadd hx hb dL_law_885 ?_
  refine va_sld hx hb hX hbl hbA hB.2.2.2 (hin 1 (by decide)) dL_law_886 ?_
  refine W.eq (g2 := F0 m 887 ls [.int v1, .ref (ad 0)]) (by rw [e1]) ?_
  refine lv_aload_n hx hb dL_law_887 rfl (lv_at hl 0 rfl) ?_
  refine lv_iload_n hx hb dL_law_888 rfl (lv_at hl 3 rfl) ?_
  refine lv_iconst (v := 2) hx hb dL_law_889 (by decide) ?_
  refine lv_iadd hx hb dL_law_890 ?_
  refine va_sld hx hb hX hbl hbA hB.2.2.2 (hin 2 (by decide)) dL_law_891 ?_
  refine W.eq (g2 := F0 m 892 ls [.int v2, .int v1, .ref (ad 0)]) (by rw [e2]) ?_
  refine lv_aload_n hx hb dL_law_892 rfl (lv_at hl 0 rfl) ?_
  refine lv_iload_n hx hb dL_law_893 rfl (lv_at hl 3 rfl) ?_
  refine lv_iconst (v := 3) hx hb dL_law_894 (by decide) ?_
  refine lv_iadd hx hb dL_law_895 ?_
  refine va_sld hx hb hX hbl hbA hB.2.2.2 (hin 3 (by decide)) dL_law_896 ?_
  refine W.eq (g2 := F0 m 897 ls [.int v3, .int v2, .int v1, .ref (ad 0)]) (by rw [e3]) ?_
  obtain ⟨r0, γ1, μ1, hk1, hk2, hRl1⟩ := hS γ μ v1 v2 v3 hRl
  refine lx_call (rv := some (.int r0)) (av := [.int v1, .int v2, .int v3]) (rest := []) hx hb hml hown hts hl.1 hV hB (cc_X7_ahead l D ad cy z n γ v1 v2 v3 hk1) (cwV 3 hts (gL_v wsC_in allC qLo_methodLink_112 qLp_im_X7_ahead qLp_se_X7_ahead qLx_ini7 qLp_co_X7_ahead) rfl rfl rfl (by decide +kernel) ⟨Nat.le_of_ble_eq_true rfl, Nat.le_of_ble_eq_true rfl⟩) rfl rfl (lv_room (Nat.le_of_ble_eq_true rfl)) dL_law_897 (by show 59 + 3 * j + 0 ≤ 600000; omega) (by show 2231 + 45 * j + 0 ≤ 7302249; omega) (fun H locs hB => ?_)
  refine W.eq (g2 := F0 m 900 ls [.int r0]) rfl ?_
  refine lv_aload_n hx hb dL_law_900 rfl (lv_at hl 2 rfl) ?_
  refine lv_aload_n hx hb dL_law_901 rfl (lv_at hl 0 rfl) ?_
  refine lv_iload_n hx hb dL_law_902 rfl (lv_at hl 3 rfl) ?_
  refine lv_iconst (v := 1) hx hb dL_law_903 (by decide) ?_
  refine lv_iadd hx hb dL_law_904 ?_
  refine va_sld hx hb hX hbl hbA hB.2.2.2 (hin 1 (by decide)) dL_law_905 ?_
  refine W.eq (g2 := F0 m 906 ls [.int v1, .ref (am 0), .int r0]) (by rw [e1]) ?_
  refine lv_aload_n hx hb dL_law_906 rfl (lv_at hl 0 rfl) ?_
  refine lv_iload_n hx hb dL_law_907 rfl (lv_at hl 3 rfl) ?_
  refine lv_iconst (v := 2) hx hb dL_law_908 (by decide) ?_
  refine lv_iadd hx hb dL_law_909 ?_
  refine va_sld hx hb hX hbl hbA hB.2.2.2 (hin 2 (by decide)) dL_law_910 ?_
  refine W.eq (g2 := F0 m 911 ls [.int v2, .int v1, .ref (am 0), .int r0]) (by rw [e2]) ?_
  refine lv_aload_n hx hb dL_law_911 rfl (lv_at hl 0 rfl) ?_
  refine lv_iload_n hx hb dL_law_912 rfl (lv_at hl 3 rfl) ?_
  refine lv_iconst (v := 3) hx hb dL_law_913 (by decide) ?_
  refine lv_iadd hx hb dL_law_914 ?_
  refine va_sld hx hb hX hbl hbA hB.2.2.2 (hin 3 (by decide)) dL_law_915 ?_
  refine W.eq (g2 := F0 m 916 ls [.int v3, .int v2, .int v1, .ref (am 0), .int r0]) (by rw [e3]) ?_
  refine lm_calli (r0 := r0) (av := [.int v1, .int v2, .int v3]) (rest := [.int r0]) hx hb hml hown hts hl.1 hV hB (cm_ahead l D am cy.1 n μ v1 v2 v3 hk2) (cwV 3 hts (gL_v wsM_in allM qLo_methodLink_115 qLp_im_X8_ahead qLp_se_X8_ahead qLx_ini8 qLp_co_X8_ahead) rfl rfl rfl (by decide +kernel) ⟨Nat.le_of_ble_eq_true rfl, Nat.le_of_ble_eq_true rfl⟩) rfl rfl (lv_room (Nat.le_of_ble_eq_true rfl)) dL_law_916 (by show 59 + 3 * j + 0 ≤ 600000; omega) (by show 2231 + 45 * j + 0 ≤ 7302249; omega) (fun H locs hB => ?_)
  refine lv_icmp_eq (tgt := 1332) hx hb dL_law_919 (by decide) (fun _ => ?_) (fun c2 => absurd rfl c2)
  refine W.widen (k := 59 + 3 * (j + 1)) (n := 2231 + 45 * (j + 1)) (by omega) (by omega) ?_
  exact hN ad γ1 μ1 _ _ _ hRl1 hB hl
set_option maxRecDepth 100000 in
set_option maxHeartbeats 4000000 in
theorem lk_parts {p : Program} {l : Launch} {e : Env} {s : State} {m : MethodId} {below : List Frame} {meth : Method} {c : Code} {b L : Nat} {xs : Nat → Int32} (C0 : lw_At p s m meth c b L xs) {D : va_G} {cy : CY} {z : CZ} (hV : lV D cy z (fun q => s.heap.size ≤ q) s) (n : Nat) {Rl : CS → MS → Prop} (hS : st_parts n Rl) {ad am : Nat → Nat} {γ : CS} {μ : MS} (hRl : Rl γ μ) {j : Nat} (hj : j < 65) {x3 : Int32} (hin : ∀ k : Nat, k < 7 → vp_in (x3 + nI k) L) {H : Heap} {locs : List Loc} {ls : Array Slot} (hB : lB D ad am cy (fun q => s.heap.size ≤ q) s.heap γ μ H locs) (hl : lv_has ls 4 [(0, .ref b), (1, .ref (ad 0)), (2, .ref (am 0)), (3, .int x3)])
    (hN : ∀ (ad1 : Nat → Nat) (γ1 : CS) (μ1 : MS) (H1 : Heap) (locs1 : List Loc) (ls1 : Array Slot), Rl γ1 μ1 → lB D ad1 am cy (fun q => s.heap.size ≤ q) s.heap γ1 μ1 H1 locs1 → lv_has ls1 4 [(0, .ref b), (1, .ref (ad1 0)), (2, .ref (am 0)), (3, .int x3)] → W p l e room_1 s m #[Value.ref b] below meth c H1 locs1 (59 + 3 * (j + 1)) (2231 + 45 * (j + 1)) (lw_Z below #[Value.ref b] s) (F0 m 1332 ls1 [])) : W p l e room_1 s m #[Value.ref b] below meth c H locs (59 + 3 * j) (2231 + 45 * j) (lw_Z below #[Value.ref b] s) (F0 m 924 ls []) := by
  obtain ⟨hx, hb, hr, hml, hown, hts, hX, hbl, hlocks, hgv⟩ := id C0
  have hbA : ¬ (fun q : Nat => s.heap.size ≤ q) b := Nat.not_le.mpr hbl
  obtain ⟨v1, e1⟩ : ∃ v : Int32, v = xs (x3 + 1).toNatClampNeg := ⟨_, rfl⟩
  obtain ⟨v2, e2⟩ : ∃ v : Int32, v = xs (x3 + 2).toNatClampNeg := ⟨_, rfl⟩
  obtain ⟨v3, e3⟩ : ∃ v : Int32, v = xs (x3 + 3).toNatClampNeg := ⟨_, rfl⟩
  obtain ⟨v4, e4⟩ : ∃ v : Int32, v = xs (x3 + 4).toNatClampNeg := ⟨_, rfl⟩
  obtain ⟨v5, e5⟩ : ∃ v : Int32, v = xs (x3 + 5).toNatClampNeg := ⟨_, rfl⟩
  refine lv_aload_n hx hb dL_law_924 rfl (lv_at hl 1 rfl) ?_
  refine lv_aload_n hx hb dL_law_925 rfl (lv_at hl 0 rfl) ?_
  refine lv_iload_n hx hb dL_law_926 rfl (lv_at hl 3 rfl) ?_
  refine lv_iconst (v := 1) hx hb dL_law_927 (by decide) ?_
  refine lv_iadd hx hb dL_law_928 ?_
  refine va_sld hx hb hX hbl hbA hB.2.2.2 (hin 1 (by decide)) dL_law_929 ?_
  refine W.eq (g2 := F0 m 930 ls [.int v1, .ref (ad 0)]) (by rw [e1]) ?_
  refine lv_aload_n hx hb dL_law_930 rfl (lv_at hl 0 rfl) ?_
  refine lv_iload_n hx hb dL_law_931 rfl (lv_at hl 3 rfl) ?_
  refine lv_iconst (v := 2) hx hb dL_law_932 (by decide) ?_
  refine lv_iadd hx hb dL_law_933 ?_
  refine va_sld hx hb hX hbl hbA hB.2.2.2 (hin 2 (by decide)) dL_law_934 ?_
  refine W.eq (g2 := F0 m 935 ls [.int v2, .int v1, .ref (ad 0)]) (by rw [e2]) ?_
  refine lv_aload_n hx hb dL_law_935 rfl (lv_at hl 0 rfl) ?_
  refine lv_iload_n hx hb dL_law_936 rfl (lv_at hl 3 rfl) ?_
  refine lv_iconst (v := 3) hx hb dL_law_937 (by decide) ?_
  refine lv_iadd hx hb dL_law_938 ?_
  refine va_sld hx hb hX hbl hbA hB.2.2.2 (hin 3 (by decide)) dL_law_939 ?_
  refine W.eq (g2 := F0 m 940 ls [.int v3, .int v2, .int v1, .ref (ad 0)]) (by rw [e3]) ?_
  refine lv_aload_n hx hb dL_law_940 rfl (lv_at hl 0 rfl) ?_
  refine lv_iload_n hx hb dL_law_941 rfl (lv_at hl 3 rfl) ?_
  refine lv_iconst (v := 4) hx hb dL_law_942 (by decide) ?_
  refine lv_iadd hx hb dL_law_943 ?_
  refine va_sld hx hb hX hbl hbA hB.2.2.2 (hin 4 (by decide)) dL_law_944 ?_
  refine W.eq (g2 := F0 m 945 ls [.int v4, .int v3, .int v2, .int v1, .ref (ad 0)]) (by rw [e4]) ?_
  refine lv_aload_n hx hb dL_law_945 rfl (lv_at hl 0 rfl) ?_
  refine lv_iload_n hx hb dL_law_946 rfl (lv_at hl 3 rfl) ?_
  refine lv_iconst (v := 5) hx hb dL_law_947 (by decide) ?_
  refine lv_iadd hx hb dL_law_948 ?_
  refine va_sld hx hb hX hbl hbA hB.2.2.2 (hin 5 (by decide)) dL_law_949 ?_
  refine W.eq (g2 := F0 m 950 ls [.int v5, .int v4, .int v3, .int v2, .int v1, .ref (ad 0)]) (by rw [e5]) ?_
  obtain ⟨r0, γ1, μ1, hk1, hk2, hRl1⟩ := hS γ μ v1 v2 v3 v4 v5 hRl
  refine lx_call (rv := some (.int r0)) (av := [.int v1, .int v2, .int v3, .int v4, .int v5]) (rest := []) hx hb hml hown hts hl.1 hV hB (cc_X7_parts l D ad cy z n γ v1 v2 v3 v4 v5 hk1) (cwV 5 hts (gL_v wsC_in allC qLo_methodLink_116 qLp_im_X7_parts qLp_se_X7_parts qLx_ini7 qLp_co_X7_parts) rfl rfl rfl (by decide +kernel) ⟨Nat.le_of_ble_eq_true rfl, Nat.le_of_ble_eq_true rfl⟩) rfl rfl (lv_room (Nat.le_of_ble_eq_true rfl)) dL_law_950 (by show 59 + 3 * j + 0 ≤ 600000; omega) (by show 2231 + 45 * j + 0 ≤ 7302249; omega) (fun H locs hB => ?_)
  refine W.eq (g2 := F0 m 953 ls [.int r0]) rfl ?_
  refine lv_aload_n hx hb dL_law_953 rfl (lv_at hl 2 rfl) ?_
  refine lv_aload_n hx hb dL_law_954 rfl (lv_at hl 0 rfl) ?_
  refine lv_iload_n hx hb dL_law_955 rfl (lv_at hl 3 rfl) ?_
  refine lv_iconst (v := 1) hx hb dL_law_956 (by decide) ?_
  refine lv_iadd hx hb dL_law_957 ?_
  refine va_sld hx hb hX hbl hbA hB.2.2.2 (hin 1 (by decide)) dL_law_958 ?_
  refine W.eq (g2 := F0 m 959 ls [.int v1, .ref (am 0), .int r0]) (by rw [e1]) ?_
  refine lv_aload_n hx hb dL_law_959 rfl (lv_at hl 0 rfl) ?_
  refine lv_iload_n hx hb dL_law_960 rfl (lv_at hl 3 rfl) ?_
  refine lv_iconst (v := 2) hx hb dL_law_961 (by decide) ?_
  refine lv_iadd hx hb dL_law_962 ?_
  refine va_sld hx hb hX hbl hbA hB.2.2.2 (hin 2 (by decide)) dL_law_963 ?_
  refine W.eq (g2 := F0 m 964 ls [.int v2, .int v1, .ref (am 0), .int r0]) (by rw [e2]) ?_
  refine lv_aload_n hx hb dL_law_964 rfl (lv_at hl 0 rfl) ?_
  refine lv_iload_n hx hb dL_law_965 rfl (lv_at hl 3 rfl) ?_
  refine lv_iconst (v := 3) hx hb dL_law_966 (by decide) ?_
  refine lv_iadd hx hb dL_law_967 ?_
  refine va_sld hx hb hX hbl hbA hB.2.2.2 (hin 3 (by decide)) dL_law_968 ?_
  refine W.eq (g2 := F0 m 969 ls [.int v3, .int v2, .int v1, .ref (am 0), .int r0]) (by rw [e3]) ?_
  refine lv_aload_n hx hb dL_law_969 rfl (lv_at hl 0 rfl) ?_
  refine lv_iload_n hx hb dL_law_970 rfl (lv_at hl 3 rfl) ?_
  refine lv_iconst (v := 4) hx hb dL_law_971 (by decide) ?_
  refine lv_iadd hx hb dL_law_972 ?_
  refine va_sld hx hb hX hbl hbA hB.2.2.2 (hin 4 (by decide)) dL_law_973 ?_
  refine W.eq (g2 := F0 m 974 ls [.int v4, .int v3, .int v2, .int v1, .ref (am 0), .int r0]) (by rw [e4]) ?_
  refine lv_aload_n hx hb dL_law_974 rfl (lv_at hl 0 rfl) ?_
  refine lv_iload_n hx hb dL_law_975 rfl (lv_at hl 3 rfl) ?_
  refine lv_iconst (v := 5) hx hb dL_law_976 (by decide) ?_
  refine lv_iadd hx hb dL_law_977 ?_
  refine va_sld hx hb hX hbl hbA hB.2.2.2 (hin 5 (by decide)) dL_law_978 ?_
  refine W.eq (g2 := F0 m 979 ls [.int v5, .int v4, .int v3, .int v2, .int v1, .ref (am 0), .int r0]) (by rw [e5]) ?_
  refine lm_calli (r0 := r0) (av := [.int v1, .int v2, .int v3, .int v4, .int v5]) (rest := [.int r0]) hx hb hml hown hts hl.1 hV hB (cm_parts l D am cy.1 n μ v1 v2 v3 v4 v5 hk2) (cwV 5 hts (gL_v wsM_in allM qLo_methodLink_119 qLp_im_X8_parts qLp_se_X8_parts qLx_ini8 qLp_co_X8_parts) rfl rfl rfl (by decide +kernel) ⟨Nat.le_of_ble_eq_true rfl, Nat.le_of_ble_eq_true rfl⟩) rfl rfl (lv_room (Nat.le_of_ble_eq_true rfl)) dL_law_979 (by show 59 + 3 * j + 0 ≤ 600000; omega) (by show 2231 + 45 * j + 0 ≤ 7302249; omega) (fun H locs hB => ?_)
  refine lv_icmp_eq (tgt := 1332) hx hb dL_law_982 (by decide) (fun _ => ?_) (fun c2 => absurd rfl c2)
  refine W.widen (k := 59 + 3 * (j + 1)) (n := 2231 + 45 * (j + 1)) (by omega) (by omega) ?_
  exact hN ad γ1 μ1 _ _ _ hRl1 hB hl
set_option maxRecDepth 100000 in
set_option maxHeartbeats 4000000 in
theorem lk_longest {p : Program} {l : Launch} {e : Env} {s : State} {m : MethodId} {below : List Frame} {meth : Method} {c : Code} {b L : Nat} {xs : Nat → Int32} (C0 : lw_At p s m meth c b L xs) {D : va_G} {cy : CY} {z : CZ} (hV : lV D cy z (fun q => s.heap.size ≤ q) s) (n : Nat) {Rl : CS → MS → Prop} (hS : st_longest n Rl) {ad am : Nat → Nat} {γ : CS} {μ : MS} (hRl : Rl γ μ) {j : Nat} (hj : j < 65) {x3 : Int32} (hin : ∀ k : Nat, k < 7 → vp_in (x3 + nI k) L) {H : Heap} {locs : List Loc} {ls : Array Slot} (hB : lB D ad am cy (fun q => s.heap.size ≤ q) s.heap γ μ H locs) (hl : lv_has ls 4 [(0, .ref b), (1, .ref (ad 0)), (2, .ref (am 0)), (3, .int x3)])
    (hN : ∀ (ad1 : Nat → Nat) (γ1 : CS) (μ1 : MS) (H1 : Heap) (locs1 : List Loc) (ls1 : Array Slot), Rl γ1 μ1 → lB D ad1 am cy (fun q => s.heap.size ≤ q) s.heap γ1 μ1 H1 locs1 → lv_has ls1 4 [(0, .ref b), (1, .ref (ad1 0)), (2, .ref (am 0)), (3, .int x3)] → W p l e room_1 s m #[Value.ref b] below meth c H1 locs1 (59 + 3 * (j + 1)) (2231 + 45 * (j + 1)) (lw_Z below #[Value.ref b] s) (F0 m 1332 ls1 [])) : W p l e room_1 s m #[Value.ref b] below meth c H locs (59 + 3 * j) (2231 + 45 * j) (lw_Z below #[Value.ref b] s) (F0 m 987 ls []) := by
  obtain ⟨hx, hb, hr, hml, hown, hts, hX, hbl, hlocks, hgv⟩ := id C0
  have hbA : ¬ (fun q : Nat => s.heap.size ≤ q) b := Nat.not_le.mpr hbl
  obtain ⟨v1, e1⟩ : ∃ v : Int32, v = xs (x3 + 1).toNatClampNeg := ⟨_, rfl⟩
  obtain ⟨v2, e2⟩ : ∃ v : Int32, v = xs (x3 + 2).toNatClampNeg := ⟨_, rfl⟩
  obtain ⟨v3, e3⟩ : ∃ v : Int32, v = xs (x3 + 3).toNatClampNeg := ⟨_, rfl⟩
  refine lv_aload_n hx hb dL_law_987 rfl (lv_at hl 1 rfl) ?_
  refine lv_aload_n hx hb dL_law_988 rfl (lv_at hl 0 rfl) ?_
  refine lv_iload_n hx hb dL_law_989 rfl (lv_at hl 3 rfl) ?_
  refine lv_iconst (v := 1) hx hb dL_law_990 (by decide) ?_
  refine lv_iadd hx hb dL_law_991 ?_
  refine va_sld hx hb hX hbl hbA hB.2.2.2 (hin 1 (by decide)) dL_law_992 ?_
  refine W.eq (g2 := F0 m 993 ls [.int v1, .ref (ad 0)]) (by rw [e1]) ?_
  refine lv_aload_n hx hb dL_law_993 rfl (lv_at hl 0 rfl) ?_
  refine lv_iload_n hx hb dL_law_994 rfl (lv_at hl 3 rfl) ?_
  refine lv_iconst (v := 2) hx hb dL_law_995 (by decide) ?_
  refine lv_iadd hx hb dL_law_996 ?_
  refine va_sld hx hb hX hbl hbA hB.2.2.2 (hin 2 (by decide)) dL_law_997 ?_
  refine W.eq (g2 := F0 m 998 ls [.int v2, .int v1, .ref (ad 0)]) (by rw [e2]) ?_
  refine lv_aload_n hx hb dL_law_998 rfl (lv_at hl 0 rfl) ?_
  refine lv_iload_n hx hb dL_law_999 rfl (lv_at hl 3 rfl) ?_
  refine lv_iconst (v := 3) hx hb dL_law_1000 (by decide) ?_
  refine lv_iadd hx hb dL_law_1001 ?_
  refine va_sld hx hb hX hbl hbA hB.2.2.2 (hin 3 (by decide)) dL_law_1002 ?_
  refine W.eq (g2 := F0 m 1003 ls [.int v3, .int v2, .int v1, .ref (ad 0)]) (by rw [e3]) ?_
  obtain ⟨r0, γ1, μ1, hk1, hk2, hRl1⟩ := hS γ μ v1 v2 v3 hRl
  refine lx_call (rv := some (.int r0)) (av := [.int v1, .int v2, .int v3]) (rest := []) hx hb hml hown hts hl.1 hV hB (cc_X7_longest l D ad cy z n γ v1 v2 v3 hk1) (cwV 3 hts (gL_v wsC_in allC qLo_methodLink_120 qLp_im_X7_longest qLp_se_X7_longest qLx_ini7 qLp_co_X7_longest) rfl rfl rfl (by decide +kernel) ⟨Nat.le_of_ble_eq_true rfl, Nat.le_of_ble_eq_true rfl⟩) rfl rfl (lv_room (Nat.le_of_ble_eq_true rfl)) dL_law_1003 (by show 59 + 3 * j + 0 ≤ 600000; omega) (by show 2231 + 45 * j + 0 ≤ 7302249; omega) (fun H locs hB => ?_)
  refine W.eq (g2 := F0 m 1006 ls [.int r0]) rfl ?_
  refine lv_aload_n hx hb dL_law_1006 rfl (lv_at hl 2 rfl) ?_
  refine lv_aload_n hx hb dL_law_1007 rfl (lv_at hl 0 rfl) ?_
  refine lv_iload_n hx hb dL_law_1008 rfl (lv_at hl 3 rfl) ?_
  refine lv_iconst (v := 1) hx hb dL_law_1009 (by decide) ?_
  refine lv_iadd hx hb dL_law_1010 ?_
  refine va_sld hx hb hX hbl hbA hB.2.2.2 (hin 1 (by decide)) dL_law_1011 ?_
  refine W.eq (g2 := F0 m 1012 ls [.int v1, .ref (am 0), .int r0]) (by rw [e1]) ?_
  refine lv_aload_n hx hb dL_law_1012 rfl (lv_at hl 0 rfl) ?_
  refine lv_iload_n hx hb dL_law_1013 rfl (lv_at hl 3 rfl) ?_
  refine lv_iconst (v := 2) hx hb dL_law_1014 (by decide) ?_
  refine lv_iadd hx hb dL_law_1015 ?_
  refine va_sld hx hb hX hbl hbA hB.2.2.2 (hin 2 (by decide)) dL_law_1016 ?_
  refine W.eq (g2 := F0 m 1017 ls [.int v2, .int v1, .ref (am 0), .int r0]) (by rw [e2]) ?_
  refine lv_aload_n hx hb dL_law_1017 rfl (lv_at hl 0 rfl) ?_
  refine lv_iload_n hx hb dL_law_1018 rfl (lv_at hl 3 rfl) ?_
  refine lv_iconst (v := 3) hx hb dL_law_1019 (by decide) ?_
  refine lv_iadd hx hb dL_law_1020 ?_
  refine va_sld hx hb hX hbl hbA hB.2.2.2 (hin 3 (by decide)) dL_law_1021 ?_
  refine W.eq (g2 := F0 m 1022 ls [.int v3, .int v2, .int v1, .ref (am 0), .int r0]) (by rw [e3]) ?_
  refine lm_calli (r0 := r0) (av := [.int v1, .int v2, .int v3]) (rest := [.int r0]) hx hb hml hown hts hl.1 hV hB (cm_longest l D am cy.1 n μ v1 v2 v3 hk2) (cwV 3 hts (gL_v wsM_in allM qLo_methodLink_123 qLp_im_X8_longest qLp_se_X8_longest qLx_ini8 qLp_co_X8_longest) rfl rfl rfl (by decide +kernel) ⟨Nat.le_of_ble_eq_true rfl, Nat.le_of_ble_eq_true rfl⟩) rfl rfl (lv_room (Nat.le_of_ble_eq_true rfl)) dL_law_1022 (by show 59 + 3 * j + 0 ≤ 600000; omega) (by show 2231 + 45 * j + 0 ≤ 7302249; omega) (fun H locs hB => ?_)
  refine lv_icmp_eq (tgt := 1332) hx hb dL_law_1025 (by decide) (fun _ => ?_) (fun c2 => absurd rfl c2)
  refine W.widen (k := 59 + 3 * (j + 1)) (n := 2231 + 45 * (j + 1)) (by omega) (by omega) ?_
  exact hN ad γ1 μ1 _ _ _ hRl1 hB hl
set_option maxRecDepth 100000 in
set_option maxHeartbeats 4000000 in
theorem lk_bestFor {p : Program} {l : Launch} {e : Env} {s : State} {m : MethodId} {below : List Frame} {meth : Method} {c : Code} {b L : Nat} {xs : Nat → Int32} (C0 : lw_At p s m meth c b L xs) {D : va_G} {cy : CY} {z : CZ} (hV : lV D cy z (fun q => s.heap.size ≤ q) s) (n : Nat) {Rl : CS → MS → Prop} (hS : st_bestFor n Rl) {ad am : Nat → Nat} {γ : CS} {μ : MS} (hRl : Rl γ μ) {j : Nat} (hj : j < 65) {x3 : Int32} (hin : ∀ k : Nat, k < 7 → vp_in (x3 + nI k) L) {H : Heap} {locs : List Loc} {ls : Array Slot} (hB : lB D ad am cy (fun q => s.heap.size ≤ q) s.heap γ μ H locs) (hl : lv_has ls 4 [(0, .ref b), (1, .ref (ad 0)), (2, .ref (am 0)), (3, .int x3)])
    (hN : ∀ (ad1 : Nat → Nat) (γ1 : CS) (μ1 : MS) (H1 : Heap) (locs1 : List Loc) (ls1 : Array Slot), Rl γ1 μ1 → lB D ad1 am cy (fun q => s.heap.size ≤ q) s.heap γ1 μ1 H1 locs1 → lv_has ls1 4 [(0, .ref b), (1, .ref (ad1 0)), (2, .ref (am 0)), (3, .int x3)] → W p l e room_1 s m #[Value.ref b] below meth c H1 locs1 (59 + 3 * (j + 1)) (2231 + 45 * (j + 1)) (lw_Z below #[Value.ref b] s) (F0 m 1332 ls1 [])) : W p l e room_1 s m #[Value.ref b] below meth c H locs (59 + 3 * j) (2231 + 45 * j) (lw_Z below #[Value.ref b] s) (F0 m 1030 ls []) := by
  obtain ⟨hx, hb, hr, hml, hown, hts, hX, hbl, hlocks, hgv⟩ := id C0
  have hbA : ¬ (fun q : Nat => s.heap.size ≤ q) b := Nat.not_le.mpr hbl
  obtain ⟨v1, e1⟩ : ∃ v : Int32, v = xs (x3 + 1).toNatClampNeg := ⟨_, rfl⟩
  obtain ⟨v2, e2⟩ : ∃ v : Int32, v = xs (x3 + 2).toNatClampNeg := ⟨_, rfl⟩
  obtain ⟨v3, e3⟩ : ∃ v : Int32, v = xs (x3 + 3).toNatClampNeg := ⟨_, rfl⟩
  refine lv_aload_n hx hb dL_law_1030 rfl (lv_at hl 1 rfl) ?_
  refine lv_aload_n hx hb dL_law_1031 rfl (lv_at hl 0 rfl) ?_
  refine lv_iload_n hx hb dL_law_1032 rfl (lv_at hl 3 rfl) ?_
  refine lv_iconst (v := 1) hx hb dL_law_1033 (by decide) ?_
  refine lv_iadd hx hb dL_law_1034 ?_
  refine va_sld hx hb hX hbl hbA hB.2.2.2 (hin 1 (by decide)) dL_law_1035 ?_
  refine W.eq (g2 := F0 m 1036 ls [.int v1, .ref (ad 0)]) (by rw [e1]) ?_
  refine lv_aload_n hx hb dL_law_1036 rfl (lv_at hl 0 rfl) ?_
  refine lv_iload_n hx hb dL_law_1037 rfl (lv_at hl 3 rfl) ?_
  refine lv_iconst (v := 2) hx hb dL_law_1038 (by decide) ?_
  refine lv_iadd hx hb dL_law_1039 ?_
  refine va_sld hx hb hX hbl hbA hB.2.2.2 (hin 2 (by decide)) dL_law_1040 ?_
  refine W.eq (g2 := F0 m 1041 ls [.int v2, .int v1, .ref (ad 0)]) (by rw [e2]) ?_
  refine lv_aload_n hx hb dL_law_1041 rfl (lv_at hl 0 rfl) ?_
  refine lv_iload_n hx hb dL_law_1042 rfl (lv_at hl 3 rfl) ?_
  refine lv_iconst (v := 3) hx hb dL_law_1043 (by decide) ?_
  refine lv_iadd hx hb dL_law_1044 ?_
  refine va_sld hx hb hX hbl hbA hB.2.2.2 (hin 3 (by decide)) dL_law_1045 ?_
  refine W.eq (g2 := F0 m 1046 ls [.int v3, .int v2, .int v1, .ref (ad 0)]) (by rw [e3]) ?_
  obtain ⟨r0, γ1, μ1, hk1, hk2, hRl1⟩ := hS γ μ v1 v2 v3 hRl
  refine lx_call (rv := some (.int r0)) (av := [.int v1, .int v2, .int v3]) (rest := []) hx hb hml hown hts hl.1 hV hB (cc_X7_bestFor l D ad cy z n γ v1 v2 v3 hk1) (cwV 3 hts (gL_v wsC_in allC qLo_methodLink_124 qLp_im_X7_bestFor qLp_se_X7_bestFor qLx_ini7 qLp_co_X7_bestFor) rfl rfl rfl (by decide +kernel) ⟨Nat.le_of_ble_eq_true rfl, Nat.le_of_ble_eq_true rfl⟩) rfl rfl (lv_room (Nat.le_of_ble_eq_true rfl)) dL_law_1046 (by show 59 + 3 * j + 0 ≤ 600000; omega) (by show 2231 + 45 * j + 0 ≤ 7302249; omega) (fun H locs hB => ?_)
  refine W.eq (g2 := F0 m 1049 ls [.int r0]) rfl ?_
  refine lv_aload_n hx hb dL_law_1049 rfl (lv_at hl 2 rfl) ?_
  refine lv_aload_n hx hb dL_law_1050 rfl (lv_at hl 0 rfl) ?_
  refine lv_iload_n hx hb dL_law_1051 rfl (lv_at hl 3 rfl) ?_
  refine lv_iconst (v := 1) hx hb dL_law_1052 (by decide) ?_
  refine lv_iadd hx hb dL_law_1053 ?_
  refine va_sld hx hb hX hbl hbA hB.2.2.2 (hin 1 (by decide)) dL_law_1054 ?_
  refine W.eq (g2 := F0 m 1055 ls [.int v1, .ref (am 0), .int r0]) (by rw [e1]) ?_
  refine lv_aload_n hx hb dL_law_1055 rfl (lv_at hl 0 rfl) ?_
  refine lv_iload_n hx hb dL_law_1056 rfl (lv_at hl 3 rfl) ?_
  refine lv_iconst (v := 2) hx hb dL_law_1057 (by decide) ?_
  refine lv_iadd hx hb dL_law_1058 ?_
  refine va_sld hx hb hX hbl hbA hB.2.2.2 (hin 2 (by decide)) dL_law_1059 ?_
  refine W.eq (g2 := F0 m 1060 ls [.int v2, .int v1, .ref (am 0), .int r0]) (by rw [e2]) ?_
  refine lv_aload_n hx hb dL_law_1060 rfl (lv_at hl 0 rfl) ?_
  refine lv_iload_n hx hb dL_law_1061 rfl (lv_at hl 3 rfl) ?_
  refine lv_iconst (v := 3) hx hb dL_law_1062 (by decide) ?_
  refine lv_iadd hx hb dL_law_1063 ?_
  refine va_sld hx hb hX hbl hbA hB.2.2.2 (hin 3 (by decide)) dL_law_1064 ?_
  refine W.eq (g2 := F0 m 1065 ls [.int v3, .int v2, .int v1, .ref (am 0), .int r0]) (by rw [e3]) ?_
  refine lm_calli (r0 := r0) (av := [.int v1, .int v2, .int v3]) (rest := [.int r0]) hx hb hml hown hts hl.1 hV hB (cm_bestFor l D am cy.1 n μ v1 v2 v3 hk2) (cwV 3 hts (gL_v wsM_in allM qLo_methodLink_127 qLp_im_X8_bestFor qLp_se_X8_bestFor qLx_ini8 qLp_co_X8_bestFor) rfl rfl rfl (by decide +kernel) ⟨Nat.le_of_ble_eq_true rfl, Nat.le_of_ble_eq_true rfl⟩) rfl rfl (lv_room (Nat.le_of_ble_eq_true rfl)) dL_law_1065 (by show 59 + 3 * j + 0 ≤ 600000; omega) (by show 2231 + 45 * j + 0 ≤ 7302249; omega) (fun H locs hB => ?_)
  refine lv_icmp_eq (tgt := 1332) hx hb dL_law_1068 (by decide) (fun _ => ?_) (fun c2 => absurd rfl c2)
  refine W.widen (k := 59 + 3 * (j + 1)) (n := 2231 + 45 * (j + 1)) (by omega) (by omega) ?_
  exact hN ad γ1 μ1 _ _ _ hRl1 hB hl
set_option maxRecDepth 100000 in
set_option maxHeartbeats 4000000 in
theorem lk_ear {p : Program} {l : Launch} {e : Env} {s : State} {m : MethodId} {below : List Frame} {meth : Method} {c : Code} {b L : Nat} {xs : Nat → Int32} (C0 : lw_At p s m meth c b L xs) {D : va_G} {cy : CY} {z : CZ} (hV : lV D cy z (fun q => s.heap.size ≤ q) s) (n : Nat) {Rl : CS → MS → Prop} (hS : st_ear n Rl) {ad am : Nat → Nat} {γ : CS} {μ : MS} (hRl : Rl γ μ) {j : Nat} (hj : j < 65) {x3 : Int32} (hin : ∀ k : Nat, k < 7 → vp_in (x3 + nI k) L) {H : Heap} {locs : List Loc} {ls : Array Slot} (hB : lB D ad am cy (fun q => s.heap.size ≤ q) s.heap γ μ H locs) (hl : lv_has ls 4 [(0, .ref b), (1, .ref (ad 0)), (2, .ref (am 0)), (3, .int x3)])
    (hN : ∀ (ad1 : Nat → Nat) (γ1 : CS) (μ1 : MS) (H1 : Heap) (locs1 : List Loc) (ls1 : Array Slot), Rl γ1 μ1 → lB D ad1 am cy (fun q => s.heap.size ≤ q) s.heap γ1 μ1 H1 locs1 → lv_has ls1 4 [(0, .ref b), (1, .ref (ad1 0)), (2, .ref (am 0)), (3, .int x3)] → W p l e room_1 s m #[Value.ref b] below meth c H1 locs1 (59 + 3 * (j + 1)) (2231 + 45 * (j + 1)) (lw_Z below #[Value.ref b] s) (F0 m 1332 ls1 [])) : W p l e room_1 s m #[Value.ref b] below meth c H locs (59 + 3 * j) (2231 + 45 * j) (lw_Z below #[Value.ref b] s) (F0 m 1073 ls []) := by
  obtain ⟨hx, hb, hr, hml, hown, hts, hX, hbl, hlocks, hgv⟩ := id C0
  have hbA : ¬ (fun q : Nat => s.heap.size ≤ q) b := Nat.not_le.mpr hbl
  obtain ⟨v1, e1⟩ : ∃ v : Int32, v = xs (x3 + 1).toNatClampNeg := ⟨_, rfl⟩
  refine lv_aload_n hx hb dL_law_1073 rfl (lv_at hl 1 rfl) ?_
  refine lv_aload_n hx hb dL_law_1074 rfl (lv_at hl 0 rfl) ?_
  refine lv_iload_n hx hb dL_law_1075 rfl (lv_at hl 3 rfl) ?_
  refine lv_iconst (v := 1) hx hb dL_law_1076 (by decide) ?_
  refine lv_iadd hx hb dL_law_1077 ?_
  refine va_sld hx hb hX hbl hbA hB.2.2.2 (hin 1 (by decide)) dL_law_1078 ?_
  refine W.eq (g2 := F0 m 1079 ls [.int v1, .ref (ad 0)]) (by rw [e1]) ?_
  obtain ⟨r0, γ1, μ1, hk1, hk2, hRl1⟩ := hS γ μ v1 hRl
  refine lx_call (rv := some (.int r0)) (av := [.int v1]) (rest := []) hx hb hml hown hts hl.1 hV hB (cc_X7_ear l D ad cy z n γ v1 hk1) (cwV 1 hts (gL_v wsC_in allC qLo_methodLink_128 qLp_im_X7_ear qLp_se_X7_ear qLx_ini7 qLp_co_X7_ear) rfl rfl rfl (by decide +kernel) ⟨Nat.le_of_ble_eq_true rfl, Nat.le_of_ble_eq_true rfl⟩) rfl rfl (lv_room (Nat.le_of_ble_eq_true rfl)) dL_law_1079 (by show 59 + 3 * j + 0 ≤ 600000; omega) (by show 2231 + 45 * j + 0 ≤ 7302249; omega) (fun H locs hB => ?_)
  refine W.eq (g2 := F0 m 1082 ls [.int r0]) rfl ?_
  refine lv_aload_n hx hb dL_law_1082 rfl (lv_at hl 2 rfl) ?_
  refine lv_aload_n hx hb dL_law_1083 rfl (lv_at hl 0 rfl) ?_
  refine lv_iload_n hx hb dL_law_1084 rfl (lv_at hl 3 rfl) ?_
  refine lv_iconst (v := 1) hx hb dL_law_1085 (by decide) ?_
  refine lv_iadd hx hb dL_law_1086 ?_
  refine va_sld hx hb hX hbl hbA hB.2.2.2 (hin 1 (by decide)) dL_law_1087 ?_
  refine W.eq (g2 := F0 m 1088 ls [.int v1, .ref (am 0), .int r0]) (by rw [e1]) ?_
  refine lm_calli (r0 := r0) (av := [.int v1]) (rest := [.int r0]) hx hb hml hown hts hl.1 hV hB (cm_ear l D am cy.1 n μ v1 hk2) (cwV 1 hts (gL_v wsM_in allM qLo_methodLink_131 qLp_im_X8_ear qLp_se_X8_ear qLx_ini8 qLp_co_X8_ear) rfl rfl rfl (by decide +kernel) ⟨Nat.le_of_ble_eq_true rfl, Nat.le_of_ble_eq_true rfl⟩) rfl rfl (lv_room (Nat.le_of_ble_eq_true rfl)) dL_law_1088 (by show 59 + 3 * j + 0 ≤ 600000; omega) (by show 2231 + 45 * j + 0 ≤ 7302249; omega) (fun H locs hB => ?_)
  refine lv_icmp_eq (tgt := 1332) hx hb dL_law_1091 (by decide) (fun _ => ?_) (fun c2 => absurd rfl c2)
  refine W.widen (k := 59 + 3 * (j + 1)) (n := 2231 + 45 * (j + 1)) (by omega) (by omega) ?_
  exact hN ad γ1 μ1 _ _ _ hRl1 hB hl
set_option maxRecDepth 100000 in
set_option maxHeartbeats 4000000 in
theorem lk_stagger {p : Program} {l : Launch} {e : Env} {s : State} {m : MethodId} {below : List Frame} {meth : Method} {c : Code} {b L : Nat} {xs : Nat → Int32} (C0 : lw_At p s m meth c b L xs) {D : va_G} {cy : CY} {z : CZ} (hV : lV D cy z (fun q => s.heap.size ≤ q) s) (n : Nat) {Rl : CS → MS → Prop} (hS : st_stagger n Rl) {ad am : Nat → Nat} {γ : CS} {μ : MS} (hRl : Rl γ μ) {j : Nat} (hj : j < 65) {x3 : Int32} (hin : ∀ k : Nat, k < 7 → vp_in (x3 + nI k) L) {H : Heap} {locs : List Loc} {ls : Array Slot} (hB : lB D ad am cy (fun q => s.heap.size ≤ q) s.heap γ μ H locs) (hl : lv_has ls 4 [(0, .ref b), (1, .ref (ad 0)), (2, .ref (am 0)), (3, .int x3)])
    (hN : ∀ (ad1 : Nat → Nat) (γ1 : CS) (μ1 : MS) (H1 : Heap) (locs1 : List Loc) (ls1 : Array Slot), Rl γ1 μ1 → lB D ad1 am cy (fun q => s.heap.size ≤ q) s.heap γ1 μ1 H1 locs1 → lv_has ls1 4 [(0, .ref b), (1, .ref (ad1 0)), (2, .ref (am 0)), (3, .int x3)] → W p l e room_1 s m #[Value.ref b] below meth c H1 locs1 (59 + 3 * (j + 1)) (2231 + 45 * (j + 1)) (lw_Z below #[Value.ref b] s) (F0 m 1332 ls1 [])) : W p l e room_1 s m #[Value.ref b] below meth c H locs (59 + 3 * j) (2231 + 45 * j) (lw_Z below #[Value.ref b] s) (F0 m 1096 ls []) := by
  obtain ⟨hx, hb, hr, hml, hown, hts, hX, hbl, hlocks, hgv⟩ := id C0
  have hbA : ¬ (fun q : Nat => s.heap.size ≤ q) b := Nat.not_le.mpr hbl
  obtain ⟨v1, e1⟩ : ∃ v : Int32, v = xs (x3 + 1).toNatClampNeg := ⟨_, rfl⟩
  refine lv_aload_n hx hb dL_law_1096 rfl (lv_at hl 1 rfl) ?_
  refine lv_aload_n hx hb dL_law_1097 rfl (lv_at hl 0 rfl) ?_
  refine lv_iload_n hx hb dL_law_1098 rfl (lv_at hl 3 rfl) ?_
  refine lv_iconst (v := 1) hx hb dL_law_1099 (by decide) ?_
  refine lv_iadd hx hb dL_law_1100 ?_
  refine va_sld hx hb hX hbl hbA hB.2.2.2 (hin 1 (by decide)) dL_law_1101 ?_
  refine W.eq (g2 := F0 m 1102 ls [.int v1, .ref (ad 0)]) (by rw [e1]) ?_
  obtain ⟨r0, γ1, μ1, hk1, hk2, hRl1⟩ := hS γ μ v1 hRl
  refine lx_call (rv := some (.int r0)) (av := [.int v1]) (rest := []) hx hb hml hown hts hl.1 hV hB (cc_X7_stagger l D ad cy z n γ v1 hk1) (cwV 1 hts (gL_v wsC_in allC qLo_methodLink_132 qLp_im_X7_stagger qLp_se_X7_stagger qLx_ini7 qLp_co_X7_stagger) rfl rfl rfl (by decide +kernel) ⟨Nat.le_of_ble_eq_true rfl, Nat.le_of_ble_eq_true rfl⟩) rfl rfl (lv_room (Nat.le_of_ble_eq_true rfl)) dL_law_1102 (by show 59 + 3 * j + 0 ≤ 600000; omega) (by show 2231 + 45 * j + 0 ≤ 7302249; omega) (fun H locs hB => ?_)
  refine W.eq (g2 := F0 m 1105 ls [.int r0]) rfl ?_
  refine lv_aload_n hx hb dL_law_1105 rfl (lv_at hl 2 rfl) ?_
  refine lv_aload_n hx hb dL_law_1106 rfl (lv_at hl 0 rfl) ?_
  refine lv_iload_n hx hb dL_law_1107 rfl (lv_at hl 3 rfl) ?_
  refine lv_iconst (v := 1) hx hb dL_law_1108 (by decide) ?_
  refine lv_iadd hx hb dL_law_1109 ?_
  refine va_sld hx hb hX hbl hbA hB.2.2.2 (hin 1 (by decide)) dL_law_1110 ?_
  refine W.eq (g2 := F0 m 1111 ls [.int v1, .ref (am 0), .int r0]) (by rw [e1]) ?_
  refine lm_calli (r0 := r0) (av := [.int v1]) (rest := [.int r0]) hx hb hml hown hts hl.1 hV hB (cm_stagger l D am cy.1 n μ v1 hk2) (cwV 1 hts (gL_v wsM_in allM qLo_methodLink_135 qLp_im_X8_stagger qLp_se_X8_stagger qLx_ini8 qLp_co_X8_stagger) rfl rfl rfl (by decide +kernel) ⟨Nat.le_of_ble_eq_true rfl, Nat.le_of_ble_eq_true rfl⟩) rfl rfl (lv_room (Nat.le_of_ble_eq_true rfl)) dL_law_1111 (by show 59 + 3 * j + 0 ≤ 600000; omega) (by show 2231 + 45 * j + 0 ≤ 7302249; omega) (fun H locs hB => ?_)
  refine lv_icmp_eq (tgt := 1332) hx hb dL_law_1114 (by decide) (fun _ => ?_) (fun c2 => absurd rfl c2)
  refine W.widen (k := 59 + 3 * (j + 1)) (n := 2231 + 45 * (j + 1)) (by omega) (by omega) ?_
  exact hN ad γ1 μ1 _ _ _ hRl1 hB hl
set_option maxRecDepth 100000 in
set_option maxHeartbeats 4000000 in
theorem lk_trust {p : Program} {l : Launch} {e : Env} {s : State} {m : MethodId} {below : List Frame} {meth : Method} {c : Code} {b L : Nat} {xs : Nat → Int32} (C0 : lw_At p s m meth c b L xs) {D : va_G} {cy : CY} {z : CZ} (hV : lV D cy z (fun q => s.heap.size ≤ q) s) (n : Nat) {Rl : CS → MS → Prop} (hS : st_trust n Rl) {ad am : Nat → Nat} {γ : CS} {μ : MS} (hRl : Rl γ μ) {j : Nat} (hj : j < 65) {x3 : Int32} (hin : ∀ k : Nat, k < 7 → vp_in (x3 + nI k) L) {H : Heap} {locs : List Loc} {ls : Array Slot} (hB : lB D ad am cy (fun q => s.heap.size ≤ q) s.heap γ μ H locs) (hl : lv_has ls 4 [(0, .ref b), (1, .ref (ad 0)), (2, .ref (am 0)), (3, .int x3)])
    (hN : ∀ (ad1 : Nat → Nat) (γ1 : CS) (μ1 : MS) (H1 : Heap) (locs1 : List Loc) (ls1 : Array Slot), Rl γ1 μ1 → lB D ad1 am cy (fun q => s.heap.size ≤ q) s.heap γ1 μ1 H1 locs1 → lv_has ls1 4 [(0, .ref b), (1, .ref (ad1 0)), (2, .ref (am 0)), (3, .int x3)] → W p l e room_1 s m #[Value.ref b] below meth c H1 locs1 (59 + 3 * (j + 1)) (2231 + 45 * (j + 1)) (lw_Z below #[Value.ref b] s) (F0 m 1332 ls1 [])) : W p l e room_1 s m #[Value.ref b] below meth c H locs (59 + 3 * j) (2231 + 45 * j) (lw_Z below #[Value.ref b] s) (F0 m 1119 ls []) := by
  obtain ⟨hx, hb, hr, hml, hown, hts, hX, hbl, hlocks, hgv⟩ := id C0
  have hbA : ¬ (fun q : Nat => s.heap.size ≤ q) b := Nat.not_le.mpr hbl
  obtain ⟨v1, e1⟩ : ∃ v : Int32, v = xs (x3 + 1).toNatClampNeg := ⟨_, rfl⟩
  refine lv_aload_n hx hb dL_law_1119 rfl (lv_at hl 1 rfl) ?_
  refine lv_aload_n hx hb dL_law_1120 rfl (lv_at hl 0 rfl) ?_
  refine lv_iload_n hx hb dL_law_1121 rfl (lv_at hl 3 rfl) ?_
  refine lv_iconst (v := 1) hx hb dL_law_1122 (by decide) ?_
  refine lv_iadd hx hb dL_law_1123 ?_
  refine va_sld hx hb hX hbl hbA hB.2.2.2 (hin 1 (by decide)) dL_law_1124 ?_
  refine W.eq (g2 := F0 m 1125 ls [.int v1, .ref (ad 0)]) (by rw [e1]) ?_
  obtain ⟨r0, γ1, μ1, hk1, hk2, hRl1⟩ := hS γ μ v1 hRl
  refine lx_call (rv := some (.int r0)) (av := [.int v1]) (rest := []) hx hb hml hown hts hl.1 hV hB (cc_X7_trust l D ad cy z n γ v1 hk1) (cwV 1 hts (gL_v wsC_in allC qLo_methodLink_136 qLp_im_X7_trust qLp_se_X7_trust qLx_ini7 qLp_co_X7_trust) rfl rfl rfl (by decide +kernel) ⟨Nat.le_of_ble_eq_true rfl, Nat.le_of_ble_eq_true rfl⟩) rfl rfl (lv_room (Nat.le_of_ble_eq_true rfl)) dL_law_1125 (by show 59 + 3 * j + 0 ≤ 600000; omega) (by show 2231 + 45 * j + 0 ≤ 7302249; omega) (fun H locs hB => ?_)
  refine W.eq (g2 := F0 m 1128 ls [.int r0]) rfl ?_
  refine lv_aload_n hx hb dL_law_1128 rfl (lv_at hl 2 rfl) ?_
  refine lv_aload_n hx hb dL_law_1129 rfl (lv_at hl 0 rfl) ?_
  refine lv_iload_n hx hb dL_law_1130 rfl (lv_at hl 3 rfl) ?_
  refine lv_iconst (v := 1) hx hb dL_law_1131 (by decide) ?_
  refine lv_iadd hx hb dL_law_1132 ?_
  refine va_sld hx hb hX hbl hbA hB.2.2.2 (hin 1 (by decide)) dL_law_1133 ?_
  refine W.eq (g2 := F0 m 1134 ls [.int v1, .ref (am 0), .int r0]) (by rw [e1]) ?_
  refine lm_calli (r0 := r0) (av := [.int v1]) (rest := [.int r0]) hx hb hml hown hts hl.1 hV hB (cm_trust l D am cy.1 n μ v1 hk2) (cwV 1 hts (gL_v wsM_in allM qLo_methodLink_139 qLp_im_X8_trust qLp_se_X8_trust qLx_ini8 qLp_co_X8_trust) rfl rfl rfl (by decide +kernel) ⟨Nat.le_of_ble_eq_true rfl, Nat.le_of_ble_eq_true rfl⟩) rfl rfl (lv_room (Nat.le_of_ble_eq_true rfl)) dL_law_1134 (by show 59 + 3 * j + 0 ≤ 600000; omega) (by show 2231 + 45 * j + 0 ≤ 7302249; omega) (fun H locs hB => ?_)
  refine lv_icmp_eq (tgt := 1332) hx hb dL_law_1137 (by decide) (fun _ => ?_) (fun c2 => absurd rfl c2)
  refine W.widen (k := 59 + 3 * (j + 1)) (n := 2231 + 45 * (j + 1)) (by omega) (by omega) ?_
  exact hN ad γ1 μ1 _ _ _ hRl1 hB hl
set_option maxRecDepth 100000 in
set_option maxHeartbeats 4000000 in
theorem lk_leg {p : Program} {l : Launch} {e : Env} {s : State} {m : MethodId} {below : List Frame} {meth : Method} {c : Code} {b L : Nat} {xs : Nat → Int32} (C0 : lw_At p s m meth c b L xs) {D : va_G} {cy : CY} {z : CZ} (hV : lV D cy z (fun q => s.heap.size ≤ q) s) (n : Nat) {Rl : CS → MS → Prop} (hS : st_leg n Rl) {ad am : Nat → Nat} {γ : CS} {μ : MS} (hRl : Rl γ μ) {j : Nat} (hj : j < 65) {x3 : Int32} (hin : ∀ k : Nat, k < 7 → vp_in (x3 + nI k) L) {H : Heap} {locs : List Loc} {ls : Array Slot} (hB : lB D ad am cy (fun q => s.heap.size ≤ q) s.heap γ μ H locs) (hl : lv_has ls 4 [(0, .ref b), (1, .ref (ad 0)), (2, .ref (am 0)), (3, .int x3)])
    (hN : ∀ (ad1 : Nat → Nat) (γ1 : CS) (μ1 : MS) (H1 : Heap) (locs1 : List Loc) (ls1 : Array Slot), Rl γ1 μ1 → lB D ad1 am cy (fun q => s.heap.size ≤ q) s.heap γ1 μ1 H1 locs1 → lv_has ls1 4 [(0, .ref b), (1, .ref (ad1 0)), (2, .ref (am 0)), (3, .int x3)] → W p l e room_1 s m #[Value.ref b] below meth c H1 locs1 (59 + 3 * (j + 1)) (2231 + 45 * (j + 1)) (lw_Z below #[Value.ref b] s) (F0 m 1332 ls1 [])) : W p l e room_1 s m #[Value.ref b] below meth c H locs (59 + 3 * j) (2231 + 45 * j) (lw_Z below #[Value.ref b] s) (F0 m 1142 ls []) := by
  obtain ⟨hx, hb, hr, hml, hown, hts, hX, hbl, hlocks, hgv⟩ := id C0
  have hbA : ¬ (fun q : Nat => s.heap.size ≤ q) b := Nat.not_le.mpr hbl
  obtain ⟨v1, e1⟩ : ∃ v : Int32, v = xs (x3 + 1).toNatClampNeg := ⟨_, rfl⟩
  obtain ⟨v2, e2⟩ : ∃ v : Int32, v = xs (x3 + 2).toNatClampNeg := ⟨_, rfl⟩
  refine lv_aload_n hx hb dL_law_1142 rfl (lv_at hl 1 rfl) ?_
  refine lv_aload_n hx hb dL_law_1143 rfl (lv_at hl 0 rfl) ?_
  refine lv_iload_n hx hb dL_law_1144 rfl (lv_at hl 3 rfl) ?_
  refine lv_iconst (v := 1) hx hb dL_law_1145 (by decide) ?_
  refine lv_iadd hx hb dL_law_1146 ?_
  refine va_sld hx hb hX hbl hbA hB.2.2.2 (hin 1 (by decide)) dL_law_1147 ?_
  refine W.eq (g2 := F0 m 1148 ls [.int v1, .ref (ad 0)]) (by rw [e1]) ?_
  refine lv_aload_n hx hb dL_law_1148 rfl (lv_at hl 0 rfl) ?_
  refine lv_iload_n hx hb dL_law_1149 rfl (lv_at hl 3 rfl) ?_
  refine lv_iconst (v := 2) hx hb dL_law_1150 (by decide) ?_
  refine lv_iadd hx hb dL_law_1151 ?_
  refine va_sld hx hb hX hbl hbA hB.2.2.2 (hin 2 (by decide)) dL_law_1152 ?_
  refine W.eq (g2 := F0 m 1153 ls [.int v2, .int v1, .ref (ad 0)]) (by rw [e2]) ?_
  obtain ⟨r0, γ1, μ1, hk1, hk2, hRl1⟩ := hS γ μ v1 v2 hRl
  refine lx_call (rv := some (.int r0)) (av := [.int v1, .int v2]) (rest := []) hx hb hml hown hts hl.1 hV hB (cc_X7_leg l D ad cy z n γ v1 v2 hk1) (cwV 2 hts (gL_v wsC_in allC qLo_methodLink_140 qLp_im_X7_leg qLp_se_X7_leg qLx_ini7 qLp_co_X7_leg) rfl rfl rfl (by decide +kernel) ⟨Nat.le_of_ble_eq_true rfl, Nat.le_of_ble_eq_true rfl⟩) rfl rfl (lv_room (Nat.le_of_ble_eq_true rfl)) dL_law_1153 (by show 59 + 3 * j + 0 ≤ 600000; omega) (by show 2231 + 45 * j + 0 ≤ 7302249; omega) (fun H locs hB => ?_)
  refine W.eq (g2 := F0 m 1156 ls [.int r0]) rfl ?_
  refine lv_aload_n hx hb dL_law_1156 rfl (lv_at hl 2 rfl) ?_
  refine lv_aload_n hx hb dL_law_1157 rfl (lv_at hl 0 rfl) ?_
  refine lv_iload_n hx hb dL_law_1158 rfl (lv_at hl 3 rfl) ?_
  refine lv_iconst (v := 1) hx hb dL_law_1159 (by decide) ?_
  refine lv_iadd hx hb dL_law_1160 ?_
  refine va_sld hx hb hX hbl hbA hB.2.2.2 (hin 1 (by decide)) dL_law_1161 ?_
  refine W.eq (g2 := F0 m 1162 ls [.int v1, .ref (am 0), .int r0]) (by rw [e1]) ?_
  refine lv_aload_n hx hb dL_law_1162 rfl (lv_at hl 0 rfl) ?_
  refine lv_iload_n hx hb dL_law_1163 rfl (lv_at hl 3 rfl) ?_
  refine lv_iconst (v := 2) hx hb dL_law_1164 (by decide) ?_
  refine lv_iadd hx hb dL_law_1165 ?_
  refine va_sld hx hb hX hbl hbA hB.2.2.2 (hin 2 (by decide)) dL_law_1166 ?_
  refine W.eq (g2 := F0 m 1167 ls [.int v2, .int v1, .ref (am 0), .int r0]) (by rw [e2]) ?_
  refine lm_calli (r0 := r0) (av := [.int v1, .int v2]) (rest := [.int r0]) hx hb hml hown hts hl.1 hV hB (cm_leg l D am cy.1 n μ v1 v2 hk2) (cwV 2 hts (gL_v wsM_in allM qLo_methodLink_143 qLp_im_X8_leg qLp_se_X8_leg qLx_ini8 qLp_co_X8_leg) rfl rfl rfl (by decide +kernel) ⟨Nat.le_of_ble_eq_true rfl, Nat.le_of_ble_eq_true rfl⟩) rfl rfl (lv_room (Nat.le_of_ble_eq_true rfl)) dL_law_1167 (by show 59 + 3 * j + 0 ≤ 600000; omega) (by show 2231 + 45 * j + 0 ≤ 7302249; omega) (fun H locs hB => ?_)
  refine lv_icmp_eq (tgt := 1332) hx hb dL_law_1170 (by decide) (fun _ => ?_) (fun c2 => absurd rfl c2)
  refine W.widen (k := 59 + 3 * (j + 1)) (n := 2231 + 45 * (j + 1)) (by omega) (by omega) ?_
  exact hN ad γ1 μ1 _ _ _ hRl1 hB hl
set_option maxRecDepth 100000 in
set_option maxHeartbeats 4000000 in
theorem lk_legs {p : Program} {l : Launch} {e : Env} {s : State} {m : MethodId} {below : List Frame} {meth : Method} {c : Code} {b L : Nat} {xs : Nat → Int32} (C0 : lw_At p s m meth c b L xs) {D : va_G} {cy : CY} {z : CZ} (hV : lV D cy z (fun q => s.heap.size ≤ q) s) (n : Nat) {Rl : CS → MS → Prop} (hS : st_legs n Rl) {ad am : Nat → Nat} {γ : CS} {μ : MS} (hRl : Rl γ μ) {j : Nat} (hj : j < 65) {x3 : Int32} (hin : ∀ k : Nat, k < 7 → vp_in (x3 + nI k) L) {H : Heap} {locs : List Loc} {ls : Array Slot} (hB : lB D ad am cy (fun q => s.heap.size ≤ q) s.heap γ μ H locs) (hl : lv_has ls 4 [(0, .ref b), (1, .ref (ad 0)), (2, .ref (am 0)), (3, .int x3)])
    (hN : ∀ (ad1 : Nat → Nat) (γ1 : CS) (μ1 : MS) (H1 : Heap) (locs1 : List Loc) (ls1 : Array Slot), Rl γ1 μ1 → lB D ad1 am cy (fun q => s.heap.size ≤ q) s.heap γ1 μ1 H1 locs1 → lv_has ls1 4 [(0, .ref b), (1, .ref (ad1 0)), (2, .ref (am 0)), (3, .int x3)] → W p l e room_1 s m #[Value.ref b] below meth c H1 locs1 (59 + 3 * (j + 1)) (2231 + 45 * (j + 1)) (lw_Z below #[Value.ref b] s) (F0 m 1332 ls1 [])) : W p l e room_1 s m #[Value.ref b] below meth c H locs (59 + 3 * j) (2231 + 45 * j) (lw_Z below #[Value.ref b] s) (F0 m 1175 ls []) := by
  obtain ⟨hx, hb, hr, hml, hown, hts, hX, hbl, hlocks, hgv⟩ := id C0
  have hbA : ¬ (fun q : Nat => s.heap.size ≤ q) b := Nat.not_le.mpr hbl
  obtain ⟨v1, e1⟩ : ∃ v : Int32, v = xs (x3 + 1).toNatClampNeg := ⟨_, rfl⟩
  obtain ⟨v2, e2⟩ : ∃ v : Int32, v = xs (x3 + 2).toNatClampNeg := ⟨_, rfl⟩
  refine lv_aload_n hx hb dL_law_1175 rfl (lv_at hl 1 rfl) ?_
  refine lv_aload_n hx hb dL_law_1176 rfl (lv_at hl 0 rfl) ?_
  refine lv_iload_n hx hb dL_law_1177 rfl (lv_at hl 3 rfl) ?_
  refine lv_iconst (v := 1) hx hb dL_law_1178 (by decide) ?_
  refine lv_iadd hx hb dL_law_1179 ?_
  refine va_sld hx hb hX hbl hbA hB.2.2.2 (hin 1 (by decide)) dL_law_1180 ?_
  refine W.eq (g2 := F0 m 1181 ls [.int v1, .ref (ad 0)]) (by rw [e1]) ?_
  refine lv_aload_n hx hb dL_law_1181 rfl (lv_at hl 0 rfl) ?_
  refine lv_iload_n hx hb dL_law_1182 rfl (lv_at hl 3 rfl) ?_
  refine lv_iconst (v := 2) hx hb dL_law_1183 (by decide) ?_
  refine lv_iadd hx hb dL_law_1184 ?_
  refine va_sld hx hb hX hbl hbA hB.2.2.2 (hin 2 (by decide)) dL_law_1185 ?_
  refine W.eq (g2 := F0 m 1186 ls [.int v2, .int v1, .ref (ad 0)]) (by rw [e2]) ?_
  obtain ⟨r0, γ1, μ1, hk1, hk2, hRl1⟩ := hS γ μ v1 v2 hRl
  refine lx_call (rv := some (.int r0)) (av := [.int v1, .int v2]) (rest := []) hx hb hml hown hts hl.1 hV hB (cc_X7_legs l D ad cy z n γ v1 v2 hk1) (cwV 2 hts (gL_v wsC_in allC qLo_methodLink_144 qLp_im_X7_legs qLp_se_X7_legs qLx_ini7 qLp_co_X7_legs) rfl rfl rfl (by decide +kernel) ⟨Nat.le_of_ble_eq_true rfl, Nat.le_of_ble_eq_true rfl⟩) rfl rfl (lv_room (Nat.le_of_ble_eq_true rfl)) dL_law_1186 (by show 59 + 3 * j + 0 ≤ 600000; omega) (by show 2231 + 45 * j + 0 ≤ 7302249; omega) (fun H locs hB => ?_)
  refine W.eq (g2 := F0 m 1189 ls [.int r0]) rfl ?_
  refine lv_aload_n hx hb dL_law_1189 rfl (lv_at hl 2 rfl) ?_
  refine lv_aload_n hx hb dL_law_1190 rfl (lv_at hl 0 rfl) ?_
  refine lv_iload_n hx hb dL_law_1191 rfl (lv_at hl 3 rfl) ?_
  refine lv_iconst (v := 1) hx hb dL_law_1192 (by decide) ?_
  refine lv_iadd hx hb dL_law_1193 ?_
  refine va_sld hx hb hX hbl hbA hB.2.2.2 (hin 1 (by decide)) dL_law_1194 ?_
  refine W.eq (g2 := F0 m 1195 ls [.int v1, .ref (am 0), .int r0]) (by rw [e1]) ?_
  refine lv_aload_n hx hb dL_law_1195 rfl (lv_at hl 0 rfl) ?_
  refine lv_iload_n hx hb dL_law_1196 rfl (lv_at hl 3 rfl) ?_
  refine lv_iconst (v := 2) hx hb dL_law_1197 (by decide) ?_
  refine lv_iadd hx hb dL_law_1198 ?_
  refine va_sld hx hb hX hbl hbA hB.2.2.2 (hin 2 (by decide)) dL_law_1199 ?_
  refine W.eq (g2 := F0 m 1200 ls [.int v2, .int v1, .ref (am 0), .int r0]) (by rw [e2]) ?_
  refine lm_calli (r0 := r0) (av := [.int v1, .int v2]) (rest := [.int r0]) hx hb hml hown hts hl.1 hV hB (cm_legs l D am cy.1 n μ v1 v2 hk2) (cwV 2 hts (gL_v wsM_in allM qLo_methodLink_147 qLp_im_X8_legs qLp_se_X8_legs qLx_ini8 qLp_co_X8_legs) rfl rfl rfl (by decide +kernel) ⟨Nat.le_of_ble_eq_true rfl, Nat.le_of_ble_eq_true rfl⟩) rfl rfl (lv_room (Nat.le_of_ble_eq_true rfl)) dL_law_1200 (by show 59 + 3 * j + 0 ≤ 600000; omega) (by show 2231 + 45 * j + 0 ≤ 7302249; omega) (fun H locs hB => ?_)
  refine lv_icmp_eq (tgt := 1332) hx hb dL_law_1203 (by decide) (fun _ => ?_) (fun c2 => absurd rfl c2)
  refine W.widen (k := 59 + 3 * (j + 1)) (n := 2231 + 45 * (j + 1)) (by omega) (by omega) ?_
  exact hN ad γ1 μ1 _ _ _ hRl1 hB hl
set_option maxRecDepth 100000 in
set_option maxHeartbeats 4000000 in
theorem lk_draws {p : Program} {l : Launch} {e : Env} {s : State} {m : MethodId} {below : List Frame} {meth : Method} {c : Code} {b L : Nat} {xs : Nat → Int32} (C0 : lw_At p s m meth c b L xs) {D : va_G} {cy : CY} {z : CZ} (hV : lV D cy z (fun q => s.heap.size ≤ q) s) (n : Nat) {Rl : CS → MS → Prop} (hS : st_draws n Rl) {ad am : Nat → Nat} {γ : CS} {μ : MS} (hRl : Rl γ μ) {j : Nat} (hj : j < 65) {x3 : Int32} (hin : ∀ k : Nat, k < 7 → vp_in (x3 + nI k) L) {H : Heap} {locs : List Loc} {ls : Array Slot} (hB : lB D ad am cy (fun q => s.heap.size ≤ q) s.heap γ μ H locs) (hl : lv_has ls 4 [(0, .ref b), (1, .ref (ad 0)), (2, .ref (am 0)), (3, .int x3)])
    (hN : ∀ (ad1 : Nat → Nat) (γ1 : CS) (μ1 : MS) (H1 : Heap) (locs1 : List Loc) (ls1 : Array Slot), Rl γ1 μ1 → lB D ad1 am cy (fun q => s.heap.size ≤ q) s.heap γ1 μ1 H1 locs1 → lv_has ls1 4 [(0, .ref b), (1, .ref (ad1 0)), (2, .ref (am 0)), (3, .int x3)] → W p l e room_1 s m #[Value.ref b] below meth c H1 locs1 (59 + 3 * (j + 1)) (2231 + 45 * (j + 1)) (lw_Z below #[Value.ref b] s) (F0 m 1332 ls1 [])) : W p l e room_1 s m #[Value.ref b] below meth c H locs (59 + 3 * j) (2231 + 45 * j) (lw_Z below #[Value.ref b] s) (F0 m 1208 ls []) := by
  obtain ⟨hx, hb, hr, hml, hown, hts, hX, hbl, hlocks, hgv⟩ := id C0
  have hbA : ¬ (fun q : Nat => s.heap.size ≤ q) b := Nat.not_le.mpr hbl
  obtain ⟨v1, e1⟩ : ∃ v : Int32, v = xs (x3 + 1).toNatClampNeg := ⟨_, rfl⟩
  obtain ⟨v2, e2⟩ : ∃ v : Int32, v = xs (x3 + 2).toNatClampNeg := ⟨_, rfl⟩
  obtain ⟨v3, e3⟩ : ∃ v : Int32, v = xs (x3 + 3).toNatClampNeg := ⟨_, rfl⟩
  obtain ⟨v4, e4⟩ : ∃ v : Int32, v = xs (x3 + 4).toNatClampNeg := ⟨_, rfl⟩
  obtain ⟨v5, e5⟩ : ∃ v : Int32, v = xs (x3 + 5).toNatClampNeg := ⟨_, rfl⟩
  obtain ⟨v6, e6⟩ : ∃ v : Int32, v = xs (x3 + 6).toNatClampNeg := ⟨_, rfl⟩
  refine lv_aload_n hx hb dL_law_1208 rfl (lv_at hl 1 rfl) ?_
  refine lv_aload_n hx hb dL_law_1209 rfl (lv_at hl 0 rfl) ?_
  refine lv_iload_n hx hb dL_law_1210 rfl (lv_at hl 3 rfl) ?_
  refine lv_iconst (v := 1) hx hb dL_law_1211 (by decide) ?_
  refine lv_iadd hx hb dL_law_1212 ?_
  refine va_sld hx hb hX hbl hbA hB.2.2.2 (hin 1 (by decide)) dL_law_1213 ?_
  refine W.eq (g2 := F0 m 1214 ls [.int v1, .ref (ad 0)]) (by rw [e1]) ?_
  refine lv_aload_n hx hb dL_law_1214 rfl (lv_at hl 0 rfl) ?_
  refine lv_iload_n hx hb dL_law_1215 rfl (lv_at hl 3 rfl) ?_
  refine lv_iconst (v := 2) hx hb dL_law_1216 (by decide) ?_
  refine lv_iadd hx hb dL_law_1217 ?_
  refine va_sld hx hb hX hbl hbA hB.2.2.2 (hin 2 (by decide)) dL_law_1218 ?_
  refine W.eq (g2 := F0 m 1219 ls [.int v2, .int v1, .ref (ad 0)]) (by rw [e2]) ?_
  refine lv_aload_n hx hb dL_law_1219 rfl (lv_at hl 0 rfl) ?_
  refine lv_iload_n hx hb dL_law_1220 rfl (lv_at hl 3 rfl) ?_
  refine lv_iconst (v := 3) hx hb dL_law_1221 (by decide) ?_
  refine lv_iadd hx hb dL_law_1222 ?_
  refine va_sld hx hb hX hbl hbA hB.2.2.2 (hin 3 (by decide)) dL_law_1223 ?_
  refine W.eq (g2 := F0 m 1224 ls [.int v3, .int v2, .int v1, .ref (ad 0)]) (by rw [e3]) ?_
  refine lv_aload_n hx hb dL_law_1224 rfl (lv_at hl 0 rfl) ?_
  refine lv_iload_n hx hb dL_law_1225 rfl (lv_at hl 3 rfl) ?_
  refine lv_iconst (v := 4) hx hb dL_law_1226 (by decide) ?_
  refine lv_iadd hx hb dL_law_1227 ?_
  refine va_sld hx hb hX hbl hbA hB.2.2.2 (hin 4 (by decide)) dL_law_1228 ?_
  refine W.eq (g2 := F0 m 1229 ls [.int v4, .int v3, .int v2, .int v1, .ref (ad 0)]) (by rw [e4]) ?_
  refine lv_aload_n hx hb dL_law_1229 rfl (lv_at hl 0 rfl) ?_
  refine lv_iload_n hx hb dL_law_1230 rfl (lv_at hl 3 rfl) ?_
  refine lv_iconst (v := 5) hx hb dL_law_1231 (by decide) ?_
  refine lv_iadd hx hb dL_law_1232 ?_
  refine va_sld hx hb hX hbl hbA hB.2.2.2 (hin 5 (by decide)) dL_law_1233 ?_
  refine W.eq (g2 := F0 m 1234 ls [.int v5, .int v4, .int v3, .int v2, .int v1, .ref (ad 0)]) (by rw [e5]) ?_
  refine lv_aload_n hx hb dL_law_1234 rfl (lv_at hl 0 rfl) ?_
  refine lv_iload_n hx hb dL_law_1235 rfl (lv_at hl 3 rfl) ?_
  refine lv_bipush (v := 6) hx hb dL_law_1236 (by decide) ?_
  refine lv_iadd hx hb dL_law_1238 ?_
  refine va_sld hx hb hX hbl hbA hB.2.2.2 (hin 6 (by decide)) dL_law_1239 ?_
  refine W.eq (g2 := F0 m 1240 ls [.int v6, .int v5, .int v4, .int v3, .int v2, .int v1, .ref (ad 0)]) (by rw [e6]) ?_
  obtain ⟨r0, γ1, μ1, hk1, hk2, hRl1⟩ := hS γ μ v1 v2 v3 v4 v5 v6 hRl
  refine lx_call (rv := some (.int r0)) (av := [.int v1, .int v2, .int v3, .int v4, .int v5, .int v6]) (rest := []) hx hb hml hown hts hl.1 hV hB (cc_X7_draws l D ad cy z n γ v1 v2 v3 v4 v5 v6 hk1) (cwV 6 hts (gL_v wsC_in allC qLo_methodLink_148 qLp_im_X7_draws qLp_se_X7_draws qLx_ini7 qLp_co_X7_draws) rfl rfl rfl (by decide +kernel) ⟨Nat.le_of_ble_eq_true rfl, Nat.le_of_ble_eq_true rfl⟩) rfl rfl (lv_room (Nat.le_of_ble_eq_true rfl)) dL_law_1240 (by show 59 + 3 * j + 0 ≤ 600000; omega) (by show 2231 + 45 * j + 0 ≤ 7302249; omega) (fun H locs hB => ?_)
  refine W.eq (g2 := F0 m 1243 ls [.int r0]) rfl ?_
  refine lv_aload_n hx hb dL_law_1243 rfl (lv_at hl 2 rfl) ?_
  refine lv_aload_n hx hb dL_law_1244 rfl (lv_at hl 0 rfl) ?_
  refine lv_iload_n hx hb dL_law_1245 rfl (lv_at hl 3 rfl) ?_
  refine lv_iconst (v := 1) hx hb dL_law_1246 (by decide) ?_
  refine lv_iadd hx hb dL_law_1247 ?_
  refine va_sld hx hb hX hbl hbA hB.2.2.2 (hin 1 (by decide)) dL_law_1248 ?_
  refine W.eq (g2 := F0 m 1249 ls [.int v1, .ref (am 0), .int r0]) (by rw [e1]) ?_
  refine lv_aload_n hx hb dL_law_1249 rfl (lv_at hl 0 rfl) ?_
  refine lv_iload_n hx hb dL_law_1250 rfl (lv_at hl 3 rfl) ?_
  refine lv_iconst (v := 2) hx hb dL_law_1251 (by decide) ?_
  refine lv_iadd hx hb dL_law_1252 ?_
  refine va_sld hx hb hX hbl hbA hB.2.2.2 (hin 2 (by decide)) dL_law_1253 ?_
  refine W.eq (g2 := F0 m 1254 ls [.int v2, .int v1, .ref (am 0), .int r0]) (by rw [e2]) ?_
  refine lv_aload_n hx hb dL_law_1254 rfl (lv_at hl 0 rfl) ?_
  refine lv_iload_n hx hb dL_law_1255 rfl (lv_at hl 3 rfl) ?_
  refine lv_iconst (v := 3) hx hb dL_law_1256 (by decide) ?_
  refine lv_iadd hx hb dL_law_1257 ?_
  refine va_sld hx hb hX hbl hbA hB.2.2.2 (hin 3 (by decide)) dL_law_1258 ?_
  refine W.eq (g2 := F0 m 1259 ls [.int v3, .int v2, .int v1, .ref (am 0), .int r0]) (by rw [e3]) ?_
  refine lv_aload_n hx hb dL_law_1259 rfl (lv_at hl 0 rfl) ?_
  refine lv_iload_n hx hb dL_law_1260 rfl (lv_at hl 3 rfl) ?_
  refine lv_iconst (v := 4) hx hb dL_law_1261 (by decide) ?_
  refine lv_iadd hx hb dL_law_1262 ?_
  refine va_sld hx hb hX hbl hbA hB.2.2.2 (hin 4 (by decide)) dL_law_1263 ?_
  refine W.eq (g2 := F0 m 1264 ls [.int v4, .int v3, .int v2, .int v1, .ref (am 0), .int r0]) (by rw [e4]) ?_
  refine lv_aload_n hx hb dL_law_1264 rfl (lv_at hl 0 rfl) ?_
  refine lv_iload_n hx hb dL_law_1265 rfl (lv_at hl 3 rfl) ?_
  refine lv_iconst (v := 5) hx hb dL_law_1266 (by decide) ?_
  refine lv_iadd hx hb dL_law_1267 ?_
  refine va_sld hx hb hX hbl hbA hB.2.2.2 (hin 5 (by decide)) dL_law_1268 ?_
  refine W.eq (g2 := F0 m 1269 ls [.int v5, .int v4, .int v3, .int v2, .int v1, .ref (am 0), .int r0]) (by rw [e5]) ?_
  refine lv_aload_n hx hb dL_law_1269 rfl (lv_at hl 0 rfl) ?_
  refine lv_iload_n hx hb dL_law_1270 rfl (lv_at hl 3 rfl) ?_
  refine lv_bipush (v := 6) hx hb dL_law_1271 (by decide) ?_
  refine lv_iadd hx hb dL_law_1273 ?_
  refine va_sld hx hb hX hbl hbA hB.2.2.2 (hin 6 (by decide)) dL_law_1274 ?_
  refine W.eq (g2 := F0 m 1275 ls [.int v6, .int v5, .int v4, .int v3, .int v2, .int v1, .ref (am 0), .int r0]) (by rw [e6]) ?_
  refine lm_calli (r0 := r0) (av := [.int v1, .int v2, .int v3, .int v4, .int v5, .int v6]) (rest := [.int r0]) hx hb hml hown hts hl.1 hV hB (cm_draws l D am cy.1 n μ v1 v2 v3 v4 v5 v6 hk2) (cwV 6 hts (gL_v wsM_in allM qLo_methodLink_152 qLp_im_X8_draws qLp_se_X8_draws qLx_ini8 qLp_co_X8_draws) rfl rfl rfl (by decide +kernel) ⟨Nat.le_of_ble_eq_true rfl, Nat.le_of_ble_eq_true rfl⟩) rfl rfl (lv_room (Nat.le_of_ble_eq_true rfl)) dL_law_1275 (by show 59 + 3 * j + 0 ≤ 600000; omega) (by show 2231 + 45 * j + 0 ≤ 7302249; omega) (fun H locs hB => ?_)
  refine lv_icmp_eq (tgt := 1332) hx hb dL_law_1278 (by decide) (fun _ => ?_) (fun c2 => absurd rfl c2)
  refine W.widen (k := 59 + 3 * (j + 1)) (n := 2231 + 45 * (j + 1)) (by omega) (by omega) ?_
  exact hN ad γ1 μ1 _ _ _ hRl1 hB hl
set_option maxRecDepth 100000 in
set_option maxHeartbeats 4000000 in
theorem lk_image {p : Program} {l : Launch} {e : Env} {s : State} {m : MethodId} {below : List Frame} {meth : Method} {c : Code} {b L : Nat} {xs : Nat → Int32} (C0 : lw_At p s m meth c b L xs) {D : va_G} {cy : CY} {z : CZ} (hV : lV D cy z (fun q => s.heap.size ≤ q) s) (n : Nat) {Rl : CS → MS → Prop} (hS : st_image n Rl) {ad am : Nat → Nat} {γ : CS} {μ : MS} (hRl : Rl γ μ) {j : Nat} (hj : j < 65) {x3 : Int32} (hin : ∀ k : Nat, k < 7 → vp_in (x3 + nI k) L) {H : Heap} {locs : List Loc} {ls : Array Slot} (hB : lB D ad am cy (fun q => s.heap.size ≤ q) s.heap γ μ H locs) (hl : lv_has ls 4 [(0, .ref b), (1, .ref (ad 0)), (2, .ref (am 0)), (3, .int x3)])
    (hN : ∀ (ad1 : Nat → Nat) (γ1 : CS) (μ1 : MS) (H1 : Heap) (locs1 : List Loc) (ls1 : Array Slot), Rl γ1 μ1 → lB D ad1 am cy (fun q => s.heap.size ≤ q) s.heap γ1 μ1 H1 locs1 → lv_has ls1 4 [(0, .ref b), (1, .ref (ad1 0)), (2, .ref (am 0)), (3, .int x3)] → W p l e room_1 s m #[Value.ref b] below meth c H1 locs1 (59 + 3 * (j + 1)) (2231 + 45 * (j + 1)) (lw_Z below #[Value.ref b] s) (F0 m 1332 ls1 [])) : W p l e room_1 s m #[Value.ref b] below meth c H locs (59 + 3 * j) (2231 + 45 * j) (lw_Z below #[Value.ref b] s) (F0 m 1283 ls []) := by
  obtain ⟨hx, hb, hr, hml, hown, hts, hX, hbl, hlocks, hgv⟩ := id C0
  have hbA : ¬ (fun q : Nat => s.heap.size ≤ q) b := Nat.not_le.mpr hbl
  refine lv_aload_n hx hb dL_law_1283 rfl (lv_at hl 1 rfl) ?_
  obtain ⟨r0, γ1, μ1, hk1, hk2, hRl1⟩ := hS γ μ hRl
  refine lx_call (rv := some (.int r0)) (av := []) (rest := []) hx hb hml hown hts hl.1 hV hB (cc_X7_image l D ad cy z n γ hk1) (cwV 0 hts (gL_v wsC_in allC qLo_methodLink_153 qLp_im_X7_image qLp_se_X7_image qLx_ini7 qLp_co_X7_image) rfl rfl rfl (by decide +kernel) ⟨Nat.le_of_ble_eq_true rfl, Nat.le_of_ble_eq_true rfl⟩) rfl rfl (lv_room (Nat.le_of_ble_eq_true rfl)) dL_law_1284 (by show 59 + 3 * j + 0 ≤ 600000; omega) (by show 2231 + 45 * j + 0 ≤ 7302249; omega) (fun H locs hB => ?_)
  refine W.eq (g2 := F0 m 1287 ls [.int r0]) rfl ?_
  refine lv_aload_n hx hb dL_law_1287 rfl (lv_at hl 2 rfl) ?_
  refine lm_calli (r0 := r0) (av := []) (rest := [.int r0]) hx hb hml hown hts hl.1 hV hB (cm_image l D am cy.1 n μ hk2) (cwV 0 hts (gL_v wsM_in allM qLo_methodLink_156 qLp_im_X8_image qLp_se_X8_image qLx_ini8 qLp_co_X8_image) rfl rfl rfl (by decide +kernel) ⟨Nat.le_of_ble_eq_true rfl, Nat.le_of_ble_eq_true rfl⟩) rfl rfl (lv_room (Nat.le_of_ble_eq_true rfl)) dL_law_1288 (by show 59 + 3 * j + 0 ≤ 600000; omega) (by show 2231 + 45 * j + 0 ≤ 7302249; omega) (fun H locs hB => ?_)
  refine lv_icmp_eq (tgt := 1332) hx hb dL_law_1291 (by decide) (fun _ => ?_) (fun c2 => absurd rfl c2)
  refine W.widen (k := 59 + 3 * (j + 1)) (n := 2231 + 45 * (j + 1)) (by omega) (by omega) ?_
  exact hN ad γ1 μ1 _ _ _ hRl1 hB hl
set_option maxRecDepth 100000 in
set_option maxHeartbeats 4000000 in
theorem lk_restore {p : Program} {l : Launch} {e : Env} {s : State} {m : MethodId} {below : List Frame} {meth : Method} {c : Code} {b L : Nat} {xs : Nat → Int32} (C0 : lw_At p s m meth c b L xs) {D : va_G} {cy : CY} {z : CZ} (hV : lV D cy z (fun q => s.heap.size ≤ q) s) (n : Nat) {Rl : CS → MS → Prop} (hS : st_restore n Rl) {ad am : Nat → Nat} {γ : CS} {μ : MS} (hRl : Rl γ μ) {j : Nat} (hj : j < 65) {x3 : Int32} (hin : ∀ k : Nat, k < 7 → vp_in (x3 + nI k) L) {H : Heap} {locs : List Loc} {ls : Array Slot} (hB : lB D ad am cy (fun q => s.heap.size ≤ q) s.heap γ μ H locs) (hl : lv_has ls 4 [(0, .ref b), (1, .ref (ad 0)), (2, .ref (am 0)), (3, .int x3)])
    (hN : ∀ (ad1 : Nat → Nat) (γ1 : CS) (μ1 : MS) (H1 : Heap) (locs1 : List Loc) (ls1 : Array Slot), Rl γ1 μ1 → lB D ad1 am cy (fun q => s.heap.size ≤ q) s.heap γ1 μ1 H1 locs1 → lv_has ls1 4 [(0, .ref b), (1, .ref (ad1 0)), (2, .ref (am 0)), (3, .int x3)] → W p l e room_1 s m #[Value.ref b] below meth c H1 locs1 (59 + 3 * (j + 1)) (2231 + 45 * (j + 1)) (lw_Z below #[Value.ref b] s) (F0 m 1332 ls1 [])) : W p l e room_1 s m #[Value.ref b] below meth c H locs (59 + 3 * j) (2231 + 45 * j) (lw_Z below #[Value.ref b] s) (F0 m 1296 ls []) := by
  obtain ⟨hx, hb, hr, hml, hown, hts, hX, hbl, hlocks, hgv⟩ := id C0
  have hbA : ¬ (fun q : Nat => s.heap.size ≤ q) b := Nat.not_le.mpr hbl
  refine lv_aload_n hx hb dL_law_1296 rfl (lv_at hl 1 rfl) ?_
  obtain ⟨r0, γ1, μ1, hk1, hk2, hRl1⟩ := hS γ μ hRl
  refine lx_call (rv := some (.int r0)) (av := []) (rest := []) hx hb hml hown hts hl.1 hV hB (cc_X7_restore l D ad cy z n γ hk1) (cwV 0 hts (gL_v wsC_in allC qLo_methodLink_157 qLp_im_X7_restore qLp_se_X7_restore qLx_ini7 qLp_co_X7_restore) rfl rfl rfl (by decide +kernel) ⟨Nat.le_of_ble_eq_true rfl, Nat.le_of_ble_eq_true rfl⟩) rfl rfl (lv_room (Nat.le_of_ble_eq_true rfl)) dL_law_1297 (by show 59 + 3 * j + 0 ≤ 600000; omega) (by show 2231 + 45 * j + 0 ≤ 7302249; omega) (fun H locs hB => ?_)
  refine W.eq (g2 := F0 m 1300 ls [.int r0]) rfl ?_
  refine lv_aload_n hx hb dL_law_1300 rfl (lv_at hl 2 rfl) ?_
  refine lm_calli (r0 := r0) (av := []) (rest := [.int r0]) hx hb hml hown hts hl.1 hV hB (cm_restore l D am cy.1 n μ hk2) (cwV 0 hts (gL_v wsM_in allM qLo_methodLink_160 qLp_im_X8_restore qLp_se_X8_restore qLx_ini8 qLp_co_X8_restore) rfl rfl rfl (by decide +kernel) ⟨Nat.le_of_ble_eq_true rfl, Nat.le_of_ble_eq_true rfl⟩) rfl rfl (lv_room (Nat.le_of_ble_eq_true rfl)) dL_law_1301 (by show 59 + 3 * j + 0 ≤ 600000; omega) (by show 2231 + 45 * j + 0 ≤ 7302249; omega) (fun H locs hB => ?_)
  refine lv_icmp_eq (tgt := 1332) hx hb dL_law_1304 (by decide) (fun _ => ?_) (fun c2 => absurd rfl c2)
  refine W.widen (k := 59 + 3 * (j + 1)) (n := 2231 + 45 * (j + 1)) (by omega) (by omega) ?_
  exact hN ad γ1 μ1 _ _ _ hRl1 hB hl
set_option maxRecDepth 100000 in
set_option maxHeartbeats 4000000 in
theorem lk_count {p : Program} {l : Launch} {e : Env} {s : State} {m : MethodId} {below : List Frame} {meth : Method} {c : Code} {b L : Nat} {xs : Nat → Int32} (C0 : lw_At p s m meth c b L xs) {D : va_G} {cy : CY} {z : CZ} (hV : lV D cy z (fun q => s.heap.size ≤ q) s) (n : Nat) {Rl : CS → MS → Prop} (hS : st_count n Rl) {ad am : Nat → Nat} {γ : CS} {μ : MS} (hRl : Rl γ μ) {j : Nat} (hj : j < 65) {x3 : Int32} (hin : ∀ k : Nat, k < 7 → vp_in (x3 + nI k) L) {H : Heap} {locs : List Loc} {ls : Array Slot} (hB : lB D ad am cy (fun q => s.heap.size ≤ q) s.heap γ μ H locs) (hl : lv_has ls 4 [(0, .ref b), (1, .ref (ad 0)), (2, .ref (am 0)), (3, .int x3)])
    (hN : ∀ (ad1 : Nat → Nat) (γ1 : CS) (μ1 : MS) (H1 : Heap) (locs1 : List Loc) (ls1 : Array Slot), Rl γ1 μ1 → lB D ad1 am cy (fun q => s.heap.size ≤ q) s.heap γ1 μ1 H1 locs1 → lv_has ls1 4 [(0, .ref b), (1, .ref (ad1 0)), (2, .ref (am 0)), (3, .int x3)] → W p l e room_1 s m #[Value.ref b] below meth c H1 locs1 (59 + 3 * (j + 1)) (2231 + 45 * (j + 1)) (lw_Z below #[Value.ref b] s) (F0 m 1332 ls1 [])) : W p l e room_1 s m #[Value.ref b] below meth c H locs (59 + 3 * j) (2231 + 45 * j) (lw_Z below #[Value.ref b] s) (F0 m 1309 ls []) := by
  obtain ⟨hx, hb, hr, hml, hown, hts, hX, hbl, hlocks, hgv⟩ := id C0
  have hbA : ¬ (fun q : Nat => s.heap.size ≤ q) b := Nat.not_le.mpr hbl
  obtain ⟨v1, e1⟩ : ∃ v : Int32, v = xs (x3 + 1).toNatClampNeg := ⟨_, rfl⟩
  refine lv_aload_n hx hb dL_law_1309 rfl (lv_at hl 1 rfl) ?_
  refine lv_aload_n hx hb dL_law_1310 rfl (lv_at hl 0 rfl) ?_
  refine lv_iload_n hx hb dL_law_1311 rfl (lv_at hl 3 rfl) ?_
  refine lv_iconst (v := 1) hx hb dL_law_1312 (by decide) ?_
  refine lv_iadd hx hb dL_law_1313 ?_
  refine va_sld hx hb hX hbl hbA hB.2.2.2 (hin 1 (by decide)) dL_law_1314 ?_
  refine W.eq (g2 := F0 m 1315 ls [.int v1, .ref (ad 0)]) (by rw [e1]) ?_
  obtain ⟨r0, γ1, μ1, hk1, hk2, hRl1⟩ := hS γ μ v1 hRl
  refine lx_call (rv := some (.int r0)) (av := [.int v1]) (rest := []) hx hb hml hown hts hl.1 hV hB (cc_X7_count l D ad cy z n γ v1 hk1) (cwV 1 hts (gL_v wsC_in allC qLo_methodLink_161 qLp_im_X7_count qLp_se_X7_count qLx_ini7 qLp_co_X7_count) rfl rfl rfl (by decide +kernel) ⟨Nat.le_of_ble_eq_true rfl, Nat.le_of_ble_eq_true rfl⟩) rfl rfl (lv_room (Nat.le_of_ble_eq_true rfl)) dL_law_1315 (by show 59 + 3 * j + 0 ≤ 600000; omega) (by show 2231 + 45 * j + 0 ≤ 7302249; omega) (fun H locs hB => ?_)
  refine W.eq (g2 := F0 m 1318 ls [.int r0]) rfl ?_
  refine lv_aload_n hx hb dL_law_1318 rfl (lv_at hl 2 rfl) ?_
  refine lv_aload_n hx hb dL_law_1319 rfl (lv_at hl 0 rfl) ?_
  refine lv_iload_n hx hb dL_law_1320 rfl (lv_at hl 3 rfl) ?_
  refine lv_iconst (v := 1) hx hb dL_law_1321 (by decide) ?_
  refine lv_iadd hx hb dL_law_1322 ?_
  refine va_sld hx hb hX hbl hbA hB.2.2.2 (hin 1 (by decide)) dL_law_1323 ?_
  refine W.eq (g2 := F0 m 1324 ls [.int v1, .ref (am 0), .int r0]) (by rw [e1]) ?_
  refine lm_calli (r0 := r0) (av := [.int v1]) (rest := [.int r0]) hx hb hml hown hts hl.1 hV hB (cm_count l D am cy.1 n μ v1 hk2) (cwV 1 hts (gL_v wsM_in allM qLo_methodLink_164 qLp_im_X8_count qLp_se_X8_count qLx_ini8 qLp_co_X8_count) rfl rfl rfl (by decide +kernel) ⟨Nat.le_of_ble_eq_true rfl, Nat.le_of_ble_eq_true rfl⟩) rfl rfl (lv_room (Nat.le_of_ble_eq_true rfl)) dL_law_1324 (by show 59 + 3 * j + 0 ≤ 600000; omega) (by show 2231 + 45 * j + 0 ≤ 7302249; omega) (fun H locs hB => ?_)
  refine lv_icmp_eq (tgt := 1332) hx hb dL_law_1327 (by decide) (fun _ => ?_) (fun c2 => absurd rfl c2)
  refine W.widen (k := 59 + 3 * (j + 1)) (n := 2231 + 45 * (j + 1)) (by omega) (by omega) ?_
  exact hN ad γ1 μ1 _ _ _ hRl1 hB hl
