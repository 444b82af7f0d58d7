theorem i_sub {a b : Int32} (h1 : -2147483648 ≤ a.toInt - b.toInt) (h2 : a.toInt - b.toInt < 2147483648) : (a - b).toInt = a.toInt - b.toInt := by
  rw [Int32.toInt_sub]
  exact Int.bmod_eq_of_le (by omega) (by omega)
theorem i_add {a b : Int32} (h1 : -2147483648 ≤ a.toInt + b.toInt) (h2 : a.toInt + b.toInt < 2147483648) : (a + b).toInt = a.toInt + b.toInt := by
  rw [Int32.toInt_add]
  exact Int.bmod_eq_of_le (by omega) (by omega)
theorem i_mul {a b : Int32} (h1 : -2147483648 ≤ a.toInt * b.toInt) (h2 : a.toInt * b.toInt < 2147483648) : (a * b).toInt = a.toInt * b.toInt := by
  rw [Int32.toInt_mul]
  exact Int.bmod_eq_of_le (by omega) (by omega)
theorem l_head {L j : Nat} (hL : L ≤ 448) (hj : j ≤ 64) : (Int32.ofNat L - 7 < nI (7 * j)) ↔ L < 7 * j + 7 := by
  have e1 : (Int32.ofNat L).toInt = (L : Int) := nI_toInt (n := L) (by omega)
  have e2 : (nI (7 * j)).toInt = ((7 * j : Nat) : Int) := nI_toInt (by omega)
  have e7 : (7 : Int32).toInt = 7 := by decide
  rw [Int32.lt_iff_toInt_lt, i_sub (by rw [e1, e7]; omega) (by rw [e1, e7]; omega), e1, e2, e7]
  omega
set_option maxRecDepth 100000 in
set_option maxHeartbeats 4000000 in
theorem law_loop {p : Program} {l : Launch} {e : Env} {s : State} {m : MethodId} {below : List Frame} {meth : Method} {c : Code} {b L : Nat} {xs : Nat → Int32} (hL : L ≤ 448) (C0 : lw_At p s m meth c b L xs) {D : va_G} {cy : CY} {z : CZ} (hV : lV D cy z (fun q => s.heap.size ≤ q) s) (n : Nat) {Rl : CS → MS → Prop} (hS : SR n Rl) {am : Nat → Nat} :
    ∀ (k j : Nat) (x3 : Int32), j + k = 65 → x3 = nI (7 * j) → ∀ (ad : Nat → Nat) (γ : CS) (μ : MS) (H : Heap) (locs : List Loc) (ls : Array Slot), Rl γ μ → lB D ad am cy (fun q => s.heap.size ≤ q) s.heap γ μ H locs → lv_has ls 4 [(0, .ref b), (1, .ref (ad 0)), (2, .ref (am 0)), (3, .int x3)] → W p l e room_1 s m #[Value.ref b] below meth c H locs (59 + 3 * j) (2231 + 45 * j) (lw_Z below #[Value.ref b] s) (F0 m 18 ls []) := by
  obtain ⟨hx, hb, hr, hml, hown, hts, hX, hbl, hlocks, hgv⟩ := id C0
  have hbA : ¬ (fun q : Nat => s.heap.size ≤ q) b := Nat.not_le.mpr hbl
  intro k
  induction k with
  | zero =>
    intro j x3 hjk ex3 ad γ μ H locs ls hRl hB hl
    refine lv_iload_n hx hb dL_law_18 rfl (lv_at hl 3 rfl) ?_
    refine lv_aload_n hx hb dL_law_19 rfl (lv_at hl 0 rfl) ?_
    refine va_slen hx hb hX hbl hbA hB.2.2.2 dL_law_20 ?_
    refine lv_bipush (v := 7) hx hb dL_law_21 (by decide) ?_
    refine lv_isub hx hb dL_law_23 ?_
    refine lv_icmp_gt (tgt := 1338) hx hb dL_law_24 (by decide) (fun cq => ?_) (fun cq => ?_)
    · refine lv_iconst (v := 1) hx hb dL_law_1338 (by decide) ?_
      refine va_forget (fun q hq => hB.2.2.2.2.2 q hq) ?_
      refine W.widen (k := 600000) (n := 7302249) (by omega) (by omega) ?_
      exact lw_ret hx hb hr hlocks dL_law_1339
    · refine absurd ?_ cq
      obtain rfl : j = 65 := by omega
      rw [ex3]
      have e1 : (Int32.ofNat L).toInt = (L : Int) := nI_toInt (n := L) (by omega)
      have e2 : (nI (7 * 65)).toInt = ((7 * 65 : Nat) : Int) := nI_toInt (by omega)
      have e7 : (7 : Int32).toInt = 7 := by decide
      rw [Int32.lt_iff_toInt_lt, i_sub (by rw [e1, e7]; omega) (by rw [e1, e7]; omega), e1, e2, e7]
      omega
  | succ k ih =>
    intro j x3 hjk ex3 ad γ μ H locs ls hRl hB hl
    have hj : j < 65 := by omega
    refine lv_iload_n hx hb dL_law_18 rfl (lv_at hl 3 rfl) ?_
    refine lv_aload_n hx hb dL_law_19 rfl (lv_at hl 0 rfl) ?_
    refine va_slen hx hb hX hbl hbA hB.2.2.2 dL_law_20 ?_
    refine lv_bipush (v := 7) hx hb dL_law_21 (by decide) ?_
    refine lv_isub hx hb dL_law_23 ?_
    refine lv_icmp_gt (tgt := 1338) hx hb dL_law_24 (by decide) (fun cq => ?_) (fun cq => ?_)
    · refine lv_iconst (v := 1) hx hb dL_law_1338 (by decide) ?_
      refine va_forget (fun q hq => hB.2.2.2.2.2 q hq) ?_
      refine W.widen (k := 600000) (n := 7302249) (by omega) (by omega) ?_
      exact lw_ret hx hb hr hlocks dL_law_1339
    · have hlt : 7 * j + 7 ≤ L := by
        rw [ex3, l_head hL (by omega)] at cq
        omega
      have hin : ∀ k : Nat, k < 7 → vp_in (x3 + nI k) L := fun k hk => by
        rw [ex3, nI_add]
        exact vp_in_nI (by omega) (by omega)
      have hin0 : vp_in x3 L := by rw [ex3]; exact vp_in_nI (by omega) (by omega)
      have hN : ∀ (ad1 : Nat → Nat) (γ1 : CS) (μ1 : MS) (H1 : Heap) (locs1 : List Loc) (ls1 : Array Slot), Rl γ1 μ1 → lB D ad1 am cy (fun q => s.heap.size ≤ q) s.heap γ1 μ1 H1 locs1 → lv_has ls1 4 [(0, .ref b), (1, .ref (ad1 0)), (2, .ref (am 0)), (3, .int x3)] → W p l e room_1 s m #[Value.ref b] below meth c H1 locs1 (59 + 3 * (j + 1)) (2231 + 45 * (j + 1)) (lw_Z below #[Value.ref b] s) (F0 m 1332 ls1 []) := by
        intro ad1 γ1 μ1 H1 locs1 ls1 hRl1 hB1 hl1
        obtain ⟨x3', ex3'⟩ : ∃ y : Int32, y = x3 + 7 := ⟨_, rfl⟩
        refine lv_iinc (v := x3') (lv' := [(3, .int x3'), (0, .ref b), (1, .ref (ad1 0)), (2, .ref (am 0))]) hx hb dL_law_1332 hl1 (k := 3) rfl (by rw [ex3']; rfl) (by decide) rfl (fun ls hl => ?_)
        refine lv_goto (tgt := 18) hx hb dL_law_1335 (by decide) ?_
        exact ih (j + 1) x3' (by omega) (by rw [ex3', ex3, show 7 * (j + 1) = 7 * j + 7 by omega, ← nI_add]; rfl) ad1 γ1 μ1 _ _ ls hRl1 hB1 (lv_sub hl [1, 2, 3, 0] rfl)
      refine lv_aload_n hx hb dL_law_27 rfl (lv_at hl 0 rfl) ?_
      refine lv_iload_n hx hb dL_law_28 rfl (lv_at hl 3 rfl) ?_
      refine va_sld hx hb hX hbl hbA hB.2.2.2 hin0 dL_law_29 ?_
      refine lv_bipush (v := 63) hx hb dL_law_30 (by decide) ?_
      refine lv_iand hx hb dL_law_32 ?_
      refine lv_topi (fun w ew => ?_)
      by_cases c0 : w = 0
      · refine lv_tableIn (tgt := 188) hx hb dL_law_33 (by rw [c0]; decide) (by rw [c0]; decide) (by rw [c0]; rfl) (by decide) ?_
        exact lk_feed C0 hV n hS.1 hRl hj hin hB hl hN
      by_cases c1 : w = 1
      · refine lv_tableIn (tgt := 251) hx hb dL_law_33 (by rw [c1]; decide) (by rw [c1]; decide) (by rw [c1]; rfl) (by decide) ?_
        exact lk_plate C0 hV n hS.2.1 hRl hj hin hB hl hN
      by_cases c2 : w = 2
      · refine lv_tableIn (tgt := 264) hx hb dL_law_33 (by rw [c2]; decide) (by rw [c2]; decide) (by rw [c2]; rfl) (by decide) ?_
        exact lk_plateOf C0 hV n hS.2.2.1 hRl hj hin hB hl hN
      by_cases c3 : w = 3
      · refine lv_tableIn (tgt := 297) hx hb dL_law_33 (by rw [c3]; decide) (by rw [c3]; decide) (by rw [c3]; rfl) (by decide) ?_
        exact lk_loss C0 hV n hS.2.2.2.1 hRl hj hin hB hl hN
      by_cases c4 : w = 4
      · refine lv_tableIn (tgt := 340) hx hb dL_law_33 (by rw [c4]; decide) (by rw [c4]; decide) (by rw [c4]; rfl) (by decide) ?_
        exact lk_lossOf C0 hV n hS.2.2.2.2.1 hRl hj hin hB hl hN
      by_cases c5 : w = 5
      · refine lv_tableIn (tgt := 373) hx hb dL_law_33 (by rw [c5]; decide) (by rw [c5]; decide) (by rw [c5]; rfl) (by decide) ?_
        exact lk_floor C0 hV n hS.2.2.2.2.2.1 hRl hj hin hB hl hN
      by_cases c6 : w = 6
      · refine lv_tableIn (tgt := 416) hx hb dL_law_33 (by rw [c6]; decide) (by rw [c6]; decide) (by rw [c6]; rfl) (by decide) ?_
        exact lk_air C0 hV n hS.2.2.2.2.2.2.1 hRl hj hin hB hl hN
      by_cases c7 : w = 7
      · refine lv_tableIn (tgt := 455) hx hb dL_law_33 (by rw [c7]; decide) (by rw [c7]; decide) (by rw [c7]; rfl) (by decide) ?_
        exact lk_toneAt C0 hV n hS.2.2.2.2.2.2.2.1 hRl hj hin hB hl hN
      by_cases c8 : w = 8
      · refine lv_tableIn (tgt := 488) hx hb dL_law_33 (by rw [c8]; decide) (by rw [c8]; decide) (by rw [c8]; rfl) (by decide) ?_
        exact lk_takes C0 hV n hS.2.2.2.2.2.2.2.2.1 hRl hj hin hB hl hN
      by_cases c9 : w = 9
      · refine lv_tableIn (tgt := 551) hx hb dL_law_33 (by rw [c9]; decide) (by rw [c9]; decide) (by rw [c9]; rfl) (by decide) ?_
        exact lk_spin C0 hV n hS.2.2.2.2.2.2.2.2.2.1 hRl hj hin hB hl hN
      by_cases c10 : w = 10
      · refine lv_tableIn (tgt := 594) hx hb dL_law_33 (by rw [c10]; decide) (by rw [c10]; decide) (by rw [c10]; rfl) (by decide) ?_
        exact lk_tick C0 hV n hS.2.2.2.2.2.2.2.2.2.2.1 hRl hj hin hB hl hN
      by_cases c11 : w = 11
      · refine lv_tableIn (tgt := 617) hx hb dL_law_33 (by rw [c11]; decide) (by rw [c11]; decide) (by rw [c11]; rfl) (by decide) ?_
        exact lk_state C0 hV n hS.2.2.2.2.2.2.2.2.2.2.2.1 hRl hj hin hB hl hN
      by_cases c12 : w = 12
      · refine lv_tableIn (tgt := 640) hx hb dL_law_33 (by rw [c12]; decide) (by rw [c12]; decide) (by rw [c12]; rfl) (by decide) ?_
        exact lk_rolled C0 hV n hS.2.2.2.2.2.2.2.2.2.2.2.2.1 hRl hj hin hB hl hN
      by_cases c13 : w = 13
      · refine lv_tableIn (tgt := 654) hx hb dL_law_33 (by rw [c13]; decide) (by rw [c13]; decide) (by rw [c13]; rfl) (by decide) ?_
        exact lk_tenth C0 hV n hS.2.2.2.2.2.2.2.2.2.2.2.2.2.1 hRl hj hin hB hl hN
      by_cases c14 : w = 14
      · refine lv_tableIn (tgt := 687) hx hb dL_law_33 (by rw [c14]; decide) (by rw [c14]; decide) (by rw [c14]; rfl) (by decide) ?_
        exact lk_lasts C0 hV n hS.2.2.2.2.2.2.2.2.2.2.2.2.2.2.1 hRl hj hin hB hl hN
      by_cases c15 : w = 15
      · refine lv_tableIn (tgt := 740) hx hb dL_law_33 (by rw [c15]; decide) (by rw [c15]; decide) (by rw [c15]; rfl) (by decide) ?_
        exact lk_rules C0 hV n hS.2.2.2.2.2.2.2.2.2.2.2.2.2.2.2.1 hRl hj hin hB hl hN
      by_cases c16 : w = 16
      · refine lv_tableIn (tgt := 763) hx hb dL_law_33 (by rw [c16]; decide) (by rw [c16]; decide) (by rw [c16]; rfl) (by decide) ?_
        exact lk_passes C0 hV n hS.2.2.2.2.2.2.2.2.2.2.2.2.2.2.2.2.1 hRl hj hin hB hl hN
      by_cases c17 : w = 17
      · refine lv_tableIn (tgt := 776) hx hb dL_law_33 (by rw [c17]; decide) (by rw [c17]; decide) (by rw [c17]; rfl) (by decide) ?_
        exact lk_heard C0 hV n hS.2.2.2.2.2.2.2.2.2.2.2.2.2.2.2.2.2.1 hRl hj hin hB hl hN
      by_cases c18 : w = 18
      · refine lv_tableIn (tgt := 799) hx hb dL_law_33 (by rw [c18]; decide) (by rw [c18]; decide) (by rw [c18]; rfl) (by decide) ?_
        exact lk_hush C0 hV n hS.2.2.2.2.2.2.2.2.2.2.2.2.2.2.2.2.2.2.1 hRl hj hin hB hl hN
      by_cases c19 : w = 19
      · refine lv_tableIn (tgt := 812) hx hb dL_law_33 (by rw [c19]; decide) (by rw [c19]; decide) (by rw [c19]; rfl) (by decide) ?_
        exact lk_slip C0 hV n hS.2.2.2.2.2.2.2.2.2.2.2.2.2.2.2.2.2.2.2.1 hRl hj hin hB hl hN
      by_cases c20 : w = 20
      · refine lv_tableIn (tgt := 835) hx hb dL_law_33 (by rw [c20]; decide) (by rw [c20]; decide) (by rw [c20]; rfl) (by decide) ?_
        exact lk_firstOff C0 hV n hS.2.2.2.2.2.2.2.2.2.2.2.2.2.2.2.2.2.2.2.2.1 hRl hj hin hB hl hN
      by_cases c21 : w = 21
      · refine lv_tableIn (tgt := 858) hx hb dL_law_33 (by rw [c21]; decide) (by rw [c21]; decide) (by rw [c21]; rfl) (by decide) ?_
        exact lk_supposed C0 hV n hS.2.2.2.2.2.2.2.2.2.2.2.2.2.2.2.2.2.2.2.2.2.1 hRl hj hin hB hl hN
      by_cases c22 : w = 22
      · refine lv_tableIn (tgt := 881) hx hb dL_law_33 (by rw [c22]; decide) (by rw [c22]; decide) (by rw [c22]; rfl) (by decide) ?_
        exact lk_ahead C0 hV n hS.2.2.2.2.2.2.2.2.2.2.2.2.2.2.2.2.2.2.2.2.2.2.1 hRl hj hin hB hl hN
      by_cases c23 : w = 23
      · refine lv_tableIn (tgt := 924) hx hb dL_law_33 (by rw [c23]; decide) (by rw [c23]; decide) (by rw [c23]; rfl) (by decide) ?_
        exact lk_parts C0 hV n hS.2.2.2.2.2.2.2.2.2.2.2.2.2.2.2.2.2.2.2.2.2.2.2.1 hRl hj hin hB hl hN
      by_cases c24 : w = 24
      · refine lv_tableIn (tgt := 987) hx hb dL_law_33 (by rw [c24]; decide) (by rw [c24]; decide) (by rw [c24]; rfl) (by decide) ?_
        exact lk_longest C0 hV n hS.2.2.2.2.2.2.2.2.2.2.2.2.2.2.2.2.2.2.2.2.2.2.2.2.1 hRl hj hin hB hl hN
      by_cases c25 : w = 25
      · refine lv_tableIn (tgt := 1030) hx hb dL_law_33 (by rw [c25]; decide) (by rw [c25]; decide) (by rw [c25]; rfl) (by decide) ?_
        exact lk_bestFor C0 hV n hS.2.2.2.2.2.2.2.2.2.2.2.2.2.2.2.2.2.2.2.2.2.2.2.2.2.1 hRl hj hin hB hl hN
      by_cases c26 : w = 26
      · refine lv_tableIn (tgt := 1073) hx hb dL_law_33 (by rw [c26]; decide) (by rw [c26]; decide) (by rw [c26]; rfl) (by decide) ?_
        exact lk_ear C0 hV n hS.2.2.2.2.2.2.2.2.2.2.2.2.2.2.2.2.2.2.2.2.2.2.2.2.2.2.1 hRl hj hin hB hl hN
      by_cases c27 : w = 27
      · refine lv_tableIn (tgt := 1096) hx hb dL_law_33 (by rw [c27]; decide) (by rw [c27]; decide) (by rw [c27]; rfl) (by decide) ?_
        exact lk_stagger C0 hV n hS.2.2.2.2.2.2.2.2.2.2.2.2.2.2.2.2.2.2.2.2.2.2.2.2.2.2.2.1 hRl hj hin hB hl hN
      by_cases c28 : w = 28
      · refine lv_tableIn (tgt := 1119) hx hb dL_law_33 (by rw [c28]; decide) (by rw [c28]; decide) (by rw [c28]; rfl) (by decide) ?_
        exact lk_trust C0 hV n hS.2.2.2.2.2.2.2.2.2.2.2.2.2.2.2.2.2.2.2.2.2.2.2.2.2.2.2.2.1 hRl hj hin hB hl hN
      by_cases c29 : w = 29
      · refine lv_tableIn (tgt := 1142) hx hb dL_law_33 (by rw [c29]; decide) (by rw [c29]; decide) (by rw [c29]; rfl) (by decide) ?_
        exact lk_leg C0 hV n hS.2.2.2.2.2.2.2.2.2.2.2.2.2.2.2.2.2.2.2.2.2.2.2.2.2.2.2.2.2.1 hRl hj hin hB hl hN
      by_cases c30 : w = 30
      · refine lv_tableIn (tgt := 1175) hx hb dL_law_33 (by rw [c30]; decide) (by rw [c30]; decide) (by rw [c30]; rfl) (by decide) ?_
        exact lk_legs C0 hV n hS.2.2.2.2.2.2.2.2.2.2.2.2.2.2.2.2.2.2.2.2.2.2.2.2.2.2.2.2.2.2.1 hRl hj hin hB hl hN
      by_cases c31 : w = 31
      · refine lv_tableIn (tgt := 1208) hx hb dL_law_33 (by rw [c31]; decide) (by rw [c31]; decide) (by rw [c31]; rfl) (by decide) ?_
        exact lk_draws C0 hV n hS.2.2.2.2.2.2.2.2.2.2.2.2.2.2.2.2.2.2.2.2.2.2.2.2.2.2.2.2.2.2.2.1 hRl hj hin hB hl hN
      by_cases c32 : w = 32
      · refine lv_tableIn (tgt := 1283) hx hb dL_law_33 (by rw [c32]; decide) (by rw [c32]; decide) (by rw [c32]; rfl) (by decide) ?_
        exact lk_image C0 hV n hS.2.2.2.2.2.2.2.2.2.2.2.2.2.2.2.2.2.2.2.2.2.2.2.2.2.2.2.2.2.2.2.2.1 hRl hj hin hB hl hN
      by_cases c33 : w = 33
      · refine lv_tableIn (tgt := 1296) hx hb dL_law_33 (by rw [c33]; decide) (by rw [c33]; decide) (by rw [c33]; rfl) (by decide) ?_
        exact lk_restore C0 hV n hS.2.2.2.2.2.2.2.2.2.2.2.2.2.2.2.2.2.2.2.2.2.2.2.2.2.2.2.2.2.2.2.2.2.1 hRl hj hin hB hl hN
      by_cases c34 : w = 34
      · refine lv_tableIn (tgt := 1309) hx hb dL_law_33 (by rw [c34]; decide) (by rw [c34]; decide) (by rw [c34]; rfl) (by decide) ?_
        exact lk_count C0 hV n hS.2.2.2.2.2.2.2.2.2.2.2.2.2.2.2.2.2.2.2.2.2.2.2.2.2.2.2.2.2.2.2.2.2.2 hRl hj hin hB hl hN
      refine sw_d (tgt := 1332) hx hb dL_law_33 (by have n_0 := lv_neT c0 (a := 0) (by decide); have n_1 := lv_neT c1 (a := 1) (by decide); have n_2 := lv_neT c2 (a := 2) (by decide); have n_3 := lv_neT c3 (a := 3) (by decide); have n_4 := lv_neT c4 (a := 4) (by decide); have n_5 := lv_neT c5 (a := 5) (by decide); have n_6 := lv_neT c6 (a := 6) (by decide); have n_7 := lv_neT c7 (a := 7) (by decide); have n_8 := lv_neT c8 (a := 8) (by decide); have n_9 := lv_neT c9 (a := 9) (by decide); have n_10 := lv_neT c10 (a := 10) (by decide); have n_11 := lv_neT c11 (a := 11) (by decide); have n_12 := lv_neT c12 (a := 12) (by decide); have n_13 := lv_neT c13 (a := 13) (by decide); have n_14 := lv_neT c14 (a := 14) (by decide); have n_15 := lv_neT c15 (a := 15) (by decide); have n_16 := lv_neT c16 (a := 16) (by decide); have n_17 := lv_neT c17 (a := 17) (by decide); have n_18 := lv_neT c18 (a := 18) (by decide); have n_19 := lv_neT c19 (a := 19) (by decide); have n_20 := lv_neT c20 (a := 20) (by decide); have n_21 := lv_neT c21 (a := 21) (by decide); have n_22 := lv_neT c22 (a := 22) (by decide); have n_23 := lv_neT c23 (a := 23) (by decide); have n_24 := lv_neT c24 (a := 24) (by decide); have n_25 := lv_neT c25 (a := 25) (by decide); have n_26 := lv_neT c26 (a := 26) (by decide); have n_27 := lv_neT c27 (a := 27) (by decide); have n_28 := lv_neT c28 (a := 28) (by decide); have n_29 := lv_neT c29 (a := 29) (by decide); have n_30 := lv_neT c30 (a := 30) (by decide); have n_31 := lv_neT c31 (a := 31) (by decide); have n_32 := lv_neT c32 (a := 32) (by decide); have n_33 := lv_neT c33 (a := 33) (by decide); have n_34 := lv_neT c34 (a := 34) (by decide); exact (show w.toInt < 0 ∨ 34 < w.toInt by omega).elim Or.inl (fun q => Or.inr (Or.inl q))) (by decide) ?_
      refine W.widen (k := 59 + 3 * (j + 1)) (n := 2231 + 45 * (j + 1)) (by omega) (by omega) ?_
      exact hN ad γ μ _ _ _ hRl hB hl
