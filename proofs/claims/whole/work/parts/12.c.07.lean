/-! X7_toneAt -/
theorem kwc_X7_144 {R : Room} {s : State} {args : Array Value} (hts : ∀ w ∈ wsC, w.before args s = true) (hR : rm_X7_leanRefusal.frames + 1 ≤ R.frames ∧ 8 + (1 + 11) + rm_X7_leanRefusal.locals ≤ R.locals) : CallB R s args RX7 144 yX7_leanRefusal cX7_leanRefusal 1 (some .int) wn_X7_leanRefusal rm_X7_leanRefusal 0 0 1 ∧ (Cond.static yX7_leanRefusal).before args s = true := va_cwS 1 hts (gC_s qc_425 qc_426 qc_85 qc_424) rfl rfl rfl (by decide +kernel) hR
theorem kwc_X7_147 {R : Room} {s : State} {args : Array Value} (hts : ∀ w ∈ wsC, w.before args s = true) (hR : rm_X7_toneOf.frames + 1 ≤ R.frames ∧ 8 + (5 + 11) + rm_X7_toneOf.locals ≤ R.locals) : CallB R s args RX7 147 yX7_toneOf cX7_toneOf 5 (some .int) wn_X7_toneOf rm_X7_toneOf 0 0 3 ∧ (Cond.static yX7_toneOf).before args s = true := va_cwS 3 hts (gC_s qc_427 qc_90 qc_85 qc_91) rfl rfl rfl (by decide +kernel) hR
abbrev rm_X7_toneAt : Room := { frames := 1, cells := 0, slots := 0, locals := 24 }
abbrev wn_X7_toneAt : List Cond := .code yX7_toneAt cX7_toneAt 5 (some .int) :: wsC
def fc_X7_toneAt (n : Nat) (σ : CS) (x1 : Int32) (x2 : Int32) : Option ((Int32) × CS) := bd (fc_X0_plateAt n σ x1) (fun r1 σ2 => oc r1 (bd (fc_X7_refuse n σ2 (-1)) (fun r4 σ5 => some (r4, σ5))) (fun q3 => bd (fc_X7_leanRefusal n σ2 x2) (fun r6 σ7 => if (r6 = 0) then (ck (pk σ7 q3 3) (ck (pk σ7 q3 3) (bd (fc_X7_toneOf n σ7 x2 (σ7.1 q3 1) (σ7.1 q3 4)) (fun r11 σ12 => some (r11, σ12))))) else (bd (fc_X7_refuse n σ7 r6) (fun r13 σ14 => some (r13, σ14))))))
set_option maxRecDepth 100000 in
set_option maxHeartbeats 4000000 in
theorem tbc_X7_toneAt_0 {p : Program} {l : Launch} {e : Env} {s : State} {m : MethodId} {args : Array Value} {below : List Frame} {meth : Method} {c : Code} {D : va_G} {A : Nat → Prop} {ad : Nat → Nat} {cy : CY} {z : CZ} {r0 : Int32} {σ0 : CS} (hc : cxB RX7 wsC cX7_toneAt 5 (some .int) p s m args meth c) (hV : cV D cy z A s) (n : Nat) (σ : CS) (x1 : Int32) (x2 : Int32) {H : Heap} {locs : List Loc} {ls : Array Slot} (hB : cB D ad cy A s.heap σ H locs) (hl : lv_has ls 5 [(0, .ref (ad 0)), (1, .int x1), (2, .int x2)]) (hf : fc_X7_toneAt n σ x1 x2 = some (r0, σ0)) : W p l e rm_X7_toneAt s m args below meth c H locs 0 0 (MQ below (cQ D ad cy A (some (.int r0)) σ0) args s 0 0 A) (F0 m 0 ls []) := by
  obtain ⟨hx, hb, hml, hown, hts, hr, hlocks⟩ := id hc
  unfold fc_X7_toneAt at hf
  refine lv_aload_n hx hb dX7_toneAt_0 rfl (lv_at hl 0 rfl) ?_
  refine rc_get (own := RX7) hx hb hts inC_7 hown hV hB 0 (c34 rfl hB) (ceq_0 _ _ _) rfl 2 (Nat.le_of_ble_eq_true rfl) qf_X7_23 rfl dX7_toneAt_1 ?_
  refine lv_iload_n hx hb dX7_toneAt_4 rfl (lv_at hl 1 rfl) ?_
  obtain ⟨r1, σ2, hkr1, hf⟩ := bd_e hf
  refine rc_callV (own := RX7) (av := [.int x1]) (rest := []) (rv := (some (va_rf (Option.map ad r1)))) hx hb hml hown hts hl.1 hV hB 5 (c34 rfl hB) (ceq_5 _ _ _) rfl (cc_X0_plateAt l D ad cy z n σ x1 hkr1) (kwc_X7_69  hts ⟨Nat.le_of_ble_eq_true rfl, Nat.le_of_ble_eq_true rfl⟩) rfl rfl (lv_room (Nat.le_of_ble_eq_true rfl)) dX7_toneAt_5 (Nat.le_refl _) (Nat.le_refl _) (fun H locs hB => ?_)
  refine W.eq (g2 := F0 m 8 ls [va_rf (Option.map ad r1)]) rfl ?_
  rcases r1 with _ | q3
  · have hf := oc_n hf
    refine lv_astore_nN (lv' := [(3, .null), (0, .ref (ad 0)), (1, .int x1), (2, .int x2)]) hx hb dX7_toneAt_8 rfl hl (by decide) rfl (fun ls hl => ?_)
    refine lv_aload_nN hx hb dX7_toneAt_9 rfl (lv_at hl 0 rfl) ?_
    refine lv_ifnonnullN hx hb dX7_toneAt_10 ?_
    refine lv_aload_n hx hb dX7_toneAt_13 rfl (lv_at hl 1 rfl) ?_
    refine lv_iconst (v := (-1)) hx hb dX7_toneAt_14 (by decide) ?_
    obtain ⟨r4, σ5, hkr4, hf⟩ := bd_e hf
    refine rc_callV (own := RX7) (av := [.int (-1)]) (rest := []) (rv := (some (.int r4))) hx hb hml hown hts hl.1 hV hB 0 (c34 rfl hB) (ceq_0 _ _ _) rfl (cc_X7_refuse l D ad cy z n σ2 (-1) hkr4) (kwc_X7_43  hts ⟨Nat.le_of_ble_eq_true rfl, Nat.le_of_ble_eq_true rfl⟩) rfl rfl (lv_room (Nat.le_of_ble_eq_true rfl)) dX7_toneAt_15 (Nat.le_refl _) (Nat.le_refl _) (fun H locs hB => ?_)
    refine W.eq (g2 := F0 m 18 ls [.int r4]) rfl ?_
    obtain ⟨rfl, rfl⟩ := so_e hf
    exact rc_iret hx hb hr hlocks hB dX7_toneAt_18
  · have hf := oc_s hf
    refine lv_astore_n (lv' := [(3, .ref (ad q3)), (0, .ref (ad 0)), (1, .int x1), (2, .int x2)]) hx hb dX7_toneAt_8 rfl hl (by decide) rfl (fun ls hl => ?_)
    refine lv_aload_n hx hb dX7_toneAt_9 rfl (lv_at hl 0 rfl) ?_
    refine lv_ifnonnull (tgt := 19) hx hb dX7_toneAt_10 (by decide) ?_
    refine lv_iload_n hx hb dX7_toneAt_19 rfl (lv_at hl 3 rfl) ?_
    obtain ⟨r6, σ7, hkr6, hf⟩ := bd_e hf
    refine rc_callS (own := RX7) (av := [.int x2]) (rest := []) (rv := (some (.int r6))) hx hb hml hown hts hl.1 hV hB (cc_X7_leanRefusal l D ad cy z n σ2 x2 hkr6) (kwc_X7_144  hts ⟨Nat.le_of_ble_eq_true rfl, Nat.le_of_ble_eq_true rfl⟩) rfl rfl (lv_room (Nat.le_of_ble_eq_true rfl)) dX7_toneAt_20 (Nat.le_refl _) (Nat.le_refl _) (fun H locs hB => ?_)
    refine W.eq (g2 := F0 m 23 ls [.int r6]) rfl ?_
    refine lv_istore (lv' := [(4, .int r6), (3, .ref (ad q3)), (0, .ref (ad 0)), (1, .int x1), (2, .int x2)]) hx hb dX7_toneAt_23 hl (by decide) rfl (fun ls hl => ?_)
    refine lv_iload hx hb dX7_toneAt_25 (lv_at hl 0 rfl) ?_
    refine lv_if_eq (tgt := 39) hx hb dX7_toneAt_27 (by decide) (fun c8 => ?_) (fun c8 => ?_)
    · have hf := it_t hf c8
      refine lv_iload_n hx hb dX7_toneAt_39 rfl (lv_at hl 4 rfl) ?_
      refine lv_aload_n hx hb dX7_toneAt_40 rfl (lv_at hl 1 rfl) ?_
      obtain ⟨k9, hf⟩ := ck_e hf
      refine rc_get (own := RX7) hx hb hts inC_3 hown hV hB q3 (pk_s k9).2.1 (ceq_P k9) rfl 1 (Nat.le_of_ble_eq_true rfl) qf_X7_78 rfl dX7_toneAt_41 ?_
      refine lv_aload_n hx hb dX7_toneAt_44 rfl (lv_at hl 1 rfl) ?_
      obtain ⟨k10, hf⟩ := ck_e hf
      refine rc_get (own := RX7) hx hb hts inC_3 hown hV hB q3 (pk_s k10).2.1 (ceq_P k10) rfl 4 (Nat.le_of_ble_eq_true rfl) qf_X7_87 rfl dX7_toneAt_45 ?_
      obtain ⟨r11, σ12, hkr11, hf⟩ := bd_e hf
      refine rc_callS (own := RX7) (av := [.int x2, .int (σ7.1 q3 1), .int (σ7.1 q3 4)]) (rest := []) (rv := (some (.int r11))) hx hb hml hown hts hl.1 hV hB (cc_X7_toneOf l D ad cy z n σ7 x2 (σ7.1 q3 1) (σ7.1 q3 4) hkr11) (kwc_X7_147  hts ⟨Nat.le_of_ble_eq_true rfl, Nat.le_of_ble_eq_true rfl⟩) rfl rfl (lv_room (Nat.le_of_ble_eq_true rfl)) dX7_toneAt_48 (Nat.le_refl _) (Nat.le_refl _) (fun H locs hB => ?_)
      refine W.eq (g2 := F0 m 51 ls [.int r11]) rfl ?_
      obtain ⟨rfl, rfl⟩ := so_e hf
      exact rc_iret hx hb hr hlocks hB dX7_toneAt_51
    · have hf := it_f hf c8
      refine lv_aload_n hx hb dX7_toneAt_30 rfl (lv_at hl 2 rfl) ?_
      refine lv_iload hx hb dX7_toneAt_31 (lv_at hl 0 rfl) ?_
      obtain ⟨r13, σ14, hkr13, hf⟩ := bd_e hf
      refine rc_callV (own := RX7) (av := [.int r6]) (rest := []) (rv := (some (.int r13))) hx hb hml hown hts hl.1 hV hB 0 (c34 rfl hB) (ceq_0 _ _ _) rfl (cc_X7_refuse l D ad cy z n σ7 r6 hkr13) (kwc_X7_43  hts ⟨Nat.le_of_ble_eq_true rfl, Nat.le_of_ble_eq_true rfl⟩) rfl rfl (lv_room (Nat.le_of_ble_eq_true rfl)) dX7_toneAt_33 (Nat.le_refl _) (Nat.le_refl _) (fun H locs hB => ?_)
      refine W.eq (g2 := F0 m 36 ls [.int r13]) rfl ?_
      refine lv_goto (tgt := 51) hx hb dX7_toneAt_36 (by decide) ?_
      obtain ⟨rfl, rfl⟩ := so_e hf
      exact rc_iret hx hb hr hlocks hB dX7_toneAt_51
theorem cc_X7_toneAt (l : Launch) (D : va_G) (ad : Nat → Nat) (cy : CY) (z : CZ) (n : Nat) (σ : CS) (x1 : Int32) (x2 : Int32) {r0 : Int32} {σ0 : CS} (hf : fc_X7_toneAt n σ x1 x2 = some (r0, σ0)) : cM l yX7_toneAt wn_X7_toneAt rm_X7_toneAt D ad cy z [.ref (ad 0), .int x1, .int x2] σ (some (.int r0)) σ0 :=
  rc_met (ret := (some .int)) (by decide) rfl (Nat.le_of_ble_eq_true rfl) (fun p e s m below meth c A ls hc hV hB hl => tbc_X7_toneAt_0 hc hV n σ x1 x2 hB hl hf)
/-! X7_takes -/
theorem kwc_X7_151 {R : Room} {s : State} {args : Array Value} (hts : ∀ w ∈ wsC, w.before args s = true) (hR : rm_X2_begin.frames + 1 ≤ R.frames ∧ 8 + (4 + 11) + rm_X2_begin.locals ≤ R.locals) : CallW R s args RX7 RX2 151 yX2_begin cX2_begin 4 none wn_X2_begin rm_X2_begin 0 0 3 := cwV 3 hts (gC_v qc_429 qc_430 qc_431 qc_108 qc_432) rfl rfl rfl (by decide +kernel) hR
theorem kwc_X7_158 {R : Room} {s : State} {args : Array Value} (hts : ∀ w ∈ wsC, w.before args s = true) (hR : rm_X2_takenBy.frames + 1 ≤ R.frames ∧ 8 + (2 + 11) + rm_X2_takenBy.locals ≤ R.locals) : CallW R s args RX7 RX2 158 yX2_takenBy cX2_takenBy 2 (some .int) wn_X2_takenBy rm_X2_takenBy 0 0 1 := cwV 1 hts (gC_v qc_433 qc_129 qc_130 qc_108 qc_120) rfl rfl rfl (by decide +kernel) hR
abbrev rm_X7_takes : Room := { frames := 3, cells := 0, slots := 0, locals := 108 }
abbrev wn_X7_takes : List Cond := .code yX7_takes cX7_takes 8 (some .int) :: wsC
def fc_X7_takes (n : Nat) (σ : CS) (x1 : Int32) (x2 : Int32) (x3 : Int32) (x4 : Int32) (x5 : Int32) : Option ((Int32) × CS) := bd (fc_X0_lossAt n σ x1) (fun r1 σ2 => oc r1 (bd (fc_X0_plateAt n σ2 x2) (fun r4 σ5 => oc r4 (bd (fc_X7_refuse n σ5 (-1)) (fun r7 σ8 => some (r7, σ8))) (fun q6 => bd (fc_X7_refuse n σ5 (-1)) (fun r9 σ10 => some (r9, σ10))))) (fun q3 => bd (fc_X0_plateAt n σ2 x2) (fun r11 σ12 => oc r11 (bd (fc_X7_refuse n σ12 (-1)) (fun r14 σ15 => some (r14, σ15))) (fun q13 => bd (fc_X7_isFloor n σ12 x4) (fun r16 σ17 => if (r16 = 0) then (bd (fc_X7_refuse n σ17 (-1)) (fun r36 σ37 => some (r36, σ37))) else (if (x3 < 0) then (bd (fc_X7_refuse n σ17 (-4)) (fun r20 σ21 => some (r20, σ21))) else (if (0 ≤ x5) then (if (9000 < x3) then (bd (fc_X7_refuse n σ17 (-6)) (fun r24 σ25 => some (r24, σ25))) else (if (x5 ≤ 9999) then (bd (fc_X2_begin n σ17 (some q13) x3 x4) (fun _ σ28 => sq (cp σ28 31 5 x5) (fun σ29 => bd (fc_X2_takenBy n σ29 q3) (fun r30 σ31 => some (r30, σ31))))) else (bd (fc_X7_refuse n σ17 (-6)) (fun r32 σ33 => some (r32, σ33))))) else (bd (fc_X7_refuse n σ17 (-4)) (fun r34 σ35 => some (r34, σ35))))))))))
set_option maxRecDepth 100000 in
set_option maxHeartbeats 4000000 in
theorem tbc_X7_takes_0 {p : Program} {l : Launch} {e : Env} {s : State} {m : MethodId} {args : Array Value} {below : List Frame} {meth : Method} {c : Code} {D : va_G} {A : Nat → Prop} {ad : Nat → Nat} {cy : CY} {z : CZ} {r0 : Int32} {σ0 : CS} (hc : cxB RX7 wsC cX7_takes 8 (some .int) p s m args meth c) (hV : cV D cy z A s) (n : Nat) (σ : CS) (x1 : Int32) (x2 : Int32) (x3 : Int32) (x4 : Int32) (x5 : Int32) {H : Heap} {locs : List Loc} {ls : Array Slot} (hB : cB D ad cy A s.heap σ H locs) (hl : lv_has ls 8 [(0, .ref (ad 0)), (1, .int x1), (2, .int x2), (3, .int x3), (4, .int x4), (5, .int x5)]) (hf : fc_X7_takes n σ x1 x2 x3 x4 x5 = some (r0, σ0)) : W p l e rm_X7_takes s m args below meth c H locs 0 0 (MQ below (cQ D ad cy A (some (.int r0)) σ0) args s 0 0 A) (F0 m 0 ls []) := by
  obtain ⟨hx, hb, hml, hown, hts, hr, hlocks⟩ := id hc
  unfold fc_X7_takes at hf
  refine lv_aload_n hx hb dX7_takes_0 rfl (lv_at hl 0 rfl) ?_
  refine rc_get (own := RX7) hx hb hts inC_7 hown hV hB 0 (c34 rfl hB) (ceq_0 _ _ _) rfl 2 (Nat.le_of_ble_eq_true rfl) qf_X7_23 rfl dX7_takes_1 ?_
  refine lv_iload_n hx hb dX7_takes_4 rfl (lv_at hl 1 rfl) ?_
  obtain ⟨r1, σ2, hkr1, hf⟩ := bd_e hf
  refine rc_callV (own := RX7) (av := [.int x1]) (rest := []) (rv := (some (va_rf (Option.map ad r1)))) hx hb hml hown hts hl.1 hV hB 5 (c34 rfl hB) (ceq_5 _ _ _) rfl (cc_X0_lossAt l D ad cy z n σ x1 hkr1) (kwc_X7_106  hts ⟨Nat.le_of_ble_eq_true rfl, Nat.le_of_ble_eq_true rfl⟩) rfl rfl (lv_room (Nat.le_of_ble_eq_true rfl)) dX7_takes_5 (Nat.le_refl _) (Nat.le_refl _) (fun H locs hB => ?_)
  refine W.eq (g2 := F0 m 8 ls [va_rf (Option.map ad r1)]) rfl ?_
  rcases r1 with _ | q3
  · have hf := oc_n hf
    refine lv_astoreN (lv' := [(6, .null), (0, .ref (ad 0)), (1, .int x1), (2, .int x2), (3, .int x3), (4, .int x4), (5, .int x5)]) hx hb dX7_takes_8 hl (by decide) rfl (fun ls hl => ?_)
    refine lv_aload_n hx hb dX7_takes_10 rfl (lv_at hl 1 rfl) ?_
    refine rc_get (own := RX7) hx hb hts inC_7 hown hV hB 0 (c34 rfl hB) (ceq_0 _ _ _) rfl 2 (Nat.le_of_ble_eq_true rfl) qf_X7_23 rfl dX7_takes_11 ?_
    refine lv_iload_n hx hb dX7_takes_14 rfl (lv_at hl 3 rfl) ?_
    obtain ⟨r4, σ5, hkr4, hf⟩ := bd_e hf
    refine rc_callV (own := RX7) (av := [.int x2]) (rest := []) (rv := (some (va_rf (Option.map ad r4)))) hx hb hml hown hts hl.1 hV hB 5 (c34 rfl hB) (ceq_5 _ _ _) rfl (cc_X0_plateAt l D ad cy z n σ2 x2 hkr4) (kwc_X7_69  hts ⟨Nat.le_of_ble_eq_true rfl, Nat.le_of_ble_eq_true rfl⟩) rfl rfl (lv_room (Nat.le_of_ble_eq_true rfl)) dX7_takes_15 (Nat.le_refl _) (Nat.le_refl _) (fun H locs hB => ?_)
    refine W.eq (g2 := F0 m 18 ls [va_rf (Option.map ad r4)]) rfl ?_
    rcases r4 with _ | q6
    · have hf := oc_n hf
      refine lv_astoreN (lv' := [(7, .null), (6, .null), (0, .ref (ad 0)), (1, .int x1), (2, .int x2), (3, .int x3), (4, .int x4), (5, .int x5)]) hx hb dX7_takes_18 hl (by decide) rfl (fun ls hl => ?_)
      refine lv_aloadN hx hb dX7_takes_20 (lv_at hl 1 rfl) ?_
      refine lv_ifnullN (tgt := 38) hx hb dX7_takes_22 (by decide) ?_
      refine lv_aload_n hx hb dX7_takes_38 rfl (lv_at hl 2 rfl) ?_
      refine lv_iconst (v := (-1)) hx hb dX7_takes_39 (by decide) ?_
      obtain ⟨r7, σ8, hkr7, hf⟩ := bd_e hf
      refine rc_callV (own := RX7) (av := [.int (-1)]) (rest := []) (rv := (some (.int r7))) hx hb hml hown hts hl.1 hV hB 0 (c34 rfl hB) (ceq_0 _ _ _) rfl (cc_X7_refuse l D ad cy z n σ5 (-1) hkr7) (kwc_X7_43  hts ⟨Nat.le_of_ble_eq_true rfl, Nat.le_of_ble_eq_true rfl⟩) rfl rfl (lv_room (Nat.le_of_ble_eq_true rfl)) dX7_takes_40 (Nat.le_refl _) (Nat.le_refl _) (fun H locs hB => ?_)
      refine W.eq (g2 := F0 m 43 ls [.int r7]) rfl ?_
      obtain ⟨rfl, rfl⟩ := so_e hf
      exact rc_iret hx hb hr hlocks hB dX7_takes_43
    · have hf := oc_s hf
      refine lv_astore (lv' := [(7, .ref (ad q6)), (6, .null), (0, .ref (ad 0)), (1, .int x1), (2, .int x2), (3, .int x3), (4, .int x4), (5, .int x5)]) hx hb dX7_takes_18 hl (by decide) rfl (fun ls hl => ?_)
      refine lv_aloadN hx hb dX7_takes_20 (lv_at hl 1 rfl) ?_
      refine lv_ifnullN (tgt := 38) hx hb dX7_takes_22 (by decide) ?_
      refine lv_aload_n hx hb dX7_takes_38 rfl (lv_at hl 2 rfl) ?_
      refine lv_iconst (v := (-1)) hx hb dX7_takes_39 (by decide) ?_
      obtain ⟨r9, σ10, hkr9, hf⟩ := bd_e hf
      refine rc_callV (own := RX7) (av := [.int (-1)]) (rest := []) (rv := (some (.int r9))) hx hb hml hown hts hl.1 hV hB 0 (c34 rfl hB) (ceq_0 _ _ _) rfl (cc_X7_refuse l D ad cy z n σ5 (-1) hkr9) (kwc_X7_43  hts ⟨Nat.le_of_ble_eq_true rfl, Nat.le_of_ble_eq_true rfl⟩) rfl rfl (lv_room (Nat.le_of_ble_eq_true rfl)) dX7_takes_40 (Nat.le_refl _) (Nat.le_refl _) (fun H locs hB => ?_)
      refine W.eq (g2 := F0 m 43 ls [.int r9]) rfl ?_
      obtain ⟨rfl, rfl⟩ := so_e hf
      exact rc_iret hx hb hr hlocks hB dX7_takes_43
  · have hf := oc_s hf
    refine lv_astore (lv' := [(6, .ref (ad q3)), (0, .ref (ad 0)), (1, .int x1), (2, .int x2), (3, .int x3), (4, .int x4), (5, .int x5)]) hx hb dX7_takes_8 hl (by decide) rfl (fun ls hl => ?_)
    refine lv_aload_n hx hb dX7_takes_10 rfl (lv_at hl 1 rfl) ?_
    refine rc_get (own := RX7) hx hb hts inC_7 hown hV hB 0 (c34 rfl hB) (ceq_0 _ _ _) rfl 2 (Nat.le_of_ble_eq_true rfl) qf_X7_23 rfl dX7_takes_11 ?_
    refine lv_iload_n hx hb dX7_takes_14 rfl (lv_at hl 3 rfl) ?_
    obtain ⟨r11, σ12, hkr11, hf⟩ := bd_e hf
    refine rc_callV (own := RX7) (av := [.int x2]) (rest := []) (rv := (some (va_rf (Option.map ad r11)))) hx hb hml hown hts hl.1 hV hB 5 (c34 rfl hB) (ceq_5 _ _ _) rfl (cc_X0_plateAt l D ad cy z n σ2 x2 hkr11) (kwc_X7_69  hts ⟨Nat.le_of_ble_eq_true rfl, Nat.le_of_ble_eq_true rfl⟩) rfl rfl (lv_room (Nat.le_of_ble_eq_true rfl)) dX7_takes_15 (Nat.le_refl _) (Nat.le_refl _) (fun H locs hB => ?_)
    refine W.eq (g2 := F0 m 18 ls [va_rf (Option.map ad r11)]) rfl ?_
    rcases r11 with _ | q13
    · have hf := oc_n hf
      refine lv_astoreN (lv' := [(7, .null), (6, .ref (ad q3)), (0, .ref (ad 0)), (1, .int x1), (2, .int x2), (3, .int x3), (4, .int x4), (5, .int x5)]) hx hb dX7_takes_18 hl (by decide) rfl (fun ls hl => ?_)
      refine lv_aload hx hb dX7_takes_20 (lv_at hl 1 rfl) ?_
      refine lv_ifnull hx hb dX7_takes_22 ?_
      refine lv_aloadN hx hb dX7_takes_25 (lv_at hl 0 rfl) ?_
      refine lv_ifnullN (tgt := 38) hx hb dX7_takes_27 (by decide) ?_
      refine lv_aload_n hx hb dX7_takes_38 rfl (lv_at hl 2 rfl) ?_
      refine lv_iconst (v := (-1)) hx hb dX7_takes_39 (by decide) ?_
      obtain ⟨r14, σ15, hkr14, hf⟩ := bd_e hf
      refine rc_callV (own := RX7) (av := [.int (-1)]) (rest := []) (rv := (some (.int r14))) hx hb hml hown hts hl.1 hV hB 0 (c34 rfl hB) (ceq_0 _ _ _) rfl (cc_X7_refuse l D ad cy z n σ12 (-1) hkr14) (kwc_X7_43  hts ⟨Nat.le_of_ble_eq_true rfl, Nat.le_of_ble_eq_true rfl⟩) rfl rfl (lv_room (Nat.le_of_ble_eq_true rfl)) dX7_takes_40 (Nat.le_refl _) (Nat.le_refl _) (fun H locs hB => ?_)
      refine W.eq (g2 := F0 m 43 ls [.int r14]) rfl ?_
      obtain ⟨rfl, rfl⟩ := so_e hf
      exact rc_iret hx hb hr hlocks hB dX7_takes_43
    · have hf := oc_s hf
      refine lv_astore (lv' := [(7, .ref (ad q13)), (6, .ref (ad q3)), (0, .ref (ad 0)), (1, .int x1), (2, .int x2), (3, .int x3), (4, .int x4), (5, .int x5)]) hx hb dX7_takes_18 hl (by decide) rfl (fun ls hl => ?_)
      refine lv_aload hx hb dX7_takes_20 (lv_at hl 1 rfl) ?_
      refine lv_ifnull hx hb dX7_takes_22 ?_
      refine lv_aload hx hb dX7_takes_25 (lv_at hl 0 rfl) ?_
      refine lv_ifnull hx hb dX7_takes_27 ?_
      refine lv_iload hx hb dX7_takes_30 (lv_at hl 6 rfl) ?_
      obtain ⟨r16, σ17, hkr16, hf⟩ := bd_e hf
      refine rc_callS (own := RX7) (av := [.int x4]) (rest := []) (rv := (some (.int r16))) hx hb hml hown hts hl.1 hV hB (cc_X7_isFloor l D ad cy z n σ12 x4 hkr16) (kwc_X7_128  hts ⟨Nat.le_of_ble_eq_true rfl, Nat.le_of_ble_eq_true rfl⟩) rfl rfl (lv_room (Nat.le_of_ble_eq_true rfl)) dX7_takes_32 (Nat.le_refl _) (Nat.le_refl _) (fun H locs hB => ?_)
      refine W.eq (g2 := F0 m 35 ls [.int r16]) rfl ?_
      refine lv_if_ne (tgt := 44) hx hb dX7_takes_35 (by decide) (fun c18 => ?_) (fun c18 => ?_)
      · have hf := it_f hf c18
        refine lv_iload_n hx hb dX7_takes_44 rfl (lv_at hl 5 rfl) ?_
        refine lv_if_lt (tgt := 53) hx hb dX7_takes_45 (by decide) (fun c19 => ?_) (fun c19 => ?_)
        · have hf := it_t hf c19
          refine lv_aload_n hx hb dX7_takes_53 rfl (lv_at hl 2 rfl) ?_
          refine lv_bipush (v := (-4)) hx hb dX7_takes_54 (by decide) ?_
          obtain ⟨r20, σ21, hkr20, hf⟩ := bd_e hf
          refine rc_callV (own := RX7) (av := [.int (-4)]) (rest := []) (rv := (some (.int r20))) hx hb hml hown hts hl.1 hV hB 0 (c34 rfl hB) (ceq_0 _ _ _) rfl (cc_X7_refuse l D ad cy z n σ17 (-4) hkr20) (kwc_X7_43  hts ⟨Nat.le_of_ble_eq_true rfl, Nat.le_of_ble_eq_true rfl⟩) rfl rfl (lv_room (Nat.le_of_ble_eq_true rfl)) dX7_takes_56 (Nat.le_refl _) (Nat.le_refl _) (fun H locs hB => ?_)
          refine W.eq (g2 := F0 m 59 ls [.int r20]) rfl ?_
          obtain ⟨rfl, rfl⟩ := so_e hf
          exact rc_iret hx hb hr hlocks hB dX7_takes_59
        · have hf := it_f hf c19
          refine lv_iload hx hb dX7_takes_48 (lv_at hl 7 rfl) ?_
          refine lv_if_ge (tgt := 60) hx hb dX7_takes_50 (by decide) (fun c22 => ?_) (fun c22 => ?_)
          · have hf := it_t hf c22
            refine lv_iload_n hx hb dX7_takes_60 rfl (lv_at hl 5 rfl) ?_
            refine lv_sipush (v := 9000) hx hb dX7_takes_61 (by decide) ?_
            refine lv_icmp_gt (tgt := 75) hx hb dX7_takes_64 (by decide) (fun c23 => ?_) (fun c23 => ?_)
            · have hf := it_t hf c23
              refine lv_aload_n hx hb dX7_takes_75 rfl (lv_at hl 2 rfl) ?_
              refine lv_bipush (v := (-6)) hx hb dX7_takes_76 (by decide) ?_
              obtain ⟨r24, σ25, hkr24, hf⟩ := bd_e hf
              refine rc_callV (own := RX7) (av := [.int (-6)]) (rest := []) (rv := (some (.int r24))) hx hb hml hown hts hl.1 hV hB 0 (c34 rfl hB) (ceq_0 _ _ _) rfl (cc_X7_refuse l D ad cy z n σ17 (-6) hkr24) (kwc_X7_43  hts ⟨Nat.le_of_ble_eq_true rfl, Nat.le_of_ble_eq_true rfl⟩) rfl rfl (lv_room (Nat.le_of_ble_eq_true rfl)) dX7_takes_78 (Nat.le_refl _) (Nat.le_refl _) (fun H locs hB => ?_)
              refine W.eq (g2 := F0 m 81 ls [.int r24]) rfl ?_
              obtain ⟨rfl, rfl⟩ := so_e hf
              exact rc_iret hx hb hr hlocks hB dX7_takes_81
            · have hf := it_f hf c23
              refine lv_iload hx hb dX7_takes_67 (lv_at hl 7 rfl) ?_
              refine lv_sipush (v := 9999) hx hb dX7_takes_69 (by decide) ?_
              refine lv_icmp_le (tgt := 82) hx hb dX7_takes_72 (by decide) (fun c26 => ?_) (fun c26 => ?_)
              · have hf := it_t hf c26
                refine lv_aload_n hx hb dX7_takes_82 rfl (lv_at hl 2 rfl) ?_
                refine rc_get (own := RX7) hx hb hts inC_7 hown hV hB 0 (c34 rfl hB) (ceq_0 _ _ _) rfl 4 (Nat.le_of_ble_eq_true rfl) qf_X7_35 rfl dX7_takes_83 ?_
                refine lv_aload hx hb dX7_takes_86 (lv_at hl 0 rfl) ?_
                refine lv_iload_n hx hb dX7_takes_88 rfl (lv_at hl 5 rfl) ?_
                refine lv_iload hx hb dX7_takes_89 (lv_at hl 6 rfl) ?_
                obtain ⟨r27, σ28, hkr27, hf⟩ := bd_e hf
                refine rc_callV (own := RX7) (av := [va_rf (Option.map ad (some q13)), .int x3, .int x4]) (rest := []) (rv := none) hx hb hml hown hts hl.1 hV hB 31 (c34 rfl hB) (ceq_31 _ _ _) rfl (cc_X2_begin l D ad cy z n σ17 (some q13) x3 x4 hkr27) (kwc_X7_151  hts ⟨Nat.le_of_ble_eq_true rfl, Nat.le_of_ble_eq_true rfl⟩) rfl rfl (lv_room (Nat.le_of_ble_eq_true rfl)) dX7_takes_91 (Nat.le_refl _) (Nat.le_refl _) (fun H locs hB => ?_)
                refine W.eq (g2 := F0 m 94 ls []) rfl ?_
                refine lv_aload_n hx hb dX7_takes_94 rfl (lv_at hl 2 rfl) ?_
                refine rc_get (own := RX7) hx hb hts inC_7 hown hV hB 0 (c34 rfl hB) (ceq_0 _ _ _) rfl 4 (Nat.le_of_ble_eq_true rfl) qf_X7_35 rfl dX7_takes_95 ?_
                refine lv_iload hx hb dX7_takes_98 (lv_at hl 7 rfl) ?_
                refine rc_puti (own := RX7) (ty := .int) hx hb hts inC_2 hown hV hB 31 (c34 rfl hB) (ceq_31 _ _ _) rfl 5 (Nat.le_of_ble_eq_true rfl) qf_X7_155 tyX2 tyX2_ok nmX2 (cst_31_5 _ _ _ _) rfl pdc_2_5 rfl rfl (Nat.le_of_ble_eq_true rfl) dX7_takes_100 (fun σ29 eσ29 H locs hB => ?_)
                have hf := sq_e hf σ29 eσ29
                refine lv_aload_n hx hb dX7_takes_103 rfl (lv_at hl 2 rfl) ?_
                refine rc_get (own := RX7) hx hb hts inC_7 hown hV hB 0 (c34 rfl hB) (ceq_0 _ _ _) rfl 4 (Nat.le_of_ble_eq_true rfl) qf_X7_35 rfl dX7_takes_104 ?_
                refine lv_aload hx hb dX7_takes_107 (lv_at hl 1 rfl) ?_
                obtain ⟨r30, σ31, hkr30, hf⟩ := bd_e hf
                refine rc_callV (own := RX7) (av := [.ref (ad q3)]) (rest := []) (rv := (some (.int r30))) hx hb hml hown hts hl.1 hV hB 31 (c34 rfl hB) (ceq_31 _ _ _) rfl (cc_X2_takenBy l D ad cy z n σ29 q3 hkr30) (kwc_X7_158  hts ⟨Nat.le_of_ble_eq_true rfl, Nat.le_of_ble_eq_true rfl⟩) rfl rfl (lv_room (Nat.le_of_ble_eq_true rfl)) dX7_takes_109 (Nat.le_refl _) (Nat.le_refl _) (fun H locs hB => ?_)
                refine W.eq (g2 := F0 m 112 ls [.int r30]) rfl ?_
                obtain ⟨rfl, rfl⟩ := so_e hf
                exact rc_iret hx hb hr hlocks hB dX7_takes_112
              · have hf := it_f hf c26
                refine lv_aload_n hx hb dX7_takes_75 rfl (lv_at hl 2 rfl) ?_
                refine lv_bipush (v := (-6)) hx hb dX7_takes_76 (by decide) ?_
                obtain ⟨r32, σ33, hkr32, hf⟩ := bd_e hf
                refine rc_callV (own := RX7) (av := [.int (-6)]) (rest := []) (rv := (some (.int r32))) hx hb hml hown hts hl.1 hV hB 0 (c34 rfl hB) (ceq_0 _ _ _) rfl (cc_X7_refuse l D ad cy z n σ17 (-6) hkr32) (kwc_X7_43  hts ⟨Nat.le_of_ble_eq_true rfl, Nat.le_of_ble_eq_true rfl⟩) rfl rfl (lv_room (Nat.le_of_ble_eq_true rfl)) dX7_takes_78 (Nat.le_refl _) (Nat.le_refl _) (fun H locs hB => ?_)
                refine W.eq (g2 := F0 m 81 ls [.int r32]) rfl ?_
                obtain ⟨rfl, rfl⟩ := so_e hf
                exact rc_iret hx hb hr hlocks hB dX7_takes_81
          · have hf := it_f hf c22
            refine lv_aload_n hx hb dX7_takes_53 rfl (lv_at hl 2 rfl) ?_
            refine lv_bipush (v := (-4)) hx hb dX7_takes_54 (by decide) ?_
            obtain ⟨r34, σ35, hkr34, hf⟩ := bd_e hf
            refine rc_callV (own := RX7) (av := [.int (-4)]) (rest := []) (rv := (some (.int r34))) hx hb hml hown hts hl.1 hV hB 0 (c34 rfl hB) (ceq_0 _ _ _) rfl (cc_X7_refuse l D ad cy z n σ17 (-4) hkr34) (kwc_X7_43  hts ⟨Nat.le_of_ble_eq_true rfl, Nat.le_of_ble_eq_true rfl⟩) rfl rfl (lv_room (Nat.le_of_ble_eq_true rfl)) dX7_takes_56 (Nat.le_refl _) (Nat.le_refl _) (fun H locs hB => ?_)
            refine W.eq (g2 := F0 m 59 ls [.int r34]) rfl ?_
            obtain ⟨rfl, rfl⟩ := so_e hf
            exact rc_iret hx hb hr hlocks hB dX7_takes_59
      · have hf := it_t hf c18
        refine lv_aload_n hx hb dX7_takes_38 rfl (lv_at hl 2 rfl) ?_
        refine lv_iconst (v := (-1)) hx hb dX7_takes_39 (by decide) ?_
        obtain ⟨r36, σ37, hkr36, hf⟩ := bd_e hf
        refine rc_callV (own := RX7) (av := [.int (-1)]) (rest := []) (rv := (some (.int r36))) hx hb hml hown hts hl.1 hV hB 0 (c34 rfl hB) (ceq_0 _ _ _) rfl (cc_X7_refuse l D ad cy z n σ17 (-1) hkr36) (kwc_X7_43  hts ⟨Nat.le_of_ble_eq_true rfl, Nat.le_of_ble_eq_true rfl⟩) rfl rfl (lv_room (Nat.le_of_ble_eq_true rfl)) dX7_takes_40 (Nat.le_refl _) (Nat.le_refl _) (fun H locs hB => ?_)
        refine W.eq (g2 := F0 m 43 ls [.int r36]) rfl ?_
        obtain ⟨rfl, rfl⟩ := so_e hf
        exact rc_iret hx hb hr hlocks hB dX7_takes_43
theorem cc_X7_takes (l : Launch) (D : va_G) (ad : Nat → Nat) (cy : CY) (z : CZ) (n : Nat) (σ : CS) (x1 : Int32) (x2 : Int32) (x3 : Int32) (x4 : Int32) (x5 : Int32) {r0 : Int32} {σ0 : CS} (hf : fc_X7_takes n σ x1 x2 x3 x4 x5 = some (r0, σ0)) : cM l yX7_takes wn_X7_takes rm_X7_takes D ad cy z [.ref (ad 0), .int x1, .int x2, .int x3, .int x4, .int x5] σ (some (.int r0)) σ0 :=
  rc_met (ret := (some .int)) (by decide) rfl (Nat.le_of_ble_eq_true rfl) (fun p e s m below meth c A ls hc hV hB hl => tbc_X7_takes_0 hc hV n σ x1 x2 x3 x4 x5 hB hl hf)
/-! X7_spin -/
theorem kwc_X7_161 {R : Room} {s : State} {args : Array Value} (hts : ∀ w ∈ wsC, w.before args s = true) (hR : rm_X5_start.frames + 1 ≤ R.frames ∧ 8 + (5 + 11) + rm_X5_start.locals ≤ R.locals) : CallW R s args RX7 RX5 161 yX5_start cX5_start 5 none wn_X5_start rm_X5_start 0 0 4 := cwV 4 hts (gC_v qc_434 qc_435 qc_436 qc_14 qc_437) rfl rfl rfl (by decide +kernel) hR
abbrev rm_X7_spin : Room := { frames := 2, cells := 0, slots := 0, locals := 47 }
abbrev wn_X7_spin : List Cond := .code yX7_spin cX7_spin 7 (some .int) :: wsC
def fc_X7_spin (n : Nat) (σ : CS) (x1 : Int32) (x2 : Int32) (x3 : Int32) : Option ((Int32) × CS) := bd (fc_X0_plateAt n σ x1) (fun r1 σ2 => oc r1 (bd (fc_X7_refuse n σ2 (-1)) (fun r4 σ5 => some (r4, σ5))) (fun q3 => bd (fc_X7_isFloor n σ2 x3) (fun r6 σ7 => if (r6 = 0) then (bd (fc_X7_refuse n σ7 (-1)) (fun r20 σ21 => some (r20, σ21))) else (bd (fc_X7_leanRefusal n σ7 x2) (fun r9 σ10 => if (r9 = 0) then (ck (pk σ10 q3 3) (ck (pk σ10 q3 3) (bd (fc_X7_toneOf n σ10 x2 (σ10.1 q3 1) (σ10.1 q3 4)) (fun r14 σ15 => bd (fc_X5_start n σ15 x1 x2 x3 r14) (fun _ σ17 => some (r14, σ17)))))) else (bd (fc_X7_refuse n σ10 r9) (fun r18 σ19 => some (r18, σ19))))))))
set_option maxRecDepth 100000 in
set_option maxHeartbeats 4000000 in
theorem tbc_X7_spin_0 {p : Program} {l : Launch} {e : Env} {s : State} {m : MethodId} {args : Array Value} {below : List Frame} {meth : Method} {c : Code} {D : va_G} {A : Nat → Prop} {ad : Nat → Nat} {cy : CY} {z : CZ} {r0 : Int32} {σ0 : CS} (hc : cxB RX7 wsC cX7_spin 7 (some .int) p s m args meth c) (hV : cV D cy z A s) (n : Nat) (σ : CS) (x1 : Int32) (x2 : Int32) (x3 : Int32) {H : Heap} {locs : List Loc} {ls : Array Slot} (hB : cB D ad cy A s.heap σ H locs) (hl : lv_has ls 7 [(0, .ref (ad 0)), (1, .int x1), (2, .int x2), (3, .int x3)]) (hf : fc_X7_spin n σ x1 x2 x3 = some (r0, σ0)) : W p l e rm_X7_spin s m args below meth c H locs 0 0 (MQ below (cQ D ad cy A (some (.int r0)) σ0) args s 0 0 A) (F0 m 0 ls []) := by
  obtain ⟨hx, hb, hml, hown, hts, hr, hlocks⟩ := id hc
  unfold fc_X7_spin at hf
  refine lv_aload_n hx hb dX7_spin_0 rfl (lv_at hl 0 rfl) ?_
  refine rc_get (own := RX7) hx hb hts inC_7 hown hV hB 0 (c34 rfl hB) (ceq_0 _ _ _) rfl 2 (Nat.le_of_ble_eq_true rfl) qf_X7_23 rfl dX7_spin_1 ?_
  refine lv_iload_n hx hb dX7_spin_4 rfl (lv_at hl 1 rfl) ?_
  obtain ⟨r1, σ2, hkr1, hf⟩ := bd_e hf
  refine rc_callV (own := RX7) (av := [.int x1]) (rest := []) (rv := (some (va_rf (Option.map ad r1)))) hx hb hml hown hts hl.1 hV hB 5 (c34 rfl hB) (ceq_5 _ _ _) rfl (cc_X0_plateAt l D ad cy z n σ x1 hkr1) (kwc_X7_69  hts ⟨Nat.le_of_ble_eq_true rfl, Nat.le_of_ble_eq_true rfl⟩) rfl rfl (lv_room (Nat.le_of_ble_eq_true rfl)) dX7_spin_5 (Nat.le_refl _) (Nat.le_refl _) (fun H locs hB => ?_)
  refine W.eq (g2 := F0 m 8 ls [va_rf (Option.map ad r1)]) rfl ?_
  rcases r1 with _ | q3
  · have hf := oc_n hf
    refine lv_astoreN (lv' := [(4, .null), (0, .ref (ad 0)), (1, .int x1), (2, .int x2), (3, .int x3)]) hx hb dX7_spin_8 hl (by decide) rfl (fun ls hl => ?_)
    refine lv_aloadN hx hb dX7_spin_10 (lv_at hl 0 rfl) ?_
    refine lv_ifnullN (tgt := 22) hx hb dX7_spin_12 (by decide) ?_
    refine lv_aload_n hx hb dX7_spin_22 rfl (lv_at hl 1 rfl) ?_
    refine lv_iconst (v := (-1)) hx hb dX7_spin_23 (by decide) ?_
    obtain ⟨r4, σ5, hkr4, hf⟩ := bd_e hf
    refine rc_callV (own := RX7) (av := [.int (-1)]) (rest := []) (rv := (some (.int r4))) hx hb hml hown hts hl.1 hV hB 0 (c34 rfl hB) (ceq_0 _ _ _) rfl (cc_X7_refuse l D ad cy z n σ2 (-1) hkr4) (kwc_X7_43  hts ⟨Nat.le_of_ble_eq_true rfl, Nat.le_of_ble_eq_true rfl⟩) rfl rfl (lv_room (Nat.le_of_ble_eq_true rfl)) dX7_spin_24 (Nat.le_refl _) (Nat.le_refl _) (fun H locs hB => ?_)
    refine W.eq (g2 := F0 m 27 ls [.int r4]) rfl ?_
    obtain ⟨rfl, rfl⟩ := so_e hf
    exact rc_iret hx hb hr hlocks hB dX7_spin_27
  · have hf := oc_s hf
    refine lv_astore (lv' := [(4, .ref (ad q3)), (0, .ref (ad 0)), (1, .int x1), (2, .int x2), (3, .int x3)]) hx hb dX7_spin_8 hl (by decide) rfl (fun ls hl => ?_)
    refine lv_aload hx hb dX7_spin_10 (lv_at hl 0 rfl) ?_
    refine lv_ifnull hx hb dX7_spin_12 ?_
    refine lv_iload_n hx hb dX7_spin_15 rfl (lv_at hl 4 rfl) ?_
    obtain ⟨r6, σ7, hkr6, hf⟩ := bd_e hf
    refine rc_callS (own := RX7) (av := [.int x3]) (rest := []) (rv := (some (.int r6))) hx hb hml hown hts hl.1 hV hB (cc_X7_isFloor l D ad cy z n σ2 x3 hkr6) (kwc_X7_128  hts ⟨Nat.le_of_ble_eq_true rfl, Nat.le_of_ble_eq_true rfl⟩) rfl rfl (lv_room (Nat.le_of_ble_eq_true rfl)) dX7_spin_16 (Nat.le_refl _) (Nat.le_refl _) (fun H locs hB => ?_)
    refine W.eq (g2 := F0 m 19 ls [.int r6]) rfl ?_
    refine lv_if_ne (tgt := 28) hx hb dX7_spin_19 (by decide) (fun c8 => ?_) (fun c8 => ?_)
    · have hf := it_f hf c8
      refine lv_iload_n hx hb dX7_spin_28 rfl (lv_at hl 3 rfl) ?_
      obtain ⟨r9, σ10, hkr9, hf⟩ := bd_e hf
      refine rc_callS (own := RX7) (av := [.int x2]) (rest := []) (rv := (some (.int r9))) hx hb hml hown hts hl.1 hV hB (cc_X7_leanRefusal l D ad cy z n σ7 x2 hkr9) (kwc_X7_144  hts ⟨Nat.le_of_ble_eq_true rfl, Nat.le_of_ble_eq_true rfl⟩) rfl rfl (lv_room (Nat.le_of_ble_eq_true rfl)) dX7_spin_29 (Nat.le_refl _) (Nat.le_refl _) (fun H locs hB => ?_)
      refine W.eq (g2 := F0 m 32 ls [.int r9]) rfl ?_
      refine lv_istore (lv' := [(5, .int r9), (4, .ref (ad q3)), (0, .ref (ad 0)), (1, .int x1), (2, .int x2), (3, .int x3)]) hx hb dX7_spin_32 hl (by decide) rfl (fun ls hl => ?_)
      refine lv_iload hx hb dX7_spin_34 (lv_at hl 0 rfl) ?_
      refine lv_if_eq (tgt := 46) hx hb dX7_spin_36 (by decide) (fun c11 => ?_) (fun c11 => ?_)
      · have hf := it_t hf c11
        refine lv_iload_n hx hb dX7_spin_46 rfl (lv_at hl 4 rfl) ?_
        refine lv_aload hx hb dX7_spin_47 (lv_at hl 1 rfl) ?_
        obtain ⟨k12, hf⟩ := ck_e hf
        refine rc_get (own := RX7) hx hb hts inC_3 hown hV hB q3 (pk_s k12).2.1 (ceq_P k12) rfl 1 (Nat.le_of_ble_eq_true rfl) qf_X7_78 rfl dX7_spin_49 ?_
        refine lv_aload hx hb dX7_spin_52 (lv_at hl 1 rfl) ?_
        obtain ⟨k13, hf⟩ := ck_e hf
        refine rc_get (own := RX7) hx hb hts inC_3 hown hV hB q3 (pk_s k13).2.1 (ceq_P k13) rfl 4 (Nat.le_of_ble_eq_true rfl) qf_X7_87 rfl dX7_spin_54 ?_
        obtain ⟨r14, σ15, hkr14, hf⟩ := bd_e hf
        refine rc_callS (own := RX7) (av := [.int x2, .int (σ10.1 q3 1), .int (σ10.1 q3 4)]) (rest := []) (rv := (some (.int r14))) hx hb hml hown hts hl.1 hV hB (cc_X7_toneOf l D ad cy z n σ10 x2 (σ10.1 q3 1) (σ10.1 q3 4) hkr14) (kwc_X7_147  hts ⟨Nat.le_of_ble_eq_true rfl, Nat.le_of_ble_eq_true rfl⟩) rfl rfl (lv_room (Nat.le_of_ble_eq_true rfl)) dX7_spin_57 (Nat.le_refl _) (Nat.le_refl _) (fun H locs hB => ?_)
        refine W.eq (g2 := F0 m 60 ls [.int r14]) rfl ?_
        refine lv_istore (lv' := [(6, .int r14), (5, .int r9), (4, .ref (ad q3)), (0, .ref (ad 0)), (1, .int x1), (2, .int x2), (3, .int x3)]) hx hb dX7_spin_60 hl (by decide) rfl (fun ls hl => ?_)
        refine lv_aload_n hx hb dX7_spin_62 rfl (lv_at hl 3 rfl) ?_
        refine rc_get (own := RX7) hx hb hts inC_7 hown hV hB 0 (c34 rfl hB) (ceq_0 _ _ _) rfl 2 (Nat.le_of_ble_eq_true rfl) qf_X7_23 rfl dX7_spin_63 ?_
        refine rc_get (own := RX7) hx hb hts inC_0 hown hV hB 5 (c34 rfl hB) (ceq_5 _ _ _) rfl 6 (Nat.le_of_ble_eq_true rfl) qf_X7_119 rfl dX7_spin_66 ?_
        refine lv_iload_n hx hb dX7_spin_69 rfl (lv_at hl 4 rfl) ?_
        refine lv_iload_n hx hb dX7_spin_70 rfl (lv_at hl 5 rfl) ?_
        refine lv_iload_n hx hb dX7_spin_71 rfl (lv_at hl 6 rfl) ?_
        refine lv_iload hx hb dX7_spin_72 (lv_at hl 0 rfl) ?_
        obtain ⟨r16, σ17, hkr16, hf⟩ := bd_e hf
        refine rc_callV (own := RX7) (av := [.int x1, .int x2, .int x3, .int r14]) (rest := []) (rv := none) hx hb hml hown hts hl.1 hV hB 12 (c34 rfl hB) (ceq_12 _ _ _) rfl (cc_X5_start l D ad cy z n σ15 x1 x2 x3 r14 hkr16) (kwc_X7_161  hts ⟨Nat.le_of_ble_eq_true rfl, Nat.le_of_ble_eq_true rfl⟩) rfl rfl (lv_room (Nat.le_of_ble_eq_true rfl)) dX7_spin_74 (Nat.le_refl _) (Nat.le_refl _) (fun H locs hB => ?_)
        refine W.eq (g2 := F0 m 77 ls []) rfl ?_
        refine lv_iload hx hb dX7_spin_77 (lv_at hl 0 rfl) ?_
        obtain ⟨rfl, rfl⟩ := so_e hf
        exact rc_iret hx hb hr hlocks hB dX7_spin_79
      · have hf := it_f hf c11
        refine lv_aload_n hx hb dX7_spin_39 rfl (lv_at hl 2 rfl) ?_
        refine lv_iload hx hb dX7_spin_40 (lv_at hl 0 rfl) ?_
        obtain ⟨r18, σ19, hkr18, hf⟩ := bd_e hf
        refine rc_callV (own := RX7) (av := [.int r9]) (rest := []) (rv := (some (.int r18))) hx hb hml hown hts hl.1 hV hB 0 (c34 rfl hB) (ceq_0 _ _ _) rfl (cc_X7_refuse l D ad cy z n σ10 r9 hkr18) (kwc_X7_43  hts ⟨Nat.le_of_ble_eq_true rfl, Nat.le_of_ble_eq_true rfl⟩) rfl rfl (lv_room (Nat.le_of_ble_eq_true rfl)) dX7_spin_42 (Nat.le_refl _) (Nat.le_refl _) (fun H locs hB => ?_)
        refine W.eq (g2 := F0 m 45 ls [.int r18]) rfl ?_
        obtain ⟨rfl, rfl⟩ := so_e hf
        exact rc_iret hx hb hr hlocks hB dX7_spin_45
    · have hf := it_t hf c8
      refine lv_aload_n hx hb dX7_spin_22 rfl (lv_at hl 1 rfl) ?_
      refine lv_iconst (v := (-1)) hx hb dX7_spin_23 (by decide) ?_
      obtain ⟨r20, σ21, hkr20, hf⟩ := bd_e hf
      refine rc_callV (own := RX7) (av := [.int (-1)]) (rest := []) (rv := (some (.int r20))) hx hb hml hown hts hl.1 hV hB 0 (c34 rfl hB) (ceq_0 _ _ _) rfl (cc_X7_refuse l D ad cy z n σ7 (-1) hkr20) (kwc_X7_43  hts ⟨Nat.le_of_ble_eq_true rfl, Nat.le_of_ble_eq_true rfl⟩) rfl rfl (lv_room (Nat.le_of_ble_eq_true rfl)) dX7_spin_24 (Nat.le_refl _) (Nat.le_refl _) (fun H locs hB => ?_)
      refine W.eq (g2 := F0 m 27 ls [.int r20]) rfl ?_
      obtain ⟨rfl, rfl⟩ := so_e hf
      exact rc_iret hx hb hr hlocks hB dX7_spin_27
theorem cc_X7_spin (l : Launch) (D : va_G) (ad : Nat → Nat) (cy : CY) (z : CZ) (n : Nat) (σ : CS) (x1 : Int32) (x2 : Int32) (x3 : Int32) {r0 : Int32} {σ0 : CS} (hf : fc_X7_spin n σ x1 x2 x3 = some (r0, σ0)) : cM l yX7_spin wn_X7_spin rm_X7_spin D ad cy z [.ref (ad 0), .int x1, .int x2, .int x3] σ (some (.int r0)) σ0 :=
  rc_met (ret := (some .int)) (by decide) rfl (Nat.le_of_ble_eq_true rfl) (fun p e s m below meth c A ls hc hV hB hl => tbc_X7_spin_0 hc hV n σ x1 x2 x3 hB hl hf)
/-! X7_tick -/
theorem kwc_X7_181 {R : Room} {s : State} {args : Array Value} (hts : ∀ w ∈ wsC, w.before args s = true) (hR : rm_X2_advance.frames + 1 ≤ R.frames ∧ 8 + (6 + 11) + rm_X2_advance.locals ≤ R.locals) : CallW R s args RX7 RX2 181 yX2_advance cX2_advance 6 none wn_X2_advance rm_X2_advance 0 0 0 := cwV 0 hts (gC_v qc_444 qc_136 qc_137 qc_108 qc_134) rfl rfl rfl (by decide +kernel) hR
theorem kwc_X7_184 {R : Room} {s : State} {args : Array Value} (hts : ∀ w ∈ wsC, w.before args s = true) (hR : rm_X5_follow.frames + 1 ≤ R.frames ∧ 8 + (2 + 11) + rm_X5_follow.locals ≤ R.locals) : CallW R s args RX7 RX5 184 yX5_follow cX5_follow 2 none wn_X5_follow rm_X5_follow 0 0 1 := cwV 1 hts (gC_v qc_445 qc_446 qc_447 qc_14 qc_448) rfl rfl rfl (by decide +kernel) hR
abbrev rm_X7_tick : Room := { frames := 4, cells := 0, slots := 0, locals := 133 }
abbrev wn_X7_tick : List Cond := .code yX7_tick cX7_tick 4 (some .int) :: wsC
def bc_X7_tick_87 (n : Nat) (K87 : CS → Int32 → Int32 → Option ((Int32) × CS)) (σ : CS) (x1 : Int32) (x3 : Int32) : Option ((Int32) × CS) := if (x1 ≤ x3) then (some ((σ.1 12 7), σ)) else (if ((σ.1 12 7) = 0) then (bd (fc_X2_advance n σ) (fun _ σ4 => bd (fc_X5_follow n σ4) (fun _ σ6 => sq (x3 + 1 : Int32) (fun y7 => K87 σ6 x1 y7)))) else (some ((σ.1 12 7), σ)))
set_option maxRecDepth 100000 in
set_option maxHeartbeats 4000000 in
theorem tbc_X7_tick_87 {p : Program} {l : Launch} {e : Env} {s : State} {m : MethodId} {args : Array Value} {below : List Frame} {meth : Method} {c : Code} {D : va_G} {A : Nat → Prop} {ad : Nat → Nat} {cy : CY} {z : CZ} {r0 : Int32} {σ0 : CS} (hc : cxB RX7 wsC cX7_tick 4 (some .int) p s m args meth c) (hV : cV D cy z A s) (n : Nat) (K87 : CS → Int32 → Int32 → Option ((Int32) × CS)) (hK87 : ∀ (σ : CS) (x1 : Int32) (x3 : Int32) (H : Heap) (locs : List Loc) (ls : Array Slot), cB D ad cy A s.heap σ H locs → lv_has ls 4 [(0, .ref (ad 0)), (1, .int x1), (2, .ref (ad 12)), (3, .int x3)] → K87 σ x1 x3 = some (r0, σ0) → W p l e rm_X7_tick s m args below meth c H locs 0 0 (MQ below (cQ D ad cy A (some (.int r0)) σ0) args s 0 0 A) (F0 m 87 ls [])) (σ : CS) (x1 : Int32) (x3 : Int32) {H : Heap} {locs : List Loc} {ls : Array Slot} (hB : cB D ad cy A s.heap σ H locs) (hl : lv_has ls 4 [(0, .ref (ad 0)), (1, .int x1), (2, .ref (ad 12)), (3, .int x3)]) (hf : bc_X7_tick_87 n K87 σ x1 x3 = some (r0, σ0)) : W p l e rm_X7_tick s m args below meth c H locs 0 0 (MQ below (cQ D ad cy A (some (.int r0)) σ0) args s 0 0 A) (F0 m 87 ls []) := by
  obtain ⟨hx, hb, hml, hown, hts, hr, hlocks⟩ := id hc
  unfold bc_X7_tick_87 at hf
  refine lv_iload_n hx hb dX7_tick_87 rfl (lv_at hl 3 rfl) ?_
  refine lv_iload_n hx hb dX7_tick_88 rfl (lv_at hl 1 rfl) ?_
  refine lv_icmp_ge (tgt := 120) hx hb dX7_tick_89 (by decide) (fun c1 => ?_) (fun c1 => ?_)
  · have hf := it_t hf c1
    refine lv_aload_n hx hb dX7_tick_120 rfl (lv_at hl 2 rfl) ?_
    refine rc_get (own := RX7) hx hb hts inC_5 hown hV hB 12 (c34 rfl hB) (ceq_12 _ _ _) rfl 7 (Nat.le_of_ble_eq_true rfl) qf_X7_178 rfl dX7_tick_121 ?_
    obtain ⟨rfl, rfl⟩ := so_e hf
    exact rc_iret hx hb hr hlocks hB dX7_tick_124
  · have hf := it_f hf c1
    refine lv_aload_n hx hb dX7_tick_92 rfl (lv_at hl 2 rfl) ?_
    refine rc_get (own := RX7) hx hb hts inC_5 hown hV hB 12 (c34 rfl hB) (ceq_12 _ _ _) rfl 7 (Nat.le_of_ble_eq_true rfl) qf_X7_178 rfl dX7_tick_93 ?_
    refine lv_if_ne (tgt := 120) hx hb dX7_tick_96 (by decide) (fun c2 => ?_) (fun c2 => ?_)
    · have hf := it_f hf c2
      refine lv_aload_n hx hb dX7_tick_120 rfl (lv_at hl 2 rfl) ?_
      refine rc_get (own := RX7) hx hb hts inC_5 hown hV hB 12 (c34 rfl hB) (ceq_12 _ _ _) rfl 7 (Nat.le_of_ble_eq_true rfl) qf_X7_178 rfl dX7_tick_121 ?_
      obtain ⟨rfl, rfl⟩ := so_e hf
      exact rc_iret hx hb hr hlocks hB dX7_tick_124
    · have hf := it_t hf c2
      refine lv_aload_n hx hb dX7_tick_99 rfl (lv_at hl 0 rfl) ?_
      refine rc_get (own := RX7) hx hb hts inC_7 hown hV hB 0 (c34 rfl hB) (ceq_0 _ _ _) rfl 4 (Nat.le_of_ble_eq_true rfl) qf_X7_35 rfl dX7_tick_100 ?_
      obtain ⟨r3, σ4, hkr3, hf⟩ := bd_e hf
      refine rc_callV (own := RX7) (av := []) (rest := []) (rv := none) hx hb hml hown hts hl.1 hV hB 31 (c34 rfl hB) (ceq_31 _ _ _) rfl (cc_X2_advance l D ad cy z n σ hkr3) (kwc_X7_181  hts ⟨Nat.le_of_ble_eq_true rfl, Nat.le_of_ble_eq_true rfl⟩) rfl rfl (lv_room (Nat.le_of_ble_eq_true rfl)) dX7_tick_103 (Nat.le_refl _) (Nat.le_refl _) (fun H locs hB => ?_)
      refine W.eq (g2 := F0 m 106 ls []) rfl ?_
      refine lv_aload_n hx hb dX7_tick_106 rfl (lv_at hl 2 rfl) ?_
      refine lv_aload_n hx hb dX7_tick_107 rfl (lv_at hl 0 rfl) ?_
      refine rc_get (own := RX7) hx hb hts inC_7 hown hV hB 0 (c34 rfl hB) (ceq_0 _ _ _) rfl 4 (Nat.le_of_ble_eq_true rfl) qf_X7_35 rfl dX7_tick_108 ?_
      obtain ⟨r5, σ6, hkr5, hf⟩ := bd_e hf
      refine rc_callV (own := RX7) (av := [.ref (ad 31)]) (rest := []) (rv := none) hx hb hml hown hts hl.1 hV hB 12 (c34 rfl hB) (ceq_12 _ _ _) rfl (cc_X5_follow l D ad cy z n σ4 hkr5) (kwc_X7_184  hts ⟨Nat.le_of_ble_eq_true rfl, Nat.le_of_ble_eq_true rfl⟩) rfl rfl (lv_room (Nat.le_of_ble_eq_true rfl)) dX7_tick_111 (Nat.le_refl _) (Nat.le_refl _) (fun H locs hB => ?_)
      refine W.eq (g2 := F0 m 114 ls []) rfl ?_
      obtain ⟨y7, ey7⟩ : ∃ z : Int32, z = x3 + 1 := ⟨_, rfl⟩
      have hf := sq_e hf y7 ey7
      refine lv_iinc (v := y7) (lv' := [(3, .int y7), (0, .ref (ad 0)), (1, .int x1), (2, .ref (ad 12))]) hx hb dX7_tick_114 hl (k := 3) rfl (by rw [ey7]; rfl) (by decide) rfl (fun ls hl => ?_)
      refine lv_goto (tgt := 87) hx hb dX7_tick_117 (by decide) ?_
      exact hK87 σ6 x1 y7 _ _ _ hB (lv_sub hl [1, 2, 3, 0] rfl) hf
def lc_X7_tick_87 (n : Nat) : Nat → CS → Int32 → Int32 → Option ((Int32) × CS)
  | 0 => fun _ _ _ => none
  | k + 1 => bc_X7_tick_87 n (lc_X7_tick_87 n k)
theorem tlc_X7_tick_87 {p : Program} {l : Launch} {e : Env} {s : State} {m : MethodId} {args : Array Value} {below : List Frame} {meth : Method} {c : Code} {D : va_G} {A : Nat → Prop} {ad : Nat → Nat} {cy : CY} {z : CZ} {r0 : Int32} {σ0 : CS} (hc : cxB RX7 wsC cX7_tick 4 (some .int) p s m args meth c) (hV : cV D cy z A s) (n : Nat) : ∀ (k : Nat) (σ : CS) (x1 : Int32) (x3 : Int32) (H : Heap) (locs : List Loc) (ls : Array Slot), cB D ad cy A s.heap σ H locs → lv_has ls 4 [(0, .ref (ad 0)), (1, .int x1), (2, .ref (ad 12)), (3, .int x3)] → lc_X7_tick_87 n k σ x1 x3 = some (r0, σ0) → W p l e rm_X7_tick s m args below meth c H locs 0 0 (MQ below (cQ D ad cy A (some (.int r0)) σ0) args s 0 0 A) (F0 m 87 ls []) := by
  intro k
  induction k with
  | zero =>
    intro σ x1 x3 H locs ls hB hl hf
    have hf : (none : Option ((Int32) × CS)) = some (r0, σ0) := hf
    cases hf
  | succ k ih =>
    intro σ x1 x3 H locs ls hB hl hf
    exact tbc_X7_tick_87 hc hV n (lc_X7_tick_87 n k) ih σ x1 x3 hB hl hf
def fc_X7_tick (n : Nat) (σ : CS) (x1 : Int32) : Option ((Int32) × CS) := if ((σ.1 12 0) = 0) then (bd (fc_X7_refuse n σ (-3)) (fun r14 σ15 => some (r14, σ15))) else (if (1 ≤ x1) then (if (x1 ≤ 999) then (bd (fc_X0_plateAt n σ (σ.1 12 1)) (fun r4 σ5 => bd (fc_X2_begin n σ5 r4 (σ5.1 12 4) (σ5.1 12 3)) (fun _ σ7 => sq (cp σ7 31 5 (σ7.1 12 6)) (fun σ8 => sq (0 : Int32) (fun y9 => lc_X7_tick_87 n n σ8 x1 y9))))) else (bd (fc_X7_refuse n σ (-6)) (fun r10 σ11 => some (r10, σ11)))) else (bd (fc_X7_refuse n σ (-4)) (fun r12 σ13 => some (r12, σ13))))
set_option maxRecDepth 100000 in
set_option maxHeartbeats 4000000 in
theorem tbc_X7_tick_0 {p : Program} {l : Launch} {e : Env} {s : State} {m : MethodId} {args : Array Value} {below : List Frame} {meth : Method} {c : Code} {D : va_G} {A : Nat → Prop} {ad : Nat → Nat} {cy : CY} {z : CZ} {r0 : Int32} {σ0 : CS} (hc : cxB RX7 wsC cX7_tick 4 (some .int) p s m args meth c) (hV : cV D cy z A s) (n : Nat) (σ : CS) (x1 : Int32) {H : Heap} {locs : List Loc} {ls : Array Slot} (hB : cB D ad cy A s.heap σ H locs) (hl : lv_has ls 4 [(0, .ref (ad 0)), (1, .int x1)]) (hf : fc_X7_tick n σ x1 = some (r0, σ0)) : W p l e rm_X7_tick s m args below meth c H locs 0 0 (MQ below (cQ D ad cy A (some (.int r0)) σ0) args s 0 0 A) (F0 m 0 ls []) := by
  obtain ⟨hx, hb, hml, hown, hts, hr, hlocks⟩ := id hc
  unfold fc_X7_tick at hf
  refine lv_aload_n hx hb dX7_tick_0 rfl (lv_at hl 0 rfl) ?_
  refine rc_get (own := RX7) hx hb hts inC_7 hown hV hB 0 (c34 rfl hB) (ceq_0 _ _ _) rfl 2 (Nat.le_of_ble_eq_true rfl) qf_X7_23 rfl dX7_tick_1 ?_
  refine rc_get (own := RX7) hx hb hts inC_0 hown hV hB 5 (c34 rfl hB) (ceq_5 _ _ _) rfl 6 (Nat.le_of_ble_eq_true rfl) qf_X7_119 rfl dX7_tick_4 ?_
  refine lv_astore_n (lv' := [(2, .ref (ad 12)), (0, .ref (ad 0)), (1, .int x1)]) hx hb dX7_tick_7 rfl hl (by decide) rfl (fun ls hl => ?_)
  refine lv_aload_n hx hb dX7_tick_8 rfl (lv_at hl 0 rfl) ?_
  refine rc_get (own := RX7) hx hb hts inC_5 hown hV hB 12 (c34 rfl hB) (ceq_12 _ _ _) rfl 0 (Nat.le_of_ble_eq_true rfl) qf_X7_165 rfl dX7_tick_9 ?_
  refine lv_if_ne (tgt := 22) hx hb dX7_tick_12 (by decide) (fun c1 => ?_) (fun c1 => ?_)
  · have hf := it_f hf c1
    refine lv_iload_n hx hb dX7_tick_22 rfl (lv_at hl 2 rfl) ?_
    refine lv_iconst (v := 1) hx hb dX7_tick_23 (by decide) ?_
    refine lv_icmp_ge (tgt := 34) hx hb dX7_tick_24 (by decide) (fun c2 => ?_) (fun c2 => ?_)
    · have hf := it_t hf c2
      refine lv_iload_n hx hb dX7_tick_34 rfl (lv_at hl 2 rfl) ?_
      refine lv_sipush (v := 999) hx hb dX7_tick_35 (by decide) ?_
      refine lv_icmp_le (tgt := 48) hx hb dX7_tick_38 (by decide) (fun c3 => ?_) (fun c3 => ?_)
      · have hf := it_t hf c3
        refine lv_aload_n hx hb dX7_tick_48 rfl (lv_at hl 1 rfl) ?_
        refine rc_get (own := RX7) hx hb hts inC_7 hown hV hB 0 (c34 rfl hB) (ceq_0 _ _ _) rfl 4 (Nat.le_of_ble_eq_true rfl) qf_X7_35 rfl dX7_tick_49 ?_
        refine lv_aload_n hx hb dX7_tick_52 rfl (lv_at hl 1 rfl) ?_
        refine rc_get (own := RX7) hx hb hts inC_7 hown hV hB 0 (c34 rfl hB) (ceq_0 _ _ _) rfl 2 (Nat.le_of_ble_eq_true rfl) qf_X7_23 rfl dX7_tick_53 ?_
        refine lv_aload_n hx hb dX7_tick_56 rfl (lv_at hl 0 rfl) ?_
        refine rc_get (own := RX7) hx hb hts inC_5 hown hV hB 12 (c34 rfl hB) (ceq_12 _ _ _) rfl 1 (Nat.le_of_ble_eq_true rfl) qf_X7_168 rfl dX7_tick_57 ?_
        obtain ⟨r4, σ5, hkr4, hf⟩ := bd_e hf
        refine rc_callV (own := RX7) (av := [.int (σ.1 12 1)]) (rest := [.ref (ad 31)]) (rv := (some (va_rf (Option.map ad r4)))) hx hb hml hown hts hl.1 hV hB 5 (c34 rfl hB) (ceq_5 _ _ _) rfl (cc_X0_plateAt l D ad cy z n σ (σ.1 12 1) hkr4) (kwc_X7_69  hts ⟨Nat.le_of_ble_eq_true rfl, Nat.le_of_ble_eq_true rfl⟩) rfl rfl (lv_room (Nat.le_of_ble_eq_true rfl)) dX7_tick_60 (Nat.le_refl _) (Nat.le_refl _) (fun H locs hB => ?_)
        refine W.eq (g2 := F0 m 63 ls [va_rf (Option.map ad r4), .ref (ad 31)]) rfl ?_
        refine lv_aload_n hx hb dX7_tick_63 rfl (lv_at hl 0 rfl) ?_
        refine rc_get (own := RX7) hx hb hts inC_5 hown hV hB 12 (c34 rfl hB) (ceq_12 _ _ _) rfl 4 (Nat.le_of_ble_eq_true rfl) qf_X7_171 rfl dX7_tick_64 ?_
        refine lv_aload_n hx hb dX7_tick_67 rfl (lv_at hl 0 rfl) ?_
        refine rc_get (own := RX7) hx hb hts inC_5 hown hV hB 12 (c34 rfl hB) (ceq_12 _ _ _) rfl 3 (Nat.le_of_ble_eq_true rfl) qf_X7_174 rfl dX7_tick_68 ?_
        obtain ⟨r6, σ7, hkr6, hf⟩ := bd_e hf
        refine rc_callV (own := RX7) (av := [va_rf (Option.map ad r4), .int (σ5.1 12 4), .int (σ5.1 12 3)]) (rest := []) (rv := none) hx hb hml hown hts hl.1 hV hB 31 (c34 rfl hB) (ceq_31 _ _ _) rfl (cc_X2_begin l D ad cy z n σ5 r4 (σ5.1 12 4) (σ5.1 12 3) hkr6) (kwc_X7_151  hts ⟨Nat.le_of_ble_eq_true rfl, Nat.le_of_ble_eq_true rfl⟩) rfl rfl (lv_room (Nat.le_of_ble_eq_true rfl)) dX7_tick_71 (Nat.le_refl _) (Nat.le_refl _) (fun H locs hB => ?_)
        refine W.eq (g2 := F0 m 74 ls []) rfl ?_
        refine lv_aload_n hx hb dX7_tick_74 rfl (lv_at hl 1 rfl) ?_
        refine rc_get (own := RX7) hx hb hts inC_7 hown hV hB 0 (c34 rfl hB) (ceq_0 _ _ _) rfl 4 (Nat.le_of_ble_eq_true rfl) qf_X7_35 rfl dX7_tick_75 ?_
        refine lv_aload_n hx hb dX7_tick_78 rfl (lv_at hl 0 rfl) ?_
        refine rc_get (own := RX7) hx hb hts inC_5 hown hV hB 12 (c34 rfl hB) (ceq_12 _ _ _) rfl 6 (Nat.le_of_ble_eq_true rfl) qf_X7_177 rfl dX7_tick_79 ?_
        refine rc_puti (own := RX7) (ty := .int) hx hb hts inC_2 hown hV hB 31 (c34 rfl hB) (ceq_31 _ _ _) rfl 5 (Nat.le_of_ble_eq_true rfl) qf_X7_155 tyX2 tyX2_ok nmX2 (cst_31_5 _ _ _ _) rfl pdc_2_5 rfl rfl (Nat.le_of_ble_eq_true rfl) dX7_tick_82 (fun σ8 eσ8 H locs hB => ?_)
        have hf := sq_e hf σ8 eσ8
        refine lv_iconst (v := 0) hx hb dX7_tick_85 (by decide) ?_
        refine lv_topi (fun y9 ey9 => ?_)
        have hf := sq_e hf y9 ey9
        refine lv_istore_n (lv' := [(3, .int y9), (2, .ref (ad 12)), (0, .ref (ad 0)), (1, .int x1)]) hx hb dX7_tick_86 rfl hl (by decide) rfl (fun ls hl => ?_)
        exact tlc_X7_tick_87 hc hV n n σ8 x1 y9 _ _ _ hB (lv_sub hl [2, 3, 1, 0] rfl) hf
      · have hf := it_f hf c3
        refine lv_aload_n hx hb dX7_tick_41 rfl (lv_at hl 1 rfl) ?_
        refine lv_bipush (v := (-6)) hx hb dX7_tick_42 (by decide) ?_
        obtain ⟨r10, σ11, hkr10, hf⟩ := bd_e hf
        refine rc_callV (own := RX7) (av := [.int (-6)]) (rest := []) (rv := (some (.int r10))) hx hb hml hown hts hl.1 hV hB 0 (c34 rfl hB) (ceq_0 _ _ _) rfl (cc_X7_refuse l D ad cy z n σ (-6) hkr10) (kwc_X7_43  hts ⟨Nat.le_of_ble_eq_true rfl, Nat.le_of_ble_eq_true rfl⟩) rfl rfl (lv_room (Nat.le_of_ble_eq_true rfl)) dX7_tick_44 (Nat.le_refl _) (Nat.le_refl _) (fun H locs hB => ?_)
        refine W.eq (g2 := F0 m 47 ls [.int r10]) rfl ?_
        obtain ⟨rfl, rfl⟩ := so_e hf
        exact rc_iret hx hb hr hlocks hB dX7_tick_47
    · have hf := it_f hf c2
      refine lv_aload_n hx hb dX7_tick_27 rfl (lv_at hl 1 rfl) ?_
      refine lv_bipush (v := (-4)) hx hb dX7_tick_28 (by decide) ?_
      obtain ⟨r12, σ13, hkr12, hf⟩ := bd_e hf
      refine rc_callV (own := RX7) (av := [.int (-4)]) (rest := []) (rv := (some (.int r12))) hx hb hml hown hts hl.1 hV hB 0 (c34 rfl hB) (ceq_0 _ _ _) rfl (cc_X7_refuse l D ad cy z n σ (-4) hkr12) (kwc_X7_43  hts ⟨Nat.le_of_ble_eq_true rfl, Nat.le_of_ble_eq_true rfl⟩) rfl rfl (lv_room (Nat.le_of_ble_eq_true rfl)) dX7_tick_30 (Nat.le_refl _) (Nat.le_refl _) (fun H locs hB => ?_)
      refine W.eq (g2 := F0 m 33 ls [.int r12]) rfl ?_
      obtain ⟨rfl, rfl⟩ := so_e hf
      exact rc_iret hx hb hr hlocks hB dX7_tick_33
  · have hf := it_t hf c1
    refine lv_aload_n hx hb dX7_tick_15 rfl (lv_at hl 1 rfl) ?_
    refine lv_bipush (v := (-3)) hx hb dX7_tick_16 (by decide) ?_
    obtain ⟨r14, σ15, hkr14, hf⟩ := bd_e hf
    refine rc_callV (own := RX7) (av := [.int (-3)]) (rest := []) (rv := (some (.int r14))) hx hb hml hown hts hl.1 hV hB 0 (c34 rfl hB) (ceq_0 _ _ _) rfl (cc_X7_refuse l D ad cy z n σ (-3) hkr14) (kwc_X7_43  hts ⟨Nat.le_of_ble_eq_true rfl, Nat.le_of_ble_eq_true rfl⟩) rfl rfl (lv_room (Nat.le_of_ble_eq_true rfl)) dX7_tick_18 (Nat.le_refl _) (Nat.le_refl _) (fun H locs hB => ?_)
    refine W.eq (g2 := F0 m 21 ls [.int r14]) rfl ?_
    obtain ⟨rfl, rfl⟩ := so_e hf
    exact rc_iret hx hb hr hlocks hB dX7_tick_21
theorem cc_X7_tick (l : Launch) (D : va_G) (ad : Nat → Nat) (cy : CY) (z : CZ) (n : Nat) (σ : CS) (x1 : Int32) {r0 : Int32} {σ0 : CS} (hf : fc_X7_tick n σ x1 = some (r0, σ0)) : cM l yX7_tick wn_X7_tick rm_X7_tick D ad cy z [.ref (ad 0), .int x1] σ (some (.int r0)) σ0 :=
  rc_met (ret := (some .int)) (by decide) rfl (Nat.le_of_ble_eq_true rfl) (fun p e s m below meth c A ls hc hV hB hl => tbc_X7_tick_0 hc hV n σ x1 hB hl hf)
/-! X7_state -/
abbrev rm_X7_state : Room := { frames := 1, cells := 0, slots := 0, locals := 22 }
abbrev wn_X7_state : List Cond := .code yX7_state cX7_state 3 (some .int) :: wsC
def fc_X7_state (n : Nat) (σ : CS) (x1 : Int32) : Option ((Int32) × CS) := if ((σ.1 12 0) = 0) then (bd (fc_X7_refuse n σ (-3)) (fun r11 σ12 => some (r11, σ12))) else (if (x1 = 0) then (some ((σ.1 12 1), σ)) else (if (x1 = 1) then (some ((σ.1 12 4), σ)) else (if (x1 = 2) then (some ((σ.1 12 5), σ)) else (if (x1 = 3) then (some ((σ.1 12 6), σ)) else (if (x1 = 4) then (some ((σ.1 12 7), σ)) else (if (x1 = 5) then (some ((σ.1 12 3), σ)) else (if (x1 = 6) then (some ((σ.1 12 9), σ)) else (bd (fc_X7_refuse n σ (-2)) (fun r2 σ3 => some (r2, σ3))))))))))
set_option maxRecDepth 100000 in
set_option maxHeartbeats 4000000 in
theorem tbc_X7_state_0 {p : Program} {l : Launch} {e : Env} {s : State} {m : MethodId} {args : Array Value} {below : List Frame} {meth : Method} {c : Code} {D : va_G} {A : Nat → Prop} {ad : Nat → Nat} {cy : CY} {z : CZ} {r0 : Int32} {σ0 : CS} (hc : cxB RX7 wsC cX7_state 3 (some .int) p s m args meth c) (hV : cV D cy z A s) (n : Nat) (σ : CS) (x1 : Int32) {H : Heap} {locs : List Loc} {ls : Array Slot} (hB : cB D ad cy A s.heap σ H locs) (hl : lv_has ls 3 [(0, .ref (ad 0)), (1, .int x1)]) (hf : fc_X7_state n σ x1 = some (r0, σ0)) : W p l e rm_X7_state s m args below meth c H locs 0 0 (MQ below (cQ D ad cy A (some (.int r0)) σ0) args s 0 0 A) (F0 m 0 ls []) := by
  obtain ⟨hx, hb, hml, hown, hts, hr, hlocks⟩ := id hc
  unfold fc_X7_state at hf
  refine lv_aload_n hx hb dX7_state_0 rfl (lv_at hl 0 rfl) ?_
  refine rc_get (own := RX7) hx hb hts inC_7 hown hV hB 0 (c34 rfl hB) (ceq_0 _ _ _) rfl 2 (Nat.le_of_ble_eq_true rfl) qf_X7_23 rfl dX7_state_1 ?_
  refine rc_get (own := RX7) hx hb hts inC_0 hown hV hB 5 (c34 rfl hB) (ceq_5 _ _ _) rfl 6 (Nat.le_of_ble_eq_true rfl) qf_X7_119 rfl dX7_state_4 ?_
  refine lv_astore_n (lv' := [(2, .ref (ad 12)), (0, .ref (ad 0)), (1, .int x1)]) hx hb dX7_state_7 rfl hl (by decide) rfl (fun ls hl => ?_)
  refine lv_aload_n hx hb dX7_state_8 rfl (lv_at hl 0 rfl) ?_
  refine rc_get (own := RX7) hx hb hts inC_5 hown hV hB 12 (c34 rfl hB) (ceq_12 _ _ _) rfl 0 (Nat.le_of_ble_eq_true rfl) qf_X7_165 rfl dX7_state_9 ?_
  refine lv_if_ne (tgt := 22) hx hb dX7_state_12 (by decide) (fun c1 => ?_) (fun c1 => ?_)
  · have hf := it_f hf c1
    refine lv_iload_n hx hb dX7_state_22 rfl (lv_at hl 2 rfl) ?_
    by_cases c4 : x1 = 0
    · have hf := it_t hf c4
      refine lv_tableIn (tgt := 64) hx hb dX7_state_23 (by rw [c4]; decide) (by rw [c4]; decide) (by rw [c4]; rfl) (by decide) ?_
      refine lv_aload_n hx hb dX7_state_64 rfl (lv_at hl 0 rfl) ?_
      refine rc_get (own := RX7) hx hb hts inC_5 hown hV hB 12 (c34 rfl hB) (ceq_12 _ _ _) rfl 1 (Nat.le_of_ble_eq_true rfl) qf_X7_168 rfl dX7_state_65 ?_
      obtain ⟨rfl, rfl⟩ := so_e hf
      exact rc_iret hx hb hr hlocks hB dX7_state_68
    · have hf := it_f hf c4
      by_cases c5 : x1 = 1
      · have hf := it_t hf c5
        refine lv_tableIn (tgt := 69) hx hb dX7_state_23 (by rw [c5]; decide) (by rw [c5]; decide) (by rw [c5]; rfl) (by decide) ?_
        refine lv_aload_n hx hb dX7_state_69 rfl (lv_at hl 0 rfl) ?_
        refine rc_get (own := RX7) hx hb hts inC_5 hown hV hB 12 (c34 rfl hB) (ceq_12 _ _ _) rfl 4 (Nat.le_of_ble_eq_true rfl) qf_X7_171 rfl dX7_state_70 ?_
        obtain ⟨rfl, rfl⟩ := so_e hf
        exact rc_iret hx hb hr hlocks hB dX7_state_73
      · have hf := it_f hf c5
        by_cases c6 : x1 = 2
        · have hf := it_t hf c6
          refine lv_tableIn (tgt := 74) hx hb dX7_state_23 (by rw [c6]; decide) (by rw [c6]; decide) (by rw [c6]; rfl) (by decide) ?_
          refine lv_aload_n hx hb dX7_state_74 rfl (lv_at hl 0 rfl) ?_
          refine rc_get (own := RX7) hx hb hts inC_5 hown hV hB 12 (c34 rfl hB) (ceq_12 _ _ _) rfl 5 (Nat.le_of_ble_eq_true rfl) qf_X7_188 rfl dX7_state_75 ?_
          obtain ⟨rfl, rfl⟩ := so_e hf
          exact rc_iret hx hb hr hlocks hB dX7_state_78
        · have hf := it_f hf c6
          by_cases c7 : x1 = 3
          · have hf := it_t hf c7
            refine lv_tableIn (tgt := 79) hx hb dX7_state_23 (by rw [c7]; decide) (by rw [c7]; decide) (by rw [c7]; rfl) (by decide) ?_
            refine lv_aload_n hx hb dX7_state_79 rfl (lv_at hl 0 rfl) ?_
            refine rc_get (own := RX7) hx hb hts inC_5 hown hV hB 12 (c34 rfl hB) (ceq_12 _ _ _) rfl 6 (Nat.le_of_ble_eq_true rfl) qf_X7_177 rfl dX7_state_80 ?_
            obtain ⟨rfl, rfl⟩ := so_e hf
            exact rc_iret hx hb hr hlocks hB dX7_state_83
          · have hf := it_f hf c7
            by_cases c8 : x1 = 4
            · have hf := it_t hf c8
              refine lv_tableIn (tgt := 84) hx hb dX7_state_23 (by rw [c8]; decide) (by rw [c8]; decide) (by rw [c8]; rfl) (by decide) ?_
              refine lv_aload_n hx hb dX7_state_84 rfl (lv_at hl 0 rfl) ?_
              refine rc_get (own := RX7) hx hb hts inC_5 hown hV hB 12 (c34 rfl hB) (ceq_12 _ _ _) rfl 7 (Nat.le_of_ble_eq_true rfl) qf_X7_178 rfl dX7_state_85 ?_
              obtain ⟨rfl, rfl⟩ := so_e hf
              exact rc_iret hx hb hr hlocks hB dX7_state_88
            · have hf := it_f hf c8
              by_cases c9 : x1 = 5
              · have hf := it_t hf c9
                refine lv_tableIn (tgt := 89) hx hb dX7_state_23 (by rw [c9]; decide) (by rw [c9]; decide) (by rw [c9]; rfl) (by decide) ?_
                refine lv_aload_n hx hb dX7_state_89 rfl (lv_at hl 0 rfl) ?_
                refine rc_get (own := RX7) hx hb hts inC_5 hown hV hB 12 (c34 rfl hB) (ceq_12 _ _ _) rfl 3 (Nat.le_of_ble_eq_true rfl) qf_X7_174 rfl dX7_state_90 ?_
                obtain ⟨rfl, rfl⟩ := so_e hf
                exact rc_iret hx hb hr hlocks hB dX7_state_93
              · have hf := it_f hf c9
                by_cases c10 : x1 = 6
                · have hf := it_t hf c10
                  refine lv_tableIn (tgt := 94) hx hb dX7_state_23 (by rw [c10]; decide) (by rw [c10]; decide) (by rw [c10]; rfl) (by decide) ?_
                  refine lv_aload_n hx hb dX7_state_94 rfl (lv_at hl 0 rfl) ?_
                  refine rc_get (own := RX7) hx hb hts inC_5 hown hV hB 12 (c34 rfl hB) (ceq_12 _ _ _) rfl 9 (Nat.le_of_ble_eq_true rfl) qf_X7_191 rfl dX7_state_95 ?_
                  obtain ⟨rfl, rfl⟩ := so_e hf
                  exact rc_iret hx hb hr hlocks hB dX7_state_98
                · have hf := it_f hf c10
                  refine sw_d (tgt := 99) hx hb dX7_state_23 (by have n_0 := lv_neT c4 (a := 0) (by decide); have n_1 := lv_neT c5 (a := 1) (by decide); have n_2 := lv_neT c6 (a := 2) (by decide); have n_3 := lv_neT c7 (a := 3) (by decide); have n_4 := lv_neT c8 (a := 4) (by decide); have n_5 := lv_neT c9 (a := 5) (by decide); have n_6 := lv_neT c10 (a := 6) (by decide); rcases (show (x1).toInt < 0 ∨ 6 < (x1).toInt by omega) with q | q; exact Or.inl q; exact Or.inr (Or.inl q)) (by decide) ?_
                  refine lv_aload_n hx hb dX7_state_99 rfl (lv_at hl 1 rfl) ?_
                  refine lv_bipush (v := (-2)) hx hb dX7_state_100 (by decide) ?_
                  obtain ⟨r2, σ3, hkr2, hf⟩ := bd_e hf
                  refine rc_callV (own := RX7) (av := [.int (-2)]) (rest := []) (rv := (some (.int r2))) hx hb hml hown hts hl.1 hV hB 0 (c34 rfl hB) (ceq_0 _ _ _) rfl (cc_X7_refuse l D ad cy z n σ (-2) hkr2) (kwc_X7_43  hts ⟨Nat.le_of_ble_eq_true rfl, Nat.le_of_ble_eq_true rfl⟩) rfl rfl (lv_room (Nat.le_of_ble_eq_true rfl)) dX7_state_102 (Nat.le_refl _) (Nat.le_refl _) (fun H locs hB => ?_)
                  refine W.eq (g2 := F0 m 105 ls [.int r2]) rfl ?_
                  obtain ⟨rfl, rfl⟩ := so_e hf
                  exact rc_iret hx hb hr hlocks hB dX7_state_105
  · have hf := it_t hf c1
    refine lv_aload_n hx hb dX7_state_15 rfl (lv_at hl 1 rfl) ?_
    refine lv_bipush (v := (-3)) hx hb dX7_state_16 (by decide) ?_
    obtain ⟨r11, σ12, hkr11, hf⟩ := bd_e hf
    refine rc_callV (own := RX7) (av := [.int (-3)]) (rest := []) (rv := (some (.int r11))) hx hb hml hown hts hl.1 hV hB 0 (c34 rfl hB) (ceq_0 _ _ _) rfl (cc_X7_refuse l D ad cy z n σ (-3) hkr11) (kwc_X7_43  hts ⟨Nat.le_of_ble_eq_true rfl, Nat.le_of_ble_eq_true rfl⟩) rfl rfl (lv_room (Nat.le_of_ble_eq_true rfl)) dX7_state_18 (Nat.le_refl _) (Nat.le_refl _) (fun H locs hB => ?_)
    refine W.eq (g2 := F0 m 21 ls [.int r11]) rfl ?_
    obtain ⟨rfl, rfl⟩ := so_e hf
    exact rc_iret hx hb hr hlocks hB dX7_state_21
theorem cc_X7_state (l : Launch) (D : va_G) (ad : Nat → Nat) (cy : CY) (z : CZ) (n : Nat) (σ : CS) (x1 : Int32) {r0 : Int32} {σ0 : CS} (hf : fc_X7_state n σ x1 = some (r0, σ0)) : cM l yX7_state wn_X7_state rm_X7_state D ad cy z [.ref (ad 0), .int x1] σ (some (.int r0)) σ0 :=
  rc_met (ret := (some .int)) (by decide) rfl (Nat.le_of_ble_eq_true rfl) (fun p e s m below meth c A ls hc hV hB hl => tbc_X7_state_0 hc hV n σ x1 hB hl hf)
/-! X7_rolled -/
abbrev rm_X7_rolled : Room := { frames := 1, cells := 0, slots := 0, locals := 22 }
abbrev wn_X7_rolled : List Cond := .code yX7_rolled cX7_rolled 1 (some .long) :: wsC
def fc_X7_rolled (n : Nat) (σ : CS) : Option ((Int64) × CS) := if ((σ.1 12 0) = 0) then (bd (fc_X7_refuse n σ (-3)) (fun r2 σ3 => some ((Int32.toInt64 r2), σ3))) else (some ((σ.2.1 12), σ))
set_option maxRecDepth 100000 in
set_option maxHeartbeats 4000000 in
theorem tbc_X7_rolled_0 {p : Program} {l : Launch} {e : Env} {s : State} {m : MethodId} {args : Array Value} {below : List Frame} {meth : Method} {c : Code} {D : va_G} {A : Nat → Prop} {ad : Nat → Nat} {cy : CY} {z : CZ} {r0 : Int64} {σ0 : CS} (hc : cxB RX7 wsC cX7_rolled 1 (some .long) p s m args meth c) (hV : cV D cy z A s) (n : Nat) (σ : CS) {H : Heap} {locs : List Loc} {ls : Array Slot} (hB : cB D ad cy A s.heap σ H locs) (hl : lv_has ls 1 [(0, .ref (ad 0))]) (hf : fc_X7_rolled n σ = some (r0, σ0)) : W p l e rm_X7_rolled s m args below meth c H locs 0 0 (MQ below (cQ D ad cy A (some (.long r0)) σ0) args s 0 0 A) (F0 m 0 ls []) := by
  obtain ⟨hx, hb, hml, hown, hts, hr, hlocks⟩ := id hc
  unfold fc_X7_rolled at hf
  refine lv_aload_n hx hb dX7_rolled_0 rfl (lv_at hl 0 rfl) ?_
  refine rc_get (own := RX7) hx hb hts inC_7 hown hV hB 0 (c34 rfl hB) (ceq_0 _ _ _) rfl 2 (Nat.le_of_ble_eq_true rfl) qf_X7_23 rfl dX7_rolled_1 ?_
  refine rc_get (own := RX7) hx hb hts inC_0 hown hV hB 5 (c34 rfl hB) (ceq_5 _ _ _) rfl 6 (Nat.le_of_ble_eq_true rfl) qf_X7_119 rfl dX7_rolled_4 ?_
  refine rc_get (own := RX7) hx hb hts inC_5 hown hV hB 12 (c34 rfl hB) (ceq_12 _ _ _) rfl 0 (Nat.le_of_ble_eq_true rfl) qf_X7_165 rfl dX7_rolled_7 ?_
  refine lv_if_eq (tgt := 26) hx hb dX7_rolled_10 (by decide) (fun c1 => ?_) (fun c1 => ?_)
  · have hf := it_t hf c1
    refine lv_aload_n hx hb dX7_rolled_26 rfl (lv_at hl 0 rfl) ?_
    refine lv_bipush (v := (-3)) hx hb dX7_rolled_27 (by decide) ?_
    obtain ⟨r2, σ3, hkr2, hf⟩ := bd_e hf
    refine rc_callV (own := RX7) (av := [.int (-3)]) (rest := []) (rv := (some (.int r2))) hx hb hml hown hts hl.1 hV hB 0 (c34 rfl hB) (ceq_0 _ _ _) rfl (cc_X7_refuse l D ad cy z n σ (-3) hkr2) (kwc_X7_43  hts ⟨Nat.le_of_ble_eq_true rfl, Nat.le_of_ble_eq_true rfl⟩) rfl rfl (lv_room (Nat.le_of_ble_eq_true rfl)) dX7_rolled_29 (Nat.le_refl _) (Nat.le_refl _) (fun H locs hB => ?_)
    refine W.eq (g2 := F0 m 32 ls [.int r2]) rfl ?_
    refine lv_i2l hx hb dX7_rolled_32 rfl ?_
    obtain ⟨rfl, rfl⟩ := so_e hf
    exact rc_lret hx hb hr hlocks hB dX7_rolled_33
  · have hf := it_f hf c1
    refine lv_aload_n hx hb dX7_rolled_13 rfl (lv_at hl 0 rfl) ?_
    refine rc_get (own := RX7) hx hb hts inC_7 hown hV hB 0 (c34 rfl hB) (ceq_0 _ _ _) rfl 2 (Nat.le_of_ble_eq_true rfl) qf_X7_23 rfl dX7_rolled_14 ?_
    refine rc_get (own := RX7) hx hb hts inC_0 hown hV hB 5 (c34 rfl hB) (ceq_5 _ _ _) rfl 6 (Nat.le_of_ble_eq_true rfl) qf_X7_119 rfl dX7_rolled_17 ?_
    refine rc_get (own := RX7) hx hb hts inC_5 hown hV hB 12 (c34 rfl hB) (ceq_12 _ _ _) rfl 8 (Nat.le_of_ble_eq_true rfl) qf_X7_194 rfl dX7_rolled_20 ?_
    refine lv_goto (tgt := 33) hx hb dX7_rolled_23 (by decide) ?_
    obtain ⟨rfl, rfl⟩ := so_e hf
    exact rc_lret hx hb hr hlocks hB dX7_rolled_33
theorem cc_X7_rolled (l : Launch) (D : va_G) (ad : Nat → Nat) (cy : CY) (z : CZ) (n : Nat) (σ : CS) {r0 : Int64} {σ0 : CS} (hf : fc_X7_rolled n σ = some (r0, σ0)) : cM l yX7_rolled wn_X7_rolled rm_X7_rolled D ad cy z [.ref (ad 0)] σ (some (.long r0)) σ0 :=
  rc_met (ret := (some .long)) (by decide) rfl (Nat.le_of_ble_eq_true rfl) (fun p e s m below meth c A ls hc hV hB hl => tbc_X7_rolled_0 hc hV n σ hB hl hf)
