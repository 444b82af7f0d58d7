/-! X7_tenth -/
theorem kwc_X7_198 {R : Room} {s : State} {args : Array Value} (hts : ∀ w ∈ wsC, w.before args s = true) (hR : rm_X5_tenthOf.frames + 1 ≤ R.frames ∧ 8 + (3 + 11) + rm_X5_tenthOf.locals ≤ R.locals) : CallW R s args RX7 RX5 198 yX5_tenthOf cX5_tenthOf 3 (some .int) wn_X5_tenthOf rm_X5_tenthOf 0 0 2 := cwV 2 hts (gC_v qc_452 qc_453 qc_454 qc_14 qc_455) rfl rfl rfl (by decide +kernel) hR
abbrev rm_X7_tenth : Room := { frames := 1, cells := 0, slots := 0, locals := 22 }
abbrev wn_X7_tenth : List Cond := .code yX7_tenth cX7_tenth 3 (some .int) :: wsC
def fc_X7_tenth (n : Nat) (σ : CS) (x1 : Int32) (x2 : Int32) : Option ((Int32) × CS) := bd (fc_X7_isZeroOrOne n σ x2) (fun r1 σ2 => if (r1 = 0) then (bd (fc_X7_refuse n σ2 (-2)) (fun r12 σ13 => some (r12, σ13))) else (if ((σ2.1 12 0) = 0) then (bd (fc_X7_refuse n σ2 (-3)) (fun r10 σ11 => some (r10, σ11))) else (if (0 ≤ x1) then (bd (fc_X5_tenthOf n σ2 x1 x2) (fun r6 σ7 => some (r6, σ7))) else (bd (fc_X7_refuse n σ2 (-4)) (fun r8 σ9 => some (r8, σ9))))))
set_option maxRecDepth 100000 in
set_option maxHeartbeats 4000000 in
theorem tbc_X7_tenth_0 {p : Program} {l : Launch} {e : Env} {s : State} {m : MethodId} {args : Array Value} {below : List Frame} {meth : Method} {c : Code} {D : va_G} {A : Nat → Prop} {ad : Nat → Nat} {cy : CY} {z : CZ} {r0 : Int32} {σ0 : CS} (hc : cxB RX7 wsC cX7_tenth 3 (some .int) p s m args meth c) (hV : cV D cy z A s) (n : Nat) (σ : CS) (x1 : Int32) (x2 : Int32) {H : Heap} {locs : List Loc} {ls : Array Slot} (hB : cB D ad cy A s.heap σ H locs) (hl : lv_has ls 3 [(0, .ref (ad 0)), (1, .int x1), (2, .int x2)]) (hf : fc_X7_tenth n σ x1 x2 = some (r0, σ0)) : W p l e rm_X7_tenth s m args below meth c H locs 0 0 (MQ below (cQ D ad cy A (some (.int r0)) σ0) args s 0 0 A) (F0 m 0 ls []) := by
  obtain ⟨hx, hb, hml, hown, hts, hr, hlocks⟩ := id hc
  unfold fc_X7_tenth at hf
  refine lv_iload_n hx hb dX7_tenth_0 rfl (lv_at hl 2 rfl) ?_
  obtain ⟨r1, σ2, hkr1, hf⟩ := bd_e hf
  refine rc_callS (own := RX7) (av := [.int x2]) (rest := []) (rv := (some (.int r1))) hx hb hml hown hts hl.1 hV hB (cc_X7_isZeroOrOne l D ad cy z n σ x2 hkr1) (kwc_X7_132  hts ⟨Nat.le_of_ble_eq_true rfl, Nat.le_of_ble_eq_true rfl⟩) rfl rfl (lv_room (Nat.le_of_ble_eq_true rfl)) dX7_tenth_1 (Nat.le_refl _) (Nat.le_refl _) (fun H locs hB => ?_)
  refine W.eq (g2 := F0 m 4 ls [.int r1]) rfl ?_
  refine lv_if_ne (tgt := 14) hx hb dX7_tenth_4 (by decide) (fun c3 => ?_) (fun c3 => ?_)
  · have hf := it_f hf c3
    refine lv_aload_n hx hb dX7_tenth_14 rfl (lv_at hl 0 rfl) ?_
    refine rc_get (own := RX7) hx hb hts inC_7 hown hV hB 0 (c34 rfl hB) (ceq_0 _ _ _) rfl 2 (Nat.le_of_ble_eq_true rfl) qf_X7_23 rfl dX7_tenth_15 ?_
    refine rc_get (own := RX7) hx hb hts inC_0 hown hV hB 5 (c34 rfl hB) (ceq_5 _ _ _) rfl 6 (Nat.le_of_ble_eq_true rfl) qf_X7_119 rfl dX7_tenth_18 ?_
    refine rc_get (own := RX7) hx hb hts inC_5 hown hV hB 12 (c34 rfl hB) (ceq_12 _ _ _) rfl 0 (Nat.le_of_ble_eq_true rfl) qf_X7_165 rfl dX7_tenth_21 ?_
    refine lv_if_ne (tgt := 34) hx hb dX7_tenth_24 (by decide) (fun c4 => ?_) (fun c4 => ?_)
    · have hf := it_f hf c4
      refine lv_iload_n hx hb dX7_tenth_34 rfl (lv_at hl 1 rfl) ?_
      refine lv_if_ge (tgt := 45) hx hb dX7_tenth_35 (by decide) (fun c5 => ?_) (fun c5 => ?_)
      · have hf := it_t hf c5
        refine lv_aload_n hx hb dX7_tenth_45 rfl (lv_at hl 0 rfl) ?_
        refine rc_get (own := RX7) hx hb hts inC_7 hown hV hB 0 (c34 rfl hB) (ceq_0 _ _ _) rfl 2 (Nat.le_of_ble_eq_true rfl) qf_X7_23 rfl dX7_tenth_46 ?_
        refine rc_get (own := RX7) hx hb hts inC_0 hown hV hB 5 (c34 rfl hB) (ceq_5 _ _ _) rfl 6 (Nat.le_of_ble_eq_true rfl) qf_X7_119 rfl dX7_tenth_49 ?_
        refine lv_iload_n hx hb dX7_tenth_52 rfl (lv_at hl 1 rfl) ?_
        refine lv_iload_n hx hb dX7_tenth_53 rfl (lv_at hl 2 rfl) ?_
        obtain ⟨r6, σ7, hkr6, hf⟩ := bd_e hf
        refine rc_callV (own := RX7) (av := [.int x1, .int x2]) (rest := []) (rv := (some (.int r6))) hx hb hml hown hts hl.1 hV hB 12 (c34 rfl hB) (ceq_12 _ _ _) rfl (cc_X5_tenthOf l D ad cy z n σ2 x1 x2 hkr6) (kwc_X7_198  hts ⟨Nat.le_of_ble_eq_true rfl, Nat.le_of_ble_eq_true rfl⟩) rfl rfl (lv_room (Nat.le_of_ble_eq_true rfl)) dX7_tenth_54 (Nat.le_refl _) (Nat.le_refl _) (fun H locs hB => ?_)
        refine W.eq (g2 := F0 m 57 ls [.int r6]) rfl ?_
        obtain ⟨rfl, rfl⟩ := so_e hf
        exact rc_iret hx hb hr hlocks hB dX7_tenth_57
      · have hf := it_f hf c5
        refine lv_aload_n hx hb dX7_tenth_38 rfl (lv_at hl 0 rfl) ?_
        refine lv_bipush (v := (-4)) hx hb dX7_tenth_39 (by decide) ?_
        obtain ⟨r8, σ9, hkr8, hf⟩ := bd_e hf
        refine rc_callV (own := RX7) (av := [.int (-4)]) (rest := []) (rv := (some (.int r8))) hx hb hml hown hts hl.1 hV hB 0 (c34 rfl hB) (ceq_0 _ _ _) rfl (cc_X7_refuse l D ad cy z n σ2 (-4) hkr8) (kwc_X7_43  hts ⟨Nat.le_of_ble_eq_true rfl, Nat.le_of_ble_eq_true rfl⟩) rfl rfl (lv_room (Nat.le_of_ble_eq_true rfl)) dX7_tenth_41 (Nat.le_refl _) (Nat.le_refl _) (fun H locs hB => ?_)
        refine W.eq (g2 := F0 m 44 ls [.int r8]) rfl ?_
        obtain ⟨rfl, rfl⟩ := so_e hf
        exact rc_iret hx hb hr hlocks hB dX7_tenth_44
    · have hf := it_t hf c4
      refine lv_aload_n hx hb dX7_tenth_27 rfl (lv_at hl 0 rfl) ?_
      refine lv_bipush (v := (-3)) hx hb dX7_tenth_28 (by decide) ?_
      obtain ⟨r10, σ11, hkr10, hf⟩ := bd_e hf
      refine rc_callV (own := RX7) (av := [.int (-3)]) (rest := []) (rv := (some (.int r10))) hx hb hml hown hts hl.1 hV hB 0 (c34 rfl hB) (ceq_0 _ _ _) rfl (cc_X7_refuse l D ad cy z n σ2 (-3) hkr10) (kwc_X7_43  hts ⟨Nat.le_of_ble_eq_true rfl, Nat.le_of_ble_eq_true rfl⟩) rfl rfl (lv_room (Nat.le_of_ble_eq_true rfl)) dX7_tenth_30 (Nat.le_refl _) (Nat.le_refl _) (fun H locs hB => ?_)
      refine W.eq (g2 := F0 m 33 ls [.int r10]) rfl ?_
      obtain ⟨rfl, rfl⟩ := so_e hf
      exact rc_iret hx hb hr hlocks hB dX7_tenth_33
  · have hf := it_t hf c3
    refine lv_aload_n hx hb dX7_tenth_7 rfl (lv_at hl 0 rfl) ?_
    refine lv_bipush (v := (-2)) hx hb dX7_tenth_8 (by decide) ?_
    obtain ⟨r12, σ13, hkr12, hf⟩ := bd_e hf
    refine rc_callV (own := RX7) (av := [.int (-2)]) (rest := []) (rv := (some (.int r12))) hx hb hml hown hts hl.1 hV hB 0 (c34 rfl hB) (ceq_0 _ _ _) rfl (cc_X7_refuse l D ad cy z n σ2 (-2) hkr12) (kwc_X7_43  hts ⟨Nat.le_of_ble_eq_true rfl, Nat.le_of_ble_eq_true rfl⟩) rfl rfl (lv_room (Nat.le_of_ble_eq_true rfl)) dX7_tenth_10 (Nat.le_refl _) (Nat.le_refl _) (fun H locs hB => ?_)
    refine W.eq (g2 := F0 m 13 ls [.int r12]) rfl ?_
    obtain ⟨rfl, rfl⟩ := so_e hf
    exact rc_iret hx hb hr hlocks hB dX7_tenth_13
theorem cc_X7_tenth (l : Launch) (D : va_G) (ad : Nat → Nat) (cy : CY) (z : CZ) (n : Nat) (σ : CS) (x1 : Int32) (x2 : Int32) {r0 : Int32} {σ0 : CS} (hf : fc_X7_tenth n σ x1 x2 = some (r0, σ0)) : cM l yX7_tenth wn_X7_tenth rm_X7_tenth D ad cy z [.ref (ad 0), .int x1, .int x2] σ (some (.int r0)) σ0 :=
  rc_met (ret := (some .int)) (by decide) rfl (Nat.le_of_ble_eq_true rfl) (fun p e s m below meth c A ls hc hV hB hl => tbc_X7_tenth_0 hc hV n σ x1 x2 hB hl hf)
/-! X7_ticksOf -/
theorem kwc_X7_211 {R : Room} {s : State} {args : Array Value} (hts : ∀ w ∈ wsC, w.before args s = true) (hR : rm_X2_runTo.frames + 1 ≤ R.frames ∧ 8 + (3 + 11) + rm_X2_runTo.locals ≤ R.locals) : CallW R s args RX7 RX2 211 yX2_runTo cX2_runTo 3 none wn_X2_runTo rm_X2_runTo 0 0 1 := cwV 1 hts (gC_v qc_456 qc_145 qc_146 qc_108 qc_138) rfl rfl rfl (by decide +kernel) hR
abbrev rm_X7_ticksOf : Room := { frames := 5, cells := 0, slots := 0, locals := 155 }
abbrev wn_X7_ticksOf : List Cond := .code yX7_ticksOf cX7_ticksOf 4 (some .int) :: wsC
def fc_X7_ticksOf (n : Nat) (σ : CS) (x1 : Nat) (x2 : Int32) (x3 : Int32) : Option ((Int32) × CS) := bd (fc_X2_begin n σ (some x1) x2 x3) (fun _ σ2 => bd (fc_X2_runTo n σ2 9999) (fun _ σ4 => some ((σ4.1 31 5), σ4)))
set_option maxRecDepth 100000 in
set_option maxHeartbeats 4000000 in
theorem tbc_X7_ticksOf_0 {p : Program} {l : Launch} {e : Env} {s : State} {m : MethodId} {args : Array Value} {below : List Frame} {meth : Method} {c : Code} {D : va_G} {A : Nat → Prop} {ad : Nat → Nat} {cy : CY} {z : CZ} {r0 : Int32} {σ0 : CS} (hc : cxB RX7 wsC cX7_ticksOf 4 (some .int) p s m args meth c) (hV : cV D cy z A s) (n : Nat) (σ : CS) (x1 : Nat) (x2 : Int32) (x3 : Int32) {H : Heap} {locs : List Loc} {ls : Array Slot} (hB : cB D ad cy A s.heap σ H locs) (hl : lv_has ls 4 [(0, .ref (ad 0)), (1, .ref (ad x1)), (2, .int x2), (3, .int x3)]) (hf : fc_X7_ticksOf n σ x1 x2 x3 = some (r0, σ0)) : W p l e rm_X7_ticksOf s m args below meth c H locs 0 0 (MQ below (cQ D ad cy A (some (.int r0)) σ0) args s 0 0 A) (F0 m 0 ls []) := by
  obtain ⟨hx, hb, hml, hown, hts, hr, hlocks⟩ := id hc
  unfold fc_X7_ticksOf at hf
  refine lv_aload_n hx hb dX7_ticksOf_0 rfl (lv_at hl 0 rfl) ?_
  refine rc_get (own := RX7) hx hb hts inC_7 hown hV hB 0 (c34 rfl hB) (ceq_0 _ _ _) rfl 4 (Nat.le_of_ble_eq_true rfl) qf_X7_35 rfl dX7_ticksOf_1 ?_
  refine lv_aload_n hx hb dX7_ticksOf_4 rfl (lv_at hl 1 rfl) ?_
  refine lv_iload_n hx hb dX7_ticksOf_5 rfl (lv_at hl 2 rfl) ?_
  refine lv_iload_n hx hb dX7_ticksOf_6 rfl (lv_at hl 3 rfl) ?_
  obtain ⟨r1, σ2, hkr1, hf⟩ := bd_e hf
  refine rc_callV (own := RX7) (av := [va_rf (Option.map ad (some x1)), .int x2, .int x3]) (rest := []) (rv := none) hx hb hml hown hts hl.1 hV hB 31 (c34 rfl hB) (ceq_31 _ _ _) rfl (cc_X2_begin l D ad cy z n σ (some x1) x2 x3 hkr1) (kwc_X7_151  hts ⟨Nat.le_of_ble_eq_true rfl, Nat.le_of_ble_eq_true rfl⟩) rfl rfl (lv_room (Nat.le_of_ble_eq_true rfl)) dX7_ticksOf_7 (Nat.le_refl _) (Nat.le_refl _) (fun H locs hB => ?_)
  refine W.eq (g2 := F0 m 10 ls []) rfl ?_
  refine lv_aload_n hx hb dX7_ticksOf_10 rfl (lv_at hl 0 rfl) ?_
  refine rc_get (own := RX7) hx hb hts inC_7 hown hV hB 0 (c34 rfl hB) (ceq_0 _ _ _) rfl 4 (Nat.le_of_ble_eq_true rfl) qf_X7_35 rfl dX7_ticksOf_11 ?_
  refine lv_sipush (v := 9999) hx hb dX7_ticksOf_14 (by decide) ?_
  obtain ⟨r3, σ4, hkr3, hf⟩ := bd_e hf
  refine rc_callV (own := RX7) (av := [.int 9999]) (rest := []) (rv := none) hx hb hml hown hts hl.1 hV hB 31 (c34 rfl hB) (ceq_31 _ _ _) rfl (cc_X2_runTo l D ad cy z n σ2 9999 hkr3) (kwc_X7_211  hts ⟨Nat.le_of_ble_eq_true rfl, Nat.le_of_ble_eq_true rfl⟩) rfl rfl (lv_room (Nat.le_of_ble_eq_true rfl)) dX7_ticksOf_17 (Nat.le_refl _) (Nat.le_refl _) (fun H locs hB => ?_)
  refine W.eq (g2 := F0 m 20 ls []) rfl ?_
  refine lv_aload_n hx hb dX7_ticksOf_20 rfl (lv_at hl 0 rfl) ?_
  refine rc_get (own := RX7) hx hb hts inC_7 hown hV hB 0 (c34 rfl hB) (ceq_0 _ _ _) rfl 4 (Nat.le_of_ble_eq_true rfl) qf_X7_35 rfl dX7_ticksOf_21 ?_
  refine rc_get (own := RX7) hx hb hts inC_2 hown hV hB 31 (c34 rfl hB) (ceq_31 _ _ _) rfl 5 (Nat.le_of_ble_eq_true rfl) qf_X7_155 rfl dX7_ticksOf_24 ?_
  obtain ⟨rfl, rfl⟩ := so_e hf
  exact rc_iret hx hb hr hlocks hB dX7_ticksOf_27
theorem cc_X7_ticksOf (l : Launch) (D : va_G) (ad : Nat → Nat) (cy : CY) (z : CZ) (n : Nat) (σ : CS) (x1 : Nat) (x2 : Int32) (x3 : Int32) {r0 : Int32} {σ0 : CS} (hf : fc_X7_ticksOf n σ x1 x2 x3 = some (r0, σ0)) : cM l yX7_ticksOf wn_X7_ticksOf rm_X7_ticksOf D ad cy z [.ref (ad 0), .ref (ad x1), .int x2, .int x3] σ (some (.int r0)) σ0 :=
  rc_met (ret := (some .int)) (by decide) rfl (Nat.le_of_ble_eq_true rfl) (fun p e s m below meth c A ls hc hV hB hl => tbc_X7_ticksOf_0 hc hV n σ x1 x2 x3 hB hl hf)
/-! X7_lasts -/
theorem kwc_X7_202 {R : Room} {s : State} {args : Array Value} (hts : ∀ w ∈ wsC, w.before args s = true) (hR : rm_X7_ticksOf.frames + 1 ≤ R.frames ∧ 8 + (4 + 11) + rm_X7_ticksOf.locals ≤ R.locals) : CallW R s args RX7 RX7 202 yX7_ticksOf cX7_ticksOf 4 (some .int) wn_X7_ticksOf rm_X7_ticksOf 0 0 3 := cwV 3 hts (gC_v qc_459 qc_460 qc_461 qc_85 qc_457) rfl rfl rfl (by decide +kernel) hR
abbrev rm_X7_lasts : Room := { frames := 6, cells := 0, slots := 0, locals := 178 }
abbrev wn_X7_lasts : List Cond := .code yX7_lasts cX7_lasts 8 (some .int) :: wsC
def fc_X7_lasts (n : Nat) (σ : CS) (x1 : Int32) (x2 : Int32) (x3 : Int32) (x4 : Int32) : Option ((Int32) × CS) := bd (fc_X0_plateAt n σ x1) (fun r1 σ2 => oc r1 (bd (fc_X7_refuse n σ2 (-1)) (fun r4 σ5 => some (r4, σ5))) (fun q3 => bd (fc_X7_isFloor n σ2 x3) (fun r6 σ7 => if (r6 = 0) then (bd (fc_X7_refuse n σ7 (-1)) (fun r22 σ23 => some (r22, σ23))) else (bd (fc_X7_isZeroOrOne n σ7 x4) (fun r9 σ10 => if (r9 = 0) then (bd (fc_X7_refuse n σ10 (-2)) (fun r20 σ21 => some (r20, σ21))) else (bd (fc_X7_leanRefusal n σ10 x2) (fun r12 σ13 => if (r12 = 0) then (bd (fc_X7_ticksOf n σ13 q3 x2 x3) (fun r15 σ16 => if (x4 = 0) then (some (r15, σ16)) else (some ((σ16.1 31 6), σ16)))) else (bd (fc_X7_refuse n σ13 r12) (fun r18 σ19 => some (r18, σ19))))))))))
set_option maxRecDepth 100000 in
set_option maxHeartbeats 4000000 in
theorem tbc_X7_lasts_0 {p : Program} {l : Launch} {e : Env} {s : State} {m : MethodId} {args : Array Value} {below : List Frame} {meth : Method} {c : Code} {D : va_G} {A : Nat → Prop} {ad : Nat → Nat} {cy : CY} {z : CZ} {r0 : Int32} {σ0 : CS} (hc : cxB RX7 wsC cX7_lasts 8 (some .int) p s m args meth c) (hV : cV D cy z A s) (n : Nat) (σ : CS) (x1 : Int32) (x2 : Int32) (x3 : Int32) (x4 : Int32) {H : Heap} {locs : List Loc} {ls : Array Slot} (hB : cB D ad cy A s.heap σ H locs) (hl : lv_has ls 8 [(0, .ref (ad 0)), (1, .int x1), (2, .int x2), (3, .int x3), (4, .int x4)]) (hf : fc_X7_lasts n σ x1 x2 x3 x4 = some (r0, σ0)) : W p l e rm_X7_lasts s m args below meth c H locs 0 0 (MQ below (cQ D ad cy A (some (.int r0)) σ0) args s 0 0 A) (F0 m 0 ls []) := by
  obtain ⟨hx, hb, hml, hown, hts, hr, hlocks⟩ := id hc
  unfold fc_X7_lasts at hf
  refine lv_aload_n hx hb dX7_lasts_0 rfl (lv_at hl 0 rfl) ?_
  refine rc_get (own := RX7) hx hb hts inC_7 hown hV hB 0 (c34 rfl hB) (ceq_0 _ _ _) rfl 2 (Nat.le_of_ble_eq_true rfl) qf_X7_23 rfl dX7_lasts_1 ?_
  refine lv_iload_n hx hb dX7_lasts_4 rfl (lv_at hl 1 rfl) ?_
  obtain ⟨r1, σ2, hkr1, hf⟩ := bd_e hf
  refine rc_callV (own := RX7) (av := [.int x1]) (rest := []) (rv := (some (va_rf (Option.map ad r1)))) hx hb hml hown hts hl.1 hV hB 5 (c34 rfl hB) (ceq_5 _ _ _) rfl (cc_X0_plateAt l D ad cy z n σ x1 hkr1) (kwc_X7_69  hts ⟨Nat.le_of_ble_eq_true rfl, Nat.le_of_ble_eq_true rfl⟩) rfl rfl (lv_room (Nat.le_of_ble_eq_true rfl)) dX7_lasts_5 (Nat.le_refl _) (Nat.le_refl _) (fun H locs hB => ?_)
  refine W.eq (g2 := F0 m 8 ls [va_rf (Option.map ad r1)]) rfl ?_
  rcases r1 with _ | q3
  · have hf := oc_n hf
    refine lv_astoreN (lv' := [(5, .null), (0, .ref (ad 0)), (1, .int x1), (2, .int x2), (3, .int x3), (4, .int x4)]) hx hb dX7_lasts_8 hl (by decide) rfl (fun ls hl => ?_)
    refine lv_aloadN hx hb dX7_lasts_10 (lv_at hl 0 rfl) ?_
    refine lv_ifnullN (tgt := 22) hx hb dX7_lasts_12 (by decide) ?_
    refine lv_aload_n hx hb dX7_lasts_22 rfl (lv_at hl 1 rfl) ?_
    refine lv_iconst (v := (-1)) hx hb dX7_lasts_23 (by decide) ?_
    obtain ⟨r4, σ5, hkr4, hf⟩ := bd_e hf
    refine rc_callV (own := RX7) (av := [.int (-1)]) (rest := []) (rv := (some (.int r4))) hx hb hml hown hts hl.1 hV hB 0 (c34 rfl hB) (ceq_0 _ _ _) rfl (cc_X7_refuse l D ad cy z n σ2 (-1) hkr4) (kwc_X7_43  hts ⟨Nat.le_of_ble_eq_true rfl, Nat.le_of_ble_eq_true rfl⟩) rfl rfl (lv_room (Nat.le_of_ble_eq_true rfl)) dX7_lasts_24 (Nat.le_refl _) (Nat.le_refl _) (fun H locs hB => ?_)
    refine W.eq (g2 := F0 m 27 ls [.int r4]) rfl ?_
    obtain ⟨rfl, rfl⟩ := so_e hf
    exact rc_iret hx hb hr hlocks hB dX7_lasts_27
  · have hf := oc_s hf
    refine lv_astore (lv' := [(5, .ref (ad q3)), (0, .ref (ad 0)), (1, .int x1), (2, .int x2), (3, .int x3), (4, .int x4)]) hx hb dX7_lasts_8 hl (by decide) rfl (fun ls hl => ?_)
    refine lv_aload hx hb dX7_lasts_10 (lv_at hl 0 rfl) ?_
    refine lv_ifnull hx hb dX7_lasts_12 ?_
    refine lv_iload_n hx hb dX7_lasts_15 rfl (lv_at hl 4 rfl) ?_
    obtain ⟨r6, σ7, hkr6, hf⟩ := bd_e hf
    refine rc_callS (own := RX7) (av := [.int x3]) (rest := []) (rv := (some (.int r6))) hx hb hml hown hts hl.1 hV hB (cc_X7_isFloor l D ad cy z n σ2 x3 hkr6) (kwc_X7_128  hts ⟨Nat.le_of_ble_eq_true rfl, Nat.le_of_ble_eq_true rfl⟩) rfl rfl (lv_room (Nat.le_of_ble_eq_true rfl)) dX7_lasts_16 (Nat.le_refl _) (Nat.le_refl _) (fun H locs hB => ?_)
    refine W.eq (g2 := F0 m 19 ls [.int r6]) rfl ?_
    refine lv_if_ne (tgt := 28) hx hb dX7_lasts_19 (by decide) (fun c8 => ?_) (fun c8 => ?_)
    · have hf := it_f hf c8
      refine lv_iload hx hb dX7_lasts_28 (lv_at hl 5 rfl) ?_
      obtain ⟨r9, σ10, hkr9, hf⟩ := bd_e hf
      refine rc_callS (own := RX7) (av := [.int x4]) (rest := []) (rv := (some (.int r9))) hx hb hml hown hts hl.1 hV hB (cc_X7_isZeroOrOne l D ad cy z n σ7 x4 hkr9) (kwc_X7_132  hts ⟨Nat.le_of_ble_eq_true rfl, Nat.le_of_ble_eq_true rfl⟩) rfl rfl (lv_room (Nat.le_of_ble_eq_true rfl)) dX7_lasts_30 (Nat.le_refl _) (Nat.le_refl _) (fun H locs hB => ?_)
      refine W.eq (g2 := F0 m 33 ls [.int r9]) rfl ?_
      refine lv_if_ne (tgt := 43) hx hb dX7_lasts_33 (by decide) (fun c11 => ?_) (fun c11 => ?_)
      · have hf := it_f hf c11
        refine lv_iload_n hx hb dX7_lasts_43 rfl (lv_at hl 3 rfl) ?_
        obtain ⟨r12, σ13, hkr12, hf⟩ := bd_e hf
        refine rc_callS (own := RX7) (av := [.int x2]) (rest := []) (rv := (some (.int r12))) hx hb hml hown hts hl.1 hV hB (cc_X7_leanRefusal l D ad cy z n σ10 x2 hkr12) (kwc_X7_144  hts ⟨Nat.le_of_ble_eq_true rfl, Nat.le_of_ble_eq_true rfl⟩) rfl rfl (lv_room (Nat.le_of_ble_eq_true rfl)) dX7_lasts_44 (Nat.le_refl _) (Nat.le_refl _) (fun H locs hB => ?_)
        refine W.eq (g2 := F0 m 47 ls [.int r12]) rfl ?_
        refine lv_istore (lv' := [(6, .int r12), (5, .ref (ad q3)), (0, .ref (ad 0)), (1, .int x1), (2, .int x2), (3, .int x3), (4, .int x4)]) hx hb dX7_lasts_47 hl (by decide) rfl (fun ls hl => ?_)
        refine lv_iload hx hb dX7_lasts_49 (lv_at hl 0 rfl) ?_
        refine lv_if_eq (tgt := 61) hx hb dX7_lasts_51 (by decide) (fun c14 => ?_) (fun c14 => ?_)
        · have hf := it_t hf c14
          refine lv_aload_n hx hb dX7_lasts_61 rfl (lv_at hl 2 rfl) ?_
          refine lv_aload hx hb dX7_lasts_62 (lv_at hl 1 rfl) ?_
          refine lv_iload_n hx hb dX7_lasts_64 rfl (lv_at hl 4 rfl) ?_
          refine lv_iload_n hx hb dX7_lasts_65 rfl (lv_at hl 5 rfl) ?_
          obtain ⟨r15, σ16, hkr15, hf⟩ := bd_e hf
          refine rc_callV (own := RX7) (av := [.ref (ad q3), .int x2, .int x3]) (rest := []) (rv := (some (.int r15))) hx hb hml hown hts hl.1 hV hB 0 (c34 rfl hB) (ceq_0 _ _ _) rfl (cc_X7_ticksOf l D ad cy z n σ13 q3 x2 x3 hkr15) (kwc_X7_202  hts ⟨Nat.le_of_ble_eq_true rfl, Nat.le_of_ble_eq_true rfl⟩) rfl rfl (lv_room (Nat.le_of_ble_eq_true rfl)) dX7_lasts_66 (Nat.le_refl _) (Nat.le_refl _) (fun H locs hB => ?_)
          refine W.eq (g2 := F0 m 69 ls [.int r15]) rfl ?_
          refine lv_istore (lv' := [(7, .int r15), (6, .int r12), (5, .ref (ad q3)), (0, .ref (ad 0)), (1, .int x1), (2, .int x2), (3, .int x3), (4, .int x4)]) hx hb dX7_lasts_69 hl (by decide) rfl (fun ls hl => ?_)
          refine lv_iload hx hb dX7_lasts_71 (lv_at hl 7 rfl) ?_
          refine lv_if_ne (tgt := 81) hx hb dX7_lasts_73 (by decide) (fun c17 => ?_) (fun c17 => ?_)
          · have hf := it_f hf c17
            refine lv_aload_n hx hb dX7_lasts_81 rfl (lv_at hl 3 rfl) ?_
            refine rc_get (own := RX7) hx hb hts inC_7 hown hV hB 0 (c34 rfl hB) (ceq_0 _ _ _) rfl 4 (Nat.le_of_ble_eq_true rfl) qf_X7_35 rfl dX7_lasts_82 ?_
            refine rc_get (own := RX7) hx hb hts inC_2 hown hV hB 31 (c34 rfl hB) (ceq_31 _ _ _) rfl 6 (Nat.le_of_ble_eq_true rfl) qf_X7_206 rfl dX7_lasts_85 ?_
            obtain ⟨rfl, rfl⟩ := so_e hf
            exact rc_iret hx hb hr hlocks hB dX7_lasts_88
          · have hf := it_t hf c17
            refine lv_iload hx hb dX7_lasts_76 (lv_at hl 0 rfl) ?_
            refine lv_goto (tgt := 88) hx hb dX7_lasts_78 (by decide) ?_
            obtain ⟨rfl, rfl⟩ := so_e hf
            exact rc_iret hx hb hr hlocks hB dX7_lasts_88
        · have hf := it_f hf c14
          refine lv_aload_n hx hb dX7_lasts_54 rfl (lv_at hl 2 rfl) ?_
          refine lv_iload hx hb dX7_lasts_55 (lv_at hl 0 rfl) ?_
          obtain ⟨r18, σ19, hkr18, hf⟩ := bd_e hf
          refine rc_callV (own := RX7) (av := [.int r12]) (rest := []) (rv := (some (.int r18))) hx hb hml hown hts hl.1 hV hB 0 (c34 rfl hB) (ceq_0 _ _ _) rfl (cc_X7_refuse l D ad cy z n σ13 r12 hkr18) (kwc_X7_43  hts ⟨Nat.le_of_ble_eq_true rfl, Nat.le_of_ble_eq_true rfl⟩) rfl rfl (lv_room (Nat.le_of_ble_eq_true rfl)) dX7_lasts_57 (Nat.le_refl _) (Nat.le_refl _) (fun H locs hB => ?_)
          refine W.eq (g2 := F0 m 60 ls [.int r18]) rfl ?_
          obtain ⟨rfl, rfl⟩ := so_e hf
          exact rc_iret hx hb hr hlocks hB dX7_lasts_60
      · have hf := it_t hf c11
        refine lv_aload_n hx hb dX7_lasts_36 rfl (lv_at hl 1 rfl) ?_
        refine lv_bipush (v := (-2)) hx hb dX7_lasts_37 (by decide) ?_
        obtain ⟨r20, σ21, hkr20, hf⟩ := bd_e hf
        refine rc_callV (own := RX7) (av := [.int (-2)]) (rest := []) (rv := (some (.int r20))) hx hb hml hown hts hl.1 hV hB 0 (c34 rfl hB) (ceq_0 _ _ _) rfl (cc_X7_refuse l D ad cy z n σ10 (-2) hkr20) (kwc_X7_43  hts ⟨Nat.le_of_ble_eq_true rfl, Nat.le_of_ble_eq_true rfl⟩) rfl rfl (lv_room (Nat.le_of_ble_eq_true rfl)) dX7_lasts_39 (Nat.le_refl _) (Nat.le_refl _) (fun H locs hB => ?_)
        refine W.eq (g2 := F0 m 42 ls [.int r20]) rfl ?_
        obtain ⟨rfl, rfl⟩ := so_e hf
        exact rc_iret hx hb hr hlocks hB dX7_lasts_42
    · have hf := it_t hf c8
      refine lv_aload_n hx hb dX7_lasts_22 rfl (lv_at hl 1 rfl) ?_
      refine lv_iconst (v := (-1)) hx hb dX7_lasts_23 (by decide) ?_
      obtain ⟨r22, σ23, hkr22, hf⟩ := bd_e hf
      refine rc_callV (own := RX7) (av := [.int (-1)]) (rest := []) (rv := (some (.int r22))) hx hb hml hown hts hl.1 hV hB 0 (c34 rfl hB) (ceq_0 _ _ _) rfl (cc_X7_refuse l D ad cy z n σ7 (-1) hkr22) (kwc_X7_43  hts ⟨Nat.le_of_ble_eq_true rfl, Nat.le_of_ble_eq_true rfl⟩) rfl rfl (lv_room (Nat.le_of_ble_eq_true rfl)) dX7_lasts_24 (Nat.le_refl _) (Nat.le_refl _) (fun H locs hB => ?_)
      refine W.eq (g2 := F0 m 27 ls [.int r22]) rfl ?_
      obtain ⟨rfl, rfl⟩ := so_e hf
      exact rc_iret hx hb hr hlocks hB dX7_lasts_27
theorem cc_X7_lasts (l : Launch) (D : va_G) (ad : Nat → Nat) (cy : CY) (z : CZ) (n : Nat) (σ : CS) (x1 : Int32) (x2 : Int32) (x3 : Int32) (x4 : Int32) {r0 : Int32} {σ0 : CS} (hf : fc_X7_lasts n σ x1 x2 x3 x4 = some (r0, σ0)) : cM l yX7_lasts wn_X7_lasts rm_X7_lasts D ad cy z [.ref (ad 0), .int x1, .int x2, .int x3, .int x4] σ (some (.int r0)) σ0 :=
  rc_met (ret := (some .int)) (by decide) rfl (Nat.le_of_ble_eq_true rfl) (fun p e s m below meth c A ls hc hV hB hl => tbc_X7_lasts_0 hc hV n σ x1 x2 x3 x4 hB hl hf)
/-! X7_beginAgain -/
abbrev rm_X7_beginAgain : Room := { frames := 3, cells := 0, slots := 0, locals := 68 }
abbrev wn_X7_beginAgain : List Cond := .code yX7_beginAgain cX7_beginAgain 3 none :: wsC
def fc_X7_beginAgain (n : Nat) (σ : CS) (x1 : Int32) : Option ((Int32) × CS) := bd (fc_X0_plateAt n σ (σ.1 12 1)) (fun r1 σ2 => bd (fc_X2_begin n σ2 r1 (σ2.1 12 2) (σ2.1 12 3)) (fun _ σ4 => sq (cp σ4 31 7 x1) (fun σ5 => some (0, σ5))))
set_option maxRecDepth 100000 in
set_option maxHeartbeats 4000000 in
theorem tbc_X7_beginAgain_0 {p : Program} {l : Launch} {e : Env} {s : State} {m : MethodId} {args : Array Value} {below : List Frame} {meth : Method} {c : Code} {D : va_G} {A : Nat → Prop} {ad : Nat → Nat} {cy : CY} {z : CZ} {r0 : Int32} {σ0 : CS} (hc : cxB RX7 wsC cX7_beginAgain 3 none p s m args meth c) (hV : cV D cy z A s) (n : Nat) (σ : CS) (x1 : Int32) {H : Heap} {locs : List Loc} {ls : Array Slot} (hB : cB D ad cy A s.heap σ H locs) (hl : lv_has ls 3 [(0, .ref (ad 0)), (1, .int x1)]) (hf : fc_X7_beginAgain n σ x1 = some (r0, σ0)) : W p l e rm_X7_beginAgain s m args below meth c H locs 0 0 (MQ below (cQ D ad cy A none σ0) args s 0 0 A) (F0 m 0 ls []) := by
  obtain ⟨hx, hb, hml, hown, hts, hr, hlocks⟩ := id hc
  unfold fc_X7_beginAgain at hf
  refine lv_aload_n hx hb dX7_beginAgain_0 rfl (lv_at hl 0 rfl) ?_
  refine rc_get (own := RX7) hx hb hts inC_7 hown hV hB 0 (c34 rfl hB) (ceq_0 _ _ _) rfl 2 (Nat.le_of_ble_eq_true rfl) qf_X7_23 rfl dX7_beginAgain_1 ?_
  refine rc_get (own := RX7) hx hb hts inC_0 hown hV hB 5 (c34 rfl hB) (ceq_5 _ _ _) rfl 6 (Nat.le_of_ble_eq_true rfl) qf_X7_119 rfl dX7_beginAgain_4 ?_
  refine lv_astore_n (lv' := [(2, .ref (ad 12)), (0, .ref (ad 0)), (1, .int x1)]) hx hb dX7_beginAgain_7 rfl hl (by decide) rfl (fun ls hl => ?_)
  refine lv_aload_n hx hb dX7_beginAgain_8 rfl (lv_at hl 1 rfl) ?_
  refine rc_get (own := RX7) hx hb hts inC_7 hown hV hB 0 (c34 rfl hB) (ceq_0 _ _ _) rfl 4 (Nat.le_of_ble_eq_true rfl) qf_X7_35 rfl dX7_beginAgain_9 ?_
  refine lv_aload_n hx hb dX7_beginAgain_12 rfl (lv_at hl 1 rfl) ?_
  refine rc_get (own := RX7) hx hb hts inC_7 hown hV hB 0 (c34 rfl hB) (ceq_0 _ _ _) rfl 2 (Nat.le_of_ble_eq_true rfl) qf_X7_23 rfl dX7_beginAgain_13 ?_
  refine lv_aload_n hx hb dX7_beginAgain_16 rfl (lv_at hl 0 rfl) ?_
  refine rc_get (own := RX7) hx hb hts inC_5 hown hV hB 12 (c34 rfl hB) (ceq_12 _ _ _) rfl 1 (Nat.le_of_ble_eq_true rfl) qf_X7_168 rfl dX7_beginAgain_17 ?_
  obtain ⟨r1, σ2, hkr1, hf⟩ := bd_e hf
  refine rc_callV (own := RX7) (av := [.int (σ.1 12 1)]) (rest := [.ref (ad 31)]) (rv := (some (va_rf (Option.map ad r1)))) hx hb hml hown hts hl.1 hV hB 5 (c34 rfl hB) (ceq_5 _ _ _) rfl (cc_X0_plateAt l D ad cy z n σ (σ.1 12 1) hkr1) (kwc_X7_69  hts ⟨Nat.le_of_ble_eq_true rfl, Nat.le_of_ble_eq_true rfl⟩) rfl rfl (lv_room (Nat.le_of_ble_eq_true rfl)) dX7_beginAgain_20 (Nat.le_refl _) (Nat.le_refl _) (fun H locs hB => ?_)
  refine W.eq (g2 := F0 m 23 ls [va_rf (Option.map ad r1), .ref (ad 31)]) rfl ?_
  refine lv_aload_n hx hb dX7_beginAgain_23 rfl (lv_at hl 0 rfl) ?_
  refine rc_get (own := RX7) hx hb hts inC_5 hown hV hB 12 (c34 rfl hB) (ceq_12 _ _ _) rfl 2 (Nat.le_of_ble_eq_true rfl) qf_X7_291 rfl dX7_beginAgain_24 ?_
  refine lv_aload_n hx hb dX7_beginAgain_27 rfl (lv_at hl 0 rfl) ?_
  refine rc_get (own := RX7) hx hb hts inC_5 hown hV hB 12 (c34 rfl hB) (ceq_12 _ _ _) rfl 3 (Nat.le_of_ble_eq_true rfl) qf_X7_174 rfl dX7_beginAgain_28 ?_
  obtain ⟨r3, σ4, hkr3, hf⟩ := bd_e hf
  refine rc_callV (own := RX7) (av := [va_rf (Option.map ad r1), .int (σ2.1 12 2), .int (σ2.1 12 3)]) (rest := []) (rv := none) hx hb hml hown hts hl.1 hV hB 31 (c34 rfl hB) (ceq_31 _ _ _) rfl (cc_X2_begin l D ad cy z n σ2 r1 (σ2.1 12 2) (σ2.1 12 3) hkr3) (kwc_X7_151  hts ⟨Nat.le_of_ble_eq_true rfl, Nat.le_of_ble_eq_true rfl⟩) rfl rfl (lv_room (Nat.le_of_ble_eq_true rfl)) dX7_beginAgain_31 (Nat.le_refl _) (Nat.le_refl _) (fun H locs hB => ?_)
  refine W.eq (g2 := F0 m 34 ls []) rfl ?_
  refine lv_aload_n hx hb dX7_beginAgain_34 rfl (lv_at hl 1 rfl) ?_
  refine rc_get (own := RX7) hx hb hts inC_7 hown hV hB 0 (c34 rfl hB) (ceq_0 _ _ _) rfl 4 (Nat.le_of_ble_eq_true rfl) qf_X7_35 rfl dX7_beginAgain_35 ?_
  refine lv_iload_n hx hb dX7_beginAgain_38 rfl (lv_at hl 2 rfl) ?_
  refine rc_puti (own := RX7) (ty := .int) hx hb hts inC_2 hown hV hB 31 (c34 rfl hB) (ceq_31 _ _ _) rfl 7 (Nat.le_of_ble_eq_true rfl) qf_X7_294 tyX2 tyX2_ok nmX2 (cst_31_7 _ _ _ _) rfl pdc_2_7 rfl rfl (Nat.le_of_ble_eq_true rfl) dX7_beginAgain_39 (fun σ5 eσ5 H locs hB => ?_)
  have hf := sq_e hf σ5 eσ5
  obtain ⟨rfl, rfl⟩ := so_e hf
  exact rc_vret hx hb hr hlocks hB dX7_beginAgain_42
theorem cc_X7_beginAgain (l : Launch) (D : va_G) (ad : Nat → Nat) (cy : CY) (z : CZ) (n : Nat) (σ : CS) (x1 : Int32) {r0 : Int32} {σ0 : CS} (hf : fc_X7_beginAgain n σ x1 = some (r0, σ0)) : cM l yX7_beginAgain wn_X7_beginAgain rm_X7_beginAgain D ad cy z [.ref (ad 0), .int x1] σ none σ0 :=
  rc_met (ret := none) (by decide) rfl (Nat.le_of_ble_eq_true rfl) (fun p e s m below meth c A ls hc hV hB hl => tbc_X7_beginAgain_0 hc hV n σ x1 hB hl hf)
/-! X7_rules -/
theorem kwc_X7_207 {R : Room} {s : State} {args : Array Value} (hts : ∀ w ∈ wsC, w.before args s = true) (hR : rm_X7_beginAgain.frames + 1 ≤ R.frames ∧ 8 + (3 + 11) + rm_X7_beginAgain.locals ≤ R.locals) : CallW R s args RX7 RX7 207 yX7_beginAgain cX7_beginAgain 3 none wn_X7_beginAgain rm_X7_beginAgain 0 0 1 := cwV 1 hts (gC_v qc_465 qc_466 qc_467 qc_85 qc_464) rfl rfl rfl (by decide +kernel) hR
theorem kwc_X7_214 {R : Room} {s : State} {args : Array Value} (hts : ∀ w ∈ wsC, w.before args s = true) (hR : rm_X2_ruler.frames + 1 ≤ R.frames ∧ 8 + (4 + 11) + rm_X2_ruler.locals ≤ R.locals) : CallW R s args RX7 RX2 214 yX2_ruler cX2_ruler 4 (some .int) wn_X2_ruler rm_X2_ruler 0 0 0 := cwV 0 hts (gC_v qc_468 qc_469 qc_470 qc_108 qc_471) rfl rfl rfl (by decide +kernel) hR
abbrev rm_X7_rules : Room := { frames := 5, cells := 0, slots := 0, locals := 155 }
abbrev wn_X7_rules : List Cond := .code yX7_rules cX7_rules 2 (some .int) :: wsC
def fc_X7_rules (n : Nat) (σ : CS) (x1 : Int32) : Option ((Int32) × CS) := if ((σ.1 12 0) = 0) then (bd (fc_X7_refuse n σ (-3)) (fun r17 σ18 => some (r17, σ18))) else (if (0 ≤ x1) then (if (x1 ≤ 9999) then (bd (fc_X7_beginAgain n σ (-1)) (fun _ σ5 => bd (fc_X2_runTo n σ5 x1) (fun _ σ7 => if ((σ7.1 31 6) = 0) then (bd (fc_X2_advance n σ7) (fun _ σ10 => bd (fc_X2_ruler n σ10) (fun r11 σ12 => some (r11, σ12)))) else (some ((-9), σ7))))) else (bd (fc_X7_refuse n σ (-6)) (fun r13 σ14 => some (r13, σ14)))) else (bd (fc_X7_refuse n σ (-4)) (fun r15 σ16 => some (r15, σ16))))
set_option maxRecDepth 100000 in
set_option maxHeartbeats 4000000 in
theorem tbc_X7_rules_0 {p : Program} {l : Launch} {e : Env} {s : State} {m : MethodId} {args : Array Value} {below : List Frame} {meth : Method} {c : Code} {D : va_G} {A : Nat → Prop} {ad : Nat → Nat} {cy : CY} {z : CZ} {r0 : Int32} {σ0 : CS} (hc : cxB RX7 wsC cX7_rules 2 (some .int) p s m args meth c) (hV : cV D cy z A s) (n : Nat) (σ : CS) (x1 : Int32) {H : Heap} {locs : List Loc} {ls : Array Slot} (hB : cB D ad cy A s.heap σ H locs) (hl : lv_has ls 2 [(0, .ref (ad 0)), (1, .int x1)]) (hf : fc_X7_rules n σ x1 = some (r0, σ0)) : W p l e rm_X7_rules s m args below meth c H locs 0 0 (MQ below (cQ D ad cy A (some (.int r0)) σ0) args s 0 0 A) (F0 m 0 ls []) := by
  obtain ⟨hx, hb, hml, hown, hts, hr, hlocks⟩ := id hc
  unfold fc_X7_rules at hf
  refine lv_aload_n hx hb dX7_rules_0 rfl (lv_at hl 0 rfl) ?_
  refine rc_get (own := RX7) hx hb hts inC_7 hown hV hB 0 (c34 rfl hB) (ceq_0 _ _ _) rfl 2 (Nat.le_of_ble_eq_true rfl) qf_X7_23 rfl dX7_rules_1 ?_
  refine rc_get (own := RX7) hx hb hts inC_0 hown hV hB 5 (c34 rfl hB) (ceq_5 _ _ _) rfl 6 (Nat.le_of_ble_eq_true rfl) qf_X7_119 rfl dX7_rules_4 ?_
  refine rc_get (own := RX7) hx hb hts inC_5 hown hV hB 12 (c34 rfl hB) (ceq_12 _ _ _) rfl 0 (Nat.le_of_ble_eq_true rfl) qf_X7_165 rfl dX7_rules_7 ?_
  refine lv_if_ne (tgt := 20) hx hb dX7_rules_10 (by decide) (fun c1 => ?_) (fun c1 => ?_)
  · have hf := it_f hf c1
    refine lv_iload_n hx hb dX7_rules_20 rfl (lv_at hl 1 rfl) ?_
    refine lv_if_ge (tgt := 31) hx hb dX7_rules_21 (by decide) (fun c2 => ?_) (fun c2 => ?_)
    · have hf := it_t hf c2
      refine lv_iload_n hx hb dX7_rules_31 rfl (lv_at hl 1 rfl) ?_
      refine lv_sipush (v := 9999) hx hb dX7_rules_32 (by decide) ?_
      refine lv_icmp_le (tgt := 45) hx hb dX7_rules_35 (by decide) (fun c3 => ?_) (fun c3 => ?_)
      · have hf := it_t hf c3
        refine lv_aload_n hx hb dX7_rules_45 rfl (lv_at hl 0 rfl) ?_
        refine lv_iconst (v := (-1)) hx hb dX7_rules_46 (by decide) ?_
        obtain ⟨r4, σ5, hkr4, hf⟩ := bd_e hf
        refine rc_callV (own := RX7) (av := [.int (-1)]) (rest := []) (rv := none) hx hb hml hown hts hl.1 hV hB 0 (c34 rfl hB) (ceq_0 _ _ _) rfl (cc_X7_beginAgain l D ad cy z n σ (-1) hkr4) (kwc_X7_207  hts ⟨Nat.le_of_ble_eq_true rfl, Nat.le_of_ble_eq_true rfl⟩) rfl rfl (lv_room (Nat.le_of_ble_eq_true rfl)) dX7_rules_47 (Nat.le_refl _) (Nat.le_refl _) (fun H locs hB => ?_)
        refine W.eq (g2 := F0 m 50 ls []) rfl ?_
        refine lv_aload_n hx hb dX7_rules_50 rfl (lv_at hl 0 rfl) ?_
        refine rc_get (own := RX7) hx hb hts inC_7 hown hV hB 0 (c34 rfl hB) (ceq_0 _ _ _) rfl 4 (Nat.le_of_ble_eq_true rfl) qf_X7_35 rfl dX7_rules_51 ?_
        refine lv_iload_n hx hb dX7_rules_54 rfl (lv_at hl 1 rfl) ?_
        obtain ⟨r6, σ7, hkr6, hf⟩ := bd_e hf
        refine rc_callV (own := RX7) (av := [.int x1]) (rest := []) (rv := none) hx hb hml hown hts hl.1 hV hB 31 (c34 rfl hB) (ceq_31 _ _ _) rfl (cc_X2_runTo l D ad cy z n σ5 x1 hkr6) (kwc_X7_211  hts ⟨Nat.le_of_ble_eq_true rfl, Nat.le_of_ble_eq_true rfl⟩) rfl rfl (lv_room (Nat.le_of_ble_eq_true rfl)) dX7_rules_55 (Nat.le_refl _) (Nat.le_refl _) (fun H locs hB => ?_)
        refine W.eq (g2 := F0 m 58 ls []) rfl ?_
        refine lv_aload_n hx hb dX7_rules_58 rfl (lv_at hl 0 rfl) ?_
        refine rc_get (own := RX7) hx hb hts inC_7 hown hV hB 0 (c34 rfl hB) (ceq_0 _ _ _) rfl 4 (Nat.le_of_ble_eq_true rfl) qf_X7_35 rfl dX7_rules_59 ?_
        refine rc_get (own := RX7) hx hb hts inC_2 hown hV hB 31 (c34 rfl hB) (ceq_31 _ _ _) rfl 6 (Nat.le_of_ble_eq_true rfl) qf_X7_206 rfl dX7_rules_62 ?_
        refine lv_if_eq (tgt := 71) hx hb dX7_rules_65 (by decide) (fun c8 => ?_) (fun c8 => ?_)
        · have hf := it_t hf c8
          refine lv_aload_n hx hb dX7_rules_71 rfl (lv_at hl 0 rfl) ?_
          refine rc_get (own := RX7) hx hb hts inC_7 hown hV hB 0 (c34 rfl hB) (ceq_0 _ _ _) rfl 4 (Nat.le_of_ble_eq_true rfl) qf_X7_35 rfl dX7_rules_72 ?_
          obtain ⟨r9, σ10, hkr9, hf⟩ := bd_e hf
          refine rc_callV (own := RX7) (av := []) (rest := []) (rv := none) hx hb hml hown hts hl.1 hV hB 31 (c34 rfl hB) (ceq_31 _ _ _) rfl (cc_X2_advance l D ad cy z n σ7 hkr9) (kwc_X7_181  hts ⟨Nat.le_of_ble_eq_true rfl, Nat.le_of_ble_eq_true rfl⟩) rfl rfl (lv_room (Nat.le_of_ble_eq_true rfl)) dX7_rules_75 (Nat.le_refl _) (Nat.le_refl _) (fun H locs hB => ?_)
          refine W.eq (g2 := F0 m 78 ls []) rfl ?_
          refine lv_aload_n hx hb dX7_rules_78 rfl (lv_at hl 0 rfl) ?_
          refine rc_get (own := RX7) hx hb hts inC_7 hown hV hB 0 (c34 rfl hB) (ceq_0 _ _ _) rfl 4 (Nat.le_of_ble_eq_true rfl) qf_X7_35 rfl dX7_rules_79 ?_
          obtain ⟨r11, σ12, hkr11, hf⟩ := bd_e hf
          refine rc_callV (own := RX7) (av := []) (rest := []) (rv := (some (.int r11))) hx hb hml hown hts hl.1 hV hB 31 (c34 rfl hB) (ceq_31 _ _ _) rfl (cc_X2_ruler l D ad cy z n σ10 hkr11) (kwc_X7_214  hts ⟨Nat.le_of_ble_eq_true rfl, Nat.le_of_ble_eq_true rfl⟩) rfl rfl (lv_room (Nat.le_of_ble_eq_true rfl)) dX7_rules_82 (Nat.le_refl _) (Nat.le_refl _) (fun H locs hB => ?_)
          refine W.eq (g2 := F0 m 85 ls [.int r11]) rfl ?_
          obtain ⟨rfl, rfl⟩ := so_e hf
          exact rc_iret hx hb hr hlocks hB dX7_rules_85
        · have hf := it_f hf c8
          refine lv_bipush (v := (-9)) hx hb dX7_rules_68 (by decide) ?_
          obtain ⟨rfl, rfl⟩ := so_e hf
          exact rc_iret hx hb hr hlocks hB dX7_rules_70
      · have hf := it_f hf c3
        refine lv_aload_n hx hb dX7_rules_38 rfl (lv_at hl 0 rfl) ?_
        refine lv_bipush (v := (-6)) hx hb dX7_rules_39 (by decide) ?_
        obtain ⟨r13, σ14, hkr13, hf⟩ := bd_e hf
        refine rc_callV (own := RX7) (av := [.int (-6)]) (rest := []) (rv := (some (.int r13))) hx hb hml hown hts hl.1 hV hB 0 (c34 rfl hB) (ceq_0 _ _ _) rfl (cc_X7_refuse l D ad cy z n σ (-6) hkr13) (kwc_X7_43  hts ⟨Nat.le_of_ble_eq_true rfl, Nat.le_of_ble_eq_true rfl⟩) rfl rfl (lv_room (Nat.le_of_ble_eq_true rfl)) dX7_rules_41 (Nat.le_refl _) (Nat.le_refl _) (fun H locs hB => ?_)
        refine W.eq (g2 := F0 m 44 ls [.int r13]) rfl ?_
        obtain ⟨rfl, rfl⟩ := so_e hf
        exact rc_iret hx hb hr hlocks hB dX7_rules_44
    · have hf := it_f hf c2
      refine lv_aload_n hx hb dX7_rules_24 rfl (lv_at hl 0 rfl) ?_
      refine lv_bipush (v := (-4)) hx hb dX7_rules_25 (by decide) ?_
      obtain ⟨r15, σ16, hkr15, hf⟩ := bd_e hf
      refine rc_callV (own := RX7) (av := [.int (-4)]) (rest := []) (rv := (some (.int r15))) hx hb hml hown hts hl.1 hV hB 0 (c34 rfl hB) (ceq_0 _ _ _) rfl (cc_X7_refuse l D ad cy z n σ (-4) hkr15) (kwc_X7_43  hts ⟨Nat.le_of_ble_eq_true rfl, Nat.le_of_ble_eq_true rfl⟩) rfl rfl (lv_room (Nat.le_of_ble_eq_true rfl)) dX7_rules_27 (Nat.le_refl _) (Nat.le_refl _) (fun H locs hB => ?_)
      refine W.eq (g2 := F0 m 30 ls [.int r15]) rfl ?_
      obtain ⟨rfl, rfl⟩ := so_e hf
      exact rc_iret hx hb hr hlocks hB dX7_rules_30
  · have hf := it_t hf c1
    refine lv_aload_n hx hb dX7_rules_13 rfl (lv_at hl 0 rfl) ?_
    refine lv_bipush (v := (-3)) hx hb dX7_rules_14 (by decide) ?_
    obtain ⟨r17, σ18, hkr17, hf⟩ := bd_e hf
    refine rc_callV (own := RX7) (av := [.int (-3)]) (rest := []) (rv := (some (.int r17))) hx hb hml hown hts hl.1 hV hB 0 (c34 rfl hB) (ceq_0 _ _ _) rfl (cc_X7_refuse l D ad cy z n σ (-3) hkr17) (kwc_X7_43  hts ⟨Nat.le_of_ble_eq_true rfl, Nat.le_of_ble_eq_true rfl⟩) rfl rfl (lv_room (Nat.le_of_ble_eq_true rfl)) dX7_rules_16 (Nat.le_refl _) (Nat.le_refl _) (fun H locs hB => ?_)
    refine W.eq (g2 := F0 m 19 ls [.int r17]) rfl ?_
    obtain ⟨rfl, rfl⟩ := so_e hf
    exact rc_iret hx hb hr hlocks hB dX7_rules_19
theorem cc_X7_rules (l : Launch) (D : va_G) (ad : Nat → Nat) (cy : CY) (z : CZ) (n : Nat) (σ : CS) (x1 : Int32) {r0 : Int32} {σ0 : CS} (hf : fc_X7_rules n σ x1 = some (r0, σ0)) : cM l yX7_rules wn_X7_rules rm_X7_rules D ad cy z [.ref (ad 0), .int x1] σ (some (.int r0)) σ0 :=
  rc_met (ret := (some .int)) (by decide) rfl (Nat.le_of_ble_eq_true rfl) (fun p e s m below meth c A ls hc hV hB hl => tbc_X7_rules_0 hc hV n σ x1 hB hl hf)
/-! X7_passes -/
abbrev rm_X7_passes : Room := { frames := 4, cells := 0, slots := 0, locals := 133 }
abbrev wn_X7_passes : List Cond := .code yX7_passes cX7_passes 4 (some .int) :: wsC
def bc_X7_passes_42 (n : Nat) (K42 : CS → Int32 → Int32 → Option ((Int32) × CS)) (σ : CS) (x1 : Int32) (x2 : Int32) : Option ((Int32) × CS) := if (9999 ≤ x2) then (some ((-9), σ)) else (if ((σ.1 31 6) = 0) then (bd (fc_X2_advance n σ) (fun _ σ4 => bd (fc_X2_ruler n σ4) (fun r5 σ6 => if (r5 = (-9)) then (sq (x2 + 1 : Int32) (fun y8 => K42 σ6 x1 y8)) else (if (r5 = x1) then (sq (x2 + 1 : Int32) (fun y10 => K42 σ6 x1 y10)) else (some (x2, σ6)))))) else (some ((-9), σ)))
set_option maxRecDepth 100000 in
set_option maxHeartbeats 4000000 in
theorem tbc_X7_passes_42 {p : Program} {l : Launch} {e : Env} {s : State} {m : MethodId} {args : Array Value} {below : List Frame} {meth : Method} {c : Code} {D : va_G} {A : Nat → Prop} {ad : Nat → Nat} {cy : CY} {z : CZ} {r0 : Int32} {σ0 : CS} (hc : cxB RX7 wsC cX7_passes 4 (some .int) p s m args meth c) (hV : cV D cy z A s) (n : Nat) (K42 : CS → Int32 → Int32 → Option ((Int32) × CS)) (hK42 : ∀ (σ : CS) (x1 : Int32) (x2 : Int32) (H : Heap) (locs : List Loc) (ls : Array Slot), cB D ad cy A s.heap σ H locs → lv_has ls 4 [(0, .ref (ad 0)), (1, .int x1), (2, .int x2)] → K42 σ x1 x2 = some (r0, σ0) → W p l e rm_X7_passes s m args below meth c H locs 0 0 (MQ below (cQ D ad cy A (some (.int r0)) σ0) args s 0 0 A) (F0 m 42 ls [])) (σ : CS) (x1 : Int32) (x2 : Int32) {H : Heap} {locs : List Loc} {ls : Array Slot} (hB : cB D ad cy A s.heap σ H locs) (hl : lv_has ls 4 [(0, .ref (ad 0)), (1, .int x1), (2, .int x2)]) (hf : bc_X7_passes_42 n K42 σ x1 x2 = some (r0, σ0)) : W p l e rm_X7_passes s m args below meth c H locs 0 0 (MQ below (cQ D ad cy A (some (.int r0)) σ0) args s 0 0 A) (F0 m 42 ls []) := by
  obtain ⟨hx, hb, hml, hown, hts, hr, hlocks⟩ := id hc
  unfold bc_X7_passes_42 at hf
  refine lv_iload_n hx hb dX7_passes_42 rfl (lv_at hl 2 rfl) ?_
  refine lv_sipush (v := 9999) hx hb dX7_passes_43 (by decide) ?_
  refine lv_icmp_ge (tgt := 93) hx hb dX7_passes_46 (by decide) (fun c1 => ?_) (fun c1 => ?_)
  · have hf := it_t hf c1
    refine lv_bipush (v := (-9)) hx hb dX7_passes_93 (by decide) ?_
    obtain ⟨rfl, rfl⟩ := so_e hf
    exact rc_iret hx hb hr hlocks hB dX7_passes_95
  · have hf := it_f hf c1
    refine lv_aload_n hx hb dX7_passes_49 rfl (lv_at hl 0 rfl) ?_
    refine rc_get (own := RX7) hx hb hts inC_7 hown hV hB 0 (c34 rfl hB) (ceq_0 _ _ _) rfl 4 (Nat.le_of_ble_eq_true rfl) qf_X7_35 rfl dX7_passes_50 ?_
    refine rc_get (own := RX7) hx hb hts inC_2 hown hV hB 31 (c34 rfl hB) (ceq_31 _ _ _) rfl 6 (Nat.le_of_ble_eq_true rfl) qf_X7_206 rfl dX7_passes_53 ?_
    refine lv_if_ne (tgt := 93) hx hb dX7_passes_56 (by decide) (fun c2 => ?_) (fun c2 => ?_)
    · have hf := it_f hf c2
      refine lv_bipush (v := (-9)) hx hb dX7_passes_93 (by decide) ?_
      obtain ⟨rfl, rfl⟩ := so_e hf
      exact rc_iret hx hb hr hlocks hB dX7_passes_95
    · have hf := it_t hf c2
      refine lv_aload_n hx hb dX7_passes_59 rfl (lv_at hl 0 rfl) ?_
      refine rc_get (own := RX7) hx hb hts inC_7 hown hV hB 0 (c34 rfl hB) (ceq_0 _ _ _) rfl 4 (Nat.le_of_ble_eq_true rfl) qf_X7_35 rfl dX7_passes_60 ?_
      obtain ⟨r3, σ4, hkr3, hf⟩ := bd_e hf
      refine rc_callV (own := RX7) (av := []) (rest := []) (rv := none) hx hb hml hown hts hl.1 hV hB 31 (c34 rfl hB) (ceq_31 _ _ _) rfl (cc_X2_advance l D ad cy z n σ hkr3) (kwc_X7_181  hts ⟨Nat.le_of_ble_eq_true rfl, Nat.le_of_ble_eq_true rfl⟩) rfl rfl (lv_room (Nat.le_of_ble_eq_true rfl)) dX7_passes_63 (Nat.le_refl _) (Nat.le_refl _) (fun H locs hB => ?_)
      refine W.eq (g2 := F0 m 66 ls []) rfl ?_
      refine lv_aload_n hx hb dX7_passes_66 rfl (lv_at hl 0 rfl) ?_
      refine rc_get (own := RX7) hx hb hts inC_7 hown hV hB 0 (c34 rfl hB) (ceq_0 _ _ _) rfl 4 (Nat.le_of_ble_eq_true rfl) qf_X7_35 rfl dX7_passes_67 ?_
      obtain ⟨r5, σ6, hkr5, hf⟩ := bd_e hf
      refine rc_callV (own := RX7) (av := []) (rest := []) (rv := (some (.int r5))) hx hb hml hown hts hl.1 hV hB 31 (c34 rfl hB) (ceq_31 _ _ _) rfl (cc_X2_ruler l D ad cy z n σ4 hkr5) (kwc_X7_214  hts ⟨Nat.le_of_ble_eq_true rfl, Nat.le_of_ble_eq_true rfl⟩) rfl rfl (lv_room (Nat.le_of_ble_eq_true rfl)) dX7_passes_70 (Nat.le_refl _) (Nat.le_refl _) (fun H locs hB => ?_)
      refine W.eq (g2 := F0 m 73 ls [.int r5]) rfl ?_
      refine lv_istore_n (lv' := [(3, .int r5), (0, .ref (ad 0)), (1, .int x1), (2, .int x2)]) hx hb dX7_passes_73 rfl hl (by decide) rfl (fun ls hl => ?_)
      refine lv_iload_n hx hb dX7_passes_74 rfl (lv_at hl 0 rfl) ?_
      refine lv_bipush (v := (-9)) hx hb dX7_passes_75 (by decide) ?_
      refine lv_icmp_eq (tgt := 87) hx hb dX7_passes_77 (by decide) (fun c7 => ?_) (fun c7 => ?_)
      · have hf := it_t hf c7
        obtain ⟨y8, ey8⟩ : ∃ z : Int32, z = x2 + 1 := ⟨_, rfl⟩
        have hf := sq_e hf y8 ey8
        refine lv_iinc (v := y8) (lv' := [(2, .int y8), (3, .int r5), (0, .ref (ad 0)), (1, .int x1)]) hx hb dX7_passes_87 hl (k := 3) rfl (by rw [ey8]; rfl) (by decide) rfl (fun ls hl => ?_)
        refine lv_goto (tgt := 42) hx hb dX7_passes_90 (by decide) ?_
        exact hK42 σ6 x1 y8 _ _ _ hB (lv_sub hl [2, 3, 0] rfl) hf
      · have hf := it_f hf c7
        refine lv_iload_n hx hb dX7_passes_80 rfl (lv_at hl 0 rfl) ?_
        refine lv_iload_n hx hb dX7_passes_81 rfl (lv_at hl 2 rfl) ?_
        refine lv_icmp_eq (tgt := 87) hx hb dX7_passes_82 (by decide) (fun c9 => ?_) (fun c9 => ?_)
        · have hf := it_t hf c9
          obtain ⟨y10, ey10⟩ : ∃ z : Int32, z = x2 + 1 := ⟨_, rfl⟩
          have hf := sq_e hf y10 ey10
          refine lv_iinc (v := y10) (lv' := [(2, .int y10), (3, .int r5), (0, .ref (ad 0)), (1, .int x1)]) hx hb dX7_passes_87 hl (k := 3) rfl (by rw [ey10]; rfl) (by decide) rfl (fun ls hl => ?_)
          refine lv_goto (tgt := 42) hx hb dX7_passes_90 (by decide) ?_
          exact hK42 σ6 x1 y10 _ _ _ hB (lv_sub hl [2, 3, 0] rfl) hf
        · have hf := it_f hf c9
          refine lv_iload_n hx hb dX7_passes_85 rfl (lv_at hl 3 rfl) ?_
          obtain ⟨rfl, rfl⟩ := so_e hf
          exact rc_iret hx hb hr hlocks hB dX7_passes_86
def lc_X7_passes_42 (n : Nat) : Nat → CS → Int32 → Int32 → Option ((Int32) × CS)
  | 0 => fun _ _ _ => none
  | k + 1 => bc_X7_passes_42 n (lc_X7_passes_42 n k)
theorem tlc_X7_passes_42 {p : Program} {l : Launch} {e : Env} {s : State} {m : MethodId} {args : Array Value} {below : List Frame} {meth : Method} {c : Code} {D : va_G} {A : Nat → Prop} {ad : Nat → Nat} {cy : CY} {z : CZ} {r0 : Int32} {σ0 : CS} (hc : cxB RX7 wsC cX7_passes 4 (some .int) p s m args meth c) (hV : cV D cy z A s) (n : Nat) : ∀ (k : Nat) (σ : CS) (x1 : Int32) (x2 : Int32) (H : Heap) (locs : List Loc) (ls : Array Slot), cB D ad cy A s.heap σ H locs → lv_has ls 4 [(0, .ref (ad 0)), (1, .int x1), (2, .int x2)] → lc_X7_passes_42 n k σ x1 x2 = some (r0, σ0) → W p l e rm_X7_passes s m args below meth c H locs 0 0 (MQ below (cQ D ad cy A (some (.int r0)) σ0) args s 0 0 A) (F0 m 42 ls []) := by
  intro k
  induction k with
  | zero =>
    intro σ x1 x2 H locs ls hB hl hf
    have hf : (none : Option ((Int32) × CS)) = some (r0, σ0) := hf
    cases hf
  | succ k ih =>
    intro σ x1 x2 H locs ls hB hl hf
    exact tbc_X7_passes_42 hc hV n (lc_X7_passes_42 n k) ih σ x1 x2 hB hl hf
def fc_X7_passes (n : Nat) (σ : CS) : Option ((Int32) × CS) := if ((σ.1 12 0) = 0) then (bd (fc_X7_refuse n σ (-3)) (fun r9 σ10 => some (r9, σ10))) else (bd (fc_X7_beginAgain n σ (-1)) (fun _ σ3 => bd (fc_X2_advance n σ3) (fun _ σ5 => bd (fc_X2_ruler n σ5) (fun r6 σ7 => sq (1 : Int32) (fun y8 => lc_X7_passes_42 n n σ7 r6 y8)))))
set_option maxRecDepth 100000 in
set_option maxHeartbeats 4000000 in
theorem tbc_X7_passes_0 {p : Program} {l : Launch} {e : Env} {s : State} {m : MethodId} {args : Array Value} {below : List Frame} {meth : Method} {c : Code} {D : va_G} {A : Nat → Prop} {ad : Nat → Nat} {cy : CY} {z : CZ} {r0 : Int32} {σ0 : CS} (hc : cxB RX7 wsC cX7_passes 4 (some .int) p s m args meth c) (hV : cV D cy z A s) (n : Nat) (σ : CS) {H : Heap} {locs : List Loc} {ls : Array Slot} (hB : cB D ad cy A s.heap σ H locs) (hl : lv_has ls 4 [(0, .ref (ad 0))]) (hf : fc_X7_passes n σ = some (r0, σ0)) : W p l e rm_X7_passes s m args below meth c H locs 0 0 (MQ below (cQ D ad cy A (some (.int r0)) σ0) args s 0 0 A) (F0 m 0 ls []) := by
  obtain ⟨hx, hb, hml, hown, hts, hr, hlocks⟩ := id hc
  unfold fc_X7_passes at hf
  refine lv_aload_n hx hb dX7_passes_0 rfl (lv_at hl 0 rfl) ?_
  refine rc_get (own := RX7) hx hb hts inC_7 hown hV hB 0 (c34 rfl hB) (ceq_0 _ _ _) rfl 2 (Nat.le_of_ble_eq_true rfl) qf_X7_23 rfl dX7_passes_1 ?_
  refine rc_get (own := RX7) hx hb hts inC_0 hown hV hB 5 (c34 rfl hB) (ceq_5 _ _ _) rfl 6 (Nat.le_of_ble_eq_true rfl) qf_X7_119 rfl dX7_passes_4 ?_
  refine rc_get (own := RX7) hx hb hts inC_5 hown hV hB 12 (c34 rfl hB) (ceq_12 _ _ _) rfl 0 (Nat.le_of_ble_eq_true rfl) qf_X7_165 rfl dX7_passes_7 ?_
  refine lv_if_ne (tgt := 20) hx hb dX7_passes_10 (by decide) (fun c1 => ?_) (fun c1 => ?_)
  · have hf := it_f hf c1
    refine lv_aload_n hx hb dX7_passes_20 rfl (lv_at hl 0 rfl) ?_
    refine lv_iconst (v := (-1)) hx hb dX7_passes_21 (by decide) ?_
    obtain ⟨r2, σ3, hkr2, hf⟩ := bd_e hf
    refine rc_callV (own := RX7) (av := [.int (-1)]) (rest := []) (rv := none) hx hb hml hown hts hl.1 hV hB 0 (c34 rfl hB) (ceq_0 _ _ _) rfl (cc_X7_beginAgain l D ad cy z n σ (-1) hkr2) (kwc_X7_207  hts ⟨Nat.le_of_ble_eq_true rfl, Nat.le_of_ble_eq_true rfl⟩) rfl rfl (lv_room (Nat.le_of_ble_eq_true rfl)) dX7_passes_22 (Nat.le_refl _) (Nat.le_refl _) (fun H locs hB => ?_)
    refine W.eq (g2 := F0 m 25 ls []) rfl ?_
    refine lv_aload_n hx hb dX7_passes_25 rfl (lv_at hl 0 rfl) ?_
    refine rc_get (own := RX7) hx hb hts inC_7 hown hV hB 0 (c34 rfl hB) (ceq_0 _ _ _) rfl 4 (Nat.le_of_ble_eq_true rfl) qf_X7_35 rfl dX7_passes_26 ?_
    obtain ⟨r4, σ5, hkr4, hf⟩ := bd_e hf
    refine rc_callV (own := RX7) (av := []) (rest := []) (rv := none) hx hb hml hown hts hl.1 hV hB 31 (c34 rfl hB) (ceq_31 _ _ _) rfl (cc_X2_advance l D ad cy z n σ3 hkr4) (kwc_X7_181  hts ⟨Nat.le_of_ble_eq_true rfl, Nat.le_of_ble_eq_true rfl⟩) rfl rfl (lv_room (Nat.le_of_ble_eq_true rfl)) dX7_passes_29 (Nat.le_refl _) (Nat.le_refl _) (fun H locs hB => ?_)
    refine W.eq (g2 := F0 m 32 ls []) rfl ?_
    refine lv_aload_n hx hb dX7_passes_32 rfl (lv_at hl 0 rfl) ?_
    refine rc_get (own := RX7) hx hb hts inC_7 hown hV hB 0 (c34 rfl hB) (ceq_0 _ _ _) rfl 4 (Nat.le_of_ble_eq_true rfl) qf_X7_35 rfl dX7_passes_33 ?_
    obtain ⟨r6, σ7, hkr6, hf⟩ := bd_e hf
    refine rc_callV (own := RX7) (av := []) (rest := []) (rv := (some (.int r6))) hx hb hml hown hts hl.1 hV hB 31 (c34 rfl hB) (ceq_31 _ _ _) rfl (cc_X2_ruler l D ad cy z n σ5 hkr6) (kwc_X7_214  hts ⟨Nat.le_of_ble_eq_true rfl, Nat.le_of_ble_eq_true rfl⟩) rfl rfl (lv_room (Nat.le_of_ble_eq_true rfl)) dX7_passes_36 (Nat.le_refl _) (Nat.le_refl _) (fun H locs hB => ?_)
    refine W.eq (g2 := F0 m 39 ls [.int r6]) rfl ?_
    refine lv_istore_n (lv' := [(1, .int r6), (0, .ref (ad 0))]) hx hb dX7_passes_39 rfl hl (by decide) rfl (fun ls hl => ?_)
    refine lv_iconst (v := 1) hx hb dX7_passes_40 (by decide) ?_
    refine lv_topi (fun y8 ey8 => ?_)
    have hf := sq_e hf y8 ey8
    refine lv_istore_n (lv' := [(2, .int y8), (1, .int r6), (0, .ref (ad 0))]) hx hb dX7_passes_41 rfl hl (by decide) rfl (fun ls hl => ?_)
    exact tlc_X7_passes_42 hc hV n n σ7 r6 y8 _ _ _ hB (lv_sub hl [2, 1, 0] rfl) hf
  · have hf := it_t hf c1
    refine lv_aload_n hx hb dX7_passes_13 rfl (lv_at hl 0 rfl) ?_
    refine lv_bipush (v := (-3)) hx hb dX7_passes_14 (by decide) ?_
    obtain ⟨r9, σ10, hkr9, hf⟩ := bd_e hf
    refine rc_callV (own := RX7) (av := [.int (-3)]) (rest := []) (rv := (some (.int r9))) hx hb hml hown hts hl.1 hV hB 0 (c34 rfl hB) (ceq_0 _ _ _) rfl (cc_X7_refuse l D ad cy z n σ (-3) hkr9) (kwc_X7_43  hts ⟨Nat.le_of_ble_eq_true rfl, Nat.le_of_ble_eq_true rfl⟩) rfl rfl (lv_room (Nat.le_of_ble_eq_true rfl)) dX7_passes_16 (Nat.le_refl _) (Nat.le_refl _) (fun H locs hB => ?_)
    refine W.eq (g2 := F0 m 19 ls [.int r9]) rfl ?_
    obtain ⟨rfl, rfl⟩ := so_e hf
    exact rc_iret hx hb hr hlocks hB dX7_passes_19
theorem cc_X7_passes (l : Launch) (D : va_G) (ad : Nat → Nat) (cy : CY) (z : CZ) (n : Nat) (σ : CS) {r0 : Int32} {σ0 : CS} (hf : fc_X7_passes n σ = some (r0, σ0)) : cM l yX7_passes wn_X7_passes rm_X7_passes D ad cy z [.ref (ad 0)] σ (some (.int r0)) σ0 :=
  rc_met (ret := (some .int)) (by decide) rfl (Nat.le_of_ble_eq_true rfl) (fun p e s m below meth c A ls hc hV hB hl => tbc_X7_passes_0 hc hV n σ hB hl hf)
/-! X7_heard -/
theorem kwc_X7_226 {R : Room} {s : State} {args : Array Value} (hts : ∀ w ∈ wsC, w.before args s = true) (hR : rm_X4_append.frames + 1 ≤ R.frames ∧ 8 + (2 + 11) + rm_X4_append.locals ≤ R.locals) : CallW R s args RX7 RX4 226 yX4_append cX4_append 2 (some .int) wn_X4_append rm_X4_append 0 0 1 := cwV 1 hts (gC_v qc_475 qc_476 qc_477 qc_18 qc_478) rfl rfl rfl (by decide +kernel) hR
abbrev rm_X7_heard : Room := { frames := 1, cells := 0, slots := 0, locals := 22 }
abbrev wn_X7_heard : List Cond := .code yX7_heard cX7_heard 2 (some .int) :: wsC
def fc_X7_heard (n : Nat) (σ : CS) (x1 : Int32) : Option ((Int32) × CS) := if ((-1) ≤ x1) then (if (99999 < x1) then (bd (fc_X7_refuse n σ (-6)) (fun r3 σ4 => some (r3, σ4))) else (if ((σ.1 16 1) < 24) then (bd (fc_X4_append n σ x1) (fun r6 σ7 => some (r6, σ7))) else (bd (fc_X7_refuse n σ (-6)) (fun r8 σ9 => some (r8, σ9))))) else (bd (fc_X7_refuse n σ (-4)) (fun r10 σ11 => some (r10, σ11)))
set_option maxRecDepth 100000 in
set_option maxHeartbeats 4000000 in
theorem tbc_X7_heard_0 {p : Program} {l : Launch} {e : Env} {s : State} {m : MethodId} {args : Array Value} {below : List Frame} {meth : Method} {c : Code} {D : va_G} {A : Nat → Prop} {ad : Nat → Nat} {cy : CY} {z : CZ} {r0 : Int32} {σ0 : CS} (hc : cxB RX7 wsC cX7_heard 2 (some .int) p s m args meth c) (hV : cV D cy z A s) (n : Nat) (σ : CS) (x1 : Int32) {H : Heap} {locs : List Loc} {ls : Array Slot} (hB : cB D ad cy A s.heap σ H locs) (hl : lv_has ls 2 [(0, .ref (ad 0)), (1, .int x1)]) (hf : fc_X7_heard n σ x1 = some (r0, σ0)) : W p l e rm_X7_heard s m args below meth c H locs 0 0 (MQ below (cQ D ad cy A (some (.int r0)) σ0) args s 0 0 A) (F0 m 0 ls []) := by
  obtain ⟨hx, hb, hml, hown, hts, hr, hlocks⟩ := id hc
  unfold fc_X7_heard at hf
  refine lv_iload_n hx hb dX7_heard_0 rfl (lv_at hl 1 rfl) ?_
  refine lv_iconst (v := (-1)) hx hb dX7_heard_1 (by decide) ?_
  refine lv_icmp_ge (tgt := 12) hx hb dX7_heard_2 (by decide) (fun c1 => ?_) (fun c1 => ?_)
  · have hf := it_t hf c1
    refine lv_iload_n hx hb dX7_heard_12 rfl (lv_at hl 1 rfl) ?_
    refine lv_ldc (v := 99999) hx hb hown (hts _ qc_472) dX7_heard_13 ?_
    refine lv_icmp_gt (tgt := 33) hx hb dX7_heard_15 (by decide) (fun c2 => ?_) (fun c2 => ?_)
    · have hf := it_t hf c2
      refine lv_aload_n hx hb dX7_heard_33 rfl (lv_at hl 0 rfl) ?_
      refine lv_bipush (v := (-6)) hx hb dX7_heard_34 (by decide) ?_
      obtain ⟨r3, σ4, hkr3, hf⟩ := bd_e hf
      refine rc_callV (own := RX7) (av := [.int (-6)]) (rest := []) (rv := (some (.int r3))) hx hb hml hown hts hl.1 hV hB 0 (c34 rfl hB) (ceq_0 _ _ _) rfl (cc_X7_refuse l D ad cy z n σ (-6) hkr3) (kwc_X7_43  hts ⟨Nat.le_of_ble_eq_true rfl, Nat.le_of_ble_eq_true rfl⟩) rfl rfl (lv_room (Nat.le_of_ble_eq_true rfl)) dX7_heard_36 (Nat.le_refl _) (Nat.le_refl _) (fun H locs hB => ?_)
      refine W.eq (g2 := F0 m 39 ls [.int r3]) rfl ?_
      obtain ⟨rfl, rfl⟩ := so_e hf
      exact rc_iret hx hb hr hlocks hB dX7_heard_39
    · have hf := it_f hf c2
      refine lv_aload_n hx hb dX7_heard_18 rfl (lv_at hl 0 rfl) ?_
      refine rc_get (own := RX7) hx hb hts inC_7 hown hV hB 0 (c34 rfl hB) (ceq_0 _ _ _) rfl 2 (Nat.le_of_ble_eq_true rfl) qf_X7_23 rfl dX7_heard_19 ?_
      refine rc_get (own := RX7) hx hb hts inC_0 hown hV hB 5 (c34 rfl hB) (ceq_5 _ _ _) rfl 7 (Nat.le_of_ble_eq_true rfl) qf_X7_219 rfl dX7_heard_22 ?_
      refine rc_get (own := RX7) hx hb hts inC_4 hown hV hB 16 (c34 rfl hB) (ceq_16 _ _ _) rfl 1 (Nat.le_of_ble_eq_true rfl) qf_X7_223 rfl dX7_heard_25 ?_
      refine lv_bipush (v := 24) hx hb dX7_heard_28 (by decide) ?_
      refine lv_icmp_lt (tgt := 40) hx hb dX7_heard_30 (by decide) (fun c5 => ?_) (fun c5 => ?_)
      · have hf := it_t hf c5
        refine lv_aload_n hx hb dX7_heard_40 rfl (lv_at hl 0 rfl) ?_
        refine rc_get (own := RX7) hx hb hts inC_7 hown hV hB 0 (c34 rfl hB) (ceq_0 _ _ _) rfl 2 (Nat.le_of_ble_eq_true rfl) qf_X7_23 rfl dX7_heard_41 ?_
        refine rc_get (own := RX7) hx hb hts inC_0 hown hV hB 5 (c34 rfl hB) (ceq_5 _ _ _) rfl 7 (Nat.le_of_ble_eq_true rfl) qf_X7_219 rfl dX7_heard_44 ?_
        refine lv_iload_n hx hb dX7_heard_47 rfl (lv_at hl 1 rfl) ?_
        obtain ⟨r6, σ7, hkr6, hf⟩ := bd_e hf
        refine rc_callV (own := RX7) (av := [.int x1]) (rest := []) (rv := (some (.int r6))) hx hb hml hown hts hl.1 hV hB 16 (c34 rfl hB) (ceq_16 _ _ _) rfl (cc_X4_append l D ad cy z n σ x1 hkr6) (kwc_X7_226  hts ⟨Nat.le_of_ble_eq_true rfl, Nat.le_of_ble_eq_true rfl⟩) rfl rfl (lv_room (Nat.le_of_ble_eq_true rfl)) dX7_heard_48 (Nat.le_refl _) (Nat.le_refl _) (fun H locs hB => ?_)
        refine W.eq (g2 := F0 m 51 ls [.int r6]) rfl ?_
        obtain ⟨rfl, rfl⟩ := so_e hf
        exact rc_iret hx hb hr hlocks hB dX7_heard_51
      · have hf := it_f hf c5
        refine lv_aload_n hx hb dX7_heard_33 rfl (lv_at hl 0 rfl) ?_
        refine lv_bipush (v := (-6)) hx hb dX7_heard_34 (by decide) ?_
        obtain ⟨r8, σ9, hkr8, hf⟩ := bd_e hf
        refine rc_callV (own := RX7) (av := [.int (-6)]) (rest := []) (rv := (some (.int r8))) hx hb hml hown hts hl.1 hV hB 0 (c34 rfl hB) (ceq_0 _ _ _) rfl (cc_X7_refuse l D ad cy z n σ (-6) hkr8) (kwc_X7_43  hts ⟨Nat.le_of_ble_eq_true rfl, Nat.le_of_ble_eq_true rfl⟩) rfl rfl (lv_room (Nat.le_of_ble_eq_true rfl)) dX7_heard_36 (Nat.le_refl _) (Nat.le_refl _) (fun H locs hB => ?_)
        refine W.eq (g2 := F0 m 39 ls [.int r8]) rfl ?_
        obtain ⟨rfl, rfl⟩ := so_e hf
        exact rc_iret hx hb hr hlocks hB dX7_heard_39
  · have hf := it_f hf c1
    refine lv_aload_n hx hb dX7_heard_5 rfl (lv_at hl 0 rfl) ?_
    refine lv_bipush (v := (-4)) hx hb dX7_heard_6 (by decide) ?_
    obtain ⟨r10, σ11, hkr10, hf⟩ := bd_e hf
    refine rc_callV (own := RX7) (av := [.int (-4)]) (rest := []) (rv := (some (.int r10))) hx hb hml hown hts hl.1 hV hB 0 (c34 rfl hB) (ceq_0 _ _ _) rfl (cc_X7_refuse l D ad cy z n σ (-4) hkr10) (kwc_X7_43  hts ⟨Nat.le_of_ble_eq_true rfl, Nat.le_of_ble_eq_true rfl⟩) rfl rfl (lv_room (Nat.le_of_ble_eq_true rfl)) dX7_heard_8 (Nat.le_refl _) (Nat.le_refl _) (fun H locs hB => ?_)
    refine W.eq (g2 := F0 m 11 ls [.int r10]) rfl ?_
    obtain ⟨rfl, rfl⟩ := so_e hf
    exact rc_iret hx hb hr hlocks hB dX7_heard_11
theorem cc_X7_heard (l : Launch) (D : va_G) (ad : Nat → Nat) (cy : CY) (z : CZ) (n : Nat) (σ : CS) (x1 : Int32) {r0 : Int32} {σ0 : CS} (hf : fc_X7_heard n σ x1 = some (r0, σ0)) : cM l yX7_heard wn_X7_heard rm_X7_heard D ad cy z [.ref (ad 0), .int x1] σ (some (.int r0)) σ0 :=
  rc_met (ret := (some .int)) (by decide) rfl (Nat.le_of_ble_eq_true rfl) (fun p e s m below meth c A ls hc hV hB hl => tbc_X7_heard_0 hc hV n σ x1 hB hl hf)
/-! X7_hush -/
abbrev rm_X7_hush : Room := { frames := 0, cells := 0, slots := 0, locals := 0 }
abbrev wn_X7_hush : List Cond := .code yX7_hush cX7_hush 2 (some .int) :: wsC
def fc_X7_hush (n : Nat) (σ : CS) : Option ((Int32) × CS) := sq ((σ.1 16 1) : Int32) (fun y1 => sq (cp σ 16 1 0) (fun σ2 => some (y1, σ2)))
set_option maxRecDepth 100000 in
set_option maxHeartbeats 4000000 in
theorem tbc_X7_hush_0 {p : Program} {l : Launch} {e : Env} {s : State} {m : MethodId} {args : Array Value} {below : List Frame} {meth : Method} {c : Code} {D : va_G} {A : Nat → Prop} {ad : Nat → Nat} {cy : CY} {z : CZ} {r0 : Int32} {σ0 : CS} (hc : cxB RX7 wsC cX7_hush 2 (some .int) p s m args meth c) (hV : cV D cy z A s) (n : Nat) (σ : CS) {H : Heap} {locs : List Loc} {ls : Array Slot} (hB : cB D ad cy A s.heap σ H locs) (hl : lv_has ls 2 [(0, .ref (ad 0))]) (hf : fc_X7_hush n σ = some (r0, σ0)) : W p l e rm_X7_hush s m args below meth c H locs 0 0 (MQ below (cQ D ad cy A (some (.int r0)) σ0) args s 0 0 A) (F0 m 0 ls []) := by
  obtain ⟨hx, hb, hml, hown, hts, hr, hlocks⟩ := id hc
  unfold fc_X7_hush at hf
  refine lv_aload_n hx hb dX7_hush_0 rfl (lv_at hl 0 rfl) ?_
  refine rc_get (own := RX7) hx hb hts inC_7 hown hV hB 0 (c34 rfl hB) (ceq_0 _ _ _) rfl 2 (Nat.le_of_ble_eq_true rfl) qf_X7_23 rfl dX7_hush_1 ?_
  refine rc_get (own := RX7) hx hb hts inC_0 hown hV hB 5 (c34 rfl hB) (ceq_5 _ _ _) rfl 7 (Nat.le_of_ble_eq_true rfl) qf_X7_219 rfl dX7_hush_4 ?_
  refine rc_get (own := RX7) hx hb hts inC_4 hown hV hB 16 (c34 rfl hB) (ceq_16 _ _ _) rfl 1 (Nat.le_of_ble_eq_true rfl) qf_X7_223 rfl dX7_hush_7 ?_
  refine lv_topi (fun y1 ey1 => ?_)
  have hf := sq_e hf y1 ey1
  refine lv_istore_n (lv' := [(1, .int y1), (0, .ref (ad 0))]) hx hb dX7_hush_10 rfl hl (by decide) rfl (fun ls hl => ?_)
  refine lv_aload_n hx hb dX7_hush_11 rfl (lv_at hl 1 rfl) ?_
  refine rc_get (own := RX7) hx hb hts inC_7 hown hV hB 0 (c34 rfl hB) (ceq_0 _ _ _) rfl 2 (Nat.le_of_ble_eq_true rfl) qf_X7_23 rfl dX7_hush_12 ?_
  refine rc_get (own := RX7) hx hb hts inC_0 hown hV hB 5 (c34 rfl hB) (ceq_5 _ _ _) rfl 7 (Nat.le_of_ble_eq_true rfl) qf_X7_219 rfl dX7_hush_15 ?_
  refine lv_iconst (v := 0) hx hb dX7_hush_18 (by decide) ?_
  refine rc_puti (own := RX7) (ty := .int) hx hb hts inC_4 hown hV hB 16 (c34 rfl hB) (ceq_16 _ _ _) rfl 1 (Nat.le_of_ble_eq_true rfl) qf_X7_223 tyX4 tyX4_ok nmX4 (cst_16_1 _ _ _ _) rfl pdc_4_1 rfl rfl (Nat.le_of_ble_eq_true rfl) dX7_hush_19 (fun σ2 eσ2 H locs hB => ?_)
  have hf := sq_e hf σ2 eσ2
  refine lv_iload_n hx hb dX7_hush_22 rfl (lv_at hl 0 rfl) ?_
  obtain ⟨rfl, rfl⟩ := so_e hf
  exact rc_iret hx hb hr hlocks hB dX7_hush_23
theorem cc_X7_hush (l : Launch) (D : va_G) (ad : Nat → Nat) (cy : CY) (z : CZ) (n : Nat) (σ : CS) {r0 : Int32} {σ0 : CS} (hf : fc_X7_hush n σ = some (r0, σ0)) : cM l yX7_hush wn_X7_hush rm_X7_hush D ad cy z [.ref (ad 0)] σ (some (.int r0)) σ0 :=
  rc_met (ret := (some .int)) (by decide) rfl (Nat.le_of_ble_eq_true rfl) (fun p e s m below meth c A ls hc hV hB hl => tbc_X7_hush_0 hc hV n σ hB hl hf)
/-! X7_slip -/
abbrev rm_X7_slip : Room := { frames := 1, cells := 0, slots := 0, locals := 22 }
abbrev wn_X7_slip : List Cond := .code yX7_slip cX7_slip 3 (some .int) :: wsC
def fc_X7_slip (n : Nat) (σ : CS) (x1 : Int32) : Option ((Int32) × CS) := if (0 ≤ x1) then (if (x1 ≤ 999) then (sq ((σ.1 16 2) : Int32) (fun y3 => sq (cp σ 16 2 x1) (fun σ4 => some (y3, σ4)))) else (bd (fc_X7_refuse n σ (-6)) (fun r5 σ6 => some (r5, σ6)))) else (bd (fc_X7_refuse n σ (-4)) (fun r7 σ8 => some (r7, σ8)))
set_option maxRecDepth 100000 in
set_option maxHeartbeats 4000000 in
theorem tbc_X7_slip_0 {p : Program} {l : Launch} {e : Env} {s : State} {m : MethodId} {args : Array Value} {below : List Frame} {meth : Method} {c : Code} {D : va_G} {A : Nat → Prop} {ad : Nat → Nat} {cy : CY} {z : CZ} {r0 : Int32} {σ0 : CS} (hc : cxB RX7 wsC cX7_slip 3 (some .int) p s m args meth c) (hV : cV D cy z A s) (n : Nat) (σ : CS) (x1 : Int32) {H : Heap} {locs : List Loc} {ls : Array Slot} (hB : cB D ad cy A s.heap σ H locs) (hl : lv_has ls 3 [(0, .ref (ad 0)), (1, .int x1)]) (hf : fc_X7_slip n σ x1 = some (r0, σ0)) : W p l e rm_X7_slip s m args below meth c H locs 0 0 (MQ below (cQ D ad cy A (some (.int r0)) σ0) args s 0 0 A) (F0 m 0 ls []) := by
  obtain ⟨hx, hb, hml, hown, hts, hr, hlocks⟩ := id hc
  unfold fc_X7_slip at hf
  refine lv_iload_n hx hb dX7_slip_0 rfl (lv_at hl 1 rfl) ?_
  refine lv_if_ge (tgt := 11) hx hb dX7_slip_1 (by decide) (fun c1 => ?_) (fun c1 => ?_)
  · have hf := it_t hf c1
    refine lv_iload_n hx hb dX7_slip_11 rfl (lv_at hl 1 rfl) ?_
    refine lv_sipush (v := 999) hx hb dX7_slip_12 (by decide) ?_
    refine lv_icmp_le (tgt := 25) hx hb dX7_slip_15 (by decide) (fun c2 => ?_) (fun c2 => ?_)
    · have hf := it_t hf c2
      refine lv_aload_n hx hb dX7_slip_25 rfl (lv_at hl 0 rfl) ?_
      refine rc_get (own := RX7) hx hb hts inC_7 hown hV hB 0 (c34 rfl hB) (ceq_0 _ _ _) rfl 2 (Nat.le_of_ble_eq_true rfl) qf_X7_23 rfl dX7_slip_26 ?_
      refine rc_get (own := RX7) hx hb hts inC_0 hown hV hB 5 (c34 rfl hB) (ceq_5 _ _ _) rfl 7 (Nat.le_of_ble_eq_true rfl) qf_X7_219 rfl dX7_slip_29 ?_
      refine rc_get (own := RX7) hx hb hts inC_4 hown hV hB 16 (c34 rfl hB) (ceq_16 _ _ _) rfl 2 (Nat.le_of_ble_eq_true rfl) qf_X7_228 rfl dX7_slip_32 ?_
      refine lv_topi (fun y3 ey3 => ?_)
      have hf := sq_e hf y3 ey3
      refine lv_istore_n (lv' := [(2, .int y3), (0, .ref (ad 0)), (1, .int x1)]) hx hb dX7_slip_35 rfl hl (by decide) rfl (fun ls hl => ?_)
      refine lv_aload_n hx hb dX7_slip_36 rfl (lv_at hl 1 rfl) ?_
      refine rc_get (own := RX7) hx hb hts inC_7 hown hV hB 0 (c34 rfl hB) (ceq_0 _ _ _) rfl 2 (Nat.le_of_ble_eq_true rfl) qf_X7_23 rfl dX7_slip_37 ?_
      refine rc_get (own := RX7) hx hb hts inC_0 hown hV hB 5 (c34 rfl hB) (ceq_5 _ _ _) rfl 7 (Nat.le_of_ble_eq_true rfl) qf_X7_219 rfl dX7_slip_40 ?_
      refine lv_iload_n hx hb dX7_slip_43 rfl (lv_at hl 2 rfl) ?_
      refine rc_puti (own := RX7) (ty := .int) hx hb hts inC_4 hown hV hB 16 (c34 rfl hB) (ceq_16 _ _ _) rfl 2 (Nat.le_of_ble_eq_true rfl) qf_X7_228 tyX4 tyX4_ok nmX4 (cst_16_2 _ _ _ _) rfl pdc_4_2 rfl rfl (Nat.le_of_ble_eq_true rfl) dX7_slip_44 (fun σ4 eσ4 H locs hB => ?_)
      have hf := sq_e hf σ4 eσ4
      refine lv_iload_n hx hb dX7_slip_47 rfl (lv_at hl 0 rfl) ?_
      obtain ⟨rfl, rfl⟩ := so_e hf
      exact rc_iret hx hb hr hlocks hB dX7_slip_48
    · have hf := it_f hf c2
      refine lv_aload_n hx hb dX7_slip_18 rfl (lv_at hl 0 rfl) ?_
      refine lv_bipush (v := (-6)) hx hb dX7_slip_19 (by decide) ?_
      obtain ⟨r5, σ6, hkr5, hf⟩ := bd_e hf
      refine rc_callV (own := RX7) (av := [.int (-6)]) (rest := []) (rv := (some (.int r5))) hx hb hml hown hts hl.1 hV hB 0 (c34 rfl hB) (ceq_0 _ _ _) rfl (cc_X7_refuse l D ad cy z n σ (-6) hkr5) (kwc_X7_43  hts ⟨Nat.le_of_ble_eq_true rfl, Nat.le_of_ble_eq_true rfl⟩) rfl rfl (lv_room (Nat.le_of_ble_eq_true rfl)) dX7_slip_21 (Nat.le_refl _) (Nat.le_refl _) (fun H locs hB => ?_)
      refine W.eq (g2 := F0 m 24 ls [.int r5]) rfl ?_
      obtain ⟨rfl, rfl⟩ := so_e hf
      exact rc_iret hx hb hr hlocks hB dX7_slip_24
  · have hf := it_f hf c1
    refine lv_aload_n hx hb dX7_slip_4 rfl (lv_at hl 0 rfl) ?_
    refine lv_bipush (v := (-4)) hx hb dX7_slip_5 (by decide) ?_
    obtain ⟨r7, σ8, hkr7, hf⟩ := bd_e hf
    refine rc_callV (own := RX7) (av := [.int (-4)]) (rest := []) (rv := (some (.int r7))) hx hb hml hown hts hl.1 hV hB 0 (c34 rfl hB) (ceq_0 _ _ _) rfl (cc_X7_refuse l D ad cy z n σ (-4) hkr7) (kwc_X7_43  hts ⟨Nat.le_of_ble_eq_true rfl, Nat.le_of_ble_eq_true rfl⟩) rfl rfl (lv_room (Nat.le_of_ble_eq_true rfl)) dX7_slip_7 (Nat.le_refl _) (Nat.le_refl _) (fun H locs hB => ?_)
    refine W.eq (g2 := F0 m 10 ls [.int r7]) rfl ?_
    obtain ⟨rfl, rfl⟩ := so_e hf
    exact rc_iret hx hb hr hlocks hB dX7_slip_10
theorem cc_X7_slip (l : Launch) (D : va_G) (ad : Nat → Nat) (cy : CY) (z : CZ) (n : Nat) (σ : CS) (x1 : Int32) {r0 : Int32} {σ0 : CS} (hf : fc_X7_slip n σ x1 = some (r0, σ0)) : cM l yX7_slip wn_X7_slip rm_X7_slip D ad cy z [.ref (ad 0), .int x1] σ (some (.int r0)) σ0 :=
  rc_met (ret := (some .int)) (by decide) rfl (Nat.le_of_ble_eq_true rfl) (fun p e s m below meth c A ls hc hV hB hl => tbc_X7_slip_0 hc hV n σ x1 hB hl hf)
