/-! X7_leg -/
theorem kwc_X7_276 {R : Room} {s : State} {args : Array Value} (hts : ∀ w ∈ wsC, w.before args s = true) (hR : rm_X0_addLeg.frames + 1 ≤ R.frames ∧ 8 + (3 + 11) + rm_X0_addLeg.locals ≤ R.locals) : CallW R s args RX7 RX0 276 yX0_addLeg cX0_addLeg 3 (some .int) wn_X0_addLeg rm_X0_addLeg 0 0 2 := cwV 2 hts (gC_v qc_537 qc_538 qc_539 qc_126 qc_540) rfl rfl rfl (by decide +kernel) hR
abbrev rm_X7_leg : Room := { frames := 1, cells := 0, slots := 0, locals := 22 }
abbrev wn_X7_leg : List Cond := .code yX7_leg cX7_leg 3 (some .int) :: wsC
def fc_X7_leg (n : Nat) (σ : CS) (x1 : Int32) (x2 : Int32) : Option ((Int32) × CS) := bd (fc_X7_isFloor n σ x1) (fun r1 σ2 => if (r1 = 0) then (bd (fc_X7_refuse n σ2 (-1)) (fun r15 σ16 => some (r15, σ16))) else (if (1 ≤ x2) then (if (999 < x2) then (bd (fc_X7_refuse n σ2 (-6)) (fun r6 σ7 => some (r6, σ7))) else (if ((σ2.1 5 10) < 4) then (bd (fc_X0_addLeg n σ2 x1 x2) (fun r9 σ10 => some (r9, σ10))) else (bd (fc_X7_refuse n σ2 (-6)) (fun r11 σ12 => some (r11, σ12))))) else (bd (fc_X7_refuse n σ2 (-4)) (fun r13 σ14 => some (r13, σ14)))))
set_option maxRecDepth 100000 in
set_option maxHeartbeats 4000000 in
theorem tbc_X7_leg_0 {p : Program} {l : Launch} {e : Env} {s : State} {m : MethodId} {args : Array Value} {below : List Frame} {meth : Method} {c : Code} {D : va_G} {A : Nat → Prop} {ad : Nat → Nat} {cy : CY} {z : CZ} {r0 : Int32} {σ0 : CS} (hc : cxB RX7 wsC cX7_leg 3 (some .int) p s m args meth c) (hV : cV D cy z A s) (n : Nat) (σ : CS) (x1 : Int32) (x2 : Int32) {H : Heap} {locs : List Loc} {ls : Array Slot} (hB : cB D ad cy A s.heap σ H locs) (hl : lv_has ls 3 [(0, .ref (ad 0)), (1, .int x1), (2, .int x2)]) (hf : fc_X7_leg n σ x1 x2 = some (r0, σ0)) : W p l e rm_X7_leg s m args below meth c H locs 0 0 (MQ below (cQ D ad cy A (some (.int r0)) σ0) args s 0 0 A) (F0 m 0 ls []) := by
  obtain ⟨hx, hb, hml, hown, hts, hr, hlocks⟩ := id hc
  unfold fc_X7_leg at hf
  refine lv_iload_n hx hb dX7_leg_0 rfl (lv_at hl 1 rfl) ?_
  obtain ⟨r1, σ2, hkr1, hf⟩ := bd_e hf
  refine rc_callS (own := RX7) (av := [.int x1]) (rest := []) (rv := (some (.int r1))) hx hb hml hown hts hl.1 hV hB (cc_X7_isFloor l D ad cy z n σ x1 hkr1) (kwc_X7_128  hts ⟨Nat.le_of_ble_eq_true rfl, Nat.le_of_ble_eq_true rfl⟩) rfl rfl (lv_room (Nat.le_of_ble_eq_true rfl)) dX7_leg_1 (Nat.le_refl _) (Nat.le_refl _) (fun H locs hB => ?_)
  refine W.eq (g2 := F0 m 4 ls [.int r1]) rfl ?_
  refine lv_if_ne (tgt := 13) hx hb dX7_leg_4 (by decide) (fun c3 => ?_) (fun c3 => ?_)
  · have hf := it_f hf c3
    refine lv_iload_n hx hb dX7_leg_13 rfl (lv_at hl 2 rfl) ?_
    refine lv_iconst (v := 1) hx hb dX7_leg_14 (by decide) ?_
    refine lv_icmp_ge (tgt := 25) hx hb dX7_leg_15 (by decide) (fun c4 => ?_) (fun c4 => ?_)
    · have hf := it_t hf c4
      refine lv_iload_n hx hb dX7_leg_25 rfl (lv_at hl 2 rfl) ?_
      refine lv_sipush (v := 999) hx hb dX7_leg_26 (by decide) ?_
      refine lv_icmp_gt (tgt := 43) hx hb dX7_leg_29 (by decide) (fun c5 => ?_) (fun c5 => ?_)
      · have hf := it_t hf c5
        refine lv_aload_n hx hb dX7_leg_43 rfl (lv_at hl 0 rfl) ?_
        refine lv_bipush (v := (-6)) hx hb dX7_leg_44 (by decide) ?_
        obtain ⟨r6, σ7, hkr6, hf⟩ := bd_e hf
        refine rc_callV (own := RX7) (av := [.int (-6)]) (rest := []) (rv := (some (.int r6))) hx hb hml hown hts hl.1 hV hB 0 (c34 rfl hB) (ceq_0 _ _ _) rfl (cc_X7_refuse l D ad cy z n σ2 (-6) hkr6) (kwc_X7_43  hts ⟨Nat.le_of_ble_eq_true rfl, Nat.le_of_ble_eq_true rfl⟩) rfl rfl (lv_room (Nat.le_of_ble_eq_true rfl)) dX7_leg_46 (Nat.le_refl _) (Nat.le_refl _) (fun H locs hB => ?_)
        refine W.eq (g2 := F0 m 49 ls [.int r6]) rfl ?_
        obtain ⟨rfl, rfl⟩ := so_e hf
        exact rc_iret hx hb hr hlocks hB dX7_leg_49
      · have hf := it_f hf c5
        refine lv_aload_n hx hb dX7_leg_32 rfl (lv_at hl 0 rfl) ?_
        refine rc_get (own := RX7) hx hb hts inC_7 hown hV hB 0 (c34 rfl hB) (ceq_0 _ _ _) rfl 2 (Nat.le_of_ble_eq_true rfl) qf_X7_23 rfl dX7_leg_33 ?_
        refine rc_get (own := RX7) hx hb hts inC_0 hown hV hB 5 (c34 rfl hB) (ceq_5 _ _ _) rfl 10 (Nat.le_of_ble_eq_true rfl) qf_X7_273 rfl dX7_leg_36 ?_
        refine lv_iconst (v := 4) hx hb dX7_leg_39 (by decide) ?_
        refine lv_icmp_lt (tgt := 50) hx hb dX7_leg_40 (by decide) (fun c8 => ?_) (fun c8 => ?_)
        · have hf := it_t hf c8
          refine lv_aload_n hx hb dX7_leg_50 rfl (lv_at hl 0 rfl) ?_
          refine rc_get (own := RX7) hx hb hts inC_7 hown hV hB 0 (c34 rfl hB) (ceq_0 _ _ _) rfl 2 (Nat.le_of_ble_eq_true rfl) qf_X7_23 rfl dX7_leg_51 ?_
          refine lv_iload_n hx hb dX7_leg_54 rfl (lv_at hl 1 rfl) ?_
          refine lv_iload_n hx hb dX7_leg_55 rfl (lv_at hl 2 rfl) ?_
          obtain ⟨r9, σ10, hkr9, hf⟩ := bd_e hf
          refine rc_callV (own := RX7) (av := [.int x1, .int x2]) (rest := []) (rv := (some (.int r9))) hx hb hml hown hts hl.1 hV hB 5 (c34 rfl hB) (ceq_5 _ _ _) rfl (cc_X0_addLeg l D ad cy z n σ2 x1 x2 hkr9) (kwc_X7_276  hts ⟨Nat.le_of_ble_eq_true rfl, Nat.le_of_ble_eq_true rfl⟩) rfl rfl (lv_room (Nat.le_of_ble_eq_true rfl)) dX7_leg_56 (Nat.le_refl _) (Nat.le_refl _) (fun H locs hB => ?_)
          refine W.eq (g2 := F0 m 59 ls [.int r9]) rfl ?_
          obtain ⟨rfl, rfl⟩ := so_e hf
          exact rc_iret hx hb hr hlocks hB dX7_leg_59
        · have hf := it_f hf c8
          refine lv_aload_n hx hb dX7_leg_43 rfl (lv_at hl 0 rfl) ?_
          refine lv_bipush (v := (-6)) hx hb dX7_leg_44 (by decide) ?_
          obtain ⟨r11, σ12, hkr11, hf⟩ := bd_e hf
          refine rc_callV (own := RX7) (av := [.int (-6)]) (rest := []) (rv := (some (.int r11))) hx hb hml hown hts hl.1 hV hB 0 (c34 rfl hB) (ceq_0 _ _ _) rfl (cc_X7_refuse l D ad cy z n σ2 (-6) hkr11) (kwc_X7_43  hts ⟨Nat.le_of_ble_eq_true rfl, Nat.le_of_ble_eq_true rfl⟩) rfl rfl (lv_room (Nat.le_of_ble_eq_true rfl)) dX7_leg_46 (Nat.le_refl _) (Nat.le_refl _) (fun H locs hB => ?_)
          refine W.eq (g2 := F0 m 49 ls [.int r11]) rfl ?_
          obtain ⟨rfl, rfl⟩ := so_e hf
          exact rc_iret hx hb hr hlocks hB dX7_leg_49
    · have hf := it_f hf c4
      refine lv_aload_n hx hb dX7_leg_18 rfl (lv_at hl 0 rfl) ?_
      refine lv_bipush (v := (-4)) hx hb dX7_leg_19 (by decide) ?_
      obtain ⟨r13, σ14, hkr13, hf⟩ := bd_e hf
      refine rc_callV (own := RX7) (av := [.int (-4)]) (rest := []) (rv := (some (.int r13))) hx hb hml hown hts hl.1 hV hB 0 (c34 rfl hB) (ceq_0 _ _ _) rfl (cc_X7_refuse l D ad cy z n σ2 (-4) hkr13) (kwc_X7_43  hts ⟨Nat.le_of_ble_eq_true rfl, Nat.le_of_ble_eq_true rfl⟩) rfl rfl (lv_room (Nat.le_of_ble_eq_true rfl)) dX7_leg_21 (Nat.le_refl _) (Nat.le_refl _) (fun H locs hB => ?_)
      refine W.eq (g2 := F0 m 24 ls [.int r13]) rfl ?_
      obtain ⟨rfl, rfl⟩ := so_e hf
      exact rc_iret hx hb hr hlocks hB dX7_leg_24
  · have hf := it_t hf c3
    refine lv_aload_n hx hb dX7_leg_7 rfl (lv_at hl 0 rfl) ?_
    refine lv_iconst (v := (-1)) hx hb dX7_leg_8 (by decide) ?_
    obtain ⟨r15, σ16, hkr15, hf⟩ := bd_e hf
    refine rc_callV (own := RX7) (av := [.int (-1)]) (rest := []) (rv := (some (.int r15))) hx hb hml hown hts hl.1 hV hB 0 (c34 rfl hB) (ceq_0 _ _ _) rfl (cc_X7_refuse l D ad cy z n σ2 (-1) hkr15) (kwc_X7_43  hts ⟨Nat.le_of_ble_eq_true rfl, Nat.le_of_ble_eq_true rfl⟩) rfl rfl (lv_room (Nat.le_of_ble_eq_true rfl)) dX7_leg_9 (Nat.le_refl _) (Nat.le_refl _) (fun H locs hB => ?_)
    refine W.eq (g2 := F0 m 12 ls [.int r15]) rfl ?_
    obtain ⟨rfl, rfl⟩ := so_e hf
    exact rc_iret hx hb hr hlocks hB dX7_leg_12
theorem cc_X7_leg (l : Launch) (D : va_G) (ad : Nat → Nat) (cy : CY) (z : CZ) (n : Nat) (σ : CS) (x1 : Int32) (x2 : Int32) {r0 : Int32} {σ0 : CS} (hf : fc_X7_leg n σ x1 x2 = some (r0, σ0)) : cM l yX7_leg wn_X7_leg rm_X7_leg D ad cy z [.ref (ad 0), .int x1, .int x2] σ (some (.int r0)) σ0 :=
  rc_met (ret := (some .int)) (by decide) rfl (Nat.le_of_ble_eq_true rfl) (fun p e s m below meth c A ls hc hV hB hl => tbc_X7_leg_0 hc hV n σ x1 x2 hB hl hf)
/-! X7_ticksByLegs -/
theorem kwc_X7_307 {R : Room} {s : State} {args : Array Value} (hts : ∀ w ∈ wsC, w.before args s = true) (hR : rm_X2_layOn.frames + 1 ≤ R.frames ∧ 8 + (2 + 11) + rm_X2_layOn.locals ≤ R.locals) : CallW R s args RX7 RX2 307 yX2_layOn cX2_layOn 2 none wn_X2_layOn rm_X2_layOn 0 0 1 := cwV 1 hts (gC_v qc_543 qc_106 qc_107 qc_108 qc_81) rfl rfl rfl (by decide +kernel) hR
abbrev rm_X7_ticksByLegs : Room := { frames := 5, cells := 0, slots := 0, locals := 155 }
abbrev wn_X7_ticksByLegs : List Cond := .code yX7_ticksByLegs cX7_ticksByLegs 6 (some .int) :: wsC
def bc_X7_ticksByLegs_77 (n : Nat) (K15 : CS → Int32 → Int32 → Option ((Int32) × CS)) (σ : CS) (x4 : Int32) (t0 : Int32) : Option ((Int32) × CS) := ck (ib x4 4) (sq ((σ.1 10 (Int32.toNatClampNeg x4)) : Int32) (fun y2 => bd (fc_X2_layOn n σ y2) (fun _ σ4 => bd (fc_X2_runTo n σ4 t0) (fun _ σ6 => sq (x4 + 1 : Int32) (fun y7 => K15 σ6 t0 y7)))))
set_option maxRecDepth 100000 in
set_option maxHeartbeats 4000000 in
theorem tbc_X7_ticksByLegs_77 {p : Program} {l : Launch} {e : Env} {s : State} {m : MethodId} {args : Array Value} {below : List Frame} {meth : Method} {c : Code} {D : va_G} {A : Nat → Prop} {ad : Nat → Nat} {cy : CY} {z : CZ} {r0 : Int32} {σ0 : CS} (hc : cxB RX7 wsC cX7_ticksByLegs 6 (some .int) p s m args meth c) (hV : cV D cy z A s) (n : Nat) (K15 : CS → Int32 → Int32 → Option ((Int32) × CS)) (hK15 : ∀ (σ : CS) (x3 : Int32) (x4 : Int32) (H : Heap) (locs : List Loc) (ls : Array Slot), cB D ad cy A s.heap σ H locs → lv_has ls 6 [(0, .ref (ad 0)), (3, .int x3), (4, .int x4)] → K15 σ x3 x4 = some (r0, σ0) → W p l e rm_X7_ticksByLegs s m args below meth c H locs 0 0 (MQ below (cQ D ad cy A (some (.int r0)) σ0) args s 0 0 A) (F0 m 15 ls [])) (σ : CS) (x4 : Int32) (t0 : Int32) {H : Heap} {locs : List Loc} {ls : Array Slot} (hB : cB D ad cy A s.heap σ H locs) (hl : lv_has ls 6 [(0, .ref (ad 0)), (4, .int x4)]) (hf : bc_X7_ticksByLegs_77 n K15 σ x4 t0 = some (r0, σ0)) : W p l e rm_X7_ticksByLegs s m args below meth c H locs 0 0 (MQ below (cQ D ad cy A (some (.int r0)) σ0) args s 0 0 A) (F0 m 77 ls [.int t0]) := by
  obtain ⟨hx, hb, hml, hown, hts, hr, hlocks⟩ := id hc
  unfold bc_X7_ticksByLegs_77 at hf
  refine lv_istore_n (lv' := [(3, .int t0), (0, .ref (ad 0)), (4, .int x4)]) hx hb dX7_ticksByLegs_77 rfl hl (by decide) rfl (fun ls hl => ?_)
  refine lv_aload_n hx hb dX7_ticksByLegs_78 rfl (lv_at hl 1 rfl) ?_
  refine rc_get (own := RX7) hx hb hts inC_7 hown hV hB 0 (c34 rfl hB) (ceq_0 _ _ _) rfl 4 (Nat.le_of_ble_eq_true rfl) qf_X7_35 rfl dX7_ticksByLegs_79 ?_
  refine lv_aload_n hx hb dX7_ticksByLegs_82 rfl (lv_at hl 1 rfl) ?_
  refine rc_get (own := RX7) hx hb hts inC_7 hown hV hB 0 (c34 rfl hB) (ceq_0 _ _ _) rfl 2 (Nat.le_of_ble_eq_true rfl) qf_X7_23 rfl dX7_ticksByLegs_83 ?_
  refine rc_get (own := RX7) hx hb hts inC_0 hown hV hB 5 (c34 rfl hB) (ceq_5 _ _ _) rfl 4 (Nat.le_of_ble_eq_true rfl) qf_X7_304 rfl dX7_ticksByLegs_86 ?_
  refine lv_iload hx hb dX7_ticksByLegs_89 (lv_at hl 2 rfl) ?_
  obtain ⟨k1, hf⟩ := ck_e hf
  refine rc_ald hx hb hV hB 10 (c34 rfl hB) (ceq_10 _ _ _) k1 dX7_ticksByLegs_91 ?_
  refine lv_topi (fun y2 ey2 => ?_)
  have hf := sq_e hf y2 ey2
  obtain ⟨r3, σ4, hkr3, hf⟩ := bd_e hf
  refine rc_callV (own := RX7) (av := [.int y2]) (rest := []) (rv := none) hx hb hml hown hts hl.1 hV hB 31 (c34 rfl hB) (ceq_31 _ _ _) rfl (cc_X2_layOn l D ad cy z n σ y2 hkr3) (kwc_X7_307  hts ⟨Nat.le_of_ble_eq_true rfl, Nat.le_of_ble_eq_true rfl⟩) rfl rfl (lv_room (Nat.le_of_ble_eq_true rfl)) dX7_ticksByLegs_92 (Nat.le_refl _) (Nat.le_refl _) (fun H locs hB => ?_)
  refine W.eq (g2 := F0 m 95 ls []) rfl ?_
  refine lv_aload_n hx hb dX7_ticksByLegs_95 rfl (lv_at hl 1 rfl) ?_
  refine rc_get (own := RX7) hx hb hts inC_7 hown hV hB 0 (c34 rfl hB) (ceq_0 _ _ _) rfl 4 (Nat.le_of_ble_eq_true rfl) qf_X7_35 rfl dX7_ticksByLegs_96 ?_
  refine lv_iload_n hx hb dX7_ticksByLegs_99 rfl (lv_at hl 0 rfl) ?_
  obtain ⟨r5, σ6, hkr5, hf⟩ := bd_e hf
  refine rc_callV (own := RX7) (av := [.int t0]) (rest := []) (rv := none) hx hb hml hown hts hl.1 hV hB 31 (c34 rfl hB) (ceq_31 _ _ _) rfl (cc_X2_runTo l D ad cy z n σ4 t0 hkr5) (kwc_X7_211  hts ⟨Nat.le_of_ble_eq_true rfl, Nat.le_of_ble_eq_true rfl⟩) rfl rfl (lv_room (Nat.le_of_ble_eq_true rfl)) dX7_ticksByLegs_100 (Nat.le_refl _) (Nat.le_refl _) (fun H locs hB => ?_)
  refine W.eq (g2 := F0 m 103 ls []) rfl ?_
  obtain ⟨y7, ey7⟩ : ∃ z : Int32, z = x4 + 1 := ⟨_, rfl⟩
  have hf := sq_e hf y7 ey7
  refine lv_iinc (v := y7) (lv' := [(4, .int y7), (3, .int t0), (0, .ref (ad 0))]) hx hb dX7_ticksByLegs_103 hl (k := 2) rfl (by rw [ey7]; rfl) (by decide) rfl (fun ls hl => ?_)
  refine lv_goto (tgt := 15) hx hb dX7_ticksByLegs_106 (by decide) ?_
  exact hK15 σ6 t0 y7 _ _ _ hB (lv_sub hl [2, 1, 0] rfl) hf
def bc_X7_ticksByLegs_52 (n : Nat) (K15 : CS → Int32 → Int32 → Option ((Int32) × CS)) (σ : CS) (x3 : Int32) (x4 : Int32) (t0 : Int32) : Option ((Int32) × CS) := if (t0 = 0) then (ck (ib x4 4) (sq ((σ.1 11 (Int32.toNatClampNeg x4)) : Int32) (fun y3 => bc_X7_ticksByLegs_77 n K15 σ x4 (x3 + y3)))) else (bc_X7_ticksByLegs_77 n K15 σ x4 9999)
set_option maxRecDepth 100000 in
set_option maxHeartbeats 4000000 in
theorem tbc_X7_ticksByLegs_52 {p : Program} {l : Launch} {e : Env} {s : State} {m : MethodId} {args : Array Value} {below : List Frame} {meth : Method} {c : Code} {D : va_G} {A : Nat → Prop} {ad : Nat → Nat} {cy : CY} {z : CZ} {r0 : Int32} {σ0 : CS} (hc : cxB RX7 wsC cX7_ticksByLegs 6 (some .int) p s m args meth c) (hV : cV D cy z A s) (n : Nat) (K15 : CS → Int32 → Int32 → Option ((Int32) × CS)) (hK15 : ∀ (σ : CS) (x3 : Int32) (x4 : Int32) (H : Heap) (locs : List Loc) (ls : Array Slot), cB D ad cy A s.heap σ H locs → lv_has ls 6 [(0, .ref (ad 0)), (3, .int x3), (4, .int x4)] → K15 σ x3 x4 = some (r0, σ0) → W p l e rm_X7_ticksByLegs s m args below meth c H locs 0 0 (MQ below (cQ D ad cy A (some (.int r0)) σ0) args s 0 0 A) (F0 m 15 ls [])) (σ : CS) (x3 : Int32) (x4 : Int32) (t0 : Int32) {H : Heap} {locs : List Loc} {ls : Array Slot} (hB : cB D ad cy A s.heap σ H locs) (hl : lv_has ls 6 [(0, .ref (ad 0)), (3, .int x3), (4, .int x4)]) (hf : bc_X7_ticksByLegs_52 n K15 σ x3 x4 t0 = some (r0, σ0)) : W p l e rm_X7_ticksByLegs s m args below meth c H locs 0 0 (MQ below (cQ D ad cy A (some (.int r0)) σ0) args s 0 0 A) (F0 m 52 ls [.int t0]) := by
  obtain ⟨hx, hb, hml, hown, hts, hr, hlocks⟩ := id hc
  unfold bc_X7_ticksByLegs_52 at hf
  refine lv_istore (lv' := [(5, .int t0), (0, .ref (ad 0)), (3, .int x3), (4, .int x4)]) hx hb dX7_ticksByLegs_52 hl (by decide) rfl (fun ls hl => ?_)
  refine lv_iload hx hb dX7_ticksByLegs_54 (lv_at hl 0 rfl) ?_
  refine lv_if_eq (tgt := 65) hx hb dX7_ticksByLegs_56 (by decide) (fun c1 => ?_) (fun c1 => ?_)
  · have hf := it_t hf c1
    refine lv_iload_n hx hb dX7_ticksByLegs_65 rfl (lv_at hl 2 rfl) ?_
    refine lv_aload_n hx hb dX7_ticksByLegs_66 rfl (lv_at hl 1 rfl) ?_
    refine rc_get (own := RX7) hx hb hts inC_7 hown hV hB 0 (c34 rfl hB) (ceq_0 _ _ _) rfl 2 (Nat.le_of_ble_eq_true rfl) qf_X7_23 rfl dX7_ticksByLegs_67 ?_
    refine rc_get (own := RX7) hx hb hts inC_0 hown hV hB 5 (c34 rfl hB) (ceq_5 _ _ _) rfl 5 (Nat.le_of_ble_eq_true rfl) qf_X7_301 rfl dX7_ticksByLegs_70 ?_
    refine lv_iload hx hb dX7_ticksByLegs_73 (lv_at hl 3 rfl) ?_
    obtain ⟨k2, hf⟩ := ck_e hf
    refine rc_ald hx hb hV hB 11 (c34 rfl hB) (ceq_11 _ _ _) k2 dX7_ticksByLegs_75 ?_
    refine lv_topi (fun y3 ey3 => ?_)
    have hf := sq_e hf y3 ey3
    refine lv_iadd hx hb dX7_ticksByLegs_76 ?_
    exact tbc_X7_ticksByLegs_77 hc hV n K15 hK15 σ x4 (x3 + y3) hB (lv_sub hl [1, 3] rfl) hf
  · have hf := it_f hf c1
    refine lv_sipush (v := 9999) hx hb dX7_ticksByLegs_59 (by decide) ?_
    refine lv_goto (tgt := 77) hx hb dX7_ticksByLegs_62 (by decide) ?_
    exact tbc_X7_ticksByLegs_77 hc hV n K15 hK15 σ x4 9999 hB (lv_sub hl [1, 3] rfl) hf
def bc_X7_ticksByLegs_15 (n : Nat) (K15 : CS → Int32 → Int32 → Option ((Int32) × CS)) (σ : CS) (x3 : Int32) (x4 : Int32) : Option ((Int32) × CS) := if ((σ.1 5 10) ≤ x4) then (some ((σ.1 31 5), σ)) else (if (4 ≤ x4) then (some ((σ.1 31 5), σ)) else (if (x4 = ((σ.1 5 10) - 1)) then (bc_X7_ticksByLegs_52 n K15 σ x3 x4 1) else (bc_X7_ticksByLegs_52 n K15 σ x3 x4 0)))
set_option maxRecDepth 100000 in
set_option maxHeartbeats 4000000 in
theorem tbc_X7_ticksByLegs_15 {p : Program} {l : Launch} {e : Env} {s : State} {m : MethodId} {args : Array Value} {below : List Frame} {meth : Method} {c : Code} {D : va_G} {A : Nat → Prop} {ad : Nat → Nat} {cy : CY} {z : CZ} {r0 : Int32} {σ0 : CS} (hc : cxB RX7 wsC cX7_ticksByLegs 6 (some .int) p s m args meth c) (hV : cV D cy z A s) (n : Nat) (K15 : CS → Int32 → Int32 → Option ((Int32) × CS)) (hK15 : ∀ (σ : CS) (x3 : Int32) (x4 : Int32) (H : Heap) (locs : List Loc) (ls : Array Slot), cB D ad cy A s.heap σ H locs → lv_has ls 6 [(0, .ref (ad 0)), (3, .int x3), (4, .int x4)] → K15 σ x3 x4 = some (r0, σ0) → W p l e rm_X7_ticksByLegs s m args below meth c H locs 0 0 (MQ below (cQ D ad cy A (some (.int r0)) σ0) args s 0 0 A) (F0 m 15 ls [])) (σ : CS) (x3 : Int32) (x4 : Int32) {H : Heap} {locs : List Loc} {ls : Array Slot} (hB : cB D ad cy A s.heap σ H locs) (hl : lv_has ls 6 [(0, .ref (ad 0)), (3, .int x3), (4, .int x4)]) (hf : bc_X7_ticksByLegs_15 n K15 σ x3 x4 = some (r0, σ0)) : W p l e rm_X7_ticksByLegs s m args below meth c H locs 0 0 (MQ below (cQ D ad cy A (some (.int r0)) σ0) args s 0 0 A) (F0 m 15 ls []) := by
  obtain ⟨hx, hb, hml, hown, hts, hr, hlocks⟩ := id hc
  unfold bc_X7_ticksByLegs_15 at hf
  refine lv_iload hx hb dX7_ticksByLegs_15 (lv_at hl 2 rfl) ?_
  refine lv_aload_n hx hb dX7_ticksByLegs_17 rfl (lv_at hl 0 rfl) ?_
  refine rc_get (own := RX7) hx hb hts inC_7 hown hV hB 0 (c34 rfl hB) (ceq_0 _ _ _) rfl 2 (Nat.le_of_ble_eq_true rfl) qf_X7_23 rfl dX7_ticksByLegs_18 ?_
  refine rc_get (own := RX7) hx hb hts inC_0 hown hV hB 5 (c34 rfl hB) (ceq_5 _ _ _) rfl 10 (Nat.le_of_ble_eq_true rfl) qf_X7_273 rfl dX7_ticksByLegs_21 ?_
  refine lv_icmp_ge (tgt := 109) hx hb dX7_ticksByLegs_24 (by decide) (fun c1 => ?_) (fun c1 => ?_)
  · have hf := it_t hf c1
    refine lv_aload_n hx hb dX7_ticksByLegs_109 rfl (lv_at hl 0 rfl) ?_
    refine rc_get (own := RX7) hx hb hts inC_7 hown hV hB 0 (c34 rfl hB) (ceq_0 _ _ _) rfl 4 (Nat.le_of_ble_eq_true rfl) qf_X7_35 rfl dX7_ticksByLegs_110 ?_
    refine rc_get (own := RX7) hx hb hts inC_2 hown hV hB 31 (c34 rfl hB) (ceq_31 _ _ _) rfl 5 (Nat.le_of_ble_eq_true rfl) qf_X7_155 rfl dX7_ticksByLegs_113 ?_
    obtain ⟨rfl, rfl⟩ := so_e hf
    exact rc_iret hx hb hr hlocks hB dX7_ticksByLegs_116
  · have hf := it_f hf c1
    refine lv_iload hx hb dX7_ticksByLegs_27 (lv_at hl 2 rfl) ?_
    refine lv_iconst (v := 4) hx hb dX7_ticksByLegs_29 (by decide) ?_
    refine lv_icmp_ge (tgt := 109) hx hb dX7_ticksByLegs_30 (by decide) (fun c2 => ?_) (fun c2 => ?_)
    · have hf := it_t hf c2
      refine lv_aload_n hx hb dX7_ticksByLegs_109 rfl (lv_at hl 0 rfl) ?_
      refine rc_get (own := RX7) hx hb hts inC_7 hown hV hB 0 (c34 rfl hB) (ceq_0 _ _ _) rfl 4 (Nat.le_of_ble_eq_true rfl) qf_X7_35 rfl dX7_ticksByLegs_110 ?_
      refine rc_get (own := RX7) hx hb hts inC_2 hown hV hB 31 (c34 rfl hB) (ceq_31 _ _ _) rfl 5 (Nat.le_of_ble_eq_true rfl) qf_X7_155 rfl dX7_ticksByLegs_113 ?_
      obtain ⟨rfl, rfl⟩ := so_e hf
      exact rc_iret hx hb hr hlocks hB dX7_ticksByLegs_116
    · have hf := it_f hf c2
      refine lv_iload hx hb dX7_ticksByLegs_33 (lv_at hl 2 rfl) ?_
      refine lv_aload_n hx hb dX7_ticksByLegs_35 rfl (lv_at hl 0 rfl) ?_
      refine rc_get (own := RX7) hx hb hts inC_7 hown hV hB 0 (c34 rfl hB) (ceq_0 _ _ _) rfl 2 (Nat.le_of_ble_eq_true rfl) qf_X7_23 rfl dX7_ticksByLegs_36 ?_
      refine rc_get (own := RX7) hx hb hts inC_0 hown hV hB 5 (c34 rfl hB) (ceq_5 _ _ _) rfl 10 (Nat.le_of_ble_eq_true rfl) qf_X7_273 rfl dX7_ticksByLegs_39 ?_
      refine lv_iconst (v := 1) hx hb dX7_ticksByLegs_42 (by decide) ?_
      refine lv_isub hx hb dX7_ticksByLegs_43 ?_
      refine lv_icmp_ne (tgt := 51) hx hb dX7_ticksByLegs_44 (by decide) (fun c3 => ?_) (fun c3 => ?_)
      · have hf := it_f hf c3
        refine lv_iconst (v := 0) hx hb dX7_ticksByLegs_51 (by decide) ?_
        exact tbc_X7_ticksByLegs_52 hc hV n K15 hK15 σ x3 x4 0 hB (lv_sub hl [0, 1, 2] rfl) hf
      · have hf := it_t hf c3
        refine lv_iconst (v := 1) hx hb dX7_ticksByLegs_47 (by decide) ?_
        refine lv_goto (tgt := 52) hx hb dX7_ticksByLegs_48 (by decide) ?_
        exact tbc_X7_ticksByLegs_52 hc hV n K15 hK15 σ x3 x4 1 hB (lv_sub hl [0, 1, 2] rfl) hf
def lc_X7_ticksByLegs_15 (n : Nat) : Nat → CS → Int32 → Int32 → Option ((Int32) × CS)
  | 0 => fun _ _ _ => none
  | k + 1 => bc_X7_ticksByLegs_15 n (lc_X7_ticksByLegs_15 n k)
theorem tlc_X7_ticksByLegs_15 {p : Program} {l : Launch} {e : Env} {s : State} {m : MethodId} {args : Array Value} {below : List Frame} {meth : Method} {c : Code} {D : va_G} {A : Nat → Prop} {ad : Nat → Nat} {cy : CY} {z : CZ} {r0 : Int32} {σ0 : CS} (hc : cxB RX7 wsC cX7_ticksByLegs 6 (some .int) p s m args meth c) (hV : cV D cy z A s) (n : Nat) : ∀ (k : Nat) (σ : CS) (x3 : Int32) (x4 : Int32) (H : Heap) (locs : List Loc) (ls : Array Slot), cB D ad cy A s.heap σ H locs → lv_has ls 6 [(0, .ref (ad 0)), (3, .int x3), (4, .int x4)] → lc_X7_ticksByLegs_15 n k σ x3 x4 = some (r0, σ0) → W p l e rm_X7_ticksByLegs s m args below meth c H locs 0 0 (MQ below (cQ D ad cy A (some (.int r0)) σ0) args s 0 0 A) (F0 m 15 ls []) := by
  intro k
  induction k with
  | zero =>
    intro σ x3 x4 H locs ls hB hl hf
    have hf : (none : Option ((Int32) × CS)) = some (r0, σ0) := hf
    cases hf
  | succ k ih =>
    intro σ x3 x4 H locs ls hB hl hf
    exact tbc_X7_ticksByLegs_15 hc hV n (lc_X7_ticksByLegs_15 n k) ih σ x3 x4 hB hl hf
def fc_X7_ticksByLegs (n : Nat) (σ : CS) (x1 : Nat) (x2 : Int32) : Option ((Int32) × CS) := bd (fc_X2_begin n σ (some x1) x2 0) (fun _ σ2 => sq (0 : Int32) (fun y3 => sq (0 : Int32) (fun y4 => lc_X7_ticksByLegs_15 n n σ2 y3 y4)))
set_option maxRecDepth 100000 in
set_option maxHeartbeats 4000000 in
theorem tbc_X7_ticksByLegs_0 {p : Program} {l : Launch} {e : Env} {s : State} {m : MethodId} {args : Array Value} {below : List Frame} {meth : Method} {c : Code} {D : va_G} {A : Nat → Prop} {ad : Nat → Nat} {cy : CY} {z : CZ} {r0 : Int32} {σ0 : CS} (hc : cxB RX7 wsC cX7_ticksByLegs 6 (some .int) p s m args meth c) (hV : cV D cy z A s) (n : Nat) (σ : CS) (x1 : Nat) (x2 : Int32) {H : Heap} {locs : List Loc} {ls : Array Slot} (hB : cB D ad cy A s.heap σ H locs) (hl : lv_has ls 6 [(0, .ref (ad 0)), (1, .ref (ad x1)), (2, .int x2)]) (hf : fc_X7_ticksByLegs n σ x1 x2 = some (r0, σ0)) : W p l e rm_X7_ticksByLegs s m args below meth c H locs 0 0 (MQ below (cQ D ad cy A (some (.int r0)) σ0) args s 0 0 A) (F0 m 0 ls []) := by
  obtain ⟨hx, hb, hml, hown, hts, hr, hlocks⟩ := id hc
  unfold fc_X7_ticksByLegs at hf
  refine lv_aload_n hx hb dX7_ticksByLegs_0 rfl (lv_at hl 0 rfl) ?_
  refine rc_get (own := RX7) hx hb hts inC_7 hown hV hB 0 (c34 rfl hB) (ceq_0 _ _ _) rfl 4 (Nat.le_of_ble_eq_true rfl) qf_X7_35 rfl dX7_ticksByLegs_1 ?_
  refine lv_aload_n hx hb dX7_ticksByLegs_4 rfl (lv_at hl 1 rfl) ?_
  refine lv_iload_n hx hb dX7_ticksByLegs_5 rfl (lv_at hl 2 rfl) ?_
  refine lv_iconst (v := 0) hx hb dX7_ticksByLegs_6 (by decide) ?_
  obtain ⟨r1, σ2, hkr1, hf⟩ := bd_e hf
  refine rc_callV (own := RX7) (av := [va_rf (Option.map ad (some x1)), .int x2, .int 0]) (rest := []) (rv := none) hx hb hml hown hts hl.1 hV hB 31 (c34 rfl hB) (ceq_31 _ _ _) rfl (cc_X2_begin l D ad cy z n σ (some x1) x2 0 hkr1) (kwc_X7_151  hts ⟨Nat.le_of_ble_eq_true rfl, Nat.le_of_ble_eq_true rfl⟩) rfl rfl (lv_room (Nat.le_of_ble_eq_true rfl)) dX7_ticksByLegs_7 (Nat.le_refl _) (Nat.le_refl _) (fun H locs hB => ?_)
  refine W.eq (g2 := F0 m 10 ls []) rfl ?_
  refine lv_iconst (v := 0) hx hb dX7_ticksByLegs_10 (by decide) ?_
  refine lv_topi (fun y3 ey3 => ?_)
  have hf := sq_e hf y3 ey3
  refine lv_istore_n (lv' := [(3, .int y3), (0, .ref (ad 0)), (1, .ref (ad x1)), (2, .int x2)]) hx hb dX7_ticksByLegs_11 rfl hl (by decide) rfl (fun ls hl => ?_)
  refine lv_iconst (v := 0) hx hb dX7_ticksByLegs_12 (by decide) ?_
  refine lv_topi (fun y4 ey4 => ?_)
  have hf := sq_e hf y4 ey4
  refine lv_istore (lv' := [(4, .int y4), (3, .int y3), (0, .ref (ad 0)), (1, .ref (ad x1)), (2, .int x2)]) hx hb dX7_ticksByLegs_13 hl (by decide) rfl (fun ls hl => ?_)
  exact tlc_X7_ticksByLegs_15 hc hV n n σ2 y3 y4 _ _ _ hB (lv_sub hl [2, 1, 0] rfl) hf
theorem cc_X7_ticksByLegs (l : Launch) (D : va_G) (ad : Nat → Nat) (cy : CY) (z : CZ) (n : Nat) (σ : CS) (x1 : Nat) (x2 : Int32) {r0 : Int32} {σ0 : CS} (hf : fc_X7_ticksByLegs n σ x1 x2 = some (r0, σ0)) : cM l yX7_ticksByLegs wn_X7_ticksByLegs rm_X7_ticksByLegs D ad cy z [.ref (ad 0), .ref (ad x1), .int x2] σ (some (.int r0)) σ0 :=
  rc_met (ret := (some .int)) (by decide) rfl (Nat.le_of_ble_eq_true rfl) (fun p e s m below meth c A ls hc hV hB hl => tbc_X7_ticksByLegs_0 hc hV n σ x1 x2 hB hl hf)
/-! X7_legs -/
theorem kwc_X7_279 {R : Room} {s : State} {args : Array Value} (hts : ∀ w ∈ wsC, w.before args s = true) (hR : rm_X7_ticksByLegs.frames + 1 ≤ R.frames ∧ 8 + (6 + 11) + rm_X7_ticksByLegs.locals ≤ R.locals) : CallW R s args RX7 RX7 279 yX7_ticksByLegs cX7_ticksByLegs 6 (some .int) wn_X7_ticksByLegs rm_X7_ticksByLegs 0 0 2 := cwV 2 hts (gC_v qc_545 qc_546 qc_547 qc_85 qc_544) rfl rfl rfl (by decide +kernel) hR
abbrev rm_X7_legs : Room := { frames := 6, cells := 0, slots := 0, locals := 180 }
abbrev wn_X7_legs : List Cond := .code yX7_legs cX7_legs 6 (some .int) :: wsC
def fc_X7_legs (n : Nat) (σ : CS) (x1 : Int32) (x2 : Int32) : Option ((Int32) × CS) := bd (fc_X0_plateAt n σ x1) (fun r1 σ2 => oc r1 (bd (fc_X7_refuse n σ2 (-1)) (fun r4 σ5 => some (r4, σ5))) (fun q3 => bd (fc_X7_leanRefusal n σ2 x2) (fun r6 σ7 => if (r6 = 0) then (if ((σ7.1 5 10) = 0) then (bd (fc_X7_refuse n σ7 (-3)) (fun r13 σ14 => some (r13, σ14))) else (bd (fc_X7_ticksByLegs n σ7 q3 x2) (fun r10 σ11 => sq (cp σ11 5 10 0) (fun σ12 => some (r10, σ12))))) else (bd (fc_X7_refuse n σ7 r6) (fun r15 σ16 => some (r15, σ16))))))
set_option maxRecDepth 100000 in
set_option maxHeartbeats 4000000 in
theorem tbc_X7_legs_0 {p : Program} {l : Launch} {e : Env} {s : State} {m : MethodId} {args : Array Value} {below : List Frame} {meth : Method} {c : Code} {D : va_G} {A : Nat → Prop} {ad : Nat → Nat} {cy : CY} {z : CZ} {r0 : Int32} {σ0 : CS} (hc : cxB RX7 wsC cX7_legs 6 (some .int) p s m args meth c) (hV : cV D cy z A s) (n : Nat) (σ : CS) (x1 : Int32) (x2 : Int32) {H : Heap} {locs : List Loc} {ls : Array Slot} (hB : cB D ad cy A s.heap σ H locs) (hl : lv_has ls 6 [(0, .ref (ad 0)), (1, .int x1), (2, .int x2)]) (hf : fc_X7_legs n σ x1 x2 = some (r0, σ0)) : W p l e rm_X7_legs s m args below meth c H locs 0 0 (MQ below (cQ D ad cy A (some (.int r0)) σ0) args s 0 0 A) (F0 m 0 ls []) := by
  obtain ⟨hx, hb, hml, hown, hts, hr, hlocks⟩ := id hc
  unfold fc_X7_legs at hf
  refine lv_aload_n hx hb dX7_legs_0 rfl (lv_at hl 0 rfl) ?_
  refine rc_get (own := RX7) hx hb hts inC_7 hown hV hB 0 (c34 rfl hB) (ceq_0 _ _ _) rfl 2 (Nat.le_of_ble_eq_true rfl) qf_X7_23 rfl dX7_legs_1 ?_
  refine lv_iload_n hx hb dX7_legs_4 rfl (lv_at hl 1 rfl) ?_
  obtain ⟨r1, σ2, hkr1, hf⟩ := bd_e hf
  refine rc_callV (own := RX7) (av := [.int x1]) (rest := []) (rv := (some (va_rf (Option.map ad r1)))) hx hb hml hown hts hl.1 hV hB 5 (c34 rfl hB) (ceq_5 _ _ _) rfl (cc_X0_plateAt l D ad cy z n σ x1 hkr1) (kwc_X7_69  hts ⟨Nat.le_of_ble_eq_true rfl, Nat.le_of_ble_eq_true rfl⟩) rfl rfl (lv_room (Nat.le_of_ble_eq_true rfl)) dX7_legs_5 (Nat.le_refl _) (Nat.le_refl _) (fun H locs hB => ?_)
  refine W.eq (g2 := F0 m 8 ls [va_rf (Option.map ad r1)]) rfl ?_
  rcases r1 with _ | q3
  · have hf := oc_n hf
    refine lv_astore_nN (lv' := [(3, .null), (0, .ref (ad 0)), (1, .int x1), (2, .int x2)]) hx hb dX7_legs_8 rfl hl (by decide) rfl (fun ls hl => ?_)
    refine lv_aload_nN hx hb dX7_legs_9 rfl (lv_at hl 0 rfl) ?_
    refine lv_ifnonnullN hx hb dX7_legs_10 ?_
    refine lv_aload_n hx hb dX7_legs_13 rfl (lv_at hl 1 rfl) ?_
    refine lv_iconst (v := (-1)) hx hb dX7_legs_14 (by decide) ?_
    obtain ⟨r4, σ5, hkr4, hf⟩ := bd_e hf
    refine rc_callV (own := RX7) (av := [.int (-1)]) (rest := []) (rv := (some (.int r4))) hx hb hml hown hts hl.1 hV hB 0 (c34 rfl hB) (ceq_0 _ _ _) rfl (cc_X7_refuse l D ad cy z n σ2 (-1) hkr4) (kwc_X7_43  hts ⟨Nat.le_of_ble_eq_true rfl, Nat.le_of_ble_eq_true rfl⟩) rfl rfl (lv_room (Nat.le_of_ble_eq_true rfl)) dX7_legs_15 (Nat.le_refl _) (Nat.le_refl _) (fun H locs hB => ?_)
    refine W.eq (g2 := F0 m 18 ls [.int r4]) rfl ?_
    obtain ⟨rfl, rfl⟩ := so_e hf
    exact rc_iret hx hb hr hlocks hB dX7_legs_18
  · have hf := oc_s hf
    refine lv_astore_n (lv' := [(3, .ref (ad q3)), (0, .ref (ad 0)), (1, .int x1), (2, .int x2)]) hx hb dX7_legs_8 rfl hl (by decide) rfl (fun ls hl => ?_)
    refine lv_aload_n hx hb dX7_legs_9 rfl (lv_at hl 0 rfl) ?_
    refine lv_ifnonnull (tgt := 19) hx hb dX7_legs_10 (by decide) ?_
    refine lv_iload_n hx hb dX7_legs_19 rfl (lv_at hl 3 rfl) ?_
    obtain ⟨r6, σ7, hkr6, hf⟩ := bd_e hf
    refine rc_callS (own := RX7) (av := [.int x2]) (rest := []) (rv := (some (.int r6))) hx hb hml hown hts hl.1 hV hB (cc_X7_leanRefusal l D ad cy z n σ2 x2 hkr6) (kwc_X7_144  hts ⟨Nat.le_of_ble_eq_true rfl, Nat.le_of_ble_eq_true rfl⟩) rfl rfl (lv_room (Nat.le_of_ble_eq_true rfl)) dX7_legs_20 (Nat.le_refl _) (Nat.le_refl _) (fun H locs hB => ?_)
    refine W.eq (g2 := F0 m 23 ls [.int r6]) rfl ?_
    refine lv_istore (lv' := [(4, .int r6), (3, .ref (ad q3)), (0, .ref (ad 0)), (1, .int x1), (2, .int x2)]) hx hb dX7_legs_23 hl (by decide) rfl (fun ls hl => ?_)
    refine lv_iload hx hb dX7_legs_25 (lv_at hl 0 rfl) ?_
    refine lv_if_eq (tgt := 37) hx hb dX7_legs_27 (by decide) (fun c8 => ?_) (fun c8 => ?_)
    · have hf := it_t hf c8
      refine lv_aload_n hx hb dX7_legs_37 rfl (lv_at hl 2 rfl) ?_
      refine rc_get (own := RX7) hx hb hts inC_7 hown hV hB 0 (c34 rfl hB) (ceq_0 _ _ _) rfl 2 (Nat.le_of_ble_eq_true rfl) qf_X7_23 rfl dX7_legs_38 ?_
      refine rc_get (own := RX7) hx hb hts inC_0 hown hV hB 5 (c34 rfl hB) (ceq_5 _ _ _) rfl 10 (Nat.le_of_ble_eq_true rfl) qf_X7_273 rfl dX7_legs_41 ?_
      refine lv_if_ne (tgt := 54) hx hb dX7_legs_44 (by decide) (fun c9 => ?_) (fun c9 => ?_)
      · have hf := it_f hf c9
        refine lv_aload_n hx hb dX7_legs_54 rfl (lv_at hl 2 rfl) ?_
        refine lv_aload_n hx hb dX7_legs_55 rfl (lv_at hl 1 rfl) ?_
        refine lv_iload_n hx hb dX7_legs_56 rfl (lv_at hl 4 rfl) ?_
        obtain ⟨r10, σ11, hkr10, hf⟩ := bd_e hf
        refine rc_callV (own := RX7) (av := [.ref (ad q3), .int x2]) (rest := []) (rv := (some (.int r10))) hx hb hml hown hts hl.1 hV hB 0 (c34 rfl hB) (ceq_0 _ _ _) rfl (cc_X7_ticksByLegs l D ad cy z n σ7 q3 x2 hkr10) (kwc_X7_279  hts ⟨Nat.le_of_ble_eq_true rfl, Nat.le_of_ble_eq_true rfl⟩) rfl rfl (lv_room (Nat.le_of_ble_eq_true rfl)) dX7_legs_57 (Nat.le_refl _) (Nat.le_refl _) (fun H locs hB => ?_)
        refine W.eq (g2 := F0 m 60 ls [.int r10]) rfl ?_
        refine lv_istore (lv' := [(5, .int r10), (4, .int r6), (3, .ref (ad q3)), (0, .ref (ad 0)), (1, .int x1), (2, .int x2)]) hx hb dX7_legs_60 hl (by decide) rfl (fun ls hl => ?_)
        refine lv_aload_n hx hb dX7_legs_62 rfl (lv_at hl 3 rfl) ?_
        refine rc_get (own := RX7) hx hb hts inC_7 hown hV hB 0 (c34 rfl hB) (ceq_0 _ _ _) rfl 2 (Nat.le_of_ble_eq_true rfl) qf_X7_23 rfl dX7_legs_63 ?_
        refine lv_iconst (v := 0) hx hb dX7_legs_66 (by decide) ?_
        refine rc_puti (own := RX7) (ty := .int) hx hb hts inC_0 hown hV hB 5 (c34 rfl hB) (ceq_5 _ _ _) rfl 10 (Nat.le_of_ble_eq_true rfl) qf_X7_273 tyX0 tyX0_ok nmX0 (cst_5_10 _ _ _ _) rfl pdc_0_10 rfl rfl (Nat.le_of_ble_eq_true rfl) dX7_legs_67 (fun σ12 eσ12 H locs hB => ?_)
        have hf := sq_e hf σ12 eσ12
        refine lv_iload hx hb dX7_legs_70 (lv_at hl 0 rfl) ?_
        obtain ⟨rfl, rfl⟩ := so_e hf
        exact rc_iret hx hb hr hlocks hB dX7_legs_72
      · have hf := it_t hf c9
        refine lv_aload_n hx hb dX7_legs_47 rfl (lv_at hl 2 rfl) ?_
        refine lv_bipush (v := (-3)) hx hb dX7_legs_48 (by decide) ?_
        obtain ⟨r13, σ14, hkr13, hf⟩ := bd_e hf
        refine rc_callV (own := RX7) (av := [.int (-3)]) (rest := []) (rv := (some (.int r13))) hx hb hml hown hts hl.1 hV hB 0 (c34 rfl hB) (ceq_0 _ _ _) rfl (cc_X7_refuse l D ad cy z n σ7 (-3) hkr13) (kwc_X7_43  hts ⟨Nat.le_of_ble_eq_true rfl, Nat.le_of_ble_eq_true rfl⟩) rfl rfl (lv_room (Nat.le_of_ble_eq_true rfl)) dX7_legs_50 (Nat.le_refl _) (Nat.le_refl _) (fun H locs hB => ?_)
        refine W.eq (g2 := F0 m 53 ls [.int r13]) rfl ?_
        obtain ⟨rfl, rfl⟩ := so_e hf
        exact rc_iret hx hb hr hlocks hB dX7_legs_53
    · have hf := it_f hf c8
      refine lv_aload_n hx hb dX7_legs_30 rfl (lv_at hl 2 rfl) ?_
      refine lv_iload hx hb dX7_legs_31 (lv_at hl 0 rfl) ?_
      obtain ⟨r15, σ16, hkr15, hf⟩ := bd_e hf
      refine rc_callV (own := RX7) (av := [.int r6]) (rest := []) (rv := (some (.int r15))) hx hb hml hown hts hl.1 hV hB 0 (c34 rfl hB) (ceq_0 _ _ _) rfl (cc_X7_refuse l D ad cy z n σ7 r6 hkr15) (kwc_X7_43  hts ⟨Nat.le_of_ble_eq_true rfl, Nat.le_of_ble_eq_true rfl⟩) rfl rfl (lv_room (Nat.le_of_ble_eq_true rfl)) dX7_legs_33 (Nat.le_refl _) (Nat.le_refl _) (fun H locs hB => ?_)
      refine W.eq (g2 := F0 m 36 ls [.int r15]) rfl ?_
      obtain ⟨rfl, rfl⟩ := so_e hf
      exact rc_iret hx hb hr hlocks hB dX7_legs_36
theorem cc_X7_legs (l : Launch) (D : va_G) (ad : Nat → Nat) (cy : CY) (z : CZ) (n : Nat) (σ : CS) (x1 : Int32) (x2 : Int32) {r0 : Int32} {σ0 : CS} (hf : fc_X7_legs n σ x1 x2 = some (r0, σ0)) : cM l yX7_legs wn_X7_legs rm_X7_legs D ad cy z [.ref (ad 0), .int x1, .int x2] σ (some (.int r0)) σ0 :=
  rc_met (ret := (some .int)) (by decide) rfl (Nat.le_of_ble_eq_true rfl) (fun p e s m below meth c A ls hc hV hB hl => tbc_X7_legs_0 hc hV n σ x1 x2 hB hl hf)
/-! X7_draws -/
abbrev rm_X7_draws : Room := { frames := 6, cells := 0, slots := 0, locals := 178 }
abbrev wn_X7_draws : List Cond := .code yX7_draws cX7_draws 13 (some .int) :: wsC
def bc_X7_draws_91 (n : Nat) (K91 : CS → Int32 → Int32 → Int32 → Int32 → Nat → Int32 → Int32 → Int32 → Option ((Int32) × CS)) (σ : CS) (x2 : Int32) (x3 : Int32) (x5 : Int32) (x6 : Int32) (x7 : Nat) (x8 : Int32) (x9 : Int32) (x10 : Int32) : Option ((Int32) × CS) := if (x3 ≤ x10) then (some (x9, σ)) else (sq (((x8 * 1103515245) + 12345) : Int32) (fun y2 => sq ((((y2 &&& 2147483647) / 65536) - ((y2 &&& 2147483647) / 65536) / 9000 * 9000) : Int32) (fun y3 => sq ((1 + y3) : Int32) (fun y4 => bd (fc_X7_ticksOf n σ x7 y4 x2) (fun r5 σ6 => if (x6 = 0) then (if (r5 < x5) then (sq (x10 + 1 : Int32) (fun y13 => K91 σ6 x2 x3 x5 x6 x7 y2 x9 y13)) else (sq (x9 + 1 : Int32) (fun y14 => sq (x10 + 1 : Int32) (fun y15 => K91 σ6 x2 x3 x5 x6 x7 y2 y14 y15)))) else (if ((σ6.1 31 6) = 2) then (sq (x9 + 1 : Int32) (fun y10 => sq (x10 + 1 : Int32) (fun y11 => K91 σ6 x2 x3 x5 x6 x7 y2 y10 y11))) else (sq (x10 + 1 : Int32) (fun y9 => K91 σ6 x2 x3 x5 x6 x7 y2 x9 y9))))))))
set_option maxRecDepth 100000 in
set_option maxHeartbeats 4000000 in
theorem tbc_X7_draws_91 {p : Program} {l : Launch} {e : Env} {s : State} {m : MethodId} {args : Array Value} {below : List Frame} {meth : Method} {c : Code} {D : va_G} {A : Nat → Prop} {ad : Nat → Nat} {cy : CY} {z : CZ} {r0 : Int32} {σ0 : CS} (hc : cxB RX7 wsC cX7_draws 13 (some .int) p s m args meth c) (hV : cV D cy z A s) (n : Nat) (K91 : CS → Int32 → Int32 → Int32 → Int32 → Nat → Int32 → Int32 → Int32 → Option ((Int32) × CS)) (hK91 : ∀ (σ : CS) (x2 : Int32) (x3 : Int32) (x5 : Int32) (x6 : Int32) (x7 : Nat) (x8 : Int32) (x9 : Int32) (x10 : Int32) (H : Heap) (locs : List Loc) (ls : Array Slot), cB D ad cy A s.heap σ H locs → lv_has ls 13 [(0, .ref (ad 0)), (2, .int x2), (3, .int x3), (5, .int x5), (6, .int x6), (7, .ref (ad x7)), (8, .int x8), (9, .int x9), (10, .int x10)] → K91 σ x2 x3 x5 x6 x7 x8 x9 x10 = some (r0, σ0) → W p l e rm_X7_draws s m args below meth c H locs 0 0 (MQ below (cQ D ad cy A (some (.int r0)) σ0) args s 0 0 A) (F0 m 91 ls [])) (σ : CS) (x2 : Int32) (x3 : Int32) (x5 : Int32) (x6 : Int32) (x7 : Nat) (x8 : Int32) (x9 : Int32) (x10 : Int32) {H : Heap} {locs : List Loc} {ls : Array Slot} (hB : cB D ad cy A s.heap σ H locs) (hl : lv_has ls 13 [(0, .ref (ad 0)), (2, .int x2), (3, .int x3), (5, .int x5), (6, .int x6), (7, .ref (ad x7)), (8, .int x8), (9, .int x9), (10, .int x10)]) (hf : bc_X7_draws_91 n K91 σ x2 x3 x5 x6 x7 x8 x9 x10 = some (r0, σ0)) : W p l e rm_X7_draws s m args below meth c H locs 0 0 (MQ below (cQ D ad cy A (some (.int r0)) σ0) args s 0 0 A) (F0 m 91 ls []) := by
  obtain ⟨hx, hb, hml, hown, hts, hr, hlocks⟩ := id hc
  unfold bc_X7_draws_91 at hf
  refine lv_iload hx hb dX7_draws_91 (lv_at hl 8 rfl) ?_
  refine lv_iload_n hx hb dX7_draws_93 rfl (lv_at hl 2 rfl) ?_
  refine lv_icmp_ge (tgt := 173) hx hb dX7_draws_94 (by decide) (fun c1 => ?_) (fun c1 => ?_)
  · have hf := it_t hf c1
    refine lv_iload hx hb dX7_draws_173 (lv_at hl 7 rfl) ?_
    obtain ⟨rfl, rfl⟩ := so_e hf
    exact rc_iret hx hb hr hlocks hB dX7_draws_175
  · have hf := it_f hf c1
    refine lv_iload hx hb dX7_draws_97 (lv_at hl 6 rfl) ?_
    refine lv_ldcw (v := 1103515245) hx hb hown (hts _ qc_548) dX7_draws_99 ?_
    refine lv_imul hx hb dX7_draws_102 ?_
    refine lv_sipush (v := 12345) hx hb dX7_draws_103 (by decide) ?_
    refine lv_iadd hx hb dX7_draws_106 ?_
    refine lv_topi (fun y2 ey2 => ?_)
    have hf := sq_e hf y2 ey2
    refine lv_istore (lv' := [(8, .int y2), (0, .ref (ad 0)), (2, .int x2), (3, .int x3), (5, .int x5), (6, .int x6), (7, .ref (ad x7)), (9, .int x9), (10, .int x10)]) hx hb dX7_draws_107 hl (by decide) rfl (fun ls hl => ?_)
    refine lv_iconst (v := 1) hx hb dX7_draws_109 (by decide) ?_
    refine lv_iload hx hb dX7_draws_110 (lv_at hl 0 rfl) ?_
    refine lv_ldcw (v := 2147483647) hx hb hown (hts _ qc_549) dX7_draws_112 ?_
    refine lv_iand hx hb dX7_draws_115 ?_
    refine lv_ldcw (v := 65536) hx hb hown (hts _ qc_550) dX7_draws_116 ?_
    refine lv_idiv hx hb dX7_draws_119 (by decide) ?_
    refine lv_sipush (v := 9000) hx hb dX7_draws_120 (by decide) ?_
    refine lv_irem hx hb dX7_draws_123 (by decide) ?_
    refine lv_topi (fun y3 ey3 => ?_)
    have hf := sq_e hf y3 ey3
    refine lv_iadd hx hb dX7_draws_124 ?_
    refine lv_topi (fun y4 ey4 => ?_)
    have hf := sq_e hf y4 ey4
    refine lv_istore (lv' := [(11, .int y4), (8, .int y2), (0, .ref (ad 0)), (2, .int x2), (3, .int x3), (5, .int x5), (6, .int x6), (7, .ref (ad x7)), (9, .int x9), (10, .int x10)]) hx hb dX7_draws_125 hl (by decide) rfl (fun ls hl => ?_)
    refine lv_aload_n hx hb dX7_draws_127 rfl (lv_at hl 2 rfl) ?_
    refine lv_aload hx hb dX7_draws_128 (lv_at hl 7 rfl) ?_
    refine lv_iload hx hb dX7_draws_130 (lv_at hl 0 rfl) ?_
    refine lv_iload_n hx hb dX7_draws_132 rfl (lv_at hl 3 rfl) ?_
    obtain ⟨r5, σ6, hkr5, hf⟩ := bd_e hf
    refine rc_callV (own := RX7) (av := [.ref (ad x7), .int y4, .int x2]) (rest := []) (rv := (some (.int r5))) hx hb hml hown hts hl.1 hV hB 0 (c34 rfl hB) (ceq_0 _ _ _) rfl (cc_X7_ticksOf l D ad cy z n σ x7 y4 x2 hkr5) (kwc_X7_202  hts ⟨Nat.le_of_ble_eq_true rfl, Nat.le_of_ble_eq_true rfl⟩) rfl rfl (lv_room (Nat.le_of_ble_eq_true rfl)) dX7_draws_133 (Nat.le_refl _) (Nat.le_refl _) (fun H locs hB => ?_)
    refine W.eq (g2 := F0 m 136 ls [.int r5]) rfl ?_
    refine lv_istore (lv' := [(12, .int r5), (11, .int y4), (8, .int y2), (0, .ref (ad 0)), (2, .int x2), (3, .int x3), (5, .int x5), (6, .int x6), (7, .ref (ad x7)), (9, .int x9), (10, .int x10)]) hx hb dX7_draws_136 hl (by decide) rfl (fun ls hl => ?_)
    refine lv_iload hx hb dX7_draws_138 (lv_at hl 7 rfl) ?_
    refine lv_if_ne (tgt := 153) hx hb dX7_draws_140 (by decide) (fun c7 => ?_) (fun c7 => ?_)
    · have hf := it_f hf c7
      refine lv_aload_n hx hb dX7_draws_153 rfl (lv_at hl 3 rfl) ?_
      refine rc_get (own := RX7) hx hb hts inC_7 hown hV hB 0 (c34 rfl hB) (ceq_0 _ _ _) rfl 4 (Nat.le_of_ble_eq_true rfl) qf_X7_35 rfl dX7_draws_154 ?_
      refine rc_get (own := RX7) hx hb hts inC_2 hown hV hB 31 (c34 rfl hB) (ceq_31 _ _ _) rfl 6 (Nat.le_of_ble_eq_true rfl) qf_X7_206 rfl dX7_draws_157 ?_
      refine lv_iconst (v := 2) hx hb dX7_draws_160 (by decide) ?_
      refine lv_icmp_ne (tgt := 167) hx hb dX7_draws_161 (by decide) (fun c8 => ?_) (fun c8 => ?_)
      · have hf := it_f hf c8
        obtain ⟨y9, ey9⟩ : ∃ z : Int32, z = x10 + 1 := ⟨_, rfl⟩
        have hf := sq_e hf y9 ey9
        refine lv_iinc (v := y9) (lv' := [(10, .int y9), (12, .int r5), (11, .int y4), (8, .int y2), (0, .ref (ad 0)), (2, .int x2), (3, .int x3), (5, .int x5), (6, .int x6), (7, .ref (ad x7)), (9, .int x9)]) hx hb dX7_draws_167 hl (k := 10) rfl (by rw [ey9]; rfl) (by decide) rfl (fun ls hl => ?_)
        refine lv_goto (tgt := 91) hx hb dX7_draws_170 (by decide) ?_
        exact hK91 σ6 x2 x3 x5 x6 x7 y2 x9 y9 _ _ _ hB (lv_sub hl [4, 5, 6, 7, 8, 9, 3, 10, 0] rfl) hf
      · have hf := it_t hf c8
        obtain ⟨y10, ey10⟩ : ∃ z : Int32, z = x9 + 1 := ⟨_, rfl⟩
        have hf := sq_e hf y10 ey10
        refine lv_iinc (v := y10) (lv' := [(9, .int y10), (12, .int r5), (11, .int y4), (8, .int y2), (0, .ref (ad 0)), (2, .int x2), (3, .int x3), (5, .int x5), (6, .int x6), (7, .ref (ad x7)), (10, .int x10)]) hx hb dX7_draws_164 hl (k := 9) rfl (by rw [ey10]; rfl) (by decide) rfl (fun ls hl => ?_)
        obtain ⟨y11, ey11⟩ : ∃ z : Int32, z = x10 + 1 := ⟨_, rfl⟩
        have hf := sq_e hf y11 ey11
        refine lv_iinc (v := y11) (lv' := [(10, .int y11), (9, .int y10), (12, .int r5), (11, .int y4), (8, .int y2), (0, .ref (ad 0)), (2, .int x2), (3, .int x3), (5, .int x5), (6, .int x6), (7, .ref (ad x7))]) hx hb dX7_draws_167 hl (k := 10) rfl (by rw [ey11]; rfl) (by decide) rfl (fun ls hl => ?_)
        refine lv_goto (tgt := 91) hx hb dX7_draws_170 (by decide) ?_
        exact hK91 σ6 x2 x3 x5 x6 x7 y2 y10 y11 _ _ _ hB (lv_sub hl [5, 6, 7, 8, 9, 10, 4, 1, 0] rfl) hf
    · have hf := it_t hf c7
      refine lv_iload hx hb dX7_draws_143 (lv_at hl 0 rfl) ?_
      refine lv_iload hx hb dX7_draws_145 (lv_at hl 6 rfl) ?_
      refine lv_icmp_lt (tgt := 167) hx hb dX7_draws_147 (by decide) (fun c12 => ?_) (fun c12 => ?_)
      · have hf := it_t hf c12
        obtain ⟨y13, ey13⟩ : ∃ z : Int32, z = x10 + 1 := ⟨_, rfl⟩
        have hf := sq_e hf y13 ey13
        refine lv_iinc (v := y13) (lv' := [(10, .int y13), (12, .int r5), (11, .int y4), (8, .int y2), (0, .ref (ad 0)), (2, .int x2), (3, .int x3), (5, .int x5), (6, .int x6), (7, .ref (ad x7)), (9, .int x9)]) hx hb dX7_draws_167 hl (k := 10) rfl (by rw [ey13]; rfl) (by decide) rfl (fun ls hl => ?_)
        refine lv_goto (tgt := 91) hx hb dX7_draws_170 (by decide) ?_
        exact hK91 σ6 x2 x3 x5 x6 x7 y2 x9 y13 _ _ _ hB (lv_sub hl [4, 5, 6, 7, 8, 9, 3, 10, 0] rfl) hf
      · have hf := it_f hf c12
        refine lv_goto (tgt := 164) hx hb dX7_draws_150 (by decide) ?_
        obtain ⟨y14, ey14⟩ : ∃ z : Int32, z = x9 + 1 := ⟨_, rfl⟩
        have hf := sq_e hf y14 ey14
        refine lv_iinc (v := y14) (lv' := [(9, .int y14), (12, .int r5), (11, .int y4), (8, .int y2), (0, .ref (ad 0)), (2, .int x2), (3, .int x3), (5, .int x5), (6, .int x6), (7, .ref (ad x7)), (10, .int x10)]) hx hb dX7_draws_164 hl (k := 9) rfl (by rw [ey14]; rfl) (by decide) rfl (fun ls hl => ?_)
        obtain ⟨y15, ey15⟩ : ∃ z : Int32, z = x10 + 1 := ⟨_, rfl⟩
        have hf := sq_e hf y15 ey15
        refine lv_iinc (v := y15) (lv' := [(10, .int y15), (9, .int y14), (12, .int r5), (11, .int y4), (8, .int y2), (0, .ref (ad 0)), (2, .int x2), (3, .int x3), (5, .int x5), (6, .int x6), (7, .ref (ad x7))]) hx hb dX7_draws_167 hl (k := 10) rfl (by rw [ey15]; rfl) (by decide) rfl (fun ls hl => ?_)
        refine lv_goto (tgt := 91) hx hb dX7_draws_170 (by decide) ?_
        exact hK91 σ6 x2 x3 x5 x6 x7 y2 y14 y15 _ _ _ hB (lv_sub hl [5, 6, 7, 8, 9, 10, 4, 1, 0] rfl) hf
def lc_X7_draws_91 (n : Nat) : Nat → CS → Int32 → Int32 → Int32 → Int32 → Nat → Int32 → Int32 → Int32 → Option ((Int32) × CS)
  | 0 => fun _ _ _ _ _ _ _ _ _ => none
  | k + 1 => bc_X7_draws_91 n (lc_X7_draws_91 n k)
theorem tlc_X7_draws_91 {p : Program} {l : Launch} {e : Env} {s : State} {m : MethodId} {args : Array Value} {below : List Frame} {meth : Method} {c : Code} {D : va_G} {A : Nat → Prop} {ad : Nat → Nat} {cy : CY} {z : CZ} {r0 : Int32} {σ0 : CS} (hc : cxB RX7 wsC cX7_draws 13 (some .int) p s m args meth c) (hV : cV D cy z A s) (n : Nat) : ∀ (k : Nat) (σ : CS) (x2 : Int32) (x3 : Int32) (x5 : Int32) (x6 : Int32) (x7 : Nat) (x8 : Int32) (x9 : Int32) (x10 : Int32) (H : Heap) (locs : List Loc) (ls : Array Slot), cB D ad cy A s.heap σ H locs → lv_has ls 13 [(0, .ref (ad 0)), (2, .int x2), (3, .int x3), (5, .int x5), (6, .int x6), (7, .ref (ad x7)), (8, .int x8), (9, .int x9), (10, .int x10)] → lc_X7_draws_91 n k σ x2 x3 x5 x6 x7 x8 x9 x10 = some (r0, σ0) → W p l e rm_X7_draws s m args below meth c H locs 0 0 (MQ below (cQ D ad cy A (some (.int r0)) σ0) args s 0 0 A) (F0 m 91 ls []) := by
  intro k
  induction k with
  | zero =>
    intro σ x2 x3 x5 x6 x7 x8 x9 x10 H locs ls hB hl hf
    have hf : (none : Option ((Int32) × CS)) = some (r0, σ0) := hf
    cases hf
  | succ k ih =>
    intro σ x2 x3 x5 x6 x7 x8 x9 x10 H locs ls hB hl hf
    exact tbc_X7_draws_91 hc hV n (lc_X7_draws_91 n k) ih σ x2 x3 x5 x6 x7 x8 x9 x10 hB hl hf
def fc_X7_draws (n : Nat) (σ : CS) (x1 : Int32) (x2 : Int32) (x3 : Int32) (x4 : Int32) (x5 : Int32) (x6 : Int32) : Option ((Int32) × CS) := bd (fc_X0_plateAt n σ x1) (fun r1 σ2 => oc r1 (bd (fc_X7_refuse n σ2 (-1)) (fun r4 σ5 => some (r4, σ5))) (fun q3 => bd (fc_X7_isFloor n σ2 x2) (fun r6 σ7 => if (r6 = 0) then (bd (fc_X7_refuse n σ7 (-1)) (fun r28 σ29 => some (r28, σ29))) else (bd (fc_X7_isZeroOrOne n σ7 x6) (fun r9 σ10 => if (r9 = 0) then (bd (fc_X7_refuse n σ10 (-2)) (fun r26 σ27 => some (r26, σ27))) else (if (x3 < 1) then (bd (fc_X7_refuse n σ10 (-4)) (fun r13 σ14 => some (r13, σ14))) else (if (0 ≤ x5) then (if (30 < x3) then (bd (fc_X7_refuse n σ10 (-6)) (fun r17 σ18 => some (r17, σ18))) else (if (x5 ≤ 9999) then (sq (0 : Int32) (fun y20 => sq (0 : Int32) (fun y21 => lc_X7_draws_91 n n σ10 x2 x3 x5 x6 q3 x4 y20 y21))) else (bd (fc_X7_refuse n σ10 (-6)) (fun r22 σ23 => some (r22, σ23))))) else (bd (fc_X7_refuse n σ10 (-4)) (fun r24 σ25 => some (r24, σ25))))))))))
set_option maxRecDepth 100000 in
set_option maxHeartbeats 4000000 in
theorem tbc_X7_draws_0 {p : Program} {l : Launch} {e : Env} {s : State} {m : MethodId} {args : Array Value} {below : List Frame} {meth : Method} {c : Code} {D : va_G} {A : Nat → Prop} {ad : Nat → Nat} {cy : CY} {z : CZ} {r0 : Int32} {σ0 : CS} (hc : cxB RX7 wsC cX7_draws 13 (some .int) p s m args meth c) (hV : cV D cy z A s) (n : Nat) (σ : CS) (x1 : Int32) (x2 : Int32) (x3 : Int32) (x4 : Int32) (x5 : Int32) (x6 : Int32) {H : Heap} {locs : List Loc} {ls : Array Slot} (hB : cB D ad cy A s.heap σ H locs) (hl : lv_has ls 13 [(0, .ref (ad 0)), (1, .int x1), (2, .int x2), (3, .int x3), (4, .int x4), (5, .int x5), (6, .int x6)]) (hf : fc_X7_draws n σ x1 x2 x3 x4 x5 x6 = some (r0, σ0)) : W p l e rm_X7_draws s m args below meth c H locs 0 0 (MQ below (cQ D ad cy A (some (.int r0)) σ0) args s 0 0 A) (F0 m 0 ls []) := by
  obtain ⟨hx, hb, hml, hown, hts, hr, hlocks⟩ := id hc
  unfold fc_X7_draws at hf
  refine lv_aload_n hx hb dX7_draws_0 rfl (lv_at hl 0 rfl) ?_
  refine rc_get (own := RX7) hx hb hts inC_7 hown hV hB 0 (c34 rfl hB) (ceq_0 _ _ _) rfl 2 (Nat.le_of_ble_eq_true rfl) qf_X7_23 rfl dX7_draws_1 ?_
  refine lv_iload_n hx hb dX7_draws_4 rfl (lv_at hl 1 rfl) ?_
  obtain ⟨r1, σ2, hkr1, hf⟩ := bd_e hf
  refine rc_callV (own := RX7) (av := [.int x1]) (rest := []) (rv := (some (va_rf (Option.map ad r1)))) hx hb hml hown hts hl.1 hV hB 5 (c34 rfl hB) (ceq_5 _ _ _) rfl (cc_X0_plateAt l D ad cy z n σ x1 hkr1) (kwc_X7_69  hts ⟨Nat.le_of_ble_eq_true rfl, Nat.le_of_ble_eq_true rfl⟩) rfl rfl (lv_room (Nat.le_of_ble_eq_true rfl)) dX7_draws_5 (Nat.le_refl _) (Nat.le_refl _) (fun H locs hB => ?_)
  refine W.eq (g2 := F0 m 8 ls [va_rf (Option.map ad r1)]) rfl ?_
  rcases r1 with _ | q3
  · have hf := oc_n hf
    refine lv_astoreN (lv' := [(7, .null), (0, .ref (ad 0)), (1, .int x1), (2, .int x2), (3, .int x3), (4, .int x4), (5, .int x5), (6, .int x6)]) hx hb dX7_draws_8 hl (by decide) rfl (fun ls hl => ?_)
    refine lv_aloadN hx hb dX7_draws_10 (lv_at hl 0 rfl) ?_
    refine lv_ifnullN (tgt := 22) hx hb dX7_draws_12 (by decide) ?_
    refine lv_aload_n hx hb dX7_draws_22 rfl (lv_at hl 1 rfl) ?_
    refine lv_iconst (v := (-1)) hx hb dX7_draws_23 (by decide) ?_
    obtain ⟨r4, σ5, hkr4, hf⟩ := bd_e hf
    refine rc_callV (own := RX7) (av := [.int (-1)]) (rest := []) (rv := (some (.int r4))) hx hb hml hown hts hl.1 hV hB 0 (c34 rfl hB) (ceq_0 _ _ _) rfl (cc_X7_refuse l D ad cy z n σ2 (-1) hkr4) (kwc_X7_43  hts ⟨Nat.le_of_ble_eq_true rfl, Nat.le_of_ble_eq_true rfl⟩) rfl rfl (lv_room (Nat.le_of_ble_eq_true rfl)) dX7_draws_24 (Nat.le_refl _) (Nat.le_refl _) (fun H locs hB => ?_)
    refine W.eq (g2 := F0 m 27 ls [.int r4]) rfl ?_
    obtain ⟨rfl, rfl⟩ := so_e hf
    exact rc_iret hx hb hr hlocks hB dX7_draws_27
  · have hf := oc_s hf
    refine lv_astore (lv' := [(7, .ref (ad q3)), (0, .ref (ad 0)), (1, .int x1), (2, .int x2), (3, .int x3), (4, .int x4), (5, .int x5), (6, .int x6)]) hx hb dX7_draws_8 hl (by decide) rfl (fun ls hl => ?_)
    refine lv_aload hx hb dX7_draws_10 (lv_at hl 0 rfl) ?_
    refine lv_ifnull hx hb dX7_draws_12 ?_
    refine lv_iload_n hx hb dX7_draws_15 rfl (lv_at hl 3 rfl) ?_
    obtain ⟨r6, σ7, hkr6, hf⟩ := bd_e hf
    refine rc_callS (own := RX7) (av := [.int x2]) (rest := []) (rv := (some (.int r6))) hx hb hml hown hts hl.1 hV hB (cc_X7_isFloor l D ad cy z n σ2 x2 hkr6) (kwc_X7_128  hts ⟨Nat.le_of_ble_eq_true rfl, Nat.le_of_ble_eq_true rfl⟩) rfl rfl (lv_room (Nat.le_of_ble_eq_true rfl)) dX7_draws_16 (Nat.le_refl _) (Nat.le_refl _) (fun H locs hB => ?_)
    refine W.eq (g2 := F0 m 19 ls [.int r6]) rfl ?_
    refine lv_if_ne (tgt := 28) hx hb dX7_draws_19 (by decide) (fun c8 => ?_) (fun c8 => ?_)
    · have hf := it_f hf c8
      refine lv_iload hx hb dX7_draws_28 (lv_at hl 7 rfl) ?_
      obtain ⟨r9, σ10, hkr9, hf⟩ := bd_e hf
      refine rc_callS (own := RX7) (av := [.int x6]) (rest := []) (rv := (some (.int r9))) hx hb hml hown hts hl.1 hV hB (cc_X7_isZeroOrOne l D ad cy z n σ7 x6 hkr9) (kwc_X7_132  hts ⟨Nat.le_of_ble_eq_true rfl, Nat.le_of_ble_eq_true rfl⟩) rfl rfl (lv_room (Nat.le_of_ble_eq_true rfl)) dX7_draws_30 (Nat.le_refl _) (Nat.le_refl _) (fun H locs hB => ?_)
      refine W.eq (g2 := F0 m 33 ls [.int r9]) rfl ?_
      refine lv_if_ne (tgt := 43) hx hb dX7_draws_33 (by decide) (fun c11 => ?_) (fun c11 => ?_)
      · have hf := it_f hf c11
        refine lv_iload_n hx hb dX7_draws_43 rfl (lv_at hl 4 rfl) ?_
        refine lv_iconst (v := 1) hx hb dX7_draws_44 (by decide) ?_
        refine lv_icmp_lt (tgt := 53) hx hb dX7_draws_45 (by decide) (fun c12 => ?_) (fun c12 => ?_)
        · have hf := it_t hf c12
          refine lv_aload_n hx hb dX7_draws_53 rfl (lv_at hl 1 rfl) ?_
          refine lv_bipush (v := (-4)) hx hb dX7_draws_54 (by decide) ?_
          obtain ⟨r13, σ14, hkr13, hf⟩ := bd_e hf
          refine rc_callV (own := RX7) (av := [.int (-4)]) (rest := []) (rv := (some (.int r13))) hx hb hml hown hts hl.1 hV hB 0 (c34 rfl hB) (ceq_0 _ _ _) rfl (cc_X7_refuse l D ad cy z n σ10 (-4) hkr13) (kwc_X7_43  hts ⟨Nat.le_of_ble_eq_true rfl, Nat.le_of_ble_eq_true rfl⟩) rfl rfl (lv_room (Nat.le_of_ble_eq_true rfl)) dX7_draws_56 (Nat.le_refl _) (Nat.le_refl _) (fun H locs hB => ?_)
          refine W.eq (g2 := F0 m 59 ls [.int r13]) rfl ?_
          obtain ⟨rfl, rfl⟩ := so_e hf
          exact rc_iret hx hb hr hlocks hB dX7_draws_59
        · have hf := it_f hf c12
          refine lv_iload hx hb dX7_draws_48 (lv_at hl 6 rfl) ?_
          refine lv_if_ge (tgt := 60) hx hb dX7_draws_50 (by decide) (fun c15 => ?_) (fun c15 => ?_)
          · have hf := it_t hf c15
            refine lv_iload_n hx hb dX7_draws_60 rfl (lv_at hl 4 rfl) ?_
            refine lv_bipush (v := 30) hx hb dX7_draws_61 (by decide) ?_
            refine lv_icmp_gt (tgt := 74) hx hb dX7_draws_63 (by decide) (fun c16 => ?_) (fun c16 => ?_)
            · have hf := it_t hf c16
              refine lv_aload_n hx hb dX7_draws_74 rfl (lv_at hl 1 rfl) ?_
              refine lv_bipush (v := (-6)) hx hb dX7_draws_75 (by decide) ?_
              obtain ⟨r17, σ18, hkr17, hf⟩ := bd_e hf
              refine rc_callV (own := RX7) (av := [.int (-6)]) (rest := []) (rv := (some (.int r17))) hx hb hml hown hts hl.1 hV hB 0 (c34 rfl hB) (ceq_0 _ _ _) rfl (cc_X7_refuse l D ad cy z n σ10 (-6) hkr17) (kwc_X7_43  hts ⟨Nat.le_of_ble_eq_true rfl, Nat.le_of_ble_eq_true rfl⟩) rfl rfl (lv_room (Nat.le_of_ble_eq_true rfl)) dX7_draws_77 (Nat.le_refl _) (Nat.le_refl _) (fun H locs hB => ?_)
              refine W.eq (g2 := F0 m 80 ls [.int r17]) rfl ?_
              obtain ⟨rfl, rfl⟩ := so_e hf
              exact rc_iret hx hb hr hlocks hB dX7_draws_80
            · have hf := it_f hf c16
              refine lv_iload hx hb dX7_draws_66 (lv_at hl 6 rfl) ?_
              refine lv_sipush (v := 9999) hx hb dX7_draws_68 (by decide) ?_
              refine lv_icmp_le (tgt := 81) hx hb dX7_draws_71 (by decide) (fun c19 => ?_) (fun c19 => ?_)
              · have hf := it_t hf c19
                refine lv_iload hx hb dX7_draws_81 (lv_at hl 5 rfl) ?_
                refine lv_istore (lv' := [(8, .int x4), (7, .ref (ad q3)), (0, .ref (ad 0)), (1, .int x1), (2, .int x2), (3, .int x3), (4, .int x4), (5, .int x5), (6, .int x6)]) hx hb dX7_draws_83 hl (by decide) rfl (fun ls hl => ?_)
                refine lv_iconst (v := 0) hx hb dX7_draws_85 (by decide) ?_
                refine lv_topi (fun y20 ey20 => ?_)
                have hf := sq_e hf y20 ey20
                refine lv_istore (lv' := [(9, .int y20), (8, .int x4), (7, .ref (ad q3)), (0, .ref (ad 0)), (1, .int x1), (2, .int x2), (3, .int x3), (4, .int x4), (5, .int x5), (6, .int x6)]) hx hb dX7_draws_86 hl (by decide) rfl (fun ls hl => ?_)
                refine lv_iconst (v := 0) hx hb dX7_draws_88 (by decide) ?_
                refine lv_topi (fun y21 ey21 => ?_)
                have hf := sq_e hf y21 ey21
                refine lv_istore (lv' := [(10, .int y21), (9, .int y20), (8, .int x4), (7, .ref (ad q3)), (0, .ref (ad 0)), (1, .int x1), (2, .int x2), (3, .int x3), (4, .int x4), (5, .int x5), (6, .int x6)]) hx hb dX7_draws_89 hl (by decide) rfl (fun ls hl => ?_)
                exact tlc_X7_draws_91 hc hV n n σ10 x2 x3 x5 x6 q3 x4 y20 y21 _ _ _ hB (lv_sub hl [4, 6, 7, 9, 10, 3, 2, 1, 0] rfl) hf
              · have hf := it_f hf c19
                refine lv_aload_n hx hb dX7_draws_74 rfl (lv_at hl 1 rfl) ?_
                refine lv_bipush (v := (-6)) hx hb dX7_draws_75 (by decide) ?_
                obtain ⟨r22, σ23, hkr22, hf⟩ := bd_e hf
                refine rc_callV (own := RX7) (av := [.int (-6)]) (rest := []) (rv := (some (.int r22))) hx hb hml hown hts hl.1 hV hB 0 (c34 rfl hB) (ceq_0 _ _ _) rfl (cc_X7_refuse l D ad cy z n σ10 (-6) hkr22) (kwc_X7_43  hts ⟨Nat.le_of_ble_eq_true rfl, Nat.le_of_ble_eq_true rfl⟩) rfl rfl (lv_room (Nat.le_of_ble_eq_true rfl)) dX7_draws_77 (Nat.le_refl _) (Nat.le_refl _) (fun H locs hB => ?_)
                refine W.eq (g2 := F0 m 80 ls [.int r22]) rfl ?_
                obtain ⟨rfl, rfl⟩ := so_e hf
                exact rc_iret hx hb hr hlocks hB dX7_draws_80
          · have hf := it_f hf c15
            refine lv_aload_n hx hb dX7_draws_53 rfl (lv_at hl 1 rfl) ?_
            refine lv_bipush (v := (-4)) hx hb dX7_draws_54 (by decide) ?_
            obtain ⟨r24, σ25, hkr24, hf⟩ := bd_e hf
            refine rc_callV (own := RX7) (av := [.int (-4)]) (rest := []) (rv := (some (.int r24))) hx hb hml hown hts hl.1 hV hB 0 (c34 rfl hB) (ceq_0 _ _ _) rfl (cc_X7_refuse l D ad cy z n σ10 (-4) hkr24) (kwc_X7_43  hts ⟨Nat.le_of_ble_eq_true rfl, Nat.le_of_ble_eq_true rfl⟩) rfl rfl (lv_room (Nat.le_of_ble_eq_true rfl)) dX7_draws_56 (Nat.le_refl _) (Nat.le_refl _) (fun H locs hB => ?_)
            refine W.eq (g2 := F0 m 59 ls [.int r24]) rfl ?_
            obtain ⟨rfl, rfl⟩ := so_e hf
            exact rc_iret hx hb hr hlocks hB dX7_draws_59
      · have hf := it_t hf c11
        refine lv_aload_n hx hb dX7_draws_36 rfl (lv_at hl 1 rfl) ?_
        refine lv_bipush (v := (-2)) hx hb dX7_draws_37 (by decide) ?_
        obtain ⟨r26, σ27, hkr26, hf⟩ := bd_e hf
        refine rc_callV (own := RX7) (av := [.int (-2)]) (rest := []) (rv := (some (.int r26))) hx hb hml hown hts hl.1 hV hB 0 (c34 rfl hB) (ceq_0 _ _ _) rfl (cc_X7_refuse l D ad cy z n σ10 (-2) hkr26) (kwc_X7_43  hts ⟨Nat.le_of_ble_eq_true rfl, Nat.le_of_ble_eq_true rfl⟩) rfl rfl (lv_room (Nat.le_of_ble_eq_true rfl)) dX7_draws_39 (Nat.le_refl _) (Nat.le_refl _) (fun H locs hB => ?_)
        refine W.eq (g2 := F0 m 42 ls [.int r26]) rfl ?_
        obtain ⟨rfl, rfl⟩ := so_e hf
        exact rc_iret hx hb hr hlocks hB dX7_draws_42
    · have hf := it_t hf c8
      refine lv_aload_n hx hb dX7_draws_22 rfl (lv_at hl 1 rfl) ?_
      refine lv_iconst (v := (-1)) hx hb dX7_draws_23 (by decide) ?_
      obtain ⟨r28, σ29, hkr28, hf⟩ := bd_e hf
      refine rc_callV (own := RX7) (av := [.int (-1)]) (rest := []) (rv := (some (.int r28))) hx hb hml hown hts hl.1 hV hB 0 (c34 rfl hB) (ceq_0 _ _ _) rfl (cc_X7_refuse l D ad cy z n σ7 (-1) hkr28) (kwc_X7_43  hts ⟨Nat.le_of_ble_eq_true rfl, Nat.le_of_ble_eq_true rfl⟩) rfl rfl (lv_room (Nat.le_of_ble_eq_true rfl)) dX7_draws_24 (Nat.le_refl _) (Nat.le_refl _) (fun H locs hB => ?_)
      refine W.eq (g2 := F0 m 27 ls [.int r28]) rfl ?_
      obtain ⟨rfl, rfl⟩ := so_e hf
      exact rc_iret hx hb hr hlocks hB dX7_draws_27
theorem cc_X7_draws (l : Launch) (D : va_G) (ad : Nat → Nat) (cy : CY) (z : CZ) (n : Nat) (σ : CS) (x1 : Int32) (x2 : Int32) (x3 : Int32) (x4 : Int32) (x5 : Int32) (x6 : Int32) {r0 : Int32} {σ0 : CS} (hf : fc_X7_draws n σ x1 x2 x3 x4 x5 x6 = some (r0, σ0)) : cM l yX7_draws wn_X7_draws rm_X7_draws D ad cy z [.ref (ad 0), .int x1, .int x2, .int x3, .int x4, .int x5, .int x6] σ (some (.int r0)) σ0 :=
  rc_met (ret := (some .int)) (by decide) rfl (Nat.le_of_ble_eq_true rfl) (fun p e s m below meth c A ls hc hV hB hl => tbc_X7_draws_0 hc hV n σ x1 x2 x3 x4 x5 x6 hB hl hf)
/-! X7_image -/
theorem kwc_X7_285 {R : Room} {s : State} {args : Array Value} {rm : Room} (hts : ∀ w ∈ wsC, w.before args s = true) (hR : rm.frames + 1 ≤ R.frames ∧ 8 + (3 + 11) + rm.locals ≤ R.locals) (hc0 : rm.cells = 0 := by rfl) (hs0 : rm.slots = 0 := by rfl): CallW R s args RX7 RX0 285 yX0_copyFrom cX0_copyFrom 3 none wn_X0_copyFrom rm 0 0 1 := cwV 1 hts (gC_v qc_551 qc_552 qc_553 qc_126 qc_554) rfl hc0 hs0 (by decide +kernel) hR
abbrev rm_X7_image : Room := { frames := 3, cells := 0, slots := 0, locals := 103 }
abbrev wn_X7_image : List Cond := .code yX7_image cX7_image 1 (some .int) :: wsC
def fc_X7_image (n : Nat) (σ : CS) : Option ((Int32) × CS) := bd (fc_X0_copyFrom_18_5 n σ) (fun _ σ2 => sq (cp σ2 0 5 1) (fun σ3 => some ((σ3.1 5 8), σ3)))
set_option maxRecDepth 100000 in
set_option maxHeartbeats 4000000 in
theorem tbc_X7_image_0 {p : Program} {l : Launch} {e : Env} {s : State} {m : MethodId} {args : Array Value} {below : List Frame} {meth : Method} {c : Code} {D : va_G} {A : Nat → Prop} {ad : Nat → Nat} {cy : CY} {z : CZ} {r0 : Int32} {σ0 : CS} (hc : cxB RX7 wsC cX7_image 1 (some .int) p s m args meth c) (hV : cV D cy z A s) (n : Nat) (σ : CS) {H : Heap} {locs : List Loc} {ls : Array Slot} (hB : cB D ad cy A s.heap σ H locs) (hl : lv_has ls 1 [(0, .ref (ad 0))]) (hf : fc_X7_image n σ = some (r0, σ0)) : W p l e rm_X7_image s m args below meth c H locs 0 0 (MQ below (cQ D ad cy A (some (.int r0)) σ0) args s 0 0 A) (F0 m 0 ls []) := by
  obtain ⟨hx, hb, hml, hown, hts, hr, hlocks⟩ := id hc
  unfold fc_X7_image at hf
  refine lv_aload_n hx hb dX7_image_0 rfl (lv_at hl 0 rfl) ?_
  refine rc_get (own := RX7) hx hb hts inC_7 hown hV hB 0 (c34 rfl hB) (ceq_0 _ _ _) rfl 3 (Nat.le_of_ble_eq_true rfl) qf_X7_27 rfl dX7_image_1 ?_
  refine lv_aload_n hx hb dX7_image_4 rfl (lv_at hl 0 rfl) ?_
  refine rc_get (own := RX7) hx hb hts inC_7 hown hV hB 0 (c34 rfl hB) (ceq_0 _ _ _) rfl 2 (Nat.le_of_ble_eq_true rfl) qf_X7_23 rfl dX7_image_5 ?_
  obtain ⟨r1, σ2, hkr1, hf⟩ := bd_e hf
  refine rc_callV (own := RX7) (av := [.ref (ad 5)]) (rest := []) (rv := none) hx hb hml hown hts hl.1 hV hB 18 (c34 rfl hB) (ceq_18 _ _ _) rfl (cc_X0_copyFrom_18_5 l D ad cy z n σ hkr1) (kwc_X7_285  hts ⟨Nat.le_of_ble_eq_true rfl, Nat.le_of_ble_eq_true rfl⟩) rfl rfl (lv_room (Nat.le_of_ble_eq_true rfl)) dX7_image_8 (Nat.le_refl _) (Nat.le_refl _) (fun H locs hB => ?_)
  refine W.eq (g2 := F0 m 11 ls []) rfl ?_
  refine lv_aload_n hx hb dX7_image_11 rfl (lv_at hl 0 rfl) ?_
  refine lv_iconst (v := 1) hx hb dX7_image_12 (by decide) ?_
  refine rc_puti (own := RX7) (ty := .boolean) hx hb hts inC_7 hown hV hB 0 (c34 rfl hB) (ceq_0 _ _ _) rfl 5 (Nat.le_of_ble_eq_true rfl) qf_X7_39 tyX7 tyX7_ok nmX7 (cst_0_5 _ _ _ _) rfl pdc_7_5 rfl rfl (Nat.le_of_ble_eq_true rfl) dX7_image_13 (fun σ3 eσ3 H locs hB => ?_)
  have hf := sq_e hf σ3 eσ3
  refine lv_aload_n hx hb dX7_image_16 rfl (lv_at hl 0 rfl) ?_
  refine rc_get (own := RX7) hx hb hts inC_7 hown hV hB 0 (c34 rfl hB) (ceq_0 _ _ _) rfl 2 (Nat.le_of_ble_eq_true rfl) qf_X7_23 rfl dX7_image_17 ?_
  refine rc_get (own := RX7) hx hb hts inC_0 hown hV hB 5 (c34 rfl hB) (ceq_5 _ _ _) rfl 8 (Nat.le_of_ble_eq_true rfl) qf_X7_55 rfl dX7_image_20 ?_
  obtain ⟨rfl, rfl⟩ := so_e hf
  exact rc_iret hx hb hr hlocks hB dX7_image_23
theorem cc_X7_image (l : Launch) (D : va_G) (ad : Nat → Nat) (cy : CY) (z : CZ) (n : Nat) (σ : CS) {r0 : Int32} {σ0 : CS} (hf : fc_X7_image n σ = some (r0, σ0)) : cM l yX7_image wn_X7_image rm_X7_image D ad cy z [.ref (ad 0)] σ (some (.int r0)) σ0 :=
  rc_met (ret := (some .int)) (by decide) rfl (Nat.le_of_ble_eq_true rfl) (fun p e s m below meth c A ls hc hV hB hl => tbc_X7_image_0 hc hV n σ hB hl hf)
