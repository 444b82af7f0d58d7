/-! X7_bestFor -/
theorem kwc_X7_250 {R : Room} {s : State} {args : Array Value} (hts : ∀ w ∈ wsC, w.before args s = true) (hR : rm_X7_bestFloor.frames + 1 ≤ R.frames ∧ 8 + (7 + 11) + rm_X7_bestFloor.locals ≤ R.locals) : CallW R s args RX7 RX7 250 yX7_bestFloor cX7_bestFloor 7 (some .int) wn_X7_bestFloor rm_X7_bestFloor 0 0 2 := cwV 2 hts (gC_v qc_512 qc_513 qc_514 qc_85 qc_506) rfl rfl rfl (by decide +kernel) hR
theorem kwc_X7_254 {R : Room} {s : State} {args : Array Value} (hts : ∀ w ∈ wsC, w.before args s = true) (hR : rm_X7_bestEdge.frames + 1 ≤ R.frames ∧ 8 + (6 + 11) + rm_X7_bestEdge.locals ≤ R.locals) : CallW R s args RX7 RX7 254 yX7_bestEdge cX7_bestEdge 6 (some .int) wn_X7_bestEdge rm_X7_bestEdge 0 0 2 := cwV 2 hts (gC_v qc_515 qc_516 qc_517 qc_85 qc_511) rfl rfl rfl (by decide +kernel) hR
abbrev rm_X7_bestFor : Room := { frames := 7, cells := 0, slots := 0, locals := 204 }
abbrev wn_X7_bestFor : List Cond := .code yX7_bestFor cX7_bestFor 6 (some .int) :: wsC
def fc_X7_bestFor (n : Nat) (σ : CS) (x1 : Int32) (x2 : Int32) (x3 : Int32) : Option ((Int32) × CS) := bd (fc_X0_plateAt n σ x1) (fun r1 σ2 => oc r1 (bd (fc_X7_refuse n σ2 (-1)) (fun r4 σ5 => some (r4, σ5))) (fun q3 => bd (fc_X7_isZeroOrOne n σ2 x3) (fun r6 σ7 => if (r6 = 0) then (bd (fc_X7_refuse n σ7 (-2)) (fun r19 σ20 => some (r19, σ20))) else (bd (fc_X7_leanRefusal n σ7 x2) (fun r9 σ10 => if (r9 = 0) then (if (x3 = 0) then (bd (fc_X7_bestFloor n σ10 q3 x2) (fun r15 σ16 => some (r15, σ16))) else (bd (fc_X7_bestEdge n σ10 q3 x2) (fun r13 σ14 => some (r13, σ14)))) else (bd (fc_X7_refuse n σ10 r9) (fun r17 σ18 => some (r17, σ18))))))))
set_option maxRecDepth 100000 in
set_option maxHeartbeats 4000000 in
theorem tbc_X7_bestFor_0 {p : Program} {l : Launch} {e : Env} {s : State} {m : MethodId} {args : Array Value} {below : List Frame} {meth : Method} {c : Code} {D : va_G} {A : Nat → Prop} {ad : Nat → Nat} {cy : CY} {z : CZ} {r0 : Int32} {σ0 : CS} (hc : cxB RX7 wsC cX7_bestFor 6 (some .int) p s m args meth c) (hV : cV D cy z A s) (n : Nat) (σ : CS) (x1 : Int32) (x2 : Int32) (x3 : Int32) {H : Heap} {locs : List Loc} {ls : Array Slot} (hB : cB D ad cy A s.heap σ H locs) (hl : lv_has ls 6 [(0, .ref (ad 0)), (1, .int x1), (2, .int x2), (3, .int x3)]) (hf : fc_X7_bestFor n σ x1 x2 x3 = some (r0, σ0)) : W p l e rm_X7_bestFor s m args below meth c H locs 0 0 (MQ below (cQ D ad cy A (some (.int r0)) σ0) args s 0 0 A) (F0 m 0 ls []) := by
  obtain ⟨hx, hb, hml, hown, hts, hr, hlocks⟩ := id hc
  unfold fc_X7_bestFor at hf
  refine lv_aload_n hx hb dX7_bestFor_0 rfl (lv_at hl 0 rfl) ?_
  refine rc_get (own := RX7) hx hb hts inC_7 hown hV hB 0 (c34 rfl hB) (ceq_0 _ _ _) rfl 2 (Nat.le_of_ble_eq_true rfl) qf_X7_23 rfl dX7_bestFor_1 ?_
  refine lv_iload_n hx hb dX7_bestFor_4 rfl (lv_at hl 1 rfl) ?_
  obtain ⟨r1, σ2, hkr1, hf⟩ := bd_e hf
  refine rc_callV (own := RX7) (av := [.int x1]) (rest := []) (rv := (some (va_rf (Option.map ad r1)))) hx hb hml hown hts hl.1 hV hB 5 (c34 rfl hB) (ceq_5 _ _ _) rfl (cc_X0_plateAt l D ad cy z n σ x1 hkr1) (kwc_X7_69  hts ⟨Nat.le_of_ble_eq_true rfl, Nat.le_of_ble_eq_true rfl⟩) rfl rfl (lv_room (Nat.le_of_ble_eq_true rfl)) dX7_bestFor_5 (Nat.le_refl _) (Nat.le_refl _) (fun H locs hB => ?_)
  refine W.eq (g2 := F0 m 8 ls [va_rf (Option.map ad r1)]) rfl ?_
  rcases r1 with _ | q3
  · have hf := oc_n hf
    refine lv_astoreN (lv' := [(4, .null), (0, .ref (ad 0)), (1, .int x1), (2, .int x2), (3, .int x3)]) hx hb dX7_bestFor_8 hl (by decide) rfl (fun ls hl => ?_)
    refine lv_aloadN hx hb dX7_bestFor_10 (lv_at hl 0 rfl) ?_
    refine lv_ifnonnullN hx hb dX7_bestFor_12 ?_
    refine lv_aload_n hx hb dX7_bestFor_15 rfl (lv_at hl 1 rfl) ?_
    refine lv_iconst (v := (-1)) hx hb dX7_bestFor_16 (by decide) ?_
    obtain ⟨r4, σ5, hkr4, hf⟩ := bd_e hf
    refine rc_callV (own := RX7) (av := [.int (-1)]) (rest := []) (rv := (some (.int r4))) hx hb hml hown hts hl.1 hV hB 0 (c34 rfl hB) (ceq_0 _ _ _) rfl (cc_X7_refuse l D ad cy z n σ2 (-1) hkr4) (kwc_X7_43  hts ⟨Nat.le_of_ble_eq_true rfl, Nat.le_of_ble_eq_true rfl⟩) rfl rfl (lv_room (Nat.le_of_ble_eq_true rfl)) dX7_bestFor_17 (Nat.le_refl _) (Nat.le_refl _) (fun H locs hB => ?_)
    refine W.eq (g2 := F0 m 20 ls [.int r4]) rfl ?_
    obtain ⟨rfl, rfl⟩ := so_e hf
    exact rc_iret hx hb hr hlocks hB dX7_bestFor_20
  · have hf := oc_s hf
    refine lv_astore (lv' := [(4, .ref (ad q3)), (0, .ref (ad 0)), (1, .int x1), (2, .int x2), (3, .int x3)]) hx hb dX7_bestFor_8 hl (by decide) rfl (fun ls hl => ?_)
    refine lv_aload hx hb dX7_bestFor_10 (lv_at hl 0 rfl) ?_
    refine lv_ifnonnull (tgt := 21) hx hb dX7_bestFor_12 (by decide) ?_
    refine lv_iload_n hx hb dX7_bestFor_21 rfl (lv_at hl 4 rfl) ?_
    obtain ⟨r6, σ7, hkr6, hf⟩ := bd_e hf
    refine rc_callS (own := RX7) (av := [.int x3]) (rest := []) (rv := (some (.int r6))) hx hb hml hown hts hl.1 hV hB (cc_X7_isZeroOrOne l D ad cy z n σ2 x3 hkr6) (kwc_X7_132  hts ⟨Nat.le_of_ble_eq_true rfl, Nat.le_of_ble_eq_true rfl⟩) rfl rfl (lv_room (Nat.le_of_ble_eq_true rfl)) dX7_bestFor_22 (Nat.le_refl _) (Nat.le_refl _) (fun H locs hB => ?_)
    refine W.eq (g2 := F0 m 25 ls [.int r6]) rfl ?_
    refine lv_if_ne (tgt := 35) hx hb dX7_bestFor_25 (by decide) (fun c8 => ?_) (fun c8 => ?_)
    · have hf := it_f hf c8
      refine lv_iload_n hx hb dX7_bestFor_35 rfl (lv_at hl 3 rfl) ?_
      obtain ⟨r9, σ10, hkr9, hf⟩ := bd_e hf
      refine rc_callS (own := RX7) (av := [.int x2]) (rest := []) (rv := (some (.int r9))) hx hb hml hown hts hl.1 hV hB (cc_X7_leanRefusal l D ad cy z n σ7 x2 hkr9) (kwc_X7_144  hts ⟨Nat.le_of_ble_eq_true rfl, Nat.le_of_ble_eq_true rfl⟩) rfl rfl (lv_room (Nat.le_of_ble_eq_true rfl)) dX7_bestFor_36 (Nat.le_refl _) (Nat.le_refl _) (fun H locs hB => ?_)
      refine W.eq (g2 := F0 m 39 ls [.int r9]) rfl ?_
      refine lv_istore (lv' := [(5, .int r9), (4, .ref (ad q3)), (0, .ref (ad 0)), (1, .int x1), (2, .int x2), (3, .int x3)]) hx hb dX7_bestFor_39 hl (by decide) rfl (fun ls hl => ?_)
      refine lv_iload hx hb dX7_bestFor_41 (lv_at hl 0 rfl) ?_
      refine lv_if_eq (tgt := 53) hx hb dX7_bestFor_43 (by decide) (fun c11 => ?_) (fun c11 => ?_)
      · have hf := it_t hf c11
        refine lv_iload_n hx hb dX7_bestFor_53 rfl (lv_at hl 5 rfl) ?_
        refine lv_if_ne (tgt := 67) hx hb dX7_bestFor_54 (by decide) (fun c12 => ?_) (fun c12 => ?_)
        · have hf := it_f hf c12
          refine lv_aload_n hx hb dX7_bestFor_67 rfl (lv_at hl 2 rfl) ?_
          refine lv_aload hx hb dX7_bestFor_68 (lv_at hl 1 rfl) ?_
          refine lv_iload_n hx hb dX7_bestFor_70 rfl (lv_at hl 4 rfl) ?_
          obtain ⟨r13, σ14, hkr13, hf⟩ := bd_e hf
          refine rc_callV (own := RX7) (av := [.ref (ad q3), .int x2]) (rest := []) (rv := (some (.int r13))) hx hb hml hown hts hl.1 hV hB 0 (c34 rfl hB) (ceq_0 _ _ _) rfl (cc_X7_bestEdge l D ad cy z n σ10 q3 x2 hkr13) (kwc_X7_254  hts ⟨Nat.le_of_ble_eq_true rfl, Nat.le_of_ble_eq_true rfl⟩) rfl rfl (lv_room (Nat.le_of_ble_eq_true rfl)) dX7_bestFor_71 (Nat.le_refl _) (Nat.le_refl _) (fun H locs hB => ?_)
          refine W.eq (g2 := F0 m 74 ls [.int r13]) rfl ?_
          obtain ⟨rfl, rfl⟩ := so_e hf
          exact rc_iret hx hb hr hlocks hB dX7_bestFor_74
        · have hf := it_t hf c12
          refine lv_aload_n hx hb dX7_bestFor_57 rfl (lv_at hl 2 rfl) ?_
          refine lv_aload hx hb dX7_bestFor_58 (lv_at hl 1 rfl) ?_
          refine lv_iload_n hx hb dX7_bestFor_60 rfl (lv_at hl 4 rfl) ?_
          obtain ⟨r15, σ16, hkr15, hf⟩ := bd_e hf
          refine rc_callV (own := RX7) (av := [.ref (ad q3), .int x2]) (rest := []) (rv := (some (.int r15))) hx hb hml hown hts hl.1 hV hB 0 (c34 rfl hB) (ceq_0 _ _ _) rfl (cc_X7_bestFloor l D ad cy z n σ10 q3 x2 hkr15) (kwc_X7_250  hts ⟨Nat.le_of_ble_eq_true rfl, Nat.le_of_ble_eq_true rfl⟩) rfl rfl (lv_room (Nat.le_of_ble_eq_true rfl)) dX7_bestFor_61 (Nat.le_refl _) (Nat.le_refl _) (fun H locs hB => ?_)
          refine W.eq (g2 := F0 m 64 ls [.int r15]) rfl ?_
          refine lv_goto (tgt := 74) hx hb dX7_bestFor_64 (by decide) ?_
          obtain ⟨rfl, rfl⟩ := so_e hf
          exact rc_iret hx hb hr hlocks hB dX7_bestFor_74
      · have hf := it_f hf c11
        refine lv_aload_n hx hb dX7_bestFor_46 rfl (lv_at hl 2 rfl) ?_
        refine lv_iload hx hb dX7_bestFor_47 (lv_at hl 0 rfl) ?_
        obtain ⟨r17, σ18, hkr17, hf⟩ := bd_e hf
        refine rc_callV (own := RX7) (av := [.int r9]) (rest := []) (rv := (some (.int r17))) hx hb hml hown hts hl.1 hV hB 0 (c34 rfl hB) (ceq_0 _ _ _) rfl (cc_X7_refuse l D ad cy z n σ10 r9 hkr17) (kwc_X7_43  hts ⟨Nat.le_of_ble_eq_true rfl, Nat.le_of_ble_eq_true rfl⟩) rfl rfl (lv_room (Nat.le_of_ble_eq_true rfl)) dX7_bestFor_49 (Nat.le_refl _) (Nat.le_refl _) (fun H locs hB => ?_)
        refine W.eq (g2 := F0 m 52 ls [.int r17]) rfl ?_
        obtain ⟨rfl, rfl⟩ := so_e hf
        exact rc_iret hx hb hr hlocks hB dX7_bestFor_52
    · have hf := it_t hf c8
      refine lv_aload_n hx hb dX7_bestFor_28 rfl (lv_at hl 1 rfl) ?_
      refine lv_bipush (v := (-2)) hx hb dX7_bestFor_29 (by decide) ?_
      obtain ⟨r19, σ20, hkr19, hf⟩ := bd_e hf
      refine rc_callV (own := RX7) (av := [.int (-2)]) (rest := []) (rv := (some (.int r19))) hx hb hml hown hts hl.1 hV hB 0 (c34 rfl hB) (ceq_0 _ _ _) rfl (cc_X7_refuse l D ad cy z n σ7 (-2) hkr19) (kwc_X7_43  hts ⟨Nat.le_of_ble_eq_true rfl, Nat.le_of_ble_eq_true rfl⟩) rfl rfl (lv_room (Nat.le_of_ble_eq_true rfl)) dX7_bestFor_31 (Nat.le_refl _) (Nat.le_refl _) (fun H locs hB => ?_)
      refine W.eq (g2 := F0 m 34 ls [.int r19]) rfl ?_
      obtain ⟨rfl, rfl⟩ := so_e hf
      exact rc_iret hx hb hr hlocks hB dX7_bestFor_34
theorem cc_X7_bestFor (l : Launch) (D : va_G) (ad : Nat → Nat) (cy : CY) (z : CZ) (n : Nat) (σ : CS) (x1 : Int32) (x2 : Int32) (x3 : Int32) {r0 : Int32} {σ0 : CS} (hf : fc_X7_bestFor n σ x1 x2 x3 = some (r0, σ0)) : cM l yX7_bestFor wn_X7_bestFor rm_X7_bestFor D ad cy z [.ref (ad 0), .int x1, .int x2, .int x3] σ (some (.int r0)) σ0 :=
  rc_met (ret := (some .int)) (by decide) rfl (Nat.le_of_ble_eq_true rfl) (fun p e s m below meth c A ls hc hV hB hl => tbc_X7_bestFor_0 hc hV n σ x1 x2 x3 hB hl hf)
/-! X7_offInAll -/
abbrev rm_X7_offInAll : Room := { frames := 6, cells := 0, slots := 0, locals := 177 }
abbrev wn_X7_offInAll : List Cond := .code yX7_offInAll cX7_offInAll 5 (some .int) :: wsC
def bc_X7_offInAll_41 (n : Nat) (K41 : CS → Int32 → Int32 → Option ((Int32) × CS)) (σ : CS) (x3 : Int32) (x4 : Int32) : Option ((Int32) × CS) := if ((σ.1 16 1) ≤ x4) then (some (x3, σ)) else (bd (fc_X4_isHeard n σ x4) (fun r2 σ3 => if (r2 = 0) then (sq (x4 + 1 : Int32) (fun y5 => K41 σ3 x3 y5)) else (bd (fc_X2_offAt n σ3 x4) (fun r6 σ7 => sq ((x3 + r6) : Int32) (fun y8 => sq (x4 + 1 : Int32) (fun y9 => K41 σ7 y8 y9))))))
set_option maxRecDepth 100000 in
set_option maxHeartbeats 4000000 in
theorem tbc_X7_offInAll_41 {p : Program} {l : Launch} {e : Env} {s : State} {m : MethodId} {args : Array Value} {below : List Frame} {meth : Method} {c : Code} {D : va_G} {A : Nat → Prop} {ad : Nat → Nat} {cy : CY} {z : CZ} {r0 : Int32} {σ0 : CS} (hc : cxB RX7 wsC cX7_offInAll 5 (some .int) p s m args meth c) (hV : cV D cy z A s) (n : Nat) (K41 : CS → Int32 → Int32 → Option ((Int32) × CS)) (hK41 : ∀ (σ : CS) (x3 : Int32) (x4 : Int32) (H : Heap) (locs : List Loc) (ls : Array Slot), cB D ad cy A s.heap σ H locs → lv_has ls 5 [(0, .ref (ad 0)), (2, .ref (ad 16)), (3, .int x3), (4, .int x4)] → K41 σ x3 x4 = some (r0, σ0) → W p l e rm_X7_offInAll s m args below meth c H locs 0 0 (MQ below (cQ D ad cy A (some (.int r0)) σ0) args s 0 0 A) (F0 m 41 ls [])) (σ : CS) (x3 : Int32) (x4 : Int32) {H : Heap} {locs : List Loc} {ls : Array Slot} (hB : cB D ad cy A s.heap σ H locs) (hl : lv_has ls 5 [(0, .ref (ad 0)), (2, .ref (ad 16)), (3, .int x3), (4, .int x4)]) (hf : bc_X7_offInAll_41 n K41 σ x3 x4 = some (r0, σ0)) : W p l e rm_X7_offInAll s m args below meth c H locs 0 0 (MQ below (cQ D ad cy A (some (.int r0)) σ0) args s 0 0 A) (F0 m 41 ls []) := by
  obtain ⟨hx, hb, hml, hown, hts, hr, hlocks⟩ := id hc
  unfold bc_X7_offInAll_41 at hf
  refine lv_iload hx hb dX7_offInAll_41 (lv_at hl 3 rfl) ?_
  refine lv_aload_n hx hb dX7_offInAll_43 rfl (lv_at hl 1 rfl) ?_
  refine rc_get (own := RX7) hx hb hts inC_4 hown hV hB 16 (c34 rfl hB) (ceq_16 _ _ _) rfl 1 (Nat.le_of_ble_eq_true rfl) qf_X7_223 rfl dX7_offInAll_44 ?_
  refine lv_icmp_ge (tgt := 77) hx hb dX7_offInAll_47 (by decide) (fun c1 => ?_) (fun c1 => ?_)
  · have hf := it_t hf c1
    refine lv_iload_n hx hb dX7_offInAll_77 rfl (lv_at hl 2 rfl) ?_
    obtain ⟨rfl, rfl⟩ := so_e hf
    exact rc_iret hx hb hr hlocks hB dX7_offInAll_78
  · have hf := it_f hf c1
    refine lv_aload_n hx hb dX7_offInAll_50 rfl (lv_at hl 1 rfl) ?_
    refine lv_iload hx hb dX7_offInAll_51 (lv_at hl 3 rfl) ?_
    obtain ⟨r2, σ3, hkr2, hf⟩ := bd_e hf
    refine rc_callV (own := RX7) (av := [.int x4]) (rest := []) (rv := (some (.int r2))) hx hb hml hown hts hl.1 hV hB 16 (c34 rfl hB) (ceq_16 _ _ _) rfl (cc_X4_isHeard l D ad cy z n σ x4 hkr2) (kwc_X7_313  hts ⟨Nat.le_of_ble_eq_true rfl, Nat.le_of_ble_eq_true rfl⟩) rfl rfl (lv_room (Nat.le_of_ble_eq_true rfl)) dX7_offInAll_53 (Nat.le_refl _) (Nat.le_refl _) (fun H locs hB => ?_)
    refine W.eq (g2 := F0 m 56 ls [.int r2]) rfl ?_
    refine lv_if_eq (tgt := 71) hx hb dX7_offInAll_56 (by decide) (fun c4 => ?_) (fun c4 => ?_)
    · have hf := it_t hf c4
      obtain ⟨y5, ey5⟩ : ∃ z : Int32, z = x4 + 1 := ⟨_, rfl⟩
      have hf := sq_e hf y5 ey5
      refine lv_iinc (v := y5) (lv' := [(4, .int y5), (0, .ref (ad 0)), (2, .ref (ad 16)), (3, .int x3)]) hx hb dX7_offInAll_71 hl (k := 3) rfl (by rw [ey5]; rfl) (by decide) rfl (fun ls hl => ?_)
      refine lv_goto (tgt := 41) hx hb dX7_offInAll_74 (by decide) ?_
      exact hK41 σ3 x3 y5 _ _ _ hB (lv_sub hl [1, 2, 3, 0] rfl) hf
    · have hf := it_f hf c4
      refine lv_iload_n hx hb dX7_offInAll_59 rfl (lv_at hl 2 rfl) ?_
      refine lv_aload_n hx hb dX7_offInAll_60 rfl (lv_at hl 0 rfl) ?_
      refine rc_get (own := RX7) hx hb hts inC_7 hown hV hB 0 (c34 rfl hB) (ceq_0 _ _ _) rfl 4 (Nat.le_of_ble_eq_true rfl) qf_X7_35 rfl dX7_offInAll_61 ?_
      refine lv_iload hx hb dX7_offInAll_64 (lv_at hl 3 rfl) ?_
      obtain ⟨r6, σ7, hkr6, hf⟩ := bd_e hf
      refine rc_callV (own := RX7) (av := [.int x4]) (rest := [.int x3]) (rv := (some (.int r6))) hx hb hml hown hts hl.1 hV hB 31 (c34 rfl hB) (ceq_31 _ _ _) rfl (cc_X2_offAt l D ad cy z n σ3 x4 hkr6) (kwc_X7_316  hts ⟨Nat.le_of_ble_eq_true rfl, Nat.le_of_ble_eq_true rfl⟩) rfl rfl (lv_room (Nat.le_of_ble_eq_true rfl)) dX7_offInAll_66 (Nat.le_refl _) (Nat.le_refl _) (fun H locs hB => ?_)
      refine W.eq (g2 := F0 m 69 ls [.int r6, .int x3]) rfl ?_
      refine lv_iadd hx hb dX7_offInAll_69 ?_
      refine lv_topi (fun y8 ey8 => ?_)
      have hf := sq_e hf y8 ey8
      refine lv_istore_n (lv' := [(3, .int y8), (0, .ref (ad 0)), (2, .ref (ad 16)), (4, .int x4)]) hx hb dX7_offInAll_70 rfl hl (by decide) rfl (fun ls hl => ?_)
      obtain ⟨y9, ey9⟩ : ∃ z : Int32, z = x4 + 1 := ⟨_, rfl⟩
      have hf := sq_e hf y9 ey9
      refine lv_iinc (v := y9) (lv' := [(4, .int y9), (3, .int y8), (0, .ref (ad 0)), (2, .ref (ad 16))]) hx hb dX7_offInAll_71 hl (k := 3) rfl (by rw [ey9]; rfl) (by decide) rfl (fun ls hl => ?_)
      refine lv_goto (tgt := 41) hx hb dX7_offInAll_74 (by decide) ?_
      exact hK41 σ7 y8 y9 _ _ _ hB (lv_sub hl [2, 3, 1, 0] rfl) hf
def lc_X7_offInAll_41 (n : Nat) : Nat → CS → Int32 → Int32 → Option ((Int32) × CS)
  | 0 => fun _ _ _ => none
  | k + 1 => bc_X7_offInAll_41 n (lc_X7_offInAll_41 n k)
theorem tlc_X7_offInAll_41 {p : Program} {l : Launch} {e : Env} {s : State} {m : MethodId} {args : Array Value} {below : List Frame} {meth : Method} {c : Code} {D : va_G} {A : Nat → Prop} {ad : Nat → Nat} {cy : CY} {z : CZ} {r0 : Int32} {σ0 : CS} (hc : cxB RX7 wsC cX7_offInAll 5 (some .int) p s m args meth c) (hV : cV D cy z A s) (n : Nat) : ∀ (k : Nat) (σ : CS) (x3 : Int32) (x4 : Int32) (H : Heap) (locs : List Loc) (ls : Array Slot), cB D ad cy A s.heap σ H locs → lv_has ls 5 [(0, .ref (ad 0)), (2, .ref (ad 16)), (3, .int x3), (4, .int x4)] → lc_X7_offInAll_41 n k σ x3 x4 = some (r0, σ0) → W p l e rm_X7_offInAll s m args below meth c H locs 0 0 (MQ below (cQ D ad cy A (some (.int r0)) σ0) args s 0 0 A) (F0 m 41 ls []) := by
  intro k
  induction k with
  | zero =>
    intro σ x3 x4 H locs ls hB hl hf
    have hf : (none : Option ((Int32) × CS)) = some (r0, σ0) := hf
    cases hf
  | succ k ih =>
    intro σ x3 x4 H locs ls hB hl hf
    exact tbc_X7_offInAll_41 hc hV n (lc_X7_offInAll_41 n k) ih σ x3 x4 hB hl hf
def fc_X7_offInAll (n : Nat) (σ : CS) (x1 : Nat) : Option ((Int32) × CS) := bd (fc_X2_begin n σ (some x1) (σ.1 12 2) (σ.1 12 3)) (fun _ σ2 => sq (0 : Int32) (fun y3 => sq (0 : Int32) (fun y4 => lc_X7_offInAll_41 n n σ2 y3 y4)))
set_option maxRecDepth 100000 in
set_option maxHeartbeats 4000000 in
theorem tbc_X7_offInAll_0 {p : Program} {l : Launch} {e : Env} {s : State} {m : MethodId} {args : Array Value} {below : List Frame} {meth : Method} {c : Code} {D : va_G} {A : Nat → Prop} {ad : Nat → Nat} {cy : CY} {z : CZ} {r0 : Int32} {σ0 : CS} (hc : cxB RX7 wsC cX7_offInAll 5 (some .int) p s m args meth c) (hV : cV D cy z A s) (n : Nat) (σ : CS) (x1 : Nat) {H : Heap} {locs : List Loc} {ls : Array Slot} (hB : cB D ad cy A s.heap σ H locs) (hl : lv_has ls 5 [(0, .ref (ad 0)), (1, .ref (ad x1))]) (hf : fc_X7_offInAll n σ x1 = some (r0, σ0)) : W p l e rm_X7_offInAll s m args below meth c H locs 0 0 (MQ below (cQ D ad cy A (some (.int r0)) σ0) args s 0 0 A) (F0 m 0 ls []) := by
  obtain ⟨hx, hb, hml, hown, hts, hr, hlocks⟩ := id hc
  unfold fc_X7_offInAll at hf
  refine lv_aload_n hx hb dX7_offInAll_0 rfl (lv_at hl 0 rfl) ?_
  refine rc_get (own := RX7) hx hb hts inC_7 hown hV hB 0 (c34 rfl hB) (ceq_0 _ _ _) rfl 2 (Nat.le_of_ble_eq_true rfl) qf_X7_23 rfl dX7_offInAll_1 ?_
  refine rc_get (own := RX7) hx hb hts inC_0 hown hV hB 5 (c34 rfl hB) (ceq_5 _ _ _) rfl 7 (Nat.le_of_ble_eq_true rfl) qf_X7_219 rfl dX7_offInAll_4 ?_
  refine lv_astore_n (lv' := [(2, .ref (ad 16)), (0, .ref (ad 0)), (1, .ref (ad x1))]) hx hb dX7_offInAll_7 rfl hl (by decide) rfl (fun ls hl => ?_)
  refine lv_aload_n hx hb dX7_offInAll_8 rfl (lv_at hl 1 rfl) ?_
  refine rc_get (own := RX7) hx hb hts inC_7 hown hV hB 0 (c34 rfl hB) (ceq_0 _ _ _) rfl 4 (Nat.le_of_ble_eq_true rfl) qf_X7_35 rfl dX7_offInAll_9 ?_
  refine lv_aload_n hx hb dX7_offInAll_12 rfl (lv_at hl 2 rfl) ?_
  refine lv_aload_n hx hb dX7_offInAll_13 rfl (lv_at hl 1 rfl) ?_
  refine rc_get (own := RX7) hx hb hts inC_7 hown hV hB 0 (c34 rfl hB) (ceq_0 _ _ _) rfl 2 (Nat.le_of_ble_eq_true rfl) qf_X7_23 rfl dX7_offInAll_14 ?_
  refine rc_get (own := RX7) hx hb hts inC_0 hown hV hB 5 (c34 rfl hB) (ceq_5 _ _ _) rfl 6 (Nat.le_of_ble_eq_true rfl) qf_X7_119 rfl dX7_offInAll_17 ?_
  refine rc_get (own := RX7) hx hb hts inC_5 hown hV hB 12 (c34 rfl hB) (ceq_12 _ _ _) rfl 2 (Nat.le_of_ble_eq_true rfl) qf_X7_291 rfl dX7_offInAll_20 ?_
  refine lv_aload_n hx hb dX7_offInAll_23 rfl (lv_at hl 1 rfl) ?_
  refine rc_get (own := RX7) hx hb hts inC_7 hown hV hB 0 (c34 rfl hB) (ceq_0 _ _ _) rfl 2 (Nat.le_of_ble_eq_true rfl) qf_X7_23 rfl dX7_offInAll_24 ?_
  refine rc_get (own := RX7) hx hb hts inC_0 hown hV hB 5 (c34 rfl hB) (ceq_5 _ _ _) rfl 6 (Nat.le_of_ble_eq_true rfl) qf_X7_119 rfl dX7_offInAll_27 ?_
  refine rc_get (own := RX7) hx hb hts inC_5 hown hV hB 12 (c34 rfl hB) (ceq_12 _ _ _) rfl 3 (Nat.le_of_ble_eq_true rfl) qf_X7_174 rfl dX7_offInAll_30 ?_
  obtain ⟨r1, σ2, hkr1, hf⟩ := bd_e hf
  refine rc_callV (own := RX7) (av := [va_rf (Option.map ad (some x1)), .int (σ.1 12 2), .int (σ.1 12 3)]) (rest := []) (rv := none) hx hb hml hown hts hl.1 hV hB 31 (c34 rfl hB) (ceq_31 _ _ _) rfl (cc_X2_begin l D ad cy z n σ (some x1) (σ.1 12 2) (σ.1 12 3) hkr1) (kwc_X7_151  hts ⟨Nat.le_of_ble_eq_true rfl, Nat.le_of_ble_eq_true rfl⟩) rfl rfl (lv_room (Nat.le_of_ble_eq_true rfl)) dX7_offInAll_33 (Nat.le_refl _) (Nat.le_refl _) (fun H locs hB => ?_)
  refine W.eq (g2 := F0 m 36 ls []) rfl ?_
  refine lv_iconst (v := 0) hx hb dX7_offInAll_36 (by decide) ?_
  refine lv_topi (fun y3 ey3 => ?_)
  have hf := sq_e hf y3 ey3
  refine lv_istore_n (lv' := [(3, .int y3), (2, .ref (ad 16)), (0, .ref (ad 0)), (1, .ref (ad x1))]) hx hb dX7_offInAll_37 rfl hl (by decide) rfl (fun ls hl => ?_)
  refine lv_iconst (v := 0) hx hb dX7_offInAll_38 (by decide) ?_
  refine lv_topi (fun y4 ey4 => ?_)
  have hf := sq_e hf y4 ey4
  refine lv_istore (lv' := [(4, .int y4), (3, .int y3), (2, .ref (ad 16)), (0, .ref (ad 0)), (1, .ref (ad x1))]) hx hb dX7_offInAll_39 hl (by decide) rfl (fun ls hl => ?_)
  exact tlc_X7_offInAll_41 hc hV n n σ2 y3 y4 _ _ _ hB (lv_sub hl [3, 2, 1, 0] rfl) hf
theorem cc_X7_offInAll (l : Launch) (D : va_G) (ad : Nat → Nat) (cy : CY) (z : CZ) (n : Nat) (σ : CS) (x1 : Nat) {r0 : Int32} {σ0 : CS} (hf : fc_X7_offInAll n σ x1 = some (r0, σ0)) : cM l yX7_offInAll wn_X7_offInAll rm_X7_offInAll D ad cy z [.ref (ad 0), .ref (ad x1)] σ (some (.int r0)) σ0 :=
  rc_met (ret := (some .int)) (by decide) rfl (Nat.le_of_ble_eq_true rfl) (fun p e s m below meth c A ls hc hV hB hl => tbc_X7_offInAll_0 hc hV n σ x1 hB hl hf)
/-! X7_ear -/
theorem kwc_X7_257 {R : Room} {s : State} {args : Array Value} (hts : ∀ w ∈ wsC, w.before args s = true) (hR : rm_X7_offInAll.frames + 1 ≤ R.frames ∧ 8 + (5 + 11) + rm_X7_offInAll.locals ≤ R.locals) : CallW R s args RX7 RX7 257 yX7_offInAll cX7_offInAll 5 (some .int) wn_X7_offInAll rm_X7_offInAll 0 0 1 := cwV 1 hts (gC_v qc_519 qc_520 qc_521 qc_85 qc_518) rfl rfl rfl (by decide +kernel) hR
theorem kwc_X7_260 {R : Room} {s : State} {args : Array Value} (hts : ∀ w ∈ wsC, w.before args s = true) (hR : rm_X4_heardOnes.frames + 1 ≤ R.frames ∧ 8 + (3 + 11) + rm_X4_heardOnes.locals ≤ R.locals) : CallW R s args RX7 RX4 260 yX4_heardOnes cX4_heardOnes 3 (some .int) wn_X4_heardOnes rm_X4_heardOnes 0 0 0 := cwV 0 hts (gC_v qc_522 qc_523 qc_524 qc_18 qc_525) rfl rfl rfl (by decide +kernel) hR
abbrev rm_X7_ear : Room := { frames := 7, cells := 0, slots := 0, locals := 201 }
abbrev wn_X7_ear : List Cond := .code yX7_ear cX7_ear 7 (some .int) :: wsC
def bc_X7_ear_111 (n : Nat) (σ : CS) (x1 : Int32) (x2 : Int32) (x3 : Int32) : Option ((Int32) × CS) := if (x1 = 0) then (some (x2, σ)) else (some (x3, σ))
set_option maxRecDepth 100000 in
set_option maxHeartbeats 4000000 in
theorem tbc_X7_ear_111 {p : Program} {l : Launch} {e : Env} {s : State} {m : MethodId} {args : Array Value} {below : List Frame} {meth : Method} {c : Code} {D : va_G} {A : Nat → Prop} {ad : Nat → Nat} {cy : CY} {z : CZ} {r0 : Int32} {σ0 : CS} (hc : cxB RX7 wsC cX7_ear 7 (some .int) p s m args meth c) (hV : cV D cy z A s) (n : Nat) (σ : CS) (x1 : Int32) (x2 : Int32) (x3 : Int32) {H : Heap} {locs : List Loc} {ls : Array Slot} (hB : cB D ad cy A s.heap σ H locs) (hl : lv_has ls 7 [(1, .int x1), (2, .int x2), (3, .int x3)]) (hf : bc_X7_ear_111 n σ x1 x2 x3 = some (r0, σ0)) : W p l e rm_X7_ear s m args below meth c H locs 0 0 (MQ below (cQ D ad cy A (some (.int r0)) σ0) args s 0 0 A) (F0 m 111 ls []) := by
  obtain ⟨hx, hb, hml, hown, hts, hr, hlocks⟩ := id hc
  unfold bc_X7_ear_111 at hf
  refine lv_iload_n hx hb dX7_ear_111 rfl (lv_at hl 0 rfl) ?_
  refine lv_if_ne (tgt := 119) hx hb dX7_ear_112 (by decide) (fun c1 => ?_) (fun c1 => ?_)
  · have hf := it_f hf c1
    refine lv_iload_n hx hb dX7_ear_119 rfl (lv_at hl 2 rfl) ?_
    obtain ⟨rfl, rfl⟩ := so_e hf
    exact rc_iret hx hb hr hlocks hB dX7_ear_120
  · have hf := it_t hf c1
    refine lv_iload_n hx hb dX7_ear_115 rfl (lv_at hl 1 rfl) ?_
    refine lv_goto (tgt := 120) hx hb dX7_ear_116 (by decide) ?_
    obtain ⟨rfl, rfl⟩ := so_e hf
    exact rc_iret hx hb hr hlocks hB dX7_ear_120
def bc_X7_ear_88 (n : Nat) (K45 : CS → Int32 → Int32 → Int32 → Int32 → Option ((Int32) × CS)) (σ : CS) (x1 : Int32) (x4 : Int32) (x6 : Int32) : Option ((Int32) × CS) := sq (x4 + 1 : Int32) (fun y1 => K45 σ x1 x4 x6 y1)
set_option maxRecDepth 100000 in
set_option maxHeartbeats 4000000 in
theorem tbc_X7_ear_88 {p : Program} {l : Launch} {e : Env} {s : State} {m : MethodId} {args : Array Value} {below : List Frame} {meth : Method} {c : Code} {D : va_G} {A : Nat → Prop} {ad : Nat → Nat} {cy : CY} {z : CZ} {r0 : Int32} {σ0 : CS} (hc : cxB RX7 wsC cX7_ear 7 (some .int) p s m args meth c) (hV : cV D cy z A s) (n : Nat) (K45 : CS → Int32 → Int32 → Int32 → Int32 → Option ((Int32) × CS)) (hK45 : ∀ (σ : CS) (x1 : Int32) (x2 : Int32) (x3 : Int32) (x4 : Int32) (H : Heap) (locs : List Loc) (ls : Array Slot), cB D ad cy A s.heap σ H locs → lv_has ls 7 [(0, .ref (ad 0)), (1, .int x1), (2, .int x2), (3, .int x3), (4, .int x4)] → K45 σ x1 x2 x3 x4 = some (r0, σ0) → W p l e rm_X7_ear s m args below meth c H locs 0 0 (MQ below (cQ D ad cy A (some (.int r0)) σ0) args s 0 0 A) (F0 m 45 ls [])) (σ : CS) (x1 : Int32) (x4 : Int32) (x6 : Int32) {H : Heap} {locs : List Loc} {ls : Array Slot} (hB : cB D ad cy A s.heap σ H locs) (hl : lv_has ls 7 [(0, .ref (ad 0)), (1, .int x1), (4, .int x4), (6, .int x6)]) (hf : bc_X7_ear_88 n K45 σ x1 x4 x6 = some (r0, σ0)) : W p l e rm_X7_ear s m args below meth c H locs 0 0 (MQ below (cQ D ad cy A (some (.int r0)) σ0) args s 0 0 A) (F0 m 88 ls []) := by
  obtain ⟨hx, hb, hml, hown, hts, hr, hlocks⟩ := id hc
  unfold bc_X7_ear_88 at hf
  refine lv_iload hx hb dX7_ear_88 (lv_at hl 3 rfl) ?_
  refine lv_istore_n (lv' := [(3, .int x6), (0, .ref (ad 0)), (1, .int x1), (4, .int x4), (6, .int x6)]) hx hb dX7_ear_90 rfl hl (by decide) rfl (fun ls hl => ?_)
  refine lv_iload hx hb dX7_ear_91 (lv_at hl 3 rfl) ?_
  refine lv_istore_n (lv' := [(2, .int x4), (3, .int x6), (0, .ref (ad 0)), (1, .int x1), (4, .int x4), (6, .int x6)]) hx hb dX7_ear_93 rfl hl (by decide) rfl (fun ls hl => ?_)
  obtain ⟨y1, ey1⟩ : ∃ z : Int32, z = x4 + 1 := ⟨_, rfl⟩
  have hf := sq_e hf y1 ey1
  refine lv_iinc (v := y1) (lv' := [(4, .int y1), (2, .int x4), (3, .int x6), (0, .ref (ad 0)), (1, .int x1), (6, .int x6)]) hx hb dX7_ear_94 hl (k := 4) rfl (by rw [ey1]; rfl) (by decide) rfl (fun ls hl => ?_)
  refine lv_goto (tgt := 45) hx hb dX7_ear_97 (by decide) ?_
  exact hK45 σ x1 x4 x6 y1 _ _ _ hB (lv_sub hl [3, 4, 1, 2, 0] rfl) hf
def bc_X7_ear_45 (n : Nat) (K45 : CS → Int32 → Int32 → Int32 → Int32 → Option ((Int32) × CS)) (σ : CS) (x1 : Int32) (x2 : Int32) (x3 : Int32) (x4 : Int32) : Option ((Int32) × CS) := if (6 ≤ x4) then (if (x1 = 1) then (if (x2 = (-9)) then (bc_X7_ear_111 n σ x1 x2 x3) else (bd (fc_X4_heardOnes n σ) (fun r4 σ5 => if (x3 ≤ ((σ.1 16 2) * r4)) then (some (0, σ5)) else (some (1, σ5))))) else (bc_X7_ear_111 n σ x1 x2 x3)) else (bd (fc_X0_plateAt n σ x4) (fun r7 σ8 => oc r7 (sq (x4 + 1 : Int32) (fun y10 => K45 σ8 x1 x2 x3 y10)) (fun q9 => bd (fc_X7_offInAll n σ8 q9) (fun r11 σ12 => if (x2 = (-9)) then (bc_X7_ear_88 n K45 σ12 x1 x4 r11) else (if (x3 ≤ r11) then (sq (x4 + 1 : Int32) (fun y15 => K45 σ12 x1 x2 x3 y15)) else (bc_X7_ear_88 n K45 σ12 x1 x4 r11))))))
set_option maxRecDepth 100000 in
set_option maxHeartbeats 4000000 in
theorem tbc_X7_ear_45 {p : Program} {l : Launch} {e : Env} {s : State} {m : MethodId} {args : Array Value} {below : List Frame} {meth : Method} {c : Code} {D : va_G} {A : Nat → Prop} {ad : Nat → Nat} {cy : CY} {z : CZ} {r0 : Int32} {σ0 : CS} (hc : cxB RX7 wsC cX7_ear 7 (some .int) p s m args meth c) (hV : cV D cy z A s) (n : Nat) (K45 : CS → Int32 → Int32 → Int32 → Int32 → Option ((Int32) × CS)) (hK45 : ∀ (σ : CS) (x1 : Int32) (x2 : Int32) (x3 : Int32) (x4 : Int32) (H : Heap) (locs : List Loc) (ls : Array Slot), cB D ad cy A s.heap σ H locs → lv_has ls 7 [(0, .ref (ad 0)), (1, .int x1), (2, .int x2), (3, .int x3), (4, .int x4)] → K45 σ x1 x2 x3 x4 = some (r0, σ0) → W p l e rm_X7_ear s m args below meth c H locs 0 0 (MQ below (cQ D ad cy A (some (.int r0)) σ0) args s 0 0 A) (F0 m 45 ls [])) (σ : CS) (x1 : Int32) (x2 : Int32) (x3 : Int32) (x4 : Int32) {H : Heap} {locs : List Loc} {ls : Array Slot} (hB : cB D ad cy A s.heap σ H locs) (hl : lv_has ls 7 [(0, .ref (ad 0)), (1, .int x1), (2, .int x2), (3, .int x3), (4, .int x4)]) (hf : bc_X7_ear_45 n K45 σ x1 x2 x3 x4 = some (r0, σ0)) : W p l e rm_X7_ear s m args below meth c H locs 0 0 (MQ below (cQ D ad cy A (some (.int r0)) σ0) args s 0 0 A) (F0 m 45 ls []) := by
  obtain ⟨hx, hb, hml, hown, hts, hr, hlocks⟩ := id hc
  unfold bc_X7_ear_45 at hf
  refine lv_iload hx hb dX7_ear_45 (lv_at hl 4 rfl) ?_
  refine lv_bipush (v := 6) hx hb dX7_ear_47 (by decide) ?_
  refine lv_icmp_ge (tgt := 100) hx hb dX7_ear_49 (by decide) (fun c1 => ?_) (fun c1 => ?_)
  · have hf := it_t hf c1
    refine lv_iload_n hx hb dX7_ear_100 rfl (lv_at hl 1 rfl) ?_
    refine lv_iconst (v := 1) hx hb dX7_ear_101 (by decide) ?_
    refine lv_icmp_ne (tgt := 111) hx hb dX7_ear_102 (by decide) (fun c2 => ?_) (fun c2 => ?_)
    · have hf := it_f hf c2
      exact tbc_X7_ear_111 hc hV n σ x1 x2 x3 hB (lv_sub hl [1, 2, 3] rfl) hf
    · have hf := it_t hf c2
      refine lv_iload_n hx hb dX7_ear_105 rfl (lv_at hl 2 rfl) ?_
      refine lv_bipush (v := (-9)) hx hb dX7_ear_106 (by decide) ?_
      refine lv_icmp_ne (tgt := 121) hx hb dX7_ear_108 (by decide) (fun c3 => ?_) (fun c3 => ?_)
      · have hf := it_f hf c3
        refine lv_iload_n hx hb dX7_ear_121 rfl (lv_at hl 3 rfl) ?_
        refine lv_aload_n hx hb dX7_ear_122 rfl (lv_at hl 0 rfl) ?_
        refine rc_get (own := RX7) hx hb hts inC_7 hown hV hB 0 (c34 rfl hB) (ceq_0 _ _ _) rfl 2 (Nat.le_of_ble_eq_true rfl) qf_X7_23 rfl dX7_ear_123 ?_
        refine rc_get (own := RX7) hx hb hts inC_0 hown hV hB 5 (c34 rfl hB) (ceq_5 _ _ _) rfl 7 (Nat.le_of_ble_eq_true rfl) qf_X7_219 rfl dX7_ear_126 ?_
        refine rc_get (own := RX7) hx hb hts inC_4 hown hV hB 16 (c34 rfl hB) (ceq_16 _ _ _) rfl 2 (Nat.le_of_ble_eq_true rfl) qf_X7_228 rfl dX7_ear_129 ?_
        refine lv_aload_n hx hb dX7_ear_132 rfl (lv_at hl 0 rfl) ?_
        refine rc_get (own := RX7) hx hb hts inC_7 hown hV hB 0 (c34 rfl hB) (ceq_0 _ _ _) rfl 2 (Nat.le_of_ble_eq_true rfl) qf_X7_23 rfl dX7_ear_133 ?_
        refine rc_get (own := RX7) hx hb hts inC_0 hown hV hB 5 (c34 rfl hB) (ceq_5 _ _ _) rfl 7 (Nat.le_of_ble_eq_true rfl) qf_X7_219 rfl dX7_ear_136 ?_
        obtain ⟨r4, σ5, hkr4, hf⟩ := bd_e hf
        refine rc_callV (own := RX7) (av := []) (rest := [.int (σ.1 16 2), .int x3]) (rv := (some (.int r4))) hx hb hml hown hts hl.1 hV hB 16 (c34 rfl hB) (ceq_16 _ _ _) rfl (cc_X4_heardOnes l D ad cy z n σ hkr4) (kwc_X7_260  hts ⟨Nat.le_of_ble_eq_true rfl, Nat.le_of_ble_eq_true rfl⟩) rfl rfl (lv_room (Nat.le_of_ble_eq_true rfl)) dX7_ear_139 (Nat.le_refl _) (Nat.le_refl _) (fun H locs hB => ?_)
        refine W.eq (g2 := F0 m 142 ls [.int r4, .int (σ.1 16 2), .int x3]) rfl ?_
        refine lv_imul hx hb dX7_ear_142 ?_
        refine lv_icmp_le (tgt := 150) hx hb dX7_ear_143 (by decide) (fun c6 => ?_) (fun c6 => ?_)
        · have hf := it_t hf c6
          refine lv_iconst (v := 0) hx hb dX7_ear_150 (by decide) ?_
          obtain ⟨rfl, rfl⟩ := so_e hf
          exact rc_iret hx hb hr hlocks hB dX7_ear_151
        · have hf := it_f hf c6
          refine lv_iconst (v := 1) hx hb dX7_ear_146 (by decide) ?_
          refine lv_goto (tgt := 151) hx hb dX7_ear_147 (by decide) ?_
          obtain ⟨rfl, rfl⟩ := so_e hf
          exact rc_iret hx hb hr hlocks hB dX7_ear_151
      · have hf := it_t hf c3
        exact tbc_X7_ear_111 hc hV n σ x1 x2 x3 hB (lv_sub hl [1, 2, 3] rfl) hf
  · have hf := it_f hf c1
    refine lv_aload_n hx hb dX7_ear_52 rfl (lv_at hl 0 rfl) ?_
    refine rc_get (own := RX7) hx hb hts inC_7 hown hV hB 0 (c34 rfl hB) (ceq_0 _ _ _) rfl 2 (Nat.le_of_ble_eq_true rfl) qf_X7_23 rfl dX7_ear_53 ?_
    refine lv_iload hx hb dX7_ear_56 (lv_at hl 4 rfl) ?_
    obtain ⟨r7, σ8, hkr7, hf⟩ := bd_e hf
    refine rc_callV (own := RX7) (av := [.int x4]) (rest := []) (rv := (some (va_rf (Option.map ad r7)))) hx hb hml hown hts hl.1 hV hB 5 (c34 rfl hB) (ceq_5 _ _ _) rfl (cc_X0_plateAt l D ad cy z n σ x4 hkr7) (kwc_X7_69  hts ⟨Nat.le_of_ble_eq_true rfl, Nat.le_of_ble_eq_true rfl⟩) rfl rfl (lv_room (Nat.le_of_ble_eq_true rfl)) dX7_ear_58 (Nat.le_refl _) (Nat.le_refl _) (fun H locs hB => ?_)
    refine W.eq (g2 := F0 m 61 ls [va_rf (Option.map ad r7)]) rfl ?_
    rcases r7 with _ | q9
    · have hf := oc_n hf
      refine lv_astoreN (lv' := [(5, .null), (0, .ref (ad 0)), (1, .int x1), (2, .int x2), (3, .int x3), (4, .int x4)]) hx hb dX7_ear_61 hl (by decide) rfl (fun ls hl => ?_)
      refine lv_aloadN hx hb dX7_ear_63 (lv_at hl 0 rfl) ?_
      refine lv_ifnullN (tgt := 94) hx hb dX7_ear_65 (by decide) ?_
      obtain ⟨y10, ey10⟩ : ∃ z : Int32, z = x4 + 1 := ⟨_, rfl⟩
      have hf := sq_e hf y10 ey10
      refine lv_iinc (v := y10) (lv' := [(4, .int y10), (5, .null), (0, .ref (ad 0)), (1, .int x1), (2, .int x2), (3, .int x3)]) hx hb dX7_ear_94 hl (k := 5) rfl (by rw [ey10]; rfl) (by decide) rfl (fun ls hl => ?_)
      refine lv_goto (tgt := 45) hx hb dX7_ear_97 (by decide) ?_
      exact hK45 σ8 x1 x2 x3 y10 _ _ _ hB (lv_sub hl [2, 3, 4, 5, 0] rfl) hf
    · have hf := oc_s hf
      refine lv_astore (lv' := [(5, .ref (ad q9)), (0, .ref (ad 0)), (1, .int x1), (2, .int x2), (3, .int x3), (4, .int x4)]) hx hb dX7_ear_61 hl (by decide) rfl (fun ls hl => ?_)
      refine lv_aload hx hb dX7_ear_63 (lv_at hl 0 rfl) ?_
      refine lv_ifnull hx hb dX7_ear_65 ?_
      refine lv_aload_n hx hb dX7_ear_68 rfl (lv_at hl 1 rfl) ?_
      refine lv_aload hx hb dX7_ear_69 (lv_at hl 0 rfl) ?_
      obtain ⟨r11, σ12, hkr11, hf⟩ := bd_e hf
      refine rc_callV (own := RX7) (av := [.ref (ad q9)]) (rest := []) (rv := (some (.int r11))) hx hb hml hown hts hl.1 hV hB 0 (c34 rfl hB) (ceq_0 _ _ _) rfl (cc_X7_offInAll l D ad cy z n σ8 q9 hkr11) (kwc_X7_257  hts ⟨Nat.le_of_ble_eq_true rfl, Nat.le_of_ble_eq_true rfl⟩) rfl rfl (lv_room (Nat.le_of_ble_eq_true rfl)) dX7_ear_71 (Nat.le_refl _) (Nat.le_refl _) (fun H locs hB => ?_)
      refine W.eq (g2 := F0 m 74 ls [.int r11]) rfl ?_
      refine lv_istore (lv' := [(6, .int r11), (5, .ref (ad q9)), (0, .ref (ad 0)), (1, .int x1), (2, .int x2), (3, .int x3), (4, .int x4)]) hx hb dX7_ear_74 hl (by decide) rfl (fun ls hl => ?_)
      refine lv_iload_n hx hb dX7_ear_76 rfl (lv_at hl 4 rfl) ?_
      refine lv_bipush (v := (-9)) hx hb dX7_ear_77 (by decide) ?_
      refine lv_icmp_eq (tgt := 88) hx hb dX7_ear_79 (by decide) (fun c13 => ?_) (fun c13 => ?_)
      · have hf := it_t hf c13
        exact tbc_X7_ear_88 hc hV n K45 hK45 σ12 x1 x4 r11 hB (lv_sub hl [2, 3, 6, 0] rfl) hf
      · have hf := it_f hf c13
        refine lv_iload hx hb dX7_ear_82 (lv_at hl 0 rfl) ?_
        refine lv_iload_n hx hb dX7_ear_84 rfl (lv_at hl 5 rfl) ?_
        refine lv_icmp_ge (tgt := 94) hx hb dX7_ear_85 (by decide) (fun c14 => ?_) (fun c14 => ?_)
        · have hf := it_t hf c14
          obtain ⟨y15, ey15⟩ : ∃ z : Int32, z = x4 + 1 := ⟨_, rfl⟩
          have hf := sq_e hf y15 ey15
          refine lv_iinc (v := y15) (lv' := [(4, .int y15), (6, .int r11), (5, .ref (ad q9)), (0, .ref (ad 0)), (1, .int x1), (2, .int x2), (3, .int x3)]) hx hb dX7_ear_94 hl (k := 6) rfl (by rw [ey15]; rfl) (by decide) rfl (fun ls hl => ?_)
          refine lv_goto (tgt := 45) hx hb dX7_ear_97 (by decide) ?_
          exact hK45 σ12 x1 x2 x3 y15 _ _ _ hB (lv_sub hl [3, 4, 5, 6, 0] rfl) hf
        · have hf := it_f hf c14
          exact tbc_X7_ear_88 hc hV n K45 hK45 σ12 x1 x4 r11 hB (lv_sub hl [2, 3, 6, 0] rfl) hf
def lc_X7_ear_45 (n : Nat) : Nat → CS → Int32 → Int32 → Int32 → Int32 → Option ((Int32) × CS)
  | 0 => fun _ _ _ _ _ => none
  | k + 1 => bc_X7_ear_45 n (lc_X7_ear_45 n k)
theorem tlc_X7_ear_45 {p : Program} {l : Launch} {e : Env} {s : State} {m : MethodId} {args : Array Value} {below : List Frame} {meth : Method} {c : Code} {D : va_G} {A : Nat → Prop} {ad : Nat → Nat} {cy : CY} {z : CZ} {r0 : Int32} {σ0 : CS} (hc : cxB RX7 wsC cX7_ear 7 (some .int) p s m args meth c) (hV : cV D cy z A s) (n : Nat) : ∀ (k : Nat) (σ : CS) (x1 : Int32) (x2 : Int32) (x3 : Int32) (x4 : Int32) (H : Heap) (locs : List Loc) (ls : Array Slot), cB D ad cy A s.heap σ H locs → lv_has ls 7 [(0, .ref (ad 0)), (1, .int x1), (2, .int x2), (3, .int x3), (4, .int x4)] → lc_X7_ear_45 n k σ x1 x2 x3 x4 = some (r0, σ0) → W p l e rm_X7_ear s m args below meth c H locs 0 0 (MQ below (cQ D ad cy A (some (.int r0)) σ0) args s 0 0 A) (F0 m 45 ls []) := by
  intro k
  induction k with
  | zero =>
    intro σ x1 x2 x3 x4 H locs ls hB hl hf
    have hf : (none : Option ((Int32) × CS)) = some (r0, σ0) := hf
    cases hf
  | succ k ih =>
    intro σ x1 x2 x3 x4 H locs ls hB hl hf
    exact tbc_X7_ear_45 hc hV n (lc_X7_ear_45 n k) ih σ x1 x2 x3 x4 hB hl hf
def fc_X7_ear (n : Nat) (σ : CS) (x1 : Int32) : Option ((Int32) × CS) := if (x1 < 0) then (bd (fc_X7_refuse n σ (-2)) (fun r2 σ3 => some (r2, σ3))) else (if (x1 ≤ 2) then (if ((σ.1 12 0) = 0) then (bd (fc_X7_refuse n σ (-3)) (fun r9 σ10 => some (r9, σ10))) else (sq ((-9) : Int32) (fun y6 => sq ((-9) : Int32) (fun y7 => sq (0 : Int32) (fun y8 => lc_X7_ear_45 n n σ x1 y6 y7 y8))))) else (bd (fc_X7_refuse n σ (-2)) (fun r11 σ12 => some (r11, σ12))))
set_option maxRecDepth 100000 in
set_option maxHeartbeats 4000000 in
theorem tbc_X7_ear_0 {p : Program} {l : Launch} {e : Env} {s : State} {m : MethodId} {args : Array Value} {below : List Frame} {meth : Method} {c : Code} {D : va_G} {A : Nat → Prop} {ad : Nat → Nat} {cy : CY} {z : CZ} {r0 : Int32} {σ0 : CS} (hc : cxB RX7 wsC cX7_ear 7 (some .int) p s m args meth c) (hV : cV D cy z A s) (n : Nat) (σ : CS) (x1 : Int32) {H : Heap} {locs : List Loc} {ls : Array Slot} (hB : cB D ad cy A s.heap σ H locs) (hl : lv_has ls 7 [(0, .ref (ad 0)), (1, .int x1)]) (hf : fc_X7_ear n σ x1 = some (r0, σ0)) : W p l e rm_X7_ear s m args below meth c H locs 0 0 (MQ below (cQ D ad cy A (some (.int r0)) σ0) args s 0 0 A) (F0 m 0 ls []) := by
  obtain ⟨hx, hb, hml, hown, hts, hr, hlocks⟩ := id hc
  unfold fc_X7_ear at hf
  refine lv_iload_n hx hb dX7_ear_0 rfl (lv_at hl 1 rfl) ?_
  refine lv_if_lt (tgt := 9) hx hb dX7_ear_1 (by decide) (fun c1 => ?_) (fun c1 => ?_)
  · have hf := it_t hf c1
    refine lv_aload_n hx hb dX7_ear_9 rfl (lv_at hl 0 rfl) ?_
    refine lv_bipush (v := (-2)) hx hb dX7_ear_10 (by decide) ?_
    obtain ⟨r2, σ3, hkr2, hf⟩ := bd_e hf
    refine rc_callV (own := RX7) (av := [.int (-2)]) (rest := []) (rv := (some (.int r2))) hx hb hml hown hts hl.1 hV hB 0 (c34 rfl hB) (ceq_0 _ _ _) rfl (cc_X7_refuse l D ad cy z n σ (-2) hkr2) (kwc_X7_43  hts ⟨Nat.le_of_ble_eq_true rfl, Nat.le_of_ble_eq_true rfl⟩) rfl rfl (lv_room (Nat.le_of_ble_eq_true rfl)) dX7_ear_12 (Nat.le_refl _) (Nat.le_refl _) (fun H locs hB => ?_)
    refine W.eq (g2 := F0 m 15 ls [.int r2]) rfl ?_
    obtain ⟨rfl, rfl⟩ := so_e hf
    exact rc_iret hx hb hr hlocks hB dX7_ear_15
  · have hf := it_f hf c1
    refine lv_iload_n hx hb dX7_ear_4 rfl (lv_at hl 1 rfl) ?_
    refine lv_iconst (v := 2) hx hb dX7_ear_5 (by decide) ?_
    refine lv_icmp_le (tgt := 16) hx hb dX7_ear_6 (by decide) (fun c4 => ?_) (fun c4 => ?_)
    · have hf := it_t hf c4
      refine lv_aload_n hx hb dX7_ear_16 rfl (lv_at hl 0 rfl) ?_
      refine rc_get (own := RX7) hx hb hts inC_7 hown hV hB 0 (c34 rfl hB) (ceq_0 _ _ _) rfl 2 (Nat.le_of_ble_eq_true rfl) qf_X7_23 rfl dX7_ear_17 ?_
      refine rc_get (own := RX7) hx hb hts inC_0 hown hV hB 5 (c34 rfl hB) (ceq_5 _ _ _) rfl 6 (Nat.le_of_ble_eq_true rfl) qf_X7_119 rfl dX7_ear_20 ?_
      refine rc_get (own := RX7) hx hb hts inC_5 hown hV hB 12 (c34 rfl hB) (ceq_12 _ _ _) rfl 0 (Nat.le_of_ble_eq_true rfl) qf_X7_165 rfl dX7_ear_23 ?_
      refine lv_if_ne (tgt := 36) hx hb dX7_ear_26 (by decide) (fun c5 => ?_) (fun c5 => ?_)
      · have hf := it_f hf c5
        refine lv_bipush (v := (-9)) hx hb dX7_ear_36 (by decide) ?_
        refine lv_topi (fun y6 ey6 => ?_)
        have hf := sq_e hf y6 ey6
        refine lv_istore_n (lv' := [(2, .int y6), (0, .ref (ad 0)), (1, .int x1)]) hx hb dX7_ear_38 rfl hl (by decide) rfl (fun ls hl => ?_)
        refine lv_bipush (v := (-9)) hx hb dX7_ear_39 (by decide) ?_
        refine lv_topi (fun y7 ey7 => ?_)
        have hf := sq_e hf y7 ey7
        refine lv_istore_n (lv' := [(3, .int y7), (2, .int y6), (0, .ref (ad 0)), (1, .int x1)]) hx hb dX7_ear_41 rfl hl (by decide) rfl (fun ls hl => ?_)
        refine lv_iconst (v := 0) hx hb dX7_ear_42 (by decide) ?_
        refine lv_topi (fun y8 ey8 => ?_)
        have hf := sq_e hf y8 ey8
        refine lv_istore (lv' := [(4, .int y8), (3, .int y7), (2, .int y6), (0, .ref (ad 0)), (1, .int x1)]) hx hb dX7_ear_43 hl (by decide) rfl (fun ls hl => ?_)
        exact tlc_X7_ear_45 hc hV n n σ x1 y6 y7 y8 _ _ _ hB (lv_sub hl [3, 4, 2, 1, 0] rfl) hf
      · have hf := it_t hf c5
        refine lv_aload_n hx hb dX7_ear_29 rfl (lv_at hl 0 rfl) ?_
        refine lv_bipush (v := (-3)) hx hb dX7_ear_30 (by decide) ?_
        obtain ⟨r9, σ10, hkr9, hf⟩ := bd_e hf
        refine rc_callV (own := RX7) (av := [.int (-3)]) (rest := []) (rv := (some (.int r9))) hx hb hml hown hts hl.1 hV hB 0 (c34 rfl hB) (ceq_0 _ _ _) rfl (cc_X7_refuse l D ad cy z n σ (-3) hkr9) (kwc_X7_43  hts ⟨Nat.le_of_ble_eq_true rfl, Nat.le_of_ble_eq_true rfl⟩) rfl rfl (lv_room (Nat.le_of_ble_eq_true rfl)) dX7_ear_32 (Nat.le_refl _) (Nat.le_refl _) (fun H locs hB => ?_)
        refine W.eq (g2 := F0 m 35 ls [.int r9]) rfl ?_
        obtain ⟨rfl, rfl⟩ := so_e hf
        exact rc_iret hx hb hr hlocks hB dX7_ear_35
    · have hf := it_f hf c4
      refine lv_aload_n hx hb dX7_ear_9 rfl (lv_at hl 0 rfl) ?_
      refine lv_bipush (v := (-2)) hx hb dX7_ear_10 (by decide) ?_
      obtain ⟨r11, σ12, hkr11, hf⟩ := bd_e hf
      refine rc_callV (own := RX7) (av := [.int (-2)]) (rest := []) (rv := (some (.int r11))) hx hb hml hown hts hl.1 hV hB 0 (c34 rfl hB) (ceq_0 _ _ _) rfl (cc_X7_refuse l D ad cy z n σ (-2) hkr11) (kwc_X7_43  hts ⟨Nat.le_of_ble_eq_true rfl, Nat.le_of_ble_eq_true rfl⟩) rfl rfl (lv_room (Nat.le_of_ble_eq_true rfl)) dX7_ear_12 (Nat.le_refl _) (Nat.le_refl _) (fun H locs hB => ?_)
      refine W.eq (g2 := F0 m 15 ls [.int r11]) rfl ?_
      obtain ⟨rfl, rfl⟩ := so_e hf
      exact rc_iret hx hb hr hlocks hB dX7_ear_15
theorem cc_X7_ear (l : Launch) (D : va_G) (ad : Nat → Nat) (cy : CY) (z : CZ) (n : Nat) (σ : CS) (x1 : Int32) {r0 : Int32} {σ0 : CS} (hf : fc_X7_ear n σ x1 = some (r0, σ0)) : cM l yX7_ear wn_X7_ear rm_X7_ear D ad cy z [.ref (ad 0), .int x1] σ (some (.int r0)) σ0 :=
  rc_met (ret := (some .int)) (by decide) rfl (Nat.le_of_ble_eq_true rfl) (fun p e s m below meth c A ls hc hV hB hl => tbc_X7_ear_0 hc hV n σ x1 hB hl hf)
/-! X7_stagger -/
theorem kwc_X7_263 {R : Room} {s : State} {args : Array Value} (hts : ∀ w ∈ wsC, w.before args s = true) (hR : rm_X2_loseMore.frames + 1 ≤ R.frames ∧ 8 + (3 + 11) + rm_X2_loseMore.locals ≤ R.locals) : CallW R s args RX7 RX2 263 yX2_loseMore cX2_loseMore 3 none wn_X2_loseMore rm_X2_loseMore 0 0 2 := cwV 2 hts (gC_v qc_526 qc_527 qc_528 qc_108 qc_529) rfl rfl rfl (by decide +kernel) hR
abbrev rm_X7_stagger : Room := { frames := 7, cells := 0, slots := 0, locals := 199 }
abbrev wn_X7_stagger : List Cond := .code yX7_stagger cX7_stagger 4 (some .int) :: wsC
def bc_X7_stagger_41 (n : Nat) (K41 : CS → Nat → Int32 → Option ((Int32) × CS)) (σ : CS) (x2 : Nat) (x3 : Int32) : Option ((Int32) × CS) := if (990 < x3) then (some ((-9), σ)) else (bd (fc_X7_beginAgain n σ (-1)) (fun _ σ3 => bd (fc_X2_loseMore n σ3 x2 x3) (fun _ σ5 => bd (fc_X7_firstMisfit n σ5) (fun r6 σ7 => if (r6 = (-9)) then (some (x3, σ7)) else (sq (x3 + 10 : Int32) (fun y9 => K41 σ7 x2 y9))))))
set_option maxRecDepth 100000 in
set_option maxHeartbeats 4000000 in
theorem tbc_X7_stagger_41 {p : Program} {l : Launch} {e : Env} {s : State} {m : MethodId} {args : Array Value} {below : List Frame} {meth : Method} {c : Code} {D : va_G} {A : Nat → Prop} {ad : Nat → Nat} {cy : CY} {z : CZ} {r0 : Int32} {σ0 : CS} (hc : cxB RX7 wsC cX7_stagger 4 (some .int) p s m args meth c) (hV : cV D cy z A s) (n : Nat) (K41 : CS → Nat → Int32 → Option ((Int32) × CS)) (hK41 : ∀ (σ : CS) (x2 : Nat) (x3 : Int32) (H : Heap) (locs : List Loc) (ls : Array Slot), cB D ad cy A s.heap σ H locs → lv_has ls 4 [(0, .ref (ad 0)), (2, .ref (ad x2)), (3, .int x3)] → K41 σ x2 x3 = some (r0, σ0) → W p l e rm_X7_stagger s m args below meth c H locs 0 0 (MQ below (cQ D ad cy A (some (.int r0)) σ0) args s 0 0 A) (F0 m 41 ls [])) (σ : CS) (x2 : Nat) (x3 : Int32) {H : Heap} {locs : List Loc} {ls : Array Slot} (hB : cB D ad cy A s.heap σ H locs) (hl : lv_has ls 4 [(0, .ref (ad 0)), (2, .ref (ad x2)), (3, .int x3)]) (hf : bc_X7_stagger_41 n K41 σ x2 x3 = some (r0, σ0)) : W p l e rm_X7_stagger s m args below meth c H locs 0 0 (MQ below (cQ D ad cy A (some (.int r0)) σ0) args s 0 0 A) (F0 m 41 ls []) := by
  obtain ⟨hx, hb, hml, hown, hts, hr, hlocks⟩ := id hc
  unfold bc_X7_stagger_41 at hf
  refine lv_iload_n hx hb dX7_stagger_41 rfl (lv_at hl 2 rfl) ?_
  refine lv_sipush (v := 990) hx hb dX7_stagger_42 (by decide) ?_
  refine lv_icmp_gt (tgt := 79) hx hb dX7_stagger_45 (by decide) (fun c1 => ?_) (fun c1 => ?_)
  · have hf := it_t hf c1
    refine lv_bipush (v := (-9)) hx hb dX7_stagger_79 (by decide) ?_
    obtain ⟨rfl, rfl⟩ := so_e hf
    exact rc_iret hx hb hr hlocks hB dX7_stagger_81
  · have hf := it_f hf c1
    refine lv_aload_n hx hb dX7_stagger_48 rfl (lv_at hl 0 rfl) ?_
    refine lv_iconst (v := (-1)) hx hb dX7_stagger_49 (by decide) ?_
    obtain ⟨r2, σ3, hkr2, hf⟩ := bd_e hf
    refine rc_callV (own := RX7) (av := [.int (-1)]) (rest := []) (rv := none) hx hb hml hown hts hl.1 hV hB 0 (c34 rfl hB) (ceq_0 _ _ _) rfl (cc_X7_beginAgain l D ad cy z n σ (-1) hkr2) (kwc_X7_207  hts ⟨Nat.le_of_ble_eq_true rfl, Nat.le_of_ble_eq_true rfl⟩) rfl rfl (lv_room (Nat.le_of_ble_eq_true rfl)) dX7_stagger_50 (Nat.le_refl _) (Nat.le_refl _) (fun H locs hB => ?_)
    refine W.eq (g2 := F0 m 53 ls []) rfl ?_
    refine lv_aload_n hx hb dX7_stagger_53 rfl (lv_at hl 0 rfl) ?_
    refine rc_get (own := RX7) hx hb hts inC_7 hown hV hB 0 (c34 rfl hB) (ceq_0 _ _ _) rfl 4 (Nat.le_of_ble_eq_true rfl) qf_X7_35 rfl dX7_stagger_54 ?_
    refine lv_aload_n hx hb dX7_stagger_57 rfl (lv_at hl 1 rfl) ?_
    refine lv_iload_n hx hb dX7_stagger_58 rfl (lv_at hl 2 rfl) ?_
    obtain ⟨r4, σ5, hkr4, hf⟩ := bd_e hf
    refine rc_callV (own := RX7) (av := [.ref (ad x2), .int x3]) (rest := []) (rv := none) hx hb hml hown hts hl.1 hV hB 31 (c34 rfl hB) (ceq_31 _ _ _) rfl (cc_X2_loseMore l D ad cy z n σ3 x2 x3 hkr4) (kwc_X7_263  hts ⟨Nat.le_of_ble_eq_true rfl, Nat.le_of_ble_eq_true rfl⟩) rfl rfl (lv_room (Nat.le_of_ble_eq_true rfl)) dX7_stagger_59 (Nat.le_refl _) (Nat.le_refl _) (fun H locs hB => ?_)
    refine W.eq (g2 := F0 m 62 ls []) rfl ?_
    refine lv_aload_n hx hb dX7_stagger_62 rfl (lv_at hl 0 rfl) ?_
    obtain ⟨r6, σ7, hkr6, hf⟩ := bd_e hf
    refine rc_callV (own := RX7) (av := []) (rest := []) (rv := (some (.int r6))) hx hb hml hown hts hl.1 hV hB 0 (c34 rfl hB) (ceq_0 _ _ _) rfl (cc_X7_firstMisfit l D ad cy z n σ5 hkr6) (kwc_X7_234  hts ⟨Nat.le_of_ble_eq_true rfl, Nat.le_of_ble_eq_true rfl⟩) rfl rfl (lv_room (Nat.le_of_ble_eq_true rfl)) dX7_stagger_63 (Nat.le_refl _) (Nat.le_refl _) (fun H locs hB => ?_)
    refine W.eq (g2 := F0 m 66 ls [.int r6]) rfl ?_
    refine lv_bipush (v := (-9)) hx hb dX7_stagger_66 (by decide) ?_
    refine lv_icmp_ne (tgt := 73) hx hb dX7_stagger_68 (by decide) (fun c8 => ?_) (fun c8 => ?_)
    · have hf := it_f hf c8
      obtain ⟨y9, ey9⟩ : ∃ z : Int32, z = x3 + 10 := ⟨_, rfl⟩
      have hf := sq_e hf y9 ey9
      refine lv_iinc (v := y9) (lv' := [(3, .int y9), (0, .ref (ad 0)), (2, .ref (ad x2))]) hx hb dX7_stagger_73 hl (k := 2) rfl (by rw [ey9]; rfl) (by decide) rfl (fun ls hl => ?_)
      refine lv_goto (tgt := 41) hx hb dX7_stagger_76 (by decide) ?_
      exact hK41 σ7 x2 y9 _ _ _ hB (lv_sub hl [1, 2, 0] rfl) hf
    · have hf := it_t hf c8
      refine lv_iload_n hx hb dX7_stagger_71 rfl (lv_at hl 2 rfl) ?_
      obtain ⟨rfl, rfl⟩ := so_e hf
      exact rc_iret hx hb hr hlocks hB dX7_stagger_72
def lc_X7_stagger_41 (n : Nat) : Nat → CS → Nat → Int32 → Option ((Int32) × CS)
  | 0 => fun _ _ _ => none
  | k + 1 => bc_X7_stagger_41 n (lc_X7_stagger_41 n k)
theorem tlc_X7_stagger_41 {p : Program} {l : Launch} {e : Env} {s : State} {m : MethodId} {args : Array Value} {below : List Frame} {meth : Method} {c : Code} {D : va_G} {A : Nat → Prop} {ad : Nat → Nat} {cy : CY} {z : CZ} {r0 : Int32} {σ0 : CS} (hc : cxB RX7 wsC cX7_stagger 4 (some .int) p s m args meth c) (hV : cV D cy z A s) (n : Nat) : ∀ (k : Nat) (σ : CS) (x2 : Nat) (x3 : Int32) (H : Heap) (locs : List Loc) (ls : Array Slot), cB D ad cy A s.heap σ H locs → lv_has ls 4 [(0, .ref (ad 0)), (2, .ref (ad x2)), (3, .int x3)] → lc_X7_stagger_41 n k σ x2 x3 = some (r0, σ0) → W p l e rm_X7_stagger s m args below meth c H locs 0 0 (MQ below (cQ D ad cy A (some (.int r0)) σ0) args s 0 0 A) (F0 m 41 ls []) := by
  intro k
  induction k with
  | zero =>
    intro σ x2 x3 H locs ls hB hl hf
    have hf : (none : Option ((Int32) × CS)) = some (r0, σ0) := hf
    cases hf
  | succ k ih =>
    intro σ x2 x3 H locs ls hB hl hf
    exact tbc_X7_stagger_41 hc hV n (lc_X7_stagger_41 n k) ih σ x2 x3 hB hl hf
def fc_X7_stagger (n : Nat) (σ : CS) (x1 : Int32) : Option ((Int32) × CS) := bd (fc_X0_lossAt n σ x1) (fun r1 σ2 => oc r1 (bd (fc_X7_refuse n σ2 (-1)) (fun r4 σ5 => some (r4, σ5))) (fun q3 => if ((σ2.1 12 0) = 0) then (bd (fc_X7_refuse n σ2 (-3)) (fun r8 σ9 => some (r8, σ9))) else (sq (0 : Int32) (fun y7 => lc_X7_stagger_41 n n σ2 q3 y7))))
set_option maxRecDepth 100000 in
set_option maxHeartbeats 4000000 in
theorem tbc_X7_stagger_0 {p : Program} {l : Launch} {e : Env} {s : State} {m : MethodId} {args : Array Value} {below : List Frame} {meth : Method} {c : Code} {D : va_G} {A : Nat → Prop} {ad : Nat → Nat} {cy : CY} {z : CZ} {r0 : Int32} {σ0 : CS} (hc : cxB RX7 wsC cX7_stagger 4 (some .int) p s m args meth c) (hV : cV D cy z A s) (n : Nat) (σ : CS) (x1 : Int32) {H : Heap} {locs : List Loc} {ls : Array Slot} (hB : cB D ad cy A s.heap σ H locs) (hl : lv_has ls 4 [(0, .ref (ad 0)), (1, .int x1)]) (hf : fc_X7_stagger n σ x1 = some (r0, σ0)) : W p l e rm_X7_stagger s m args below meth c H locs 0 0 (MQ below (cQ D ad cy A (some (.int r0)) σ0) args s 0 0 A) (F0 m 0 ls []) := by
  obtain ⟨hx, hb, hml, hown, hts, hr, hlocks⟩ := id hc
  unfold fc_X7_stagger at hf
  refine lv_aload_n hx hb dX7_stagger_0 rfl (lv_at hl 0 rfl) ?_
  refine rc_get (own := RX7) hx hb hts inC_7 hown hV hB 0 (c34 rfl hB) (ceq_0 _ _ _) rfl 2 (Nat.le_of_ble_eq_true rfl) qf_X7_23 rfl dX7_stagger_1 ?_
  refine lv_iload_n hx hb dX7_stagger_4 rfl (lv_at hl 1 rfl) ?_
  obtain ⟨r1, σ2, hkr1, hf⟩ := bd_e hf
  refine rc_callV (own := RX7) (av := [.int x1]) (rest := []) (rv := (some (va_rf (Option.map ad r1)))) hx hb hml hown hts hl.1 hV hB 5 (c34 rfl hB) (ceq_5 _ _ _) rfl (cc_X0_lossAt l D ad cy z n σ x1 hkr1) (kwc_X7_106  hts ⟨Nat.le_of_ble_eq_true rfl, Nat.le_of_ble_eq_true rfl⟩) rfl rfl (lv_room (Nat.le_of_ble_eq_true rfl)) dX7_stagger_5 (Nat.le_refl _) (Nat.le_refl _) (fun H locs hB => ?_)
  refine W.eq (g2 := F0 m 8 ls [va_rf (Option.map ad r1)]) rfl ?_
  rcases r1 with _ | q3
  · have hf := oc_n hf
    refine lv_astore_nN (lv' := [(2, .null), (0, .ref (ad 0)), (1, .int x1)]) hx hb dX7_stagger_8 rfl hl (by decide) rfl (fun ls hl => ?_)
    refine lv_aload_nN hx hb dX7_stagger_9 rfl (lv_at hl 0 rfl) ?_
    refine lv_ifnonnullN hx hb dX7_stagger_10 ?_
    refine lv_aload_n hx hb dX7_stagger_13 rfl (lv_at hl 1 rfl) ?_
    refine lv_iconst (v := (-1)) hx hb dX7_stagger_14 (by decide) ?_
    obtain ⟨r4, σ5, hkr4, hf⟩ := bd_e hf
    refine rc_callV (own := RX7) (av := [.int (-1)]) (rest := []) (rv := (some (.int r4))) hx hb hml hown hts hl.1 hV hB 0 (c34 rfl hB) (ceq_0 _ _ _) rfl (cc_X7_refuse l D ad cy z n σ2 (-1) hkr4) (kwc_X7_43  hts ⟨Nat.le_of_ble_eq_true rfl, Nat.le_of_ble_eq_true rfl⟩) rfl rfl (lv_room (Nat.le_of_ble_eq_true rfl)) dX7_stagger_15 (Nat.le_refl _) (Nat.le_refl _) (fun H locs hB => ?_)
    refine W.eq (g2 := F0 m 18 ls [.int r4]) rfl ?_
    obtain ⟨rfl, rfl⟩ := so_e hf
    exact rc_iret hx hb hr hlocks hB dX7_stagger_18
  · have hf := oc_s hf
    refine lv_astore_n (lv' := [(2, .ref (ad q3)), (0, .ref (ad 0)), (1, .int x1)]) hx hb dX7_stagger_8 rfl hl (by decide) rfl (fun ls hl => ?_)
    refine lv_aload_n hx hb dX7_stagger_9 rfl (lv_at hl 0 rfl) ?_
    refine lv_ifnonnull (tgt := 19) hx hb dX7_stagger_10 (by decide) ?_
    refine lv_aload_n hx hb dX7_stagger_19 rfl (lv_at hl 1 rfl) ?_
    refine rc_get (own := RX7) hx hb hts inC_7 hown hV hB 0 (c34 rfl hB) (ceq_0 _ _ _) rfl 2 (Nat.le_of_ble_eq_true rfl) qf_X7_23 rfl dX7_stagger_20 ?_
    refine rc_get (own := RX7) hx hb hts inC_0 hown hV hB 5 (c34 rfl hB) (ceq_5 _ _ _) rfl 6 (Nat.le_of_ble_eq_true rfl) qf_X7_119 rfl dX7_stagger_23 ?_
    refine rc_get (own := RX7) hx hb hts inC_5 hown hV hB 12 (c34 rfl hB) (ceq_12 _ _ _) rfl 0 (Nat.le_of_ble_eq_true rfl) qf_X7_165 rfl dX7_stagger_26 ?_
    refine lv_if_ne (tgt := 39) hx hb dX7_stagger_29 (by decide) (fun c6 => ?_) (fun c6 => ?_)
    · have hf := it_f hf c6
      refine lv_iconst (v := 0) hx hb dX7_stagger_39 (by decide) ?_
      refine lv_topi (fun y7 ey7 => ?_)
      have hf := sq_e hf y7 ey7
      refine lv_istore_n (lv' := [(3, .int y7), (2, .ref (ad q3)), (0, .ref (ad 0)), (1, .int x1)]) hx hb dX7_stagger_40 rfl hl (by decide) rfl (fun ls hl => ?_)
      exact tlc_X7_stagger_41 hc hV n n σ2 q3 y7 _ _ _ hB (lv_sub hl [2, 1, 0] rfl) hf
    · have hf := it_t hf c6
      refine lv_aload_n hx hb dX7_stagger_32 rfl (lv_at hl 1 rfl) ?_
      refine lv_bipush (v := (-3)) hx hb dX7_stagger_33 (by decide) ?_
      obtain ⟨r8, σ9, hkr8, hf⟩ := bd_e hf
      refine rc_callV (own := RX7) (av := [.int (-3)]) (rest := []) (rv := (some (.int r8))) hx hb hml hown hts hl.1 hV hB 0 (c34 rfl hB) (ceq_0 _ _ _) rfl (cc_X7_refuse l D ad cy z n σ2 (-3) hkr8) (kwc_X7_43  hts ⟨Nat.le_of_ble_eq_true rfl, Nat.le_of_ble_eq_true rfl⟩) rfl rfl (lv_room (Nat.le_of_ble_eq_true rfl)) dX7_stagger_35 (Nat.le_refl _) (Nat.le_refl _) (fun H locs hB => ?_)
      refine W.eq (g2 := F0 m 38 ls [.int r8]) rfl ?_
      obtain ⟨rfl, rfl⟩ := so_e hf
      exact rc_iret hx hb hr hlocks hB dX7_stagger_38
theorem cc_X7_stagger (l : Launch) (D : va_G) (ad : Nat → Nat) (cy : CY) (z : CZ) (n : Nat) (σ : CS) (x1 : Int32) {r0 : Int32} {σ0 : CS} (hf : fc_X7_stagger n σ x1 = some (r0, σ0)) : cM l yX7_stagger wn_X7_stagger rm_X7_stagger D ad cy z [.ref (ad 0), .int x1] σ (some (.int r0)) σ0 :=
  rc_met (ret := (some .int)) (by decide) rfl (Nat.le_of_ble_eq_true rfl) (fun p e s m below meth c A ls hc hV hB hl => tbc_X7_stagger_0 hc hV n σ x1 hB hl hf)
/-! X7_ticksByStep -/
abbrev rm_X7_ticksByStep : Room := { frames := 5, cells := 0, slots := 0, locals := 155 }
abbrev wn_X7_ticksByStep : List Cond := .code yX7_ticksByStep cX7_ticksByStep 2 (some .int) :: wsC
def fc_X7_ticksByStep (n : Nat) (σ : CS) (x1 : Int32) : Option ((Int32) × CS) := bd (fc_X7_beginAgain n σ (-1)) (fun _ σ2 => sq (cp σ2 31 8 x1) (fun σ3 => bd (fc_X2_runTo n σ3 9999) (fun _ σ5 => some ((σ5.1 31 5), σ5))))
set_option maxRecDepth 100000 in
set_option maxHeartbeats 4000000 in
theorem tbc_X7_ticksByStep_0 {p : Program} {l : Launch} {e : Env} {s : State} {m : MethodId} {args : Array Value} {below : List Frame} {meth : Method} {c : Code} {D : va_G} {A : Nat → Prop} {ad : Nat → Nat} {cy : CY} {z : CZ} {r0 : Int32} {σ0 : CS} (hc : cxB RX7 wsC cX7_ticksByStep 2 (some .int) p s m args meth c) (hV : cV D cy z A s) (n : Nat) (σ : CS) (x1 : Int32) {H : Heap} {locs : List Loc} {ls : Array Slot} (hB : cB D ad cy A s.heap σ H locs) (hl : lv_has ls 2 [(0, .ref (ad 0)), (1, .int x1)]) (hf : fc_X7_ticksByStep n σ x1 = some (r0, σ0)) : W p l e rm_X7_ticksByStep s m args below meth c H locs 0 0 (MQ below (cQ D ad cy A (some (.int r0)) σ0) args s 0 0 A) (F0 m 0 ls []) := by
  obtain ⟨hx, hb, hml, hown, hts, hr, hlocks⟩ := id hc
  unfold fc_X7_ticksByStep at hf
  refine lv_aload_n hx hb dX7_ticksByStep_0 rfl (lv_at hl 0 rfl) ?_
  refine lv_iconst (v := (-1)) hx hb dX7_ticksByStep_1 (by decide) ?_
  obtain ⟨r1, σ2, hkr1, hf⟩ := bd_e hf
  refine rc_callV (own := RX7) (av := [.int (-1)]) (rest := []) (rv := none) hx hb hml hown hts hl.1 hV hB 0 (c34 rfl hB) (ceq_0 _ _ _) rfl (cc_X7_beginAgain l D ad cy z n σ (-1) hkr1) (kwc_X7_207  hts ⟨Nat.le_of_ble_eq_true rfl, Nat.le_of_ble_eq_true rfl⟩) rfl rfl (lv_room (Nat.le_of_ble_eq_true rfl)) dX7_ticksByStep_2 (Nat.le_refl _) (Nat.le_refl _) (fun H locs hB => ?_)
  refine W.eq (g2 := F0 m 5 ls []) rfl ?_
  refine lv_aload_n hx hb dX7_ticksByStep_5 rfl (lv_at hl 0 rfl) ?_
  refine rc_get (own := RX7) hx hb hts inC_7 hown hV hB 0 (c34 rfl hB) (ceq_0 _ _ _) rfl 4 (Nat.le_of_ble_eq_true rfl) qf_X7_35 rfl dX7_ticksByStep_6 ?_
  refine lv_iload_n hx hb dX7_ticksByStep_9 rfl (lv_at hl 1 rfl) ?_
  refine rc_puti (own := RX7) (ty := .int) hx hb hts inC_2 hown hV hB 31 (c34 rfl hB) (ceq_31 _ _ _) rfl 8 (Nat.le_of_ble_eq_true rfl) qf_X7_298 tyX2 tyX2_ok nmX2 (cst_31_8 _ _ _ _) rfl pdc_2_8 rfl rfl (Nat.le_of_ble_eq_true rfl) dX7_ticksByStep_10 (fun σ3 eσ3 H locs hB => ?_)
  have hf := sq_e hf σ3 eσ3
  refine lv_aload_n hx hb dX7_ticksByStep_13 rfl (lv_at hl 0 rfl) ?_
  refine rc_get (own := RX7) hx hb hts inC_7 hown hV hB 0 (c34 rfl hB) (ceq_0 _ _ _) rfl 4 (Nat.le_of_ble_eq_true rfl) qf_X7_35 rfl dX7_ticksByStep_14 ?_
  refine lv_sipush (v := 9999) hx hb dX7_ticksByStep_17 (by decide) ?_
  obtain ⟨r4, σ5, hkr4, hf⟩ := bd_e hf
  refine rc_callV (own := RX7) (av := [.int 9999]) (rest := []) (rv := none) hx hb hml hown hts hl.1 hV hB 31 (c34 rfl hB) (ceq_31 _ _ _) rfl (cc_X2_runTo l D ad cy z n σ3 9999 hkr4) (kwc_X7_211  hts ⟨Nat.le_of_ble_eq_true rfl, Nat.le_of_ble_eq_true rfl⟩) rfl rfl (lv_room (Nat.le_of_ble_eq_true rfl)) dX7_ticksByStep_20 (Nat.le_refl _) (Nat.le_refl _) (fun H locs hB => ?_)
  refine W.eq (g2 := F0 m 23 ls []) rfl ?_
  refine lv_aload_n hx hb dX7_ticksByStep_23 rfl (lv_at hl 0 rfl) ?_
  refine rc_get (own := RX7) hx hb hts inC_7 hown hV hB 0 (c34 rfl hB) (ceq_0 _ _ _) rfl 4 (Nat.le_of_ble_eq_true rfl) qf_X7_35 rfl dX7_ticksByStep_24 ?_
  refine rc_get (own := RX7) hx hb hts inC_2 hown hV hB 31 (c34 rfl hB) (ceq_31 _ _ _) rfl 5 (Nat.le_of_ble_eq_true rfl) qf_X7_155 rfl dX7_ticksByStep_27 ?_
  obtain ⟨rfl, rfl⟩ := so_e hf
  exact rc_iret hx hb hr hlocks hB dX7_ticksByStep_30
theorem cc_X7_ticksByStep (l : Launch) (D : va_G) (ad : Nat → Nat) (cy : CY) (z : CZ) (n : Nat) (σ : CS) (x1 : Int32) {r0 : Int32} {σ0 : CS} (hf : fc_X7_ticksByStep n σ x1 = some (r0, σ0)) : cM l yX7_ticksByStep wn_X7_ticksByStep rm_X7_ticksByStep D ad cy z [.ref (ad 0), .int x1] σ (some (.int r0)) σ0 :=
  rc_met (ret := (some .int)) (by decide) rfl (Nat.le_of_ble_eq_true rfl) (fun p e s m below meth c A ls hc hV hB hl => tbc_X7_ticksByStep_0 hc hV n σ x1 hB hl hf)
/-! X7_trust -/
theorem kwc_X7_267 {R : Room} {s : State} {args : Array Value} (hts : ∀ w ∈ wsC, w.before args s = true) (hR : rm_X7_ticksByStep.frames + 1 ≤ R.frames ∧ 8 + (2 + 11) + rm_X7_ticksByStep.locals ≤ R.locals) : CallW R s args RX7 RX7 267 yX7_ticksByStep cX7_ticksByStep 2 (some .int) wn_X7_ticksByStep rm_X7_ticksByStep 0 0 1 := cwV 1 hts (gC_v qc_533 qc_534 qc_535 qc_85 qc_531) rfl rfl rfl (by decide +kernel) hR
abbrev rm_X7_trust : Room := { frames := 6, cells := 0, slots := 0, locals := 176 }
abbrev wn_X7_trust : List Cond := .code yX7_trust cX7_trust 7 (some .int) :: wsC
def bc_X7_trust_62 (n : Nat) (K62 : CS → Int32 → Int32 → Int32 → Int32 → Option ((Int32) × CS)) (σ : CS) (x1 : Int32) (x2 : Int32) (x4 : Int32) (x5 : Int32) : Option ((Int32) × CS) := if (x4 ≤ x5) then (some (1, σ)) else (ck (ib x5 3) (sq ((zst.getD (Int32.toNatClampNeg x5) 0) : Int32) (fun y3 => bd (fc_X7_ticksByStep n σ y3) (fun r4 σ5 => sq (if 0 ≤ (r4 - x2) then (r4 - x2) else 0 - (r4 - x2) : Int32) (fun y6 => if (x1 < y6) then (sq (x5 + 1 : Int32) (fun y8 => K62 σ5 x1 x2 x4 y8)) else (some (y3, σ5)))))))
set_option maxRecDepth 100000 in
set_option maxHeartbeats 4000000 in
theorem tbc_X7_trust_62 {p : Program} {l : Launch} {e : Env} {s : State} {m : MethodId} {args : Array Value} {below : List Frame} {meth : Method} {c : Code} {D : va_G} {A : Nat → Prop} {ad : Nat → Nat} {cy : CY} {z : CZ} {r0 : Int32} {σ0 : CS} (hc : cxB RX7 wsC cX7_trust 7 (some .int) p s m args meth c) (hV : cV D cy z A s) (n : Nat) (K62 : CS → Int32 → Int32 → Int32 → Int32 → Option ((Int32) × CS)) (hK62 : ∀ (σ : CS) (x1 : Int32) (x2 : Int32) (x4 : Int32) (x5 : Int32) (H : Heap) (locs : List Loc) (ls : Array Slot), cB D ad cy A s.heap σ H locs → lv_has ls 7 [(0, .ref (ad 0)), (1, .int x1), (2, .int x2), (3, .ref z.1), (4, .int x4), (5, .int x5)] → K62 σ x1 x2 x4 x5 = some (r0, σ0) → W p l e rm_X7_trust s m args below meth c H locs 0 0 (MQ below (cQ D ad cy A (some (.int r0)) σ0) args s 0 0 A) (F0 m 62 ls [])) (σ : CS) (x1 : Int32) (x2 : Int32) (x4 : Int32) (x5 : Int32) {H : Heap} {locs : List Loc} {ls : Array Slot} (hB : cB D ad cy A s.heap σ H locs) (hl : lv_has ls 7 [(0, .ref (ad 0)), (1, .int x1), (2, .int x2), (3, .ref z.1), (4, .int x4), (5, .int x5)]) (hf : bc_X7_trust_62 n K62 σ x1 x2 x4 x5 = some (r0, σ0)) : W p l e rm_X7_trust s m args below meth c H locs 0 0 (MQ below (cQ D ad cy A (some (.int r0)) σ0) args s 0 0 A) (F0 m 62 ls []) := by
  obtain ⟨hx, hb, hml, hown, hts, hr, hlocks⟩ := id hc
  unfold bc_X7_trust_62 at hf
  refine lv_iload hx hb dX7_trust_62 (lv_at hl 5 rfl) ?_
  refine lv_iload hx hb dX7_trust_64 (lv_at hl 4 rfl) ?_
  refine lv_icmp_ge (tgt := 99) hx hb dX7_trust_66 (by decide) (fun c1 => ?_) (fun c1 => ?_)
  · have hf := it_t hf c1
    refine lv_iconst (v := 1) hx hb dX7_trust_99 (by decide) ?_
    obtain ⟨rfl, rfl⟩ := so_e hf
    exact rc_iret hx hb hr hlocks hB dX7_trust_100
  · have hf := it_f hf c1
    refine lv_aload_n hx hb dX7_trust_69 rfl (lv_at hl 3 rfl) ?_
    refine lv_iload hx hb dX7_trust_70 (lv_at hl 5 rfl) ?_
    obtain ⟨k2, hf⟩ := ck_e hf
    refine va_ti (v := .int (zst.getD (Int32.toNatClampNeg x5) 0)) hx hb hV.2.2.2.2.2.1 hB.2.2.2 (ib_in k2) rfl dX7_trust_72 ?_
    refine lv_topi (fun y3 ey3 => ?_)
    have hf := sq_e hf y3 ey3
    refine lv_istore (lv' := [(6, .int y3), (0, .ref (ad 0)), (1, .int x1), (2, .int x2), (3, .ref z.1), (4, .int x4), (5, .int x5)]) hx hb dX7_trust_73 hl (by decide) rfl (fun ls hl => ?_)
    refine lv_aload_n hx hb dX7_trust_75 rfl (lv_at hl 1 rfl) ?_
    refine lv_iload hx hb dX7_trust_76 (lv_at hl 0 rfl) ?_
    obtain ⟨r4, σ5, hkr4, hf⟩ := bd_e hf
    refine rc_callV (own := RX7) (av := [.int y3]) (rest := []) (rv := (some (.int r4))) hx hb hml hown hts hl.1 hV hB 0 (c34 rfl hB) (ceq_0 _ _ _) rfl (cc_X7_ticksByStep l D ad cy z n σ y3 hkr4) (kwc_X7_267  hts ⟨Nat.le_of_ble_eq_true rfl, Nat.le_of_ble_eq_true rfl⟩) rfl rfl (lv_room (Nat.le_of_ble_eq_true rfl)) dX7_trust_78 (Nat.le_refl _) (Nat.le_refl _) (fun H locs hB => ?_)
    refine W.eq (g2 := F0 m 81 ls [.int r4]) rfl ?_
    refine lv_iload_n hx hb dX7_trust_81 rfl (lv_at hl 3 rfl) ?_
    refine lv_isub hx hb dX7_trust_82 ?_
    refine va_mabs hx hb (hml.trans hl.1.symm) hown (hts _ qc_505) (hts _ qc_141) (hts _ qc_69) (hts _ qc_142) (Nat.le_of_ble_eq_true rfl) (Nat.le_of_ble_eq_true rfl) (Nat.le_refl _) (Nat.le_refl _) dX7_trust_83 ?_
    refine lv_topi (fun y6 ey6 => ?_)
    have hf := sq_e hf y6 ey6
    refine lv_iload_n hx hb dX7_trust_86 rfl (lv_at hl 2 rfl) ?_
    refine lv_icmp_gt (tgt := 93) hx hb dX7_trust_87 (by decide) (fun c7 => ?_) (fun c7 => ?_)
    · have hf := it_t hf c7
      obtain ⟨y8, ey8⟩ : ∃ z : Int32, z = x5 + 1 := ⟨_, rfl⟩
      have hf := sq_e hf y8 ey8
      refine lv_iinc (v := y8) (lv' := [(5, .int y8), (6, .int y3), (0, .ref (ad 0)), (1, .int x1), (2, .int x2), (3, .ref z.1), (4, .int x4)]) hx hb dX7_trust_93 hl (k := 6) rfl (by rw [ey8]; rfl) (by decide) rfl (fun ls hl => ?_)
      refine lv_goto (tgt := 62) hx hb dX7_trust_96 (by decide) ?_
      exact hK62 σ5 x1 x2 x4 y8 _ _ _ hB (lv_sub hl [2, 3, 4, 5, 6, 0] rfl) hf
    · have hf := it_f hf c7
      refine lv_iload hx hb dX7_trust_90 (lv_at hl 0 rfl) ?_
      obtain ⟨rfl, rfl⟩ := so_e hf
      exact rc_iret hx hb hr hlocks hB dX7_trust_92
def lc_X7_trust_62 (n : Nat) : Nat → CS → Int32 → Int32 → Int32 → Int32 → Option ((Int32) × CS)
  | 0 => fun _ _ _ _ _ => none
  | k + 1 => bc_X7_trust_62 n (lc_X7_trust_62 n k)
theorem tlc_X7_trust_62 {p : Program} {l : Launch} {e : Env} {s : State} {m : MethodId} {args : Array Value} {below : List Frame} {meth : Method} {c : Code} {D : va_G} {A : Nat → Prop} {ad : Nat → Nat} {cy : CY} {z : CZ} {r0 : Int32} {σ0 : CS} (hc : cxB RX7 wsC cX7_trust 7 (some .int) p s m args meth c) (hV : cV D cy z A s) (n : Nat) : ∀ (k : Nat) (σ : CS) (x1 : Int32) (x2 : Int32) (x4 : Int32) (x5 : Int32) (H : Heap) (locs : List Loc) (ls : Array Slot), cB D ad cy A s.heap σ H locs → lv_has ls 7 [(0, .ref (ad 0)), (1, .int x1), (2, .int x2), (3, .ref z.1), (4, .int x4), (5, .int x5)] → lc_X7_trust_62 n k σ x1 x2 x4 x5 = some (r0, σ0) → W p l e rm_X7_trust s m args below meth c H locs 0 0 (MQ below (cQ D ad cy A (some (.int r0)) σ0) args s 0 0 A) (F0 m 62 ls []) := by
  intro k
  induction k with
  | zero =>
    intro σ x1 x2 x4 x5 H locs ls hB hl hf
    have hf : (none : Option ((Int32) × CS)) = some (r0, σ0) := hf
    cases hf
  | succ k ih =>
    intro σ x1 x2 x4 x5 H locs ls hB hl hf
    exact tbc_X7_trust_62 hc hV n (lc_X7_trust_62 n k) ih σ x1 x2 x4 x5 hB hl hf
def fc_X7_trust (n : Nat) (σ : CS) (x1 : Int32) : Option ((Int32) × CS) := if ((σ.1 12 0) = 0) then (bd (fc_X7_refuse n σ (-3)) (fun r12 σ13 => some (r12, σ13))) else (if (0 ≤ x1) then (if (x1 ≤ 9999) then (bd (fc_X7_ticksByStep n σ 1) (fun r4 σ5 => sq (3 : Int32) (fun y6 => sq (0 : Int32) (fun y7 => lc_X7_trust_62 n n σ5 x1 r4 y6 y7)))) else (bd (fc_X7_refuse n σ (-6)) (fun r8 σ9 => some (r8, σ9)))) else (bd (fc_X7_refuse n σ (-4)) (fun r10 σ11 => some (r10, σ11))))
set_option maxRecDepth 100000 in
set_option maxHeartbeats 4000000 in
theorem tbc_X7_trust_0 {p : Program} {l : Launch} {e : Env} {s : State} {m : MethodId} {args : Array Value} {below : List Frame} {meth : Method} {c : Code} {D : va_G} {A : Nat → Prop} {ad : Nat → Nat} {cy : CY} {z : CZ} {r0 : Int32} {σ0 : CS} (hc : cxB RX7 wsC cX7_trust 7 (some .int) p s m args meth c) (hV : cV D cy z A s) (n : Nat) (σ : CS) (x1 : Int32) {H : Heap} {locs : List Loc} {ls : Array Slot} (hB : cB D ad cy A s.heap σ H locs) (hl : lv_has ls 7 [(0, .ref (ad 0)), (1, .int x1)]) (hf : fc_X7_trust n σ x1 = some (r0, σ0)) : W p l e rm_X7_trust s m args below meth c H locs 0 0 (MQ below (cQ D ad cy A (some (.int r0)) σ0) args s 0 0 A) (F0 m 0 ls []) := by
  obtain ⟨hx, hb, hml, hown, hts, hr, hlocks⟩ := id hc
  unfold fc_X7_trust at hf
  refine lv_aload_n hx hb dX7_trust_0 rfl (lv_at hl 0 rfl) ?_
  refine rc_get (own := RX7) hx hb hts inC_7 hown hV hB 0 (c34 rfl hB) (ceq_0 _ _ _) rfl 2 (Nat.le_of_ble_eq_true rfl) qf_X7_23 rfl dX7_trust_1 ?_
  refine rc_get (own := RX7) hx hb hts inC_0 hown hV hB 5 (c34 rfl hB) (ceq_5 _ _ _) rfl 6 (Nat.le_of_ble_eq_true rfl) qf_X7_119 rfl dX7_trust_4 ?_
  refine rc_get (own := RX7) hx hb hts inC_5 hown hV hB 12 (c34 rfl hB) (ceq_12 _ _ _) rfl 0 (Nat.le_of_ble_eq_true rfl) qf_X7_165 rfl dX7_trust_7 ?_
  refine lv_if_ne (tgt := 20) hx hb dX7_trust_10 (by decide) (fun c1 => ?_) (fun c1 => ?_)
  · have hf := it_f hf c1
    refine lv_iload_n hx hb dX7_trust_20 rfl (lv_at hl 1 rfl) ?_
    refine lv_if_ge (tgt := 31) hx hb dX7_trust_21 (by decide) (fun c2 => ?_) (fun c2 => ?_)
    · have hf := it_t hf c2
      refine lv_iload_n hx hb dX7_trust_31 rfl (lv_at hl 1 rfl) ?_
      refine lv_sipush (v := 9999) hx hb dX7_trust_32 (by decide) ?_
      refine lv_icmp_le (tgt := 45) hx hb dX7_trust_35 (by decide) (fun c3 => ?_) (fun c3 => ?_)
      · have hf := it_t hf c3
        refine lv_aload_n hx hb dX7_trust_45 rfl (lv_at hl 0 rfl) ?_
        refine lv_iconst (v := 1) hx hb dX7_trust_46 (by decide) ?_
        obtain ⟨r4, σ5, hkr4, hf⟩ := bd_e hf
        refine rc_callV (own := RX7) (av := [.int 1]) (rest := []) (rv := (some (.int r4))) hx hb hml hown hts hl.1 hV hB 0 (c34 rfl hB) (ceq_0 _ _ _) rfl (cc_X7_ticksByStep l D ad cy z n σ 1 hkr4) (kwc_X7_267  hts ⟨Nat.le_of_ble_eq_true rfl, Nat.le_of_ble_eq_true rfl⟩) rfl rfl (lv_room (Nat.le_of_ble_eq_true rfl)) dX7_trust_47 (Nat.le_refl _) (Nat.le_refl _) (fun H locs hB => ?_)
        refine W.eq (g2 := F0 m 50 ls [.int r4]) rfl ?_
        refine lv_istore_n (lv' := [(2, .int r4), (0, .ref (ad 0)), (1, .int x1)]) hx hb dX7_trust_50 rfl hl (by decide) rfl (fun ls hl => ?_)
        refine va_gets hx hb hV.2.2.2.2.1 hB.2.2.2 hown (hts _ qc_532) (fun _ h9 => h9) dX7_trust_51 ?_
        refine lv_astore_n (lv' := [(3, .ref z.1), (2, .int r4), (0, .ref (ad 0)), (1, .int x1)]) hx hb dX7_trust_54 rfl hl (by decide) rfl (fun ls hl => ?_)
        refine lv_aload_n hx hb dX7_trust_55 rfl (lv_at hl 0 rfl) ?_
        refine va_tlen (v := 3) hx hb hV.2.2.2.2.2.1 hB.2.2.2 (by decide) dX7_trust_56 ?_
        refine lv_topi (fun y6 ey6 => ?_)
        have hf := sq_e hf y6 ey6
        refine lv_istore (lv' := [(4, .int y6), (3, .ref z.1), (2, .int r4), (0, .ref (ad 0)), (1, .int x1)]) hx hb dX7_trust_57 hl (by decide) rfl (fun ls hl => ?_)
        refine lv_iconst (v := 0) hx hb dX7_trust_59 (by decide) ?_
        refine lv_topi (fun y7 ey7 => ?_)
        have hf := sq_e hf y7 ey7
        refine lv_istore (lv' := [(5, .int y7), (4, .int y6), (3, .ref z.1), (2, .int r4), (0, .ref (ad 0)), (1, .int x1)]) hx hb dX7_trust_60 hl (by decide) rfl (fun ls hl => ?_)
        exact tlc_X7_trust_62 hc hV n n σ5 x1 r4 y6 y7 _ _ _ hB (lv_sub hl [4, 5, 3, 2, 1, 0] rfl) hf
      · have hf := it_f hf c3
        refine lv_aload_n hx hb dX7_trust_38 rfl (lv_at hl 0 rfl) ?_
        refine lv_bipush (v := (-6)) hx hb dX7_trust_39 (by decide) ?_
        obtain ⟨r8, σ9, hkr8, hf⟩ := bd_e hf
        refine rc_callV (own := RX7) (av := [.int (-6)]) (rest := []) (rv := (some (.int r8))) hx hb hml hown hts hl.1 hV hB 0 (c34 rfl hB) (ceq_0 _ _ _) rfl (cc_X7_refuse l D ad cy z n σ (-6) hkr8) (kwc_X7_43  hts ⟨Nat.le_of_ble_eq_true rfl, Nat.le_of_ble_eq_true rfl⟩) rfl rfl (lv_room (Nat.le_of_ble_eq_true rfl)) dX7_trust_41 (Nat.le_refl _) (Nat.le_refl _) (fun H locs hB => ?_)
        refine W.eq (g2 := F0 m 44 ls [.int r8]) rfl ?_
        obtain ⟨rfl, rfl⟩ := so_e hf
        exact rc_iret hx hb hr hlocks hB dX7_trust_44
    · have hf := it_f hf c2
      refine lv_aload_n hx hb dX7_trust_24 rfl (lv_at hl 0 rfl) ?_
      refine lv_bipush (v := (-4)) hx hb dX7_trust_25 (by decide) ?_
      obtain ⟨r10, σ11, hkr10, hf⟩ := bd_e hf
      refine rc_callV (own := RX7) (av := [.int (-4)]) (rest := []) (rv := (some (.int r10))) hx hb hml hown hts hl.1 hV hB 0 (c34 rfl hB) (ceq_0 _ _ _) rfl (cc_X7_refuse l D ad cy z n σ (-4) hkr10) (kwc_X7_43  hts ⟨Nat.le_of_ble_eq_true rfl, Nat.le_of_ble_eq_true rfl⟩) rfl rfl (lv_room (Nat.le_of_ble_eq_true rfl)) dX7_trust_27 (Nat.le_refl _) (Nat.le_refl _) (fun H locs hB => ?_)
      refine W.eq (g2 := F0 m 30 ls [.int r10]) rfl ?_
      obtain ⟨rfl, rfl⟩ := so_e hf
      exact rc_iret hx hb hr hlocks hB dX7_trust_30
  · have hf := it_t hf c1
    refine lv_aload_n hx hb dX7_trust_13 rfl (lv_at hl 0 rfl) ?_
    refine lv_bipush (v := (-3)) hx hb dX7_trust_14 (by decide) ?_
    obtain ⟨r12, σ13, hkr12, hf⟩ := bd_e hf
    refine rc_callV (own := RX7) (av := [.int (-3)]) (rest := []) (rv := (some (.int r12))) hx hb hml hown hts hl.1 hV hB 0 (c34 rfl hB) (ceq_0 _ _ _) rfl (cc_X7_refuse l D ad cy z n σ (-3) hkr12) (kwc_X7_43  hts ⟨Nat.le_of_ble_eq_true rfl, Nat.le_of_ble_eq_true rfl⟩) rfl rfl (lv_room (Nat.le_of_ble_eq_true rfl)) dX7_trust_16 (Nat.le_refl _) (Nat.le_refl _) (fun H locs hB => ?_)
    refine W.eq (g2 := F0 m 19 ls [.int r12]) rfl ?_
    obtain ⟨rfl, rfl⟩ := so_e hf
    exact rc_iret hx hb hr hlocks hB dX7_trust_19
theorem cc_X7_trust (l : Launch) (D : va_G) (ad : Nat → Nat) (cy : CY) (z : CZ) (n : Nat) (σ : CS) (x1 : Int32) {r0 : Int32} {σ0 : CS} (hf : fc_X7_trust n σ x1 = some (r0, σ0)) : cM l yX7_trust wn_X7_trust rm_X7_trust D ad cy z [.ref (ad 0), .int x1] σ (some (.int r0)) σ0 :=
  rc_met (ret := (some .int)) (by decide) rfl (Nat.le_of_ble_eq_true rfl) (fun p e s m below meth c A ls hc hV hB hl => tbc_X7_trust_0 hc hV n σ x1 hB hl hf)
