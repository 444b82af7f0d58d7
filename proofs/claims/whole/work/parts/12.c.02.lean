/-! X2_leanTo -/
theorem kwc_X2_89 {R : Room} {s : State} {args : Array Value} (hts : ∀ w ∈ wsC, w.before args s = true) (hN : va_Nw (.methodLinkNest RX2 89 yX7_toneOf RX7) s) (hR : rm_X7_toneOf.frames + 1 ≤ R.frames ∧ 8 + (5 + 11) + rm_X7_toneOf.locals ≤ R.locals) : va_CN R s args RX2 89 yX7_toneOf RX7 cX7_toneOf 5 (some .int) wn_X7_toneOf rm_X7_toneOf 0 0 3 ∧ (Cond.static yX7_toneOf).before args s = true ∧ True := ⟨va_cnB 3 hts (gC_c qc_91) rfl rfl rfl hN (hts _ qc_85) (by decide +kernel) hR, hts _ qc_90, trivial⟩
abbrev rm_X2_leanTo : Room := { frames := 1, cells := 0, slots := 0, locals := 24 }
abbrev wn_X2_leanTo : List Cond := .code yX2_leanTo cX2_leanTo 2 none :: wsC
def fc_X2_leanTo (n : Nat) (σ : CS) (x1 : Int32) : Option ((Int32) × CS) := sq (cp σ 31 3 x1) (fun σ1 => sq ((σ1.1 32 (Int32.toNatClampNeg 3)) : Int32) (fun y2 => sq ((σ1.1 32 (Int32.toNatClampNeg 5)) : Int32) (fun y3 => bd (fc_X7_toneOf n σ1 (σ1.1 31 3) y2 y3) (fun r4 σ5 => sq (cp σ5 31 4 r4) (fun σ6 => sq (cp σ6 32 (Int32.toNatClampNeg 0) (σ6.1 31 3)) (fun σ7 => sq (cp σ7 32 (Int32.toNatClampNeg 1) (σ7.1 31 4)) (fun σ8 => some (0, σ8))))))))
set_option maxRecDepth 100000 in
set_option maxHeartbeats 4000000 in
theorem tbc_X2_leanTo_0 {p : Program} {l : Launch} {e : Env} {s : State} {m : MethodId} {args : Array Value} {below : List Frame} {meth : Method} {c : Code} {D : va_G} {A : Nat → Prop} {ad : Nat → Nat} {cy : CY} {z : CZ} {r0 : Int32} {σ0 : CS} (hc : cxB RX2 wsC cX2_leanTo 2 none p s m args meth c) (hV : cV D cy z A s) (n : Nat) (σ : CS) (x1 : Int32) {H : Heap} {locs : List Loc} {ls : Array Slot} (hB : cB D ad cy A s.heap σ H locs) (hl : lv_has ls 2 [(0, .ref (ad 31)), (1, .int x1)]) (hf : fc_X2_leanTo n σ x1 = some (r0, σ0)) : W p l e rm_X2_leanTo s m args below meth c H locs 0 0 (MQ below (cQ D ad cy A none σ0) args s 0 0 A) (F0 m 0 ls []) := by
  obtain ⟨hx, hb, hml, hown, hts, hr, hlocks⟩ := id hc
  unfold fc_X2_leanTo at hf
  refine lv_aload_n hx hb dX2_leanTo_0 rfl (lv_at hl 0 rfl) ?_
  refine lv_iload_n hx hb dX2_leanTo_1 rfl (lv_at hl 1 rfl) ?_
  refine rc_puti (own := RX2) (ty := .int) hx hb hts inC_2 hown hV hB 31 (c34 rfl hB) (ceq_31 _ _ _) rfl 3 (Nat.le_of_ble_eq_true rfl) qf_X2_86 tyX2 tyX2_ok nmX2 (cst_31_3 _ _ _ _) rfl pdc_2_3 rfl rfl (Nat.le_of_ble_eq_true rfl) dX2_leanTo_2 (fun σ1 eσ1 H locs hB => ?_)
  have hf := sq_e hf σ1 eσ1
  refine lv_aload_n hx hb dX2_leanTo_5 rfl (lv_at hl 0 rfl) ?_
  refine lv_aload_n hx hb dX2_leanTo_6 rfl (lv_at hl 0 rfl) ?_
  refine rc_get (own := RX2) hx hb hts inC_2 hown hV hB 31 (c34 rfl hB) (ceq_31 _ _ _) rfl 3 (Nat.le_of_ble_eq_true rfl) qf_X2_86 rfl dX2_leanTo_7 ?_
  refine lv_aload_n hx hb dX2_leanTo_10 rfl (lv_at hl 0 rfl) ?_
  refine rc_get (own := RX2) hx hb hts inC_2 hown hV hB 31 (c34 rfl hB) (ceq_31 _ _ _) rfl 1 (Nat.le_of_ble_eq_true rfl) qf_X2_9 rfl dX2_leanTo_11 ?_
  refine lv_iconst (v := 3) hx hb dX2_leanTo_14 (by decide) ?_
  refine rc_ald hx hb hV hB 32 (c34 rfl hB) (ceq_32 _ _ _) (by decide) dX2_leanTo_15 ?_
  refine lv_topi (fun y2 ey2 => ?_)
  have hf := sq_e hf y2 ey2
  refine lv_aload_n hx hb dX2_leanTo_16 rfl (lv_at hl 0 rfl) ?_
  refine rc_get (own := RX2) hx hb hts inC_2 hown hV hB 31 (c34 rfl hB) (ceq_31 _ _ _) rfl 1 (Nat.le_of_ble_eq_true rfl) qf_X2_9 rfl dX2_leanTo_17 ?_
  refine lv_iconst (v := 5) hx hb dX2_leanTo_20 (by decide) ?_
  refine rc_ald hx hb hV hB 32 (c34 rfl hB) (ceq_32 _ _ _) (by decide) dX2_leanTo_21 ?_
  refine lv_topi (fun y3 ey3 => ?_)
  have hf := sq_e hf y3 ey3
  obtain ⟨r4, σ5, hkr4, hf⟩ := bd_e hf
  refine rc_callN (own := RX2) (av := [.int (σ1.1 31 3), .int y2, .int y3]) (rest := [.ref (ad 31)]) (rv := (some (.int r4))) hx hb hml hown hts hl.1 hV hB (cc_X7_toneOf l D ad cy z n σ1 (σ1.1 31 3) y2 y3 hkr4) (kwc_X2_89  hts hV.2.2.2.1 ⟨Nat.le_of_ble_eq_true rfl, Nat.le_of_ble_eq_true rfl⟩) rfl rfl (lv_room (Nat.le_of_ble_eq_true rfl)) dX2_leanTo_22 (Nat.le_refl _) (Nat.le_refl _) (fun H locs hB => ?_)
  refine W.eq (g2 := F0 m 25 ls [.int r4, .ref (ad 31)]) rfl ?_
  refine rc_puti (own := RX2) (ty := .int) hx hb hts inC_2 hown hV hB 31 (c34 rfl hB) (ceq_31 _ _ _) rfl 4 (Nat.le_of_ble_eq_true rfl) qf_X2_93 tyX2 tyX2_ok nmX2 (cst_31_4 _ _ _ _) rfl pdc_2_4 rfl rfl (Nat.le_of_ble_eq_true rfl) dX2_leanTo_25 (fun σ6 eσ6 H locs hB => ?_)
  have hf := sq_e hf σ6 eσ6
  refine lv_aload_n hx hb dX2_leanTo_28 rfl (lv_at hl 0 rfl) ?_
  refine rc_get (own := RX2) hx hb hts inC_2 hown hV hB 31 (c34 rfl hB) (ceq_31 _ _ _) rfl 1 (Nat.le_of_ble_eq_true rfl) qf_X2_9 rfl dX2_leanTo_29 ?_
  refine lv_iconst (v := 0) hx hb dX2_leanTo_32 (by decide) ?_
  refine lv_aload_n hx hb dX2_leanTo_33 rfl (lv_at hl 0 rfl) ?_
  refine rc_get (own := RX2) hx hb hts inC_2 hown hV hB 31 (c34 rfl hB) (ceq_31 _ _ _) rfl 3 (Nat.le_of_ble_eq_true rfl) qf_X2_86 rfl dX2_leanTo_34 ?_
  refine rc_ast hx hb hV hB 32 (c34 rfl hB) (ceq_32 _ _ _) (fun _ => rfl) (by decide) dX2_leanTo_37 (fun σ7 eσ7 H locs hB => ?_)
  have hf := sq_e hf σ7 eσ7
  refine lv_aload_n hx hb dX2_leanTo_38 rfl (lv_at hl 0 rfl) ?_
  refine rc_get (own := RX2) hx hb hts inC_2 hown hV hB 31 (c34 rfl hB) (ceq_31 _ _ _) rfl 1 (Nat.le_of_ble_eq_true rfl) qf_X2_9 rfl dX2_leanTo_39 ?_
  refine lv_iconst (v := 1) hx hb dX2_leanTo_42 (by decide) ?_
  refine lv_aload_n hx hb dX2_leanTo_43 rfl (lv_at hl 0 rfl) ?_
  refine rc_get (own := RX2) hx hb hts inC_2 hown hV hB 31 (c34 rfl hB) (ceq_31 _ _ _) rfl 4 (Nat.le_of_ble_eq_true rfl) qf_X2_93 rfl dX2_leanTo_44 ?_
  refine rc_ast hx hb hV hB 32 (c34 rfl hB) (ceq_32 _ _ _) (fun _ => rfl) (by decide) dX2_leanTo_47 (fun σ8 eσ8 H locs hB => ?_)
  have hf := sq_e hf σ8 eσ8
  obtain ⟨rfl, rfl⟩ := so_e hf
  exact rc_vret hx hb hr hlocks hB dX2_leanTo_48
theorem cc_X2_leanTo (l : Launch) (D : va_G) (ad : Nat → Nat) (cy : CY) (z : CZ) (n : Nat) (σ : CS) (x1 : Int32) {r0 : Int32} {σ0 : CS} (hf : fc_X2_leanTo n σ x1 = some (r0, σ0)) : cM l yX2_leanTo wn_X2_leanTo rm_X2_leanTo D ad cy z [.ref (ad 31), .int x1] σ none σ0 :=
  rc_met (ret := none) (by decide) rfl (Nat.le_of_ble_eq_true rfl) (fun p e s m below meth c A ls hc hV hB hl => tbc_X2_leanTo_0 hc hV n σ x1 hB hl hf)
/-! X2_begin -/
theorem kwc_X2_44 {R : Room} {s : State} {args : Array Value} (hts : ∀ w ∈ wsC, w.before args s = true) (hR : rm_X2_layOn.frames + 1 ≤ R.frames ∧ 8 + (2 + 11) + rm_X2_layOn.locals ≤ R.locals) : CallW R s args RX2 RX2 44 yX2_layOn cX2_layOn 2 none wn_X2_layOn rm_X2_layOn 0 0 1 := cwV 1 hts (gC_v qc_105 qc_106 qc_107 qc_108 qc_81) rfl rfl rfl (by decide +kernel) hR
theorem kwc_X2_70 {R : Room} {s : State} {args : Array Value} (hts : ∀ w ∈ wsC, w.before args s = true) (hR : rm_X2_leanTo.frames + 1 ≤ R.frames ∧ 8 + (2 + 11) + rm_X2_leanTo.locals ≤ R.locals) : CallW R s args RX2 RX2 70 yX2_leanTo cX2_leanTo 2 none wn_X2_leanTo rm_X2_leanTo 0 0 1 := cwV 1 hts (gC_v qc_109 qc_110 qc_111 qc_108 qc_87) rfl rfl rfl (by decide +kernel) hR
abbrev rm_X2_begin : Room := { frames := 2, cells := 0, slots := 0, locals := 45 }
abbrev wn_X2_begin : List Cond := .code yX2_begin cX2_begin 4 none :: wsC
def bc_X2_begin_61 (n : Nat) (σ : CS) (x2 : Int32) (x3 : Int32) : Option ((Int32) × CS) := bd (fc_X2_layOn n σ x3) (fun _ σ2 => sq (cp σ2 31 5 0) (fun σ3 => sq (cp σ3 31 6 0) (fun σ4 => sq (cp σ4 31 7 (-1)) (fun σ5 => sq (cp σ5 31 8 1) (fun σ6 => ck (zb (σ6.1 5 11)) (sq (cp σ6 31 9 (σ6.1 5 11)) (fun σ7 => sq (cpp σ7 31 11 none) (fun σ9 => bd (fc_X2_leanTo n σ9 x2) (fun _ σ11 => some (0, σ11))))))))))
set_option maxRecDepth 100000 in
set_option maxHeartbeats 4000000 in
theorem tbc_X2_begin_61 {p : Program} {l : Launch} {e : Env} {s : State} {m : MethodId} {args : Array Value} {below : List Frame} {meth : Method} {c : Code} {D : va_G} {A : Nat → Prop} {ad : Nat → Nat} {cy : CY} {z : CZ} {r0 : Int32} {σ0 : CS} (hc : cxB RX2 wsC cX2_begin 4 none p s m args meth c) (hV : cV D cy z A s) (n : Nat) (σ : CS) (x2 : Int32) (x3 : Int32) {H : Heap} {locs : List Loc} {ls : Array Slot} (hB : cB D ad cy A s.heap σ H locs) (hl : lv_has ls 4 [(0, .ref (ad 31)), (2, .int x2), (3, .int x3)]) (hf : bc_X2_begin_61 n σ x2 x3 = some (r0, σ0)) : W p l e rm_X2_begin s m args below meth c H locs 0 0 (MQ below (cQ D ad cy A none σ0) args s 0 0 A) (F0 m 61 ls []) := by
  obtain ⟨hx, hb, hml, hown, hts, hr, hlocks⟩ := id hc
  unfold bc_X2_begin_61 at hf
  refine lv_aload_n hx hb dX2_begin_61 rfl (lv_at hl 0 rfl) ?_
  refine lv_iload_n hx hb dX2_begin_62 rfl (lv_at hl 2 rfl) ?_
  obtain ⟨r1, σ2, hkr1, hf⟩ := bd_e hf
  refine rc_callV (own := RX2) (av := [.int x3]) (rest := []) (rv := none) hx hb hml hown hts hl.1 hV hB 31 (c34 rfl hB) (ceq_31 _ _ _) rfl (cc_X2_layOn l D ad cy z n σ x3 hkr1) (kwc_X2_44  hts ⟨Nat.le_of_ble_eq_true rfl, Nat.le_of_ble_eq_true rfl⟩) rfl rfl (lv_room (Nat.le_of_ble_eq_true rfl)) dX2_begin_63 (Nat.le_refl _) (Nat.le_refl _) (fun H locs hB => ?_)
  refine W.eq (g2 := F0 m 66 ls []) rfl ?_
  refine lv_aload_n hx hb dX2_begin_66 rfl (lv_at hl 0 rfl) ?_
  refine lv_iconst (v := 0) hx hb dX2_begin_67 (by decide) ?_
  refine rc_puti (own := RX2) (ty := .int) hx hb hts inC_2 hown hV hB 31 (c34 rfl hB) (ceq_31 _ _ _) rfl 5 (Nat.le_of_ble_eq_true rfl) qf_X2_48 tyX2 tyX2_ok nmX2 (cst_31_5 _ _ _ _) rfl pdc_2_5 rfl rfl (Nat.le_of_ble_eq_true rfl) dX2_begin_68 (fun σ3 eσ3 H locs hB => ?_)
  have hf := sq_e hf σ3 eσ3
  refine lv_aload_n hx hb dX2_begin_71 rfl (lv_at hl 0 rfl) ?_
  refine lv_iconst (v := 0) hx hb dX2_begin_72 (by decide) ?_
  refine rc_puti (own := RX2) (ty := .int) hx hb hts inC_2 hown hV hB 31 (c34 rfl hB) (ceq_31 _ _ _) rfl 6 (Nat.le_of_ble_eq_true rfl) qf_X2_51 tyX2 tyX2_ok nmX2 (cst_31_6 _ _ _ _) rfl pdc_2_6 rfl rfl (Nat.le_of_ble_eq_true rfl) dX2_begin_73 (fun σ4 eσ4 H locs hB => ?_)
  have hf := sq_e hf σ4 eσ4
  refine lv_aload_n hx hb dX2_begin_76 rfl (lv_at hl 0 rfl) ?_
  refine lv_iconst (v := (-1)) hx hb dX2_begin_77 (by decide) ?_
  refine rc_puti (own := RX2) (ty := .int) hx hb hts inC_2 hown hV hB 31 (c34 rfl hB) (ceq_31 _ _ _) rfl 7 (Nat.le_of_ble_eq_true rfl) qf_X2_54 tyX2 tyX2_ok nmX2 (cst_31_7 _ _ _ _) rfl pdc_2_7 rfl rfl (Nat.le_of_ble_eq_true rfl) dX2_begin_78 (fun σ5 eσ5 H locs hB => ?_)
  have hf := sq_e hf σ5 eσ5
  refine lv_aload_n hx hb dX2_begin_81 rfl (lv_at hl 0 rfl) ?_
  refine lv_iconst (v := 1) hx hb dX2_begin_82 (by decide) ?_
  refine rc_puti (own := RX2) (ty := .int) hx hb hts inC_2 hown hV hB 31 (c34 rfl hB) (ceq_31 _ _ _) rfl 8 (Nat.le_of_ble_eq_true rfl) qf_X2_57 tyX2 tyX2_ok nmX2 (cst_31_8 _ _ _ _) rfl pdc_2_8 rfl rfl (Nat.le_of_ble_eq_true rfl) dX2_begin_83 (fun σ6 eσ6 H locs hB => ?_)
  have hf := sq_e hf σ6 eσ6
  refine lv_aload_n hx hb dX2_begin_86 rfl (lv_at hl 0 rfl) ?_
  refine lv_aload_n hx hb dX2_begin_87 rfl (lv_at hl 0 rfl) ?_
  refine rc_get (own := RX2) hx hb hts inC_2 hown hV hB 31 (c34 rfl hB) (ceq_31 _ _ _) rfl 0 (Nat.le_of_ble_eq_true rfl) qf_X2_18 rfl dX2_begin_88 ?_
  refine rc_get (own := RX2) hx hb hts inC_0 hown hV hB 5 (c34 rfl hB) (ceq_5 _ _ _) rfl 11 (Nat.le_of_ble_eq_true rfl) qf_X2_60 rfl dX2_begin_91 ?_
  obtain ⟨k8, hf⟩ := ck_e hf
  refine rc_puti (own := RX2) (ty := .boolean) hx hb hts inC_2 hown hV hB 31 (c34 rfl hB) (ceq_31 _ _ _) rfl 9 (Nat.le_of_ble_eq_true rfl) qf_X2_65 tyX2 tyX2_ok nmX2 (cst_31_9 _ _ _ _) rfl pdc_2_9 (zb_n k8) (zb_f k8) (Nat.le_of_ble_eq_true rfl) dX2_begin_94 (fun σ7 eσ7 H locs hB => ?_)
  have hf := sq_e hf σ7 eσ7
  refine lv_aload_n hx hb dX2_begin_97 rfl (lv_at hl 0 rfl) ?_
  refine lv_null hx hb dX2_begin_98 ?_
  refine rc_putr (own := RX2) (v := none) (ty := .object "PlateRings$Loss") hx hb hts inC_2 hown hV hB 31 (c34 rfl hB) (ceq_31 _ _ _) rfl 11 (Nat.le_of_ble_eq_true rfl) qf_X2_66 tyX2 tyX2_ok nmX2 (cst_31_11 _ _ _ _) rfl pdc_2_11 rfl rfl (Nat.le_of_ble_eq_true rfl) dX2_begin_99 (fun σ9 eσ9 H locs hB => ?_)
  have hf := sq_e hf σ9 eσ9
  refine lv_aload_n hx hb dX2_begin_102 rfl (lv_at hl 0 rfl) ?_
  refine lv_iload_n hx hb dX2_begin_103 rfl (lv_at hl 1 rfl) ?_
  obtain ⟨r10, σ11, hkr10, hf⟩ := bd_e hf
  refine rc_callV (own := RX2) (av := [.int x2]) (rest := []) (rv := none) hx hb hml hown hts hl.1 hV hB 31 (c34 rfl hB) (ceq_31 _ _ _) rfl (cc_X2_leanTo l D ad cy z n σ9 x2 hkr10) (kwc_X2_70  hts ⟨Nat.le_of_ble_eq_true rfl, Nat.le_of_ble_eq_true rfl⟩) rfl rfl (lv_room (Nat.le_of_ble_eq_true rfl)) dX2_begin_104 (Nat.le_refl _) (Nat.le_refl _) (fun H locs hB => ?_)
  refine W.eq (g2 := F0 m 107 ls []) rfl ?_
  obtain ⟨rfl, rfl⟩ := so_e hf
  exact rc_vret hx hb hr hlocks hB dX2_begin_107
def bc_X2_begin_58 (n : Nat) (σ : CS) (x2 : Int32) (x3 : Int32) (t0 : Int32) : Option ((Int32) × CS) := ck (zb t0) (sq (cp σ 31 10 t0) (fun σ1 => bc_X2_begin_61 n σ1 x2 x3))
set_option maxRecDepth 100000 in
set_option maxHeartbeats 4000000 in
theorem tbc_X2_begin_58 {p : Program} {l : Launch} {e : Env} {s : State} {m : MethodId} {args : Array Value} {below : List Frame} {meth : Method} {c : Code} {D : va_G} {A : Nat → Prop} {ad : Nat → Nat} {cy : CY} {z : CZ} {r0 : Int32} {σ0 : CS} (hc : cxB RX2 wsC cX2_begin 4 none p s m args meth c) (hV : cV D cy z A s) (n : Nat) (σ : CS) (x2 : Int32) (x3 : Int32) (t0 : Int32) {H : Heap} {locs : List Loc} {ls : Array Slot} (hB : cB D ad cy A s.heap σ H locs) (hl : lv_has ls 4 [(0, .ref (ad 31)), (2, .int x2), (3, .int x3)]) (hf : bc_X2_begin_58 n σ x2 x3 t0 = some (r0, σ0)) : W p l e rm_X2_begin s m args below meth c H locs 0 0 (MQ below (cQ D ad cy A none σ0) args s 0 0 A) (F0 m 58 ls [.int t0, .ref (ad 31)]) := by
  obtain ⟨hx, hb, hml, hown, hts, hr, hlocks⟩ := id hc
  unfold bc_X2_begin_58 at hf
  obtain ⟨k2, hf⟩ := ck_e hf
  refine rc_puti (own := RX2) (ty := .boolean) hx hb hts inC_2 hown hV hB 31 (c34 rfl hB) (ceq_31 _ _ _) rfl 10 (Nat.le_of_ble_eq_true rfl) qf_X2_40 tyX2 tyX2_ok nmX2 (cst_31_10 _ _ _ _) rfl pdc_2_10 (zb_n k2) (zb_f k2) (Nat.le_of_ble_eq_true rfl) dX2_begin_58 (fun σ1 eσ1 H locs hB => ?_)
  have hf := sq_e hf σ1 eσ1
  exact tbc_X2_begin_61 hc hV n σ1 x2 x3 hB (lv_sub hl [0, 1, 2] rfl) hf
def fc_X2_begin (n : Nat) (σ : CS) (x1 : Option Nat) (x2 : Int32) (x3 : Int32) : Option ((Int32) × CS) := oc x1 (bc_X2_begin_61 n σ x2 x3) (fun q1 => ck (pk σ q1 3) (sq (cp σ 32 (Int32.toNatClampNeg 2) (σ.1 q1 0)) (fun σ3 => ck (pk σ3 q1 3) (sq (cp σ3 32 (Int32.toNatClampNeg 3) (σ3.1 q1 1)) (fun σ5 => ck (pk σ5 q1 3) (sq (cp σ5 32 (Int32.toNatClampNeg 4) (σ5.1 q1 2)) (fun σ7 => ck (pk σ7 q1 3) (sq (cp σ7 32 (Int32.toNatClampNeg 5) (σ7.1 q1 4)) (fun σ9 => ck (pk σ9 q1 3) (if ((σ9.1 q1 3) < 5) then (bc_X2_begin_58 n σ9 x2 x3 0) else (bc_X2_begin_58 n σ9 x2 x3 1)))))))))))
set_option maxRecDepth 100000 in
set_option maxHeartbeats 4000000 in
theorem tbc_X2_begin_0 {p : Program} {l : Launch} {e : Env} {s : State} {m : MethodId} {args : Array Value} {below : List Frame} {meth : Method} {c : Code} {D : va_G} {A : Nat → Prop} {ad : Nat → Nat} {cy : CY} {z : CZ} {r0 : Int32} {σ0 : CS} (hc : cxB RX2 wsC cX2_begin 4 none p s m args meth c) (hV : cV D cy z A s) (n : Nat) (σ : CS) (x1 : Option Nat) (x2 : Int32) (x3 : Int32) {H : Heap} {locs : List Loc} {ls : Array Slot} (hB : cB D ad cy A s.heap σ H locs) (hl : lv_has ls 4 [(0, .ref (ad 31)), (1, va_rf (Option.map ad x1)), (2, .int x2), (3, .int x3)]) (hf : fc_X2_begin n σ x1 x2 x3 = some (r0, σ0)) : W p l e rm_X2_begin s m args below meth c H locs 0 0 (MQ below (cQ D ad cy A none σ0) args s 0 0 A) (F0 m 0 ls []) := by
  obtain ⟨hx, hb, hml, hown, hts, hr, hlocks⟩ := id hc
  unfold fc_X2_begin at hf
  rcases x1 with _ | q1
  · have hf := oc_n hf
    refine lv_aload_nN hx hb dX2_begin_0 rfl (lv_at hl 1 rfl) ?_
    refine lv_ifnullN (tgt := 61) hx hb dX2_begin_1 (by decide) ?_
    exact tbc_X2_begin_61 hc hV n σ x2 x3 hB (lv_sub hl [0, 2, 3] rfl) hf
  · have hf := oc_s hf
    refine lv_aload_n hx hb dX2_begin_0 rfl (lv_at hl 1 rfl) ?_
    refine lv_ifnull hx hb dX2_begin_1 ?_
    refine lv_aload_n hx hb dX2_begin_4 rfl (lv_at hl 0 rfl) ?_
    refine rc_get (own := RX2) hx hb hts inC_2 hown hV hB 31 (c34 rfl hB) (ceq_31 _ _ _) rfl 1 (Nat.le_of_ble_eq_true rfl) qf_X2_9 rfl dX2_begin_5 ?_
    refine lv_iconst (v := 2) hx hb dX2_begin_8 (by decide) ?_
    refine lv_aload_n hx hb dX2_begin_9 rfl (lv_at hl 1 rfl) ?_
    obtain ⟨k2, hf⟩ := ck_e hf
    refine rc_get (own := RX2) hx hb hts inC_3 hown hV hB q1 (pk_s k2).2.1 (ceq_P k2) rfl 0 (Nat.le_of_ble_eq_true rfl) qf_X2_22 rfl dX2_begin_10 ?_
    refine rc_ast hx hb hV hB 32 (c34 rfl hB) (ceq_32 _ _ _) (fun _ => rfl) (by decide) dX2_begin_13 (fun σ3 eσ3 H locs hB => ?_)
    have hf := sq_e hf σ3 eσ3
    refine lv_aload_n hx hb dX2_begin_14 rfl (lv_at hl 0 rfl) ?_
    refine rc_get (own := RX2) hx hb hts inC_2 hown hV hB 31 (c34 rfl hB) (ceq_31 _ _ _) rfl 1 (Nat.le_of_ble_eq_true rfl) qf_X2_9 rfl dX2_begin_15 ?_
    refine lv_iconst (v := 3) hx hb dX2_begin_18 (by decide) ?_
    refine lv_aload_n hx hb dX2_begin_19 rfl (lv_at hl 1 rfl) ?_
    obtain ⟨k4, hf⟩ := ck_e hf
    refine rc_get (own := RX2) hx hb hts inC_3 hown hV hB q1 (pk_s k4).2.1 (ceq_P k4) rfl 1 (Nat.le_of_ble_eq_true rfl) qf_X2_28 rfl dX2_begin_20 ?_
    refine rc_ast hx hb hV hB 32 (c34 rfl hB) (ceq_32 _ _ _) (fun _ => rfl) (by decide) dX2_begin_23 (fun σ5 eσ5 H locs hB => ?_)
    have hf := sq_e hf σ5 eσ5
    refine lv_aload_n hx hb dX2_begin_24 rfl (lv_at hl 0 rfl) ?_
    refine rc_get (own := RX2) hx hb hts inC_2 hown hV hB 31 (c34 rfl hB) (ceq_31 _ _ _) rfl 1 (Nat.le_of_ble_eq_true rfl) qf_X2_9 rfl dX2_begin_25 ?_
    refine lv_iconst (v := 4) hx hb dX2_begin_28 (by decide) ?_
    refine lv_aload_n hx hb dX2_begin_29 rfl (lv_at hl 1 rfl) ?_
    obtain ⟨k6, hf⟩ := ck_e hf
    refine rc_get (own := RX2) hx hb hts inC_3 hown hV hB q1 (pk_s k6).2.1 (ceq_P k6) rfl 2 (Nat.le_of_ble_eq_true rfl) qf_X2_31 rfl dX2_begin_30 ?_
    refine rc_ast hx hb hV hB 32 (c34 rfl hB) (ceq_32 _ _ _) (fun _ => rfl) (by decide) dX2_begin_33 (fun σ7 eσ7 H locs hB => ?_)
    have hf := sq_e hf σ7 eσ7
    refine lv_aload_n hx hb dX2_begin_34 rfl (lv_at hl 0 rfl) ?_
    refine rc_get (own := RX2) hx hb hts inC_2 hown hV hB 31 (c34 rfl hB) (ceq_31 _ _ _) rfl 1 (Nat.le_of_ble_eq_true rfl) qf_X2_9 rfl dX2_begin_35 ?_
    refine lv_iconst (v := 5) hx hb dX2_begin_38 (by decide) ?_
    refine lv_aload_n hx hb dX2_begin_39 rfl (lv_at hl 1 rfl) ?_
    obtain ⟨k8, hf⟩ := ck_e hf
    refine rc_get (own := RX2) hx hb hts inC_3 hown hV hB q1 (pk_s k8).2.1 (ceq_P k8) rfl 4 (Nat.le_of_ble_eq_true rfl) qf_X2_34 rfl dX2_begin_40 ?_
    refine rc_ast hx hb hV hB 32 (c34 rfl hB) (ceq_32 _ _ _) (fun _ => rfl) (by decide) dX2_begin_43 (fun σ9 eσ9 H locs hB => ?_)
    have hf := sq_e hf σ9 eσ9
    refine lv_aload_n hx hb dX2_begin_44 rfl (lv_at hl 0 rfl) ?_
    refine lv_aload_n hx hb dX2_begin_45 rfl (lv_at hl 1 rfl) ?_
    obtain ⟨k10, hf⟩ := ck_e hf
    refine rc_get (own := RX2) hx hb hts inC_3 hown hV hB q1 (pk_s k10).2.1 (ceq_P k10) rfl 3 (Nat.le_of_ble_eq_true rfl) qf_X2_37 rfl dX2_begin_46 ?_
    refine lv_iconst (v := 5) hx hb dX2_begin_49 (by decide) ?_
    refine lv_icmp_lt (tgt := 57) hx hb dX2_begin_50 (by decide) (fun c11 => ?_) (fun c11 => ?_)
    · have hf := it_t hf c11
      refine lv_iconst (v := 0) hx hb dX2_begin_57 (by decide) ?_
      exact tbc_X2_begin_58 hc hV n σ9 x2 x3 0 hB (lv_sub hl [0, 2, 3] rfl) hf
    · have hf := it_f hf c11
      refine lv_iconst (v := 1) hx hb dX2_begin_53 (by decide) ?_
      refine lv_goto (tgt := 58) hx hb dX2_begin_54 (by decide) ?_
      exact tbc_X2_begin_58 hc hV n σ9 x2 x3 1 hB (lv_sub hl [0, 2, 3] rfl) hf
theorem cc_X2_begin (l : Launch) (D : va_G) (ad : Nat → Nat) (cy : CY) (z : CZ) (n : Nat) (σ : CS) (x1 : Option Nat) (x2 : Int32) (x3 : Int32) {r0 : Int32} {σ0 : CS} (hf : fc_X2_begin n σ x1 x2 x3 = some (r0, σ0)) : cM l yX2_begin wn_X2_begin rm_X2_begin D ad cy z [.ref (ad 31), va_rf (Option.map ad x1), .int x2, .int x3] σ none σ0 := by
  rcases x1 with _ | q0
  · exact rc_met (ret := none) (by decide) rfl (Nat.le_of_ble_eq_true rfl) (fun p e s m below meth c A ls hc hV hB hl => tbc_X2_begin_0 hc hV n σ none x2 x3 hB hl hf)
  · exact rc_met (ret := none) (by decide) rfl (Nat.le_of_ble_eq_true rfl) (fun p e s m below meth c A ls hc hV hB hl => tbc_X2_begin_0 hc hV n σ (some q0) x2 x3 hB hl hf)
/-! X2_takeEdge -/
abbrev rm_X2_takeEdge : Room := { frames := 0, cells := 0, slots := 0, locals := 0 }
abbrev wn_X2_takeEdge : List Cond := .code yX2_takeEdge cX2_takeEdge 2 none :: wsC
def fc_X2_takeEdge (n : Nat) (σ : CS) (x1 : Int32) : Option ((Int32) × CS) := sq (cp σ 32 (Int32.toNatClampNeg 4) x1) (fun σ1 => some (0, σ1))
set_option maxRecDepth 100000 in
set_option maxHeartbeats 4000000 in
theorem tbc_X2_takeEdge_0 {p : Program} {l : Launch} {e : Env} {s : State} {m : MethodId} {args : Array Value} {below : List Frame} {meth : Method} {c : Code} {D : va_G} {A : Nat → Prop} {ad : Nat → Nat} {cy : CY} {z : CZ} {r0 : Int32} {σ0 : CS} (hc : cxB RX2 wsC cX2_takeEdge 2 none p s m args meth c) (hV : cV D cy z A s) (n : Nat) (σ : CS) (x1 : Int32) {H : Heap} {locs : List Loc} {ls : Array Slot} (hB : cB D ad cy A s.heap σ H locs) (hl : lv_has ls 2 [(0, .ref (ad 31)), (1, .int x1)]) (hf : fc_X2_takeEdge n σ x1 = some (r0, σ0)) : W p l e rm_X2_takeEdge s m args below meth c H locs 0 0 (MQ below (cQ D ad cy A none σ0) args s 0 0 A) (F0 m 0 ls []) := by
  obtain ⟨hx, hb, hml, hown, hts, hr, hlocks⟩ := id hc
  unfold fc_X2_takeEdge at hf
  refine lv_aload_n hx hb dX2_takeEdge_0 rfl (lv_at hl 0 rfl) ?_
  refine rc_get (own := RX2) hx hb hts inC_2 hown hV hB 31 (c34 rfl hB) (ceq_31 _ _ _) rfl 1 (Nat.le_of_ble_eq_true rfl) qf_X2_9 rfl dX2_takeEdge_1 ?_
  refine lv_iconst (v := 4) hx hb dX2_takeEdge_4 (by decide) ?_
  refine lv_iload_n hx hb dX2_takeEdge_5 rfl (lv_at hl 1 rfl) ?_
  refine rc_ast hx hb hV hB 32 (c34 rfl hB) (ceq_32 _ _ _) (fun _ => rfl) (by decide) dX2_takeEdge_6 (fun σ1 eσ1 H locs hB => ?_)
  have hf := sq_e hf σ1 eσ1
  obtain ⟨rfl, rfl⟩ := so_e hf
  exact rc_vret hx hb hr hlocks hB dX2_takeEdge_7
theorem cc_X2_takeEdge (l : Launch) (D : va_G) (ad : Nat → Nat) (cy : CY) (z : CZ) (n : Nat) (σ : CS) (x1 : Int32) {r0 : Int32} {σ0 : CS} (hf : fc_X2_takeEdge n σ x1 = some (r0, σ0)) : cM l yX2_takeEdge wn_X2_takeEdge rm_X2_takeEdge D ad cy z [.ref (ad 31), .int x1] σ none σ0 :=
  rc_met (ret := none) (by decide) rfl (Nat.le_of_ble_eq_true rfl) (fun p e s m below meth c A ls hc hV hB hl => tbc_X2_takeEdge_0 hc hV n σ x1 hB hl hf)
/-! X2_loseMore -/
abbrev rm_X2_loseMore : Room := { frames := 0, cells := 0, slots := 0, locals := 0 }
abbrev wn_X2_loseMore : List Cond := .code yX2_loseMore cX2_loseMore 3 none :: wsC
def fc_X2_loseMore (n : Nat) (σ : CS) (x1 : Nat) (x2 : Int32) : Option ((Int32) × CS) := sq (cpp σ 31 11 (some x1)) (fun σ1 => sq (cp σ1 31 12 x2) (fun σ2 => some (0, σ2)))
set_option maxRecDepth 100000 in
set_option maxHeartbeats 4000000 in
theorem tbc_X2_loseMore_0 {p : Program} {l : Launch} {e : Env} {s : State} {m : MethodId} {args : Array Value} {below : List Frame} {meth : Method} {c : Code} {D : va_G} {A : Nat → Prop} {ad : Nat → Nat} {cy : CY} {z : CZ} {r0 : Int32} {σ0 : CS} (hc : cxB RX2 wsC cX2_loseMore 3 none p s m args meth c) (hV : cV D cy z A s) (n : Nat) (σ : CS) (x1 : Nat) (x2 : Int32) {H : Heap} {locs : List Loc} {ls : Array Slot} (hB : cB D ad cy A s.heap σ H locs) (hl : lv_has ls 3 [(0, .ref (ad 31)), (1, .ref (ad x1)), (2, .int x2)]) (hf : fc_X2_loseMore n σ x1 x2 = some (r0, σ0)) : W p l e rm_X2_loseMore s m args below meth c H locs 0 0 (MQ below (cQ D ad cy A none σ0) args s 0 0 A) (F0 m 0 ls []) := by
  obtain ⟨hx, hb, hml, hown, hts, hr, hlocks⟩ := id hc
  unfold fc_X2_loseMore at hf
  refine lv_aload_n hx hb dX2_loseMore_0 rfl (lv_at hl 0 rfl) ?_
  refine lv_aload_n hx hb dX2_loseMore_1 rfl (lv_at hl 1 rfl) ?_
  refine rc_putr (own := RX2) (v := (some x1)) (ty := .object "PlateRings$Loss") hx hb hts inC_2 hown hV hB 31 (c34 rfl hB) (ceq_31 _ _ _) rfl 11 (Nat.le_of_ble_eq_true rfl) qf_X2_66 tyX2 tyX2_ok nmX2 (cst_31_11 _ _ _ _) rfl pdc_2_11 rfl rfl (Nat.le_of_ble_eq_true rfl) dX2_loseMore_2 (fun σ1 eσ1 H locs hB => ?_)
  have hf := sq_e hf σ1 eσ1
  refine lv_aload_n hx hb dX2_loseMore_5 rfl (lv_at hl 0 rfl) ?_
  refine lv_iload_n hx hb dX2_loseMore_6 rfl (lv_at hl 2 rfl) ?_
  refine rc_puti (own := RX2) (ty := .int) hx hb hts inC_2 hown hV hB 31 (c34 rfl hB) (ceq_31 _ _ _) rfl 12 (Nat.le_of_ble_eq_true rfl) qf_X2_83 tyX2 tyX2_ok nmX2 (cst_31_12 _ _ _ _) rfl pdc_2_12 rfl rfl (Nat.le_of_ble_eq_true rfl) dX2_loseMore_7 (fun σ2 eσ2 H locs hB => ?_)
  have hf := sq_e hf σ2 eσ2
  obtain ⟨rfl, rfl⟩ := so_e hf
  exact rc_vret hx hb hr hlocks hB dX2_loseMore_10
theorem cc_X2_loseMore (l : Launch) (D : va_G) (ad : Nat → Nat) (cy : CY) (z : CZ) (n : Nat) (σ : CS) (x1 : Nat) (x2 : Int32) {r0 : Int32} {σ0 : CS} (hf : fc_X2_loseMore n σ x1 x2 = some (r0, σ0)) : cM l yX2_loseMore wn_X2_loseMore rm_X2_loseMore D ad cy z [.ref (ad 31), .ref (ad x1), .int x2] σ none σ0 :=
  rc_met (ret := none) (by decide) rfl (Nat.le_of_ble_eq_true rfl) (fun p e s m below meth c A ls hc hV hB hl => tbc_X2_loseMore_0 hc hV n σ x1 x2 hB hl hf)
/-! X2_takenBy -/
theorem kwc_X2_112 {R : Room} {s : State} {args : Array Value} (hts : ∀ w ∈ wsC, w.before args s = true) (hR : rm_X1_byLaw.frames + 1 ≤ R.frames ∧ 8 + (8 + 11) + rm_X1_byLaw.locals ≤ R.locals) : CallW R s args RX2 RX1 112 yX1_byLaw cX1_byLaw 8 (some .int) wn_X1_byLaw rm_X1_byLaw 0 0 1 := cwV 1 hts (gC_v qc_116 qc_117 qc_118 qc_76 qc_119) rfl rfl rfl (by decide +kernel) hR
abbrev rm_X2_takenBy : Room := { frames := 2, cells := 0, slots := 0, locals := 87 }
abbrev wn_X2_takenBy : List Cond := .code yX2_takenBy cX2_takenBy 2 (some .int) :: wsC
def fc_X2_takenBy (n : Nat) (σ : CS) (x1 : Nat) : Option ((Int32) × CS) := ck (pk σ x1 1) (if ((σ.1 x1 0) = 0) then (if ((σ.1 31 9) = 0) then (some (0, σ)) else (if ((σ.1 31 10) = 0) then (ck (pk σ x1 1) (bd (fc_X1_byLaw n σ x1) (fun r32 σ33 => some (r32, σ33)))) else (ck (pk σ x1 1) (bd (fc_X1_byLaw n σ x1) (fun r35 σ36 => some ((r35 / 2), σ36)))))) else (if ((σ.1 x1 0) = 2) then (if ((σ.1 31 4) < 100) then (some (0, σ)) else (ck (pk σ x1 1) (bd (fc_X1_byLaw n σ x1) (fun r27 σ28 => some (r27, σ28))))) else (if ((σ.1 x1 0) = 3) then (sq ((σ.1 32 (Int32.toNatClampNeg 4)) : Int32) (fun y21 => if ((10 * (9 - y21)) ≤ (σ.1 31 3)) then (some (0, σ)) else (ck (pk σ x1 1) (bd (fc_X1_byLaw n σ x1) (fun r23 σ24 => some (r23, σ24)))))) else (if ((σ.1 x1 0) = 4) then (ck (pk σ x1 1) (bd (fc_X1_byLaw n σ x1) (fun r17 σ18 => sq ((σ18.1 32 (Int32.toNatClampNeg 6)) : Int32) (fun y20 => some (((r17 * (9 - y20)) / 9), σ18))))) else (if ((σ.1 x1 0) = 6) then (ck (pk σ x1 1) (if ((σ.1 31 5) < (σ.1 x1 1)) then (some (0, σ)) else (ck (pk σ x1 1) (if ((σ.1 x1 2) < (σ.1 31 5)) then (some (0, σ)) else (ck (pk σ x1 1) (bd (fc_X1_byLaw n σ x1) (fun r14 σ15 => some (r14, σ15)))))))) else (ck (pk σ x1 1) (bd (fc_X1_byLaw n σ x1) (fun r2 σ3 => some (r2, σ3)))))))))
set_option maxRecDepth 100000 in
set_option maxHeartbeats 4000000 in
theorem tbc_X2_takenBy_0 {p : Program} {l : Launch} {e : Env} {s : State} {m : MethodId} {args : Array Value} {below : List Frame} {meth : Method} {c : Code} {D : va_G} {A : Nat → Prop} {ad : Nat → Nat} {cy : CY} {z : CZ} {r0 : Int32} {σ0 : CS} (hc : cxB RX2 wsC cX2_takenBy 2 (some .int) p s m args meth c) (hV : cV D cy z A s) (n : Nat) (σ : CS) (x1 : Nat) {H : Heap} {locs : List Loc} {ls : Array Slot} (hB : cB D ad cy A s.heap σ H locs) (hl : lv_has ls 2 [(0, .ref (ad 31)), (1, .ref (ad x1))]) (hf : fc_X2_takenBy n σ x1 = some (r0, σ0)) : W p l e rm_X2_takenBy s m args below meth c H locs 0 0 (MQ below (cQ D ad cy A (some (.int r0)) σ0) args s 0 0 A) (F0 m 0 ls []) := by
  obtain ⟨hx, hb, hml, hown, hts, hr, hlocks⟩ := id hc
  unfold fc_X2_takenBy at hf
  refine lv_aload_n hx hb dX2_takenBy_0 rfl (lv_at hl 1 rfl) ?_
  obtain ⟨k1, hf⟩ := ck_e hf
  refine rc_get (own := RX2) hx hb hts inC_1 hown hV hB x1 (pk_s k1).2.1 (ceq_L k1) rfl 0 (Nat.le_of_ble_eq_true rfl) qf_X2_107 rfl dX2_takenBy_1 ?_
  by_cases c5 : (σ.1 x1 0) = 0
  · have hf := it_t hf c5
    refine lv_tableIn (tgt := 48) hx hb dX2_takenBy_4 (by rw [c5]; decide) (by rw [c5]; decide) (by rw [c5]; rfl) (by decide) ?_
    refine lv_aload_n hx hb dX2_takenBy_48 rfl (lv_at hl 0 rfl) ?_
    refine rc_get (own := RX2) hx hb hts inC_2 hown hV hB 31 (c34 rfl hB) (ceq_31 _ _ _) rfl 9 (Nat.le_of_ble_eq_true rfl) qf_X2_65 rfl dX2_takenBy_49 ?_
    refine lv_if_ne (tgt := 59) hx hb dX2_takenBy_52 (by decide) (fun c30 => ?_) (fun c30 => ?_)
    · have hf := it_f hf c30
      refine lv_aload_n hx hb dX2_takenBy_59 rfl (lv_at hl 0 rfl) ?_
      refine rc_get (own := RX2) hx hb hts inC_2 hown hV hB 31 (c34 rfl hB) (ceq_31 _ _ _) rfl 10 (Nat.le_of_ble_eq_true rfl) qf_X2_40 rfl dX2_takenBy_60 ?_
      refine lv_if_eq (tgt := 79) hx hb dX2_takenBy_63 (by decide) (fun c31 => ?_) (fun c31 => ?_)
      · have hf := it_t hf c31
        refine lv_aload_n hx hb dX2_takenBy_79 rfl (lv_at hl 1 rfl) ?_
        refine lv_aload_n hx hb dX2_takenBy_80 rfl (lv_at hl 0 rfl) ?_
        refine rc_get (own := RX2) hx hb hts inC_2 hown hV hB 31 (c34 rfl hB) (ceq_31 _ _ _) rfl 1 (Nat.le_of_ble_eq_true rfl) qf_X2_9 rfl dX2_takenBy_81 ?_
        obtain ⟨k34, hf⟩ := ck_e hf
        obtain ⟨r32, σ33, hkr32, hf⟩ := bd_e hf
        refine rc_callV (own := RX2) (av := [.ref (ad 32)]) (rest := []) (rv := (some (.int r32))) hx hb hml hown hts hl.1 hV hB x1 (pk_s k34).2.1 (ceq_L k34) rfl (cc_X1_byLaw l D ad cy z n σ x1 hkr32) (kwc_X2_112  hts ⟨Nat.le_of_ble_eq_true rfl, Nat.le_of_ble_eq_true rfl⟩) rfl rfl (lv_room (Nat.le_of_ble_eq_true rfl)) dX2_takenBy_84 (Nat.le_refl _) (Nat.le_refl _) (fun H locs hB => ?_)
        refine W.eq (g2 := F0 m 87 ls [.int r32]) rfl ?_
        obtain ⟨rfl, rfl⟩ := so_e hf
        exact rc_iret hx hb hr hlocks hB dX2_takenBy_87
      · have hf := it_f hf c31
        refine lv_aload_n hx hb dX2_takenBy_66 rfl (lv_at hl 1 rfl) ?_
        refine lv_aload_n hx hb dX2_takenBy_67 rfl (lv_at hl 0 rfl) ?_
        refine rc_get (own := RX2) hx hb hts inC_2 hown hV hB 31 (c34 rfl hB) (ceq_31 _ _ _) rfl 1 (Nat.le_of_ble_eq_true rfl) qf_X2_9 rfl dX2_takenBy_68 ?_
        obtain ⟨k37, hf⟩ := ck_e hf
        obtain ⟨r35, σ36, hkr35, hf⟩ := bd_e hf
        refine rc_callV (own := RX2) (av := [.ref (ad 32)]) (rest := []) (rv := (some (.int r35))) hx hb hml hown hts hl.1 hV hB x1 (pk_s k37).2.1 (ceq_L k37) rfl (cc_X1_byLaw l D ad cy z n σ x1 hkr35) (kwc_X2_112  hts ⟨Nat.le_of_ble_eq_true rfl, Nat.le_of_ble_eq_true rfl⟩) rfl rfl (lv_room (Nat.le_of_ble_eq_true rfl)) dX2_takenBy_71 (Nat.le_refl _) (Nat.le_refl _) (fun H locs hB => ?_)
        refine W.eq (g2 := F0 m 74 ls [.int r35]) rfl ?_
        refine lv_iconst (v := 2) hx hb dX2_takenBy_74 (by decide) ?_
        refine lv_idiv hx hb dX2_takenBy_75 (by decide) ?_
        refine lv_goto (tgt := 87) hx hb dX2_takenBy_76 (by decide) ?_
        obtain ⟨rfl, rfl⟩ := so_e hf
        exact rc_iret hx hb hr hlocks hB dX2_takenBy_87
    · have hf := it_t hf c30
      refine lv_iconst (v := 0) hx hb dX2_takenBy_55 (by decide) ?_
      refine lv_goto (tgt := 87) hx hb dX2_takenBy_56 (by decide) ?_
      obtain ⟨rfl, rfl⟩ := so_e hf
      exact rc_iret hx hb hr hlocks hB dX2_takenBy_87
  · have hf := it_f hf c5
    by_cases c6 : (σ.1 x1 0) = 2
    · have hf := it_t hf c6
      refine lv_tableIn (tgt := 88) hx hb dX2_takenBy_4 (by rw [c6]; decide) (by rw [c6]; decide) (by rw [c6]; rfl) (by decide) ?_
      refine lv_aload_n hx hb dX2_takenBy_88 rfl (lv_at hl 0 rfl) ?_
      refine rc_get (own := RX2) hx hb hts inC_2 hown hV hB 31 (c34 rfl hB) (ceq_31 _ _ _) rfl 4 (Nat.le_of_ble_eq_true rfl) qf_X2_93 rfl dX2_takenBy_89 ?_
      refine lv_bipush (v := 100) hx hb dX2_takenBy_92 (by decide) ?_
      refine lv_icmp_lt (tgt := 108) hx hb dX2_takenBy_94 (by decide) (fun c26 => ?_) (fun c26 => ?_)
      · have hf := it_t hf c26
        refine lv_iconst (v := 0) hx hb dX2_takenBy_108 (by decide) ?_
        obtain ⟨rfl, rfl⟩ := so_e hf
        exact rc_iret hx hb hr hlocks hB dX2_takenBy_109
      · have hf := it_f hf c26
        refine lv_aload_n hx hb dX2_takenBy_97 rfl (lv_at hl 1 rfl) ?_
        refine lv_aload_n hx hb dX2_takenBy_98 rfl (lv_at hl 0 rfl) ?_
        refine rc_get (own := RX2) hx hb hts inC_2 hown hV hB 31 (c34 rfl hB) (ceq_31 _ _ _) rfl 1 (Nat.le_of_ble_eq_true rfl) qf_X2_9 rfl dX2_takenBy_99 ?_
        obtain ⟨k29, hf⟩ := ck_e hf
        obtain ⟨r27, σ28, hkr27, hf⟩ := bd_e hf
        refine rc_callV (own := RX2) (av := [.ref (ad 32)]) (rest := []) (rv := (some (.int r27))) hx hb hml hown hts hl.1 hV hB x1 (pk_s k29).2.1 (ceq_L k29) rfl (cc_X1_byLaw l D ad cy z n σ x1 hkr27) (kwc_X2_112  hts ⟨Nat.le_of_ble_eq_true rfl, Nat.le_of_ble_eq_true rfl⟩) rfl rfl (lv_room (Nat.le_of_ble_eq_true rfl)) dX2_takenBy_102 (Nat.le_refl _) (Nat.le_refl _) (fun H locs hB => ?_)
        refine W.eq (g2 := F0 m 105 ls [.int r27]) rfl ?_
        refine lv_goto (tgt := 109) hx hb dX2_takenBy_105 (by decide) ?_
        obtain ⟨rfl, rfl⟩ := so_e hf
        exact rc_iret hx hb hr hlocks hB dX2_takenBy_109
    · have hf := it_f hf c6
      by_cases c7 : (σ.1 x1 0) = 3
      · have hf := it_t hf c7
        refine lv_tableIn (tgt := 110) hx hb dX2_takenBy_4 (by rw [c7]; decide) (by rw [c7]; decide) (by rw [c7]; rfl) (by decide) ?_
        refine lv_aload_n hx hb dX2_takenBy_110 rfl (lv_at hl 0 rfl) ?_
        refine rc_get (own := RX2) hx hb hts inC_2 hown hV hB 31 (c34 rfl hB) (ceq_31 _ _ _) rfl 3 (Nat.le_of_ble_eq_true rfl) qf_X2_86 rfl dX2_takenBy_111 ?_
        refine lv_bipush (v := 10) hx hb dX2_takenBy_114 (by decide) ?_
        refine lv_bipush (v := 9) hx hb dX2_takenBy_116 (by decide) ?_
        refine lv_aload_n hx hb dX2_takenBy_118 rfl (lv_at hl 0 rfl) ?_
        refine rc_get (own := RX2) hx hb hts inC_2 hown hV hB 31 (c34 rfl hB) (ceq_31 _ _ _) rfl 1 (Nat.le_of_ble_eq_true rfl) qf_X2_9 rfl dX2_takenBy_119 ?_
        refine lv_iconst (v := 4) hx hb dX2_takenBy_122 (by decide) ?_
        refine rc_ald hx hb hV hB 32 (c34 rfl hB) (ceq_32 _ _ _) (by decide) dX2_takenBy_123 ?_
        refine lv_topi (fun y21 ey21 => ?_)
        have hf := sq_e hf y21 ey21
        refine lv_isub hx hb dX2_takenBy_124 ?_
        refine lv_imul hx hb dX2_takenBy_125 ?_
        refine lv_icmp_ge (tgt := 140) hx hb dX2_takenBy_126 (by decide) (fun c22 => ?_) (fun c22 => ?_)
        · have hf := it_t hf c22
          refine lv_iconst (v := 0) hx hb dX2_takenBy_140 (by decide) ?_
          obtain ⟨rfl, rfl⟩ := so_e hf
          exact rc_iret hx hb hr hlocks hB dX2_takenBy_141
        · have hf := it_f hf c22
          refine lv_aload_n hx hb dX2_takenBy_129 rfl (lv_at hl 1 rfl) ?_
          refine lv_aload_n hx hb dX2_takenBy_130 rfl (lv_at hl 0 rfl) ?_
          refine rc_get (own := RX2) hx hb hts inC_2 hown hV hB 31 (c34 rfl hB) (ceq_31 _ _ _) rfl 1 (Nat.le_of_ble_eq_true rfl) qf_X2_9 rfl dX2_takenBy_131 ?_
          obtain ⟨k25, hf⟩ := ck_e hf
          obtain ⟨r23, σ24, hkr23, hf⟩ := bd_e hf
          refine rc_callV (own := RX2) (av := [.ref (ad 32)]) (rest := []) (rv := (some (.int r23))) hx hb hml hown hts hl.1 hV hB x1 (pk_s k25).2.1 (ceq_L k25) rfl (cc_X1_byLaw l D ad cy z n σ x1 hkr23) (kwc_X2_112  hts ⟨Nat.le_of_ble_eq_true rfl, Nat.le_of_ble_eq_true rfl⟩) rfl rfl (lv_room (Nat.le_of_ble_eq_true rfl)) dX2_takenBy_134 (Nat.le_refl _) (Nat.le_refl _) (fun H locs hB => ?_)
          refine W.eq (g2 := F0 m 137 ls [.int r23]) rfl ?_
          refine lv_goto (tgt := 141) hx hb dX2_takenBy_137 (by decide) ?_
          obtain ⟨rfl, rfl⟩ := so_e hf
          exact rc_iret hx hb hr hlocks hB dX2_takenBy_141
      · have hf := it_f hf c7
        by_cases c8 : (σ.1 x1 0) = 4
        · have hf := it_t hf c8
          refine lv_tableIn (tgt := 142) hx hb dX2_takenBy_4 (by rw [c8]; decide) (by rw [c8]; decide) (by rw [c8]; rfl) (by decide) ?_
          refine lv_aload_n hx hb dX2_takenBy_142 rfl (lv_at hl 1 rfl) ?_
          refine lv_aload_n hx hb dX2_takenBy_143 rfl (lv_at hl 0 rfl) ?_
          refine rc_get (own := RX2) hx hb hts inC_2 hown hV hB 31 (c34 rfl hB) (ceq_31 _ _ _) rfl 1 (Nat.le_of_ble_eq_true rfl) qf_X2_9 rfl dX2_takenBy_144 ?_
          obtain ⟨k19, hf⟩ := ck_e hf
          obtain ⟨r17, σ18, hkr17, hf⟩ := bd_e hf
          refine rc_callV (own := RX2) (av := [.ref (ad 32)]) (rest := []) (rv := (some (.int r17))) hx hb hml hown hts hl.1 hV hB x1 (pk_s k19).2.1 (ceq_L k19) rfl (cc_X1_byLaw l D ad cy z n σ x1 hkr17) (kwc_X2_112  hts ⟨Nat.le_of_ble_eq_true rfl, Nat.le_of_ble_eq_true rfl⟩) rfl rfl (lv_room (Nat.le_of_ble_eq_true rfl)) dX2_takenBy_147 (Nat.le_refl _) (Nat.le_refl _) (fun H locs hB => ?_)
          refine W.eq (g2 := F0 m 150 ls [.int r17]) rfl ?_
          refine lv_bipush (v := 9) hx hb dX2_takenBy_150 (by decide) ?_
          refine lv_aload_n hx hb dX2_takenBy_152 rfl (lv_at hl 0 rfl) ?_
          refine rc_get (own := RX2) hx hb hts inC_2 hown hV hB 31 (c34 rfl hB) (ceq_31 _ _ _) rfl 1 (Nat.le_of_ble_eq_true rfl) qf_X2_9 rfl dX2_takenBy_153 ?_
          refine lv_bipush (v := 6) hx hb dX2_takenBy_156 (by decide) ?_
          refine rc_ald hx hb hV hB 32 (c34 rfl hB) (ceq_32 _ _ _) (by decide) dX2_takenBy_158 ?_
          refine lv_topi (fun y20 ey20 => ?_)
          have hf := sq_e hf y20 ey20
          refine lv_isub hx hb dX2_takenBy_159 ?_
          refine lv_imul hx hb dX2_takenBy_160 ?_
          refine lv_bipush (v := 9) hx hb dX2_takenBy_161 (by decide) ?_
          refine lv_idiv hx hb dX2_takenBy_163 (by decide) ?_
          obtain ⟨rfl, rfl⟩ := so_e hf
          exact rc_iret hx hb hr hlocks hB dX2_takenBy_164
        · have hf := it_f hf c8
          by_cases c9 : (σ.1 x1 0) = 6
          · have hf := it_t hf c9
            refine lv_tableIn (tgt := 165) hx hb dX2_takenBy_4 (by rw [c9]; decide) (by rw [c9]; decide) (by rw [c9]; rfl) (by decide) ?_
            refine lv_aload_n hx hb dX2_takenBy_165 rfl (lv_at hl 0 rfl) ?_
            refine rc_get (own := RX2) hx hb hts inC_2 hown hV hB 31 (c34 rfl hB) (ceq_31 _ _ _) rfl 5 (Nat.le_of_ble_eq_true rfl) qf_X2_48 rfl dX2_takenBy_166 ?_
            refine lv_aload_n hx hb dX2_takenBy_169 rfl (lv_at hl 1 rfl) ?_
            obtain ⟨k10, hf⟩ := ck_e hf
            refine rc_get (own := RX2) hx hb hts inC_1 hown hV hB x1 (pk_s k10).2.1 (ceq_L k10) rfl 1 (Nat.le_of_ble_eq_true rfl) qf_X2_126 rfl dX2_takenBy_170 ?_
            refine lv_icmp_lt (tgt := 198) hx hb dX2_takenBy_173 (by decide) (fun c11 => ?_) (fun c11 => ?_)
            · have hf := it_t hf c11
              refine lv_iconst (v := 0) hx hb dX2_takenBy_198 (by decide) ?_
              obtain ⟨rfl, rfl⟩ := so_e hf
              exact rc_iret hx hb hr hlocks hB dX2_takenBy_199
            · have hf := it_f hf c11
              refine lv_aload_n hx hb dX2_takenBy_176 rfl (lv_at hl 0 rfl) ?_
              refine rc_get (own := RX2) hx hb hts inC_2 hown hV hB 31 (c34 rfl hB) (ceq_31 _ _ _) rfl 5 (Nat.le_of_ble_eq_true rfl) qf_X2_48 rfl dX2_takenBy_177 ?_
              refine lv_aload_n hx hb dX2_takenBy_180 rfl (lv_at hl 1 rfl) ?_
              obtain ⟨k12, hf⟩ := ck_e hf
              refine rc_get (own := RX2) hx hb hts inC_1 hown hV hB x1 (pk_s k12).2.1 (ceq_L k12) rfl 2 (Nat.le_of_ble_eq_true rfl) qf_X2_129 rfl dX2_takenBy_181 ?_
              refine lv_icmp_gt (tgt := 198) hx hb dX2_takenBy_184 (by decide) (fun c13 => ?_) (fun c13 => ?_)
              · have hf := it_t hf c13
                refine lv_iconst (v := 0) hx hb dX2_takenBy_198 (by decide) ?_
                obtain ⟨rfl, rfl⟩ := so_e hf
                exact rc_iret hx hb hr hlocks hB dX2_takenBy_199
              · have hf := it_f hf c13
                refine lv_aload_n hx hb dX2_takenBy_187 rfl (lv_at hl 1 rfl) ?_
                refine lv_aload_n hx hb dX2_takenBy_188 rfl (lv_at hl 0 rfl) ?_
                refine rc_get (own := RX2) hx hb hts inC_2 hown hV hB 31 (c34 rfl hB) (ceq_31 _ _ _) rfl 1 (Nat.le_of_ble_eq_true rfl) qf_X2_9 rfl dX2_takenBy_189 ?_
                obtain ⟨k16, hf⟩ := ck_e hf
                obtain ⟨r14, σ15, hkr14, hf⟩ := bd_e hf
                refine rc_callV (own := RX2) (av := [.ref (ad 32)]) (rest := []) (rv := (some (.int r14))) hx hb hml hown hts hl.1 hV hB x1 (pk_s k16).2.1 (ceq_L k16) rfl (cc_X1_byLaw l D ad cy z n σ x1 hkr14) (kwc_X2_112  hts ⟨Nat.le_of_ble_eq_true rfl, Nat.le_of_ble_eq_true rfl⟩) rfl rfl (lv_room (Nat.le_of_ble_eq_true rfl)) dX2_takenBy_192 (Nat.le_refl _) (Nat.le_refl _) (fun H locs hB => ?_)
                refine W.eq (g2 := F0 m 195 ls [.int r14]) rfl ?_
                refine lv_goto (tgt := 199) hx hb dX2_takenBy_195 (by decide) ?_
                obtain ⟨rfl, rfl⟩ := so_e hf
                exact rc_iret hx hb hr hlocks hB dX2_takenBy_199
          · have hf := it_f hf c9
            refine sw_d (tgt := 200) hx hb dX2_takenBy_4 (by have n_0 := lv_neT c5 (a := 0) (by decide); have n_2 := lv_neT c6 (a := 2) (by decide); have n_3 := lv_neT c7 (a := 3) (by decide); have n_4 := lv_neT c8 (a := 4) (by decide); have n_6 := lv_neT c9 (a := 6) (by decide); rcases (show ((σ.1 x1 0)).toInt < 0 ∨ 6 < ((σ.1 x1 0)).toInt ∨ ((σ.1 x1 0)).toInt = 1 ∨ ((σ.1 x1 0)).toInt = 5 by omega) with q | q | q | q; exact Or.inl q; exact Or.inr (Or.inl q); exact Or.inr (Or.inr (by rw [q]; rfl)); exact Or.inr (Or.inr (by rw [q]; rfl))) (by decide) ?_
            refine lv_aload_n hx hb dX2_takenBy_200 rfl (lv_at hl 1 rfl) ?_
            refine lv_aload_n hx hb dX2_takenBy_201 rfl (lv_at hl 0 rfl) ?_
            refine rc_get (own := RX2) hx hb hts inC_2 hown hV hB 31 (c34 rfl hB) (ceq_31 _ _ _) rfl 1 (Nat.le_of_ble_eq_true rfl) qf_X2_9 rfl dX2_takenBy_202 ?_
            obtain ⟨k4, hf⟩ := ck_e hf
            obtain ⟨r2, σ3, hkr2, hf⟩ := bd_e hf
            refine rc_callV (own := RX2) (av := [.ref (ad 32)]) (rest := []) (rv := (some (.int r2))) hx hb hml hown hts hl.1 hV hB x1 (pk_s k4).2.1 (ceq_L k4) rfl (cc_X1_byLaw l D ad cy z n σ x1 hkr2) (kwc_X2_112  hts ⟨Nat.le_of_ble_eq_true rfl, Nat.le_of_ble_eq_true rfl⟩) rfl rfl (lv_room (Nat.le_of_ble_eq_true rfl)) dX2_takenBy_205 (Nat.le_refl _) (Nat.le_refl _) (fun H locs hB => ?_)
            refine W.eq (g2 := F0 m 208 ls [.int r2]) rfl ?_
            obtain ⟨rfl, rfl⟩ := so_e hf
            exact rc_iret hx hb hr hlocks hB dX2_takenBy_208
theorem cc_X2_takenBy (l : Launch) (D : va_G) (ad : Nat → Nat) (cy : CY) (z : CZ) (n : Nat) (σ : CS) (x1 : Nat) {r0 : Int32} {σ0 : CS} (hf : fc_X2_takenBy n σ x1 = some (r0, σ0)) : cM l yX2_takenBy wn_X2_takenBy rm_X2_takenBy D ad cy z [.ref (ad 31), .ref (ad x1)] σ (some (.int r0)) σ0 :=
  rc_met (ret := (some .int)) (by decide) rfl (Nat.le_of_ble_eq_true rfl) (fun p e s m below meth c A ls hc hV hB hl => tbc_X2_takenBy_0 hc hV n σ x1 hB hl hf)
/-! X2_endBy -/
abbrev rm_X2_endBy : Room := { frames := 0, cells := 0, slots := 0, locals := 0 }
abbrev wn_X2_endBy : List Cond := .code yX2_endBy cX2_endBy 3 (some .int) :: wsC
def fc_X2_endBy (n : Nat) (σ : CS) (x1 : Int32) (x2 : Int32) : Option ((Int32) × CS) := if ((σ.1 31 3) = 0) then (some (1, σ)) else (if (x2 = 0) then (if (x1 = 0) then (some (3, σ)) else (if ((σ.1 31 5) < 9999) then (some (0, σ)) else (some (4, σ)))) else (some (2, σ)))
set_option maxRecDepth 100000 in
set_option maxHeartbeats 4000000 in
theorem tbc_X2_endBy_0 {p : Program} {l : Launch} {e : Env} {s : State} {m : MethodId} {args : Array Value} {below : List Frame} {meth : Method} {c : Code} {D : va_G} {A : Nat → Prop} {ad : Nat → Nat} {cy : CY} {z : CZ} {r0 : Int32} {σ0 : CS} (hc : cxB RX2 wsC cX2_endBy 3 (some .int) p s m args meth c) (hV : cV D cy z A s) (n : Nat) (σ : CS) (x1 : Int32) (x2 : Int32) {H : Heap} {locs : List Loc} {ls : Array Slot} (hB : cB D ad cy A s.heap σ H locs) (hl : lv_has ls 3 [(0, .ref (ad 31)), (1, .int x1), (2, .int x2)]) (hf : fc_X2_endBy n σ x1 x2 = some (r0, σ0)) : W p l e rm_X2_endBy s m args below meth c H locs 0 0 (MQ below (cQ D ad cy A (some (.int r0)) σ0) args s 0 0 A) (F0 m 0 ls []) := by
  obtain ⟨hx, hb, hml, hown, hts, hr, hlocks⟩ := id hc
  unfold fc_X2_endBy at hf
  refine lv_aload_n hx hb dX2_endBy_0 rfl (lv_at hl 0 rfl) ?_
  refine rc_get (own := RX2) hx hb hts inC_2 hown hV hB 31 (c34 rfl hB) (ceq_31 _ _ _) rfl 3 (Nat.le_of_ble_eq_true rfl) qf_X2_86 rfl dX2_endBy_1 ?_
  refine lv_if_ne (tgt := 9) hx hb dX2_endBy_4 (by decide) (fun c1 => ?_) (fun c1 => ?_)
  · have hf := it_f hf c1
    refine lv_iload_n hx hb dX2_endBy_9 rfl (lv_at hl 2 rfl) ?_
    refine lv_if_eq (tgt := 15) hx hb dX2_endBy_10 (by decide) (fun c2 => ?_) (fun c2 => ?_)
    · have hf := it_t hf c2
      refine lv_iload_n hx hb dX2_endBy_15 rfl (lv_at hl 1 rfl) ?_
      refine lv_if_ne (tgt := 21) hx hb dX2_endBy_16 (by decide) (fun c3 => ?_) (fun c3 => ?_)
      · have hf := it_f hf c3
        refine lv_aload_n hx hb dX2_endBy_21 rfl (lv_at hl 0 rfl) ?_
        refine rc_get (own := RX2) hx hb hts inC_2 hown hV hB 31 (c34 rfl hB) (ceq_31 _ _ _) rfl 5 (Nat.le_of_ble_eq_true rfl) qf_X2_48 rfl dX2_endBy_22 ?_
        refine lv_sipush (v := 9999) hx hb dX2_endBy_25 (by decide) ?_
        refine lv_icmp_lt (tgt := 35) hx hb dX2_endBy_28 (by decide) (fun c4 => ?_) (fun c4 => ?_)
        · have hf := it_t hf c4
          refine lv_iconst (v := 0) hx hb dX2_endBy_35 (by decide) ?_
          obtain ⟨rfl, rfl⟩ := so_e hf
          exact rc_iret hx hb hr hlocks hB dX2_endBy_36
        · have hf := it_f hf c4
          refine lv_iconst (v := 4) hx hb dX2_endBy_31 (by decide) ?_
          refine lv_goto (tgt := 36) hx hb dX2_endBy_32 (by decide) ?_
          obtain ⟨rfl, rfl⟩ := so_e hf
          exact rc_iret hx hb hr hlocks hB dX2_endBy_36
      · have hf := it_t hf c3
        refine lv_iconst (v := 3) hx hb dX2_endBy_19 (by decide) ?_
        obtain ⟨rfl, rfl⟩ := so_e hf
        exact rc_iret hx hb hr hlocks hB dX2_endBy_20
    · have hf := it_f hf c2
      refine lv_iconst (v := 2) hx hb dX2_endBy_13 (by decide) ?_
      obtain ⟨rfl, rfl⟩ := so_e hf
      exact rc_iret hx hb hr hlocks hB dX2_endBy_14
  · have hf := it_t hf c1
    refine lv_iconst (v := 1) hx hb dX2_endBy_7 (by decide) ?_
    obtain ⟨rfl, rfl⟩ := so_e hf
    exact rc_iret hx hb hr hlocks hB dX2_endBy_8
theorem cc_X2_endBy (l : Launch) (D : va_G) (ad : Nat → Nat) (cy : CY) (z : CZ) (n : Nat) (σ : CS) (x1 : Int32) (x2 : Int32) {r0 : Int32} {σ0 : CS} (hf : fc_X2_endBy n σ x1 x2 = some (r0, σ0)) : cM l yX2_endBy wn_X2_endBy rm_X2_endBy D ad cy z [.ref (ad 31), .int x1, .int x2] σ (some (.int r0)) σ0 :=
  rc_met (ret := (some .int)) (by decide) rfl (Nat.le_of_ble_eq_true rfl) (fun p e s m below meth c A ls hc hV hB hl => tbc_X2_endBy_0 hc hV n σ x1 x2 hB hl hf)
/-! X2_advance -/
theorem kwc_X2_99 {R : Room} {s : State} {args : Array Value} (hts : ∀ w ∈ wsC, w.before args s = true) (hR : rm_X0_lossAt.frames + 1 ≤ R.frames ∧ 8 + (2 + 11) + rm_X0_lossAt.locals ≤ R.locals) : CallW R s args RX2 RX0 99 yX0_lossAt cX0_lossAt 2 (some (.object "PlateRings$Loss")) wn_X0_lossAt rm_X0_lossAt 0 0 1 := cwV 1 hts (gC_v qc_123 qc_124 qc_125 qc_126 qc_127) rfl rfl rfl (by decide +kernel) hR
theorem kwc_X2_103 {R : Room} {s : State} {args : Array Value} (hts : ∀ w ∈ wsC, w.before args s = true) (hR : rm_X2_takenBy.frames + 1 ≤ R.frames ∧ 8 + (2 + 11) + rm_X2_takenBy.locals ≤ R.locals) : CallW R s args RX2 RX2 103 yX2_takenBy cX2_takenBy 2 (some .int) wn_X2_takenBy rm_X2_takenBy 0 0 1 := cwV 1 hts (gC_v qc_128 qc_129 qc_130 qc_108 qc_120) rfl rfl rfl (by decide +kernel) hR
theorem kwc_X2_122 {R : Room} {s : State} {args : Array Value} (hts : ∀ w ∈ wsC, w.before args s = true) (hR : rm_X2_endBy.frames + 1 ≤ R.frames ∧ 8 + (3 + 11) + rm_X2_endBy.locals ≤ R.locals) : CallW R s args RX2 RX2 122 yX2_endBy cX2_endBy 3 (some .int) wn_X2_endBy rm_X2_endBy 0 0 2 := cwV 2 hts (gC_v qc_131 qc_132 qc_133 qc_108 qc_121) rfl rfl rfl (by decide +kernel) hR
abbrev rm_X2_advance : Room := { frames := 3, cells := 0, slots := 0, locals := 108 }
abbrev wn_X2_advance : List Cond := .code yX2_advance cX2_advance 6 none :: wsC
def bc_X2_advance_128 (n : Nat) (σ : CS) (x1 : Int32) (x2 : Int32) : Option ((Int32) × CS) := sq (if 0 < ((σ.1 31 3) - (x1 * (σ.1 31 8))) then ((σ.1 31 3) - (x1 * (σ.1 31 8))) else 0 : Int32) (fun y1 => bd (fc_X2_leanTo n σ y1) (fun _ σ3 => sq (cp σ3 31 5 ((σ3.1 31 5) + (σ3.1 31 8))) (fun σ4 => bd (fc_X2_endBy n σ4 x1 x2) (fun r5 σ6 => sq (cp σ6 31 6 r5) (fun σ7 => some (0, σ7))))))
set_option maxRecDepth 100000 in
set_option maxHeartbeats 4000000 in
theorem tbc_X2_advance_128 {p : Program} {l : Launch} {e : Env} {s : State} {m : MethodId} {args : Array Value} {below : List Frame} {meth : Method} {c : Code} {D : va_G} {A : Nat → Prop} {ad : Nat → Nat} {cy : CY} {z : CZ} {r0 : Int32} {σ0 : CS} (hc : cxB RX2 wsC cX2_advance 6 none p s m args meth c) (hV : cV D cy z A s) (n : Nat) (σ : CS) (x1 : Int32) (x2 : Int32) {H : Heap} {locs : List Loc} {ls : Array Slot} (hB : cB D ad cy A s.heap σ H locs) (hl : lv_has ls 6 [(0, .ref (ad 31)), (1, .int x1), (2, .int x2)]) (hf : bc_X2_advance_128 n σ x1 x2 = some (r0, σ0)) : W p l e rm_X2_advance s m args below meth c H locs 0 0 (MQ below (cQ D ad cy A none σ0) args s 0 0 A) (F0 m 128 ls []) := by
  obtain ⟨hx, hb, hml, hown, hts, hr, hlocks⟩ := id hc
  unfold bc_X2_advance_128 at hf
  refine lv_aload_n hx hb dX2_advance_128 rfl (lv_at hl 0 rfl) ?_
  refine lv_iconst (v := 0) hx hb dX2_advance_129 (by decide) ?_
  refine lv_aload_n hx hb dX2_advance_130 rfl (lv_at hl 0 rfl) ?_
  refine rc_get (own := RX2) hx hb hts inC_2 hown hV hB 31 (c34 rfl hB) (ceq_31 _ _ _) rfl 3 (Nat.le_of_ble_eq_true rfl) qf_X2_86 rfl dX2_advance_131 ?_
  refine lv_iload_n hx hb dX2_advance_134 rfl (lv_at hl 1 rfl) ?_
  refine lv_aload_n hx hb dX2_advance_135 rfl (lv_at hl 0 rfl) ?_
  refine rc_get (own := RX2) hx hb hts inC_2 hown hV hB 31 (c34 rfl hB) (ceq_31 _ _ _) rfl 8 (Nat.le_of_ble_eq_true rfl) qf_X2_57 rfl dX2_advance_136 ?_
  refine lv_imul hx hb dX2_advance_139 ?_
  refine lv_isub hx hb dX2_advance_140 ?_
  refine va_mmax hx hb (hml.trans hl.1.symm) hown (hts _ qc_122) (hts _ qc_72) (hts _ qc_69) (hts _ qc_73) (Nat.le_of_ble_eq_true rfl) (Nat.le_of_ble_eq_true rfl) (Nat.le_refl _) (Nat.le_refl _) dX2_advance_141 ?_
  refine lv_topi (fun y1 ey1 => ?_)
  have hf := sq_e hf y1 ey1
  obtain ⟨r2, σ3, hkr2, hf⟩ := bd_e hf
  refine rc_callV (own := RX2) (av := [.int y1]) (rest := []) (rv := none) hx hb hml hown hts hl.1 hV hB 31 (c34 rfl hB) (ceq_31 _ _ _) rfl (cc_X2_leanTo l D ad cy z n σ y1 hkr2) (kwc_X2_70  hts ⟨Nat.le_of_ble_eq_true rfl, Nat.le_of_ble_eq_true rfl⟩) rfl rfl (lv_room (Nat.le_of_ble_eq_true rfl)) dX2_advance_144 (Nat.le_refl _) (Nat.le_refl _) (fun H locs hB => ?_)
  refine W.eq (g2 := F0 m 147 ls []) rfl ?_
  refine lv_aload_n hx hb dX2_advance_147 rfl (lv_at hl 0 rfl) ?_
  refine lv_dup hx hb dX2_advance_148 rfl ?_
  refine rc_get (own := RX2) hx hb hts inC_2 hown hV hB 31 (c34 rfl hB) (ceq_31 _ _ _) rfl 5 (Nat.le_of_ble_eq_true rfl) qf_X2_48 rfl dX2_advance_149 ?_
  refine lv_aload_n hx hb dX2_advance_152 rfl (lv_at hl 0 rfl) ?_
  refine rc_get (own := RX2) hx hb hts inC_2 hown hV hB 31 (c34 rfl hB) (ceq_31 _ _ _) rfl 8 (Nat.le_of_ble_eq_true rfl) qf_X2_57 rfl dX2_advance_153 ?_
  refine lv_iadd hx hb dX2_advance_156 ?_
  refine rc_puti (own := RX2) (ty := .int) hx hb hts inC_2 hown hV hB 31 (c34 rfl hB) (ceq_31 _ _ _) rfl 5 (Nat.le_of_ble_eq_true rfl) qf_X2_48 tyX2 tyX2_ok nmX2 (cst_31_5 _ _ _ _) rfl pdc_2_5 rfl rfl (Nat.le_of_ble_eq_true rfl) dX2_advance_157 (fun σ4 eσ4 H locs hB => ?_)
  have hf := sq_e hf σ4 eσ4
  refine lv_aload_n hx hb dX2_advance_160 rfl (lv_at hl 0 rfl) ?_
  refine lv_aload_n hx hb dX2_advance_161 rfl (lv_at hl 0 rfl) ?_
  refine lv_iload_n hx hb dX2_advance_162 rfl (lv_at hl 1 rfl) ?_
  refine lv_iload_n hx hb dX2_advance_163 rfl (lv_at hl 2 rfl) ?_
  obtain ⟨r5, σ6, hkr5, hf⟩ := bd_e hf
  refine rc_callV (own := RX2) (av := [.int x1, .int x2]) (rest := [.ref (ad 31)]) (rv := (some (.int r5))) hx hb hml hown hts hl.1 hV hB 31 (c34 rfl hB) (ceq_31 _ _ _) rfl (cc_X2_endBy l D ad cy z n σ4 x1 x2 hkr5) (kwc_X2_122  hts ⟨Nat.le_of_ble_eq_true rfl, Nat.le_of_ble_eq_true rfl⟩) rfl rfl (lv_room (Nat.le_of_ble_eq_true rfl)) dX2_advance_164 (Nat.le_refl _) (Nat.le_refl _) (fun H locs hB => ?_)
  refine W.eq (g2 := F0 m 167 ls [.int r5, .ref (ad 31)]) rfl ?_
  refine rc_puti (own := RX2) (ty := .int) hx hb hts inC_2 hown hV hB 31 (c34 rfl hB) (ceq_31 _ _ _) rfl 6 (Nat.le_of_ble_eq_true rfl) qf_X2_51 tyX2 tyX2_ok nmX2 (cst_31_6 _ _ _ _) rfl pdc_2_6 rfl rfl (Nat.le_of_ble_eq_true rfl) dX2_advance_167 (fun σ7 eσ7 H locs hB => ?_)
  have hf := sq_e hf σ7 eσ7
  obtain ⟨rfl, rfl⟩ := so_e hf
  exact rc_vret hx hb hr hlocks hB dX2_advance_170
def bc_X2_advance_87 (n : Nat) (K6 : CS → Int32 → Int32 → Int32 → Option ((Int32) × CS)) (σ : CS) (x1 : Int32) (x3 : Int32) (t0 : Int32) : Option ((Int32) × CS) := sq ((t0 ||| 0) : Int32) (fun y1 => sq (x3 + 1 : Int32) (fun y2 => K6 σ x1 y1 y2))
set_option maxRecDepth 100000 in
set_option maxHeartbeats 4000000 in
theorem tbc_X2_advance_87 {p : Program} {l : Launch} {e : Env} {s : State} {m : MethodId} {args : Array Value} {below : List Frame} {meth : Method} {c : Code} {D : va_G} {A : Nat → Prop} {ad : Nat → Nat} {cy : CY} {z : CZ} {r0 : Int32} {σ0 : CS} (hc : cxB RX2 wsC cX2_advance 6 none p s m args meth c) (hV : cV D cy z A s) (n : Nat) (K6 : CS → Int32 → Int32 → Int32 → Option ((Int32) × CS)) (hK6 : ∀ (σ : CS) (x1 : Int32) (x2 : Int32) (x3 : Int32) (H : Heap) (locs : List Loc) (ls : Array Slot), cB D ad cy A s.heap σ H locs → lv_has ls 6 [(0, .ref (ad 31)), (1, .int x1), (2, .int x2), (3, .int x3)] → K6 σ x1 x2 x3 = some (r0, σ0) → W p l e rm_X2_advance s m args below meth c H locs 0 0 (MQ below (cQ D ad cy A none σ0) args s 0 0 A) (F0 m 6 ls [])) (σ : CS) (x1 : Int32) (x3 : Int32) (t0 : Int32) {H : Heap} {locs : List Loc} {ls : Array Slot} (hB : cB D ad cy A s.heap σ H locs) (hl : lv_has ls 6 [(0, .ref (ad 31)), (1, .int x1), (3, .int x3)]) (hf : bc_X2_advance_87 n K6 σ x1 x3 t0 = some (r0, σ0)) : W p l e rm_X2_advance s m args below meth c H locs 0 0 (MQ below (cQ D ad cy A none σ0) args s 0 0 A) (F0 m 87 ls [.int t0]) := by
  obtain ⟨hx, hb, hml, hown, hts, hr, hlocks⟩ := id hc
  unfold bc_X2_advance_87 at hf
  refine lv_iconst (v := 0) hx hb dX2_advance_87 (by decide) ?_
  refine lv_ior hx hb dX2_advance_88 ?_
  refine lv_topi (fun y1 ey1 => ?_)
  have hf := sq_e hf y1 ey1
  refine lv_istore_n (lv' := [(2, .int y1), (0, .ref (ad 31)), (1, .int x1), (3, .int x3)]) hx hb dX2_advance_89 rfl hl (by decide) rfl (fun ls hl => ?_)
  obtain ⟨y2, ey2⟩ : ∃ z : Int32, z = x3 + 1 := ⟨_, rfl⟩
  have hf := sq_e hf y2 ey2
  refine lv_iinc (v := y2) (lv' := [(3, .int y2), (2, .int y1), (0, .ref (ad 31)), (1, .int x1)]) hx hb dX2_advance_90 hl (k := 3) rfl (by rw [ey2]; rfl) (by decide) rfl (fun ls hl => ?_)
  refine lv_goto (tgt := 6) hx hb dX2_advance_93 (by decide) ?_
  exact hK6 σ x1 y1 y2 _ _ _ hB (lv_sub hl [2, 3, 1, 0] rfl) hf
def bc_X2_advance_48 (n : Nat) (K6 : CS → Int32 → Int32 → Int32 → Option ((Int32) × CS)) (σ : CS) (x1 : Int32) (x2 : Int32) (x3 : Int32) (x4 : Option Nat) (t0 : Int32) : Option ((Int32) × CS) := oc x4 (ck (ib x3 8) (sq (cp σ 33 (Int32.toNatClampNeg x3) t0) (fun σ3 => sq ((x1 + t0) : Int32) (fun y4 => if (t0 ≤ 0) then (bc_X2_advance_87 n K6 σ3 y4 x3 x2) else (bc_X2_advance_87 n K6 σ3 y4 x3 x2))))) (fun q1 => ck (ib x3 8) (sq (cp σ 33 (Int32.toNatClampNeg x3) t0) (fun σ7 => sq ((x1 + t0) : Int32) (fun y8 => if (t0 ≤ 0) then (bc_X2_advance_87 n K6 σ7 y8 x3 x2) else (ck (pk σ7 q1 1) (if ((σ7.1 q1 0) = 3) then (sq ((x2 ||| 1) : Int32) (fun y12 => sq (x3 + 1 : Int32) (fun y13 => K6 σ7 y8 y12 y13))) else (bc_X2_advance_87 n K6 σ7 y8 x3 x2)))))))
set_option maxRecDepth 100000 in
set_option maxHeartbeats 4000000 in
theorem tbc_X2_advance_48 {p : Program} {l : Launch} {e : Env} {s : State} {m : MethodId} {args : Array Value} {below : List Frame} {meth : Method} {c : Code} {D : va_G} {A : Nat → Prop} {ad : Nat → Nat} {cy : CY} {z : CZ} {r0 : Int32} {σ0 : CS} (hc : cxB RX2 wsC cX2_advance 6 none p s m args meth c) (hV : cV D cy z A s) (n : Nat) (K6 : CS → Int32 → Int32 → Int32 → Option ((Int32) × CS)) (hK6 : ∀ (σ : CS) (x1 : Int32) (x2 : Int32) (x3 : Int32) (H : Heap) (locs : List Loc) (ls : Array Slot), cB D ad cy A s.heap σ H locs → lv_has ls 6 [(0, .ref (ad 31)), (1, .int x1), (2, .int x2), (3, .int x3)] → K6 σ x1 x2 x3 = some (r0, σ0) → W p l e rm_X2_advance s m args below meth c H locs 0 0 (MQ below (cQ D ad cy A none σ0) args s 0 0 A) (F0 m 6 ls [])) (σ : CS) (x1 : Int32) (x2 : Int32) (x3 : Int32) (x4 : Option Nat) (t0 : Int32) {H : Heap} {locs : List Loc} {ls : Array Slot} (hB : cB D ad cy A s.heap σ H locs) (hl : lv_has ls 6 [(0, .ref (ad 31)), (1, .int x1), (2, .int x2), (3, .int x3), (4, va_rf (Option.map ad x4))]) (hf : bc_X2_advance_48 n K6 σ x1 x2 x3 x4 t0 = some (r0, σ0)) : W p l e rm_X2_advance s m args below meth c H locs 0 0 (MQ below (cQ D ad cy A none σ0) args s 0 0 A) (F0 m 48 ls [.int t0]) := by
  obtain ⟨hx, hb, hml, hown, hts, hr, hlocks⟩ := id hc
  unfold bc_X2_advance_48 at hf
  rcases x4 with _ | q1
  · have hf := oc_n hf
    refine lv_istore (lv' := [(5, .int t0), (0, .ref (ad 31)), (1, .int x1), (2, .int x2), (3, .int x3), (4, .null)]) hx hb dX2_advance_48 hl (by decide) rfl (fun ls hl => ?_)
    refine lv_aload_n hx hb dX2_advance_50 rfl (lv_at hl 1 rfl) ?_
    refine rc_get (own := RX2) hx hb hts inC_2 hown hV hB 31 (c34 rfl hB) (ceq_31 _ _ _) rfl 2 (Nat.le_of_ble_eq_true rfl) qf_X2_15 rfl dX2_advance_51 ?_
    refine lv_iload_n hx hb dX2_advance_54 rfl (lv_at hl 4 rfl) ?_
    refine lv_iload hx hb dX2_advance_55 (lv_at hl 0 rfl) ?_
    obtain ⟨k2, hf⟩ := ck_e hf
    refine rc_ast hx hb hV hB 33 (c34 rfl hB) (ceq_33 _ _ _) (fun _ => rfl) k2 dX2_advance_57 (fun σ3 eσ3 H locs hB => ?_)
    have hf := sq_e hf σ3 eσ3
    refine lv_iload_n hx hb dX2_advance_58 rfl (lv_at hl 2 rfl) ?_
    refine lv_iload hx hb dX2_advance_59 (lv_at hl 0 rfl) ?_
    refine lv_iadd hx hb dX2_advance_61 ?_
    refine lv_topi (fun y4 ey4 => ?_)
    have hf := sq_e hf y4 ey4
    refine lv_istore_n (lv' := [(1, .int y4), (5, .int t0), (0, .ref (ad 31)), (2, .int x2), (3, .int x3), (4, .null)]) hx hb dX2_advance_62 rfl hl (by decide) rfl (fun ls hl => ?_)
    refine lv_iload_n hx hb dX2_advance_63 rfl (lv_at hl 3 rfl) ?_
    refine lv_iload hx hb dX2_advance_64 (lv_at hl 1 rfl) ?_
    refine lv_if_le (tgt := 87) hx hb dX2_advance_66 (by decide) (fun c5 => ?_) (fun c5 => ?_)
    · have hf := it_t hf c5
      exact tbc_X2_advance_87 hc hV n K6 hK6 σ3 y4 x3 x2 hB (lv_sub hl [2, 0, 4] rfl) hf
    · have hf := it_f hf c5
      refine lv_aloadN hx hb dX2_advance_69 (lv_at hl 5 rfl) ?_
      refine lv_ifnullN (tgt := 87) hx hb dX2_advance_71 (by decide) ?_
      exact tbc_X2_advance_87 hc hV n K6 hK6 σ3 y4 x3 x2 hB (lv_sub hl [2, 0, 4] rfl) hf
  · have hf := oc_s hf
    refine lv_istore (lv' := [(5, .int t0), (0, .ref (ad 31)), (1, .int x1), (2, .int x2), (3, .int x3), (4, .ref (ad q1))]) hx hb dX2_advance_48 hl (by decide) rfl (fun ls hl => ?_)
    refine lv_aload_n hx hb dX2_advance_50 rfl (lv_at hl 1 rfl) ?_
    refine rc_get (own := RX2) hx hb hts inC_2 hown hV hB 31 (c34 rfl hB) (ceq_31 _ _ _) rfl 2 (Nat.le_of_ble_eq_true rfl) qf_X2_15 rfl dX2_advance_51 ?_
    refine lv_iload_n hx hb dX2_advance_54 rfl (lv_at hl 4 rfl) ?_
    refine lv_iload hx hb dX2_advance_55 (lv_at hl 0 rfl) ?_
    obtain ⟨k6, hf⟩ := ck_e hf
    refine rc_ast hx hb hV hB 33 (c34 rfl hB) (ceq_33 _ _ _) (fun _ => rfl) k6 dX2_advance_57 (fun σ7 eσ7 H locs hB => ?_)
    have hf := sq_e hf σ7 eσ7
    refine lv_iload_n hx hb dX2_advance_58 rfl (lv_at hl 2 rfl) ?_
    refine lv_iload hx hb dX2_advance_59 (lv_at hl 0 rfl) ?_
    refine lv_iadd hx hb dX2_advance_61 ?_
    refine lv_topi (fun y8 ey8 => ?_)
    have hf := sq_e hf y8 ey8
    refine lv_istore_n (lv' := [(1, .int y8), (5, .int t0), (0, .ref (ad 31)), (2, .int x2), (3, .int x3), (4, .ref (ad q1))]) hx hb dX2_advance_62 rfl hl (by decide) rfl (fun ls hl => ?_)
    refine lv_iload_n hx hb dX2_advance_63 rfl (lv_at hl 3 rfl) ?_
    refine lv_iload hx hb dX2_advance_64 (lv_at hl 1 rfl) ?_
    refine lv_if_le (tgt := 87) hx hb dX2_advance_66 (by decide) (fun c9 => ?_) (fun c9 => ?_)
    · have hf := it_t hf c9
      exact tbc_X2_advance_87 hc hV n K6 hK6 σ7 y8 x3 x2 hB (lv_sub hl [2, 0, 4] rfl) hf
    · have hf := it_f hf c9
      refine lv_aload hx hb dX2_advance_69 (lv_at hl 5 rfl) ?_
      refine lv_ifnull hx hb dX2_advance_71 ?_
      refine lv_aload hx hb dX2_advance_74 (lv_at hl 5 rfl) ?_
      obtain ⟨k10, hf⟩ := ck_e hf
      refine rc_get (own := RX2) hx hb hts inC_1 hown hV hB q1 (pk_s k10).2.1 (ceq_L k10) rfl 0 (Nat.le_of_ble_eq_true rfl) qf_X2_107 rfl dX2_advance_76 ?_
      refine lv_iconst (v := 3) hx hb dX2_advance_79 (by decide) ?_
      refine lv_icmp_ne (tgt := 87) hx hb dX2_advance_80 (by decide) (fun c11 => ?_) (fun c11 => ?_)
      · have hf := it_f hf c11
        exact tbc_X2_advance_87 hc hV n K6 hK6 σ7 y8 x3 x2 hB (lv_sub hl [2, 0, 4] rfl) hf
      · have hf := it_t hf c11
        refine lv_iconst (v := 1) hx hb dX2_advance_83 (by decide) ?_
        refine lv_goto (tgt := 88) hx hb dX2_advance_84 (by decide) ?_
        refine lv_ior hx hb dX2_advance_88 ?_
        refine lv_topi (fun y12 ey12 => ?_)
        have hf := sq_e hf y12 ey12
        refine lv_istore_n (lv' := [(2, .int y12), (1, .int y8), (5, .int t0), (0, .ref (ad 31)), (3, .int x3), (4, .ref (ad q1))]) hx hb dX2_advance_89 rfl hl (by decide) rfl (fun ls hl => ?_)
        obtain ⟨y13, ey13⟩ : ∃ z : Int32, z = x3 + 1 := ⟨_, rfl⟩
        have hf := sq_e hf y13 ey13
        refine lv_iinc (v := y13) (lv' := [(3, .int y13), (2, .int y12), (1, .int y8), (5, .int t0), (0, .ref (ad 31)), (4, .ref (ad q1))]) hx hb dX2_advance_90 hl (k := 4) rfl (by rw [ey13]; rfl) (by decide) rfl (fun ls hl => ?_)
        refine lv_goto (tgt := 6) hx hb dX2_advance_93 (by decide) ?_
        exact hK6 σ7 y8 y12 y13 _ _ _ hB (lv_sub hl [4, 2, 1, 0] rfl) hf
def bc_X2_advance_38 (n : Nat) (K6 : CS → Int32 → Int32 → Int32 → Option ((Int32) × CS)) (σ : CS) (x1 : Int32) (x2 : Int32) (x3 : Int32) (x4 : Option Nat) : Option ((Int32) × CS) := oc x4 (bc_X2_advance_48 n K6 σ x1 x2 x3 none 0) (fun q1 => bc_X2_advance_48 n K6 σ x1 x2 x3 (some q1) 0)
set_option maxRecDepth 100000 in
set_option maxHeartbeats 4000000 in
theorem tbc_X2_advance_38 {p : Program} {l : Launch} {e : Env} {s : State} {m : MethodId} {args : Array Value} {below : List Frame} {meth : Method} {c : Code} {D : va_G} {A : Nat → Prop} {ad : Nat → Nat} {cy : CY} {z : CZ} {r0 : Int32} {σ0 : CS} (hc : cxB RX2 wsC cX2_advance 6 none p s m args meth c) (hV : cV D cy z A s) (n : Nat) (K6 : CS → Int32 → Int32 → Int32 → Option ((Int32) × CS)) (hK6 : ∀ (σ : CS) (x1 : Int32) (x2 : Int32) (x3 : Int32) (H : Heap) (locs : List Loc) (ls : Array Slot), cB D ad cy A s.heap σ H locs → lv_has ls 6 [(0, .ref (ad 31)), (1, .int x1), (2, .int x2), (3, .int x3)] → K6 σ x1 x2 x3 = some (r0, σ0) → W p l e rm_X2_advance s m args below meth c H locs 0 0 (MQ below (cQ D ad cy A none σ0) args s 0 0 A) (F0 m 6 ls [])) (σ : CS) (x1 : Int32) (x2 : Int32) (x3 : Int32) (x4 : Option Nat) {H : Heap} {locs : List Loc} {ls : Array Slot} (hB : cB D ad cy A s.heap σ H locs) (hl : lv_has ls 6 [(0, .ref (ad 31)), (1, .int x1), (2, .int x2), (3, .int x3), (4, va_rf (Option.map ad x4))]) (hf : bc_X2_advance_38 n K6 σ x1 x2 x3 x4 = some (r0, σ0)) : W p l e rm_X2_advance s m args below meth c H locs 0 0 (MQ below (cQ D ad cy A none σ0) args s 0 0 A) (F0 m 38 ls []) := by
  obtain ⟨hx, hb, hml, hown, hts, hr, hlocks⟩ := id hc
  unfold bc_X2_advance_38 at hf
  rcases x4 with _ | q1
  · have hf := oc_n hf
    refine lv_iconst (v := 0) hx hb dX2_advance_38 (by decide) ?_
    refine lv_goto (tgt := 48) hx hb dX2_advance_39 (by decide) ?_
    exact tbc_X2_advance_48 hc hV n K6 hK6 σ x1 x2 x3 none 0 hB (lv_sub hl [0, 1, 2, 3, 4] rfl) hf
  · have hf := oc_s hf
    refine lv_iconst (v := 0) hx hb dX2_advance_38 (by decide) ?_
    refine lv_goto (tgt := 48) hx hb dX2_advance_39 (by decide) ?_
    exact tbc_X2_advance_48 hc hV n K6 hK6 σ x1 x2 x3 (some q1) 0 hB (lv_sub hl [0, 1, 2, 3, 4] rfl) hf
def bc_X2_advance_6 (n : Nat) (K6 : CS → Int32 → Int32 → Int32 → Option ((Int32) × CS)) (σ : CS) (x1 : Int32) (x2 : Int32) (x3 : Int32) : Option ((Int32) × CS) := if (8 ≤ x3) then (sq (σ.2.2.1 31 11) (fun o2 => oc o2 (bc_X2_advance_128 n σ x1 x2) (fun q3 => if ((σ.1 31 5) < (σ.1 31 12)) then (bc_X2_advance_128 n σ x1 x2) else (sq (σ.2.2.1 31 11) (fun o5 => oc o5 (none) (fun q6 => ck (pk σ q6 1) (bd (fc_X1_byLaw n σ q6) (fun r7 σ8 => sq ((x1 + r7) : Int32) (fun y10 => bc_X2_advance_128 n σ8 y10 x2))))))))) else (bd (fc_X0_lossAt n σ x3) (fun r11 σ12 => oc r11 (bc_X2_advance_38 n K6 σ12 x1 x2 x3 none) (fun q13 => if ((((σ12.1 31 7) >>> (x3 &&& 31)) &&& 1) = 0) then (bc_X2_advance_38 n K6 σ12 x1 x2 x3 (some q13)) else (bd (fc_X2_takenBy n σ12 q13) (fun r15 σ16 => bc_X2_advance_48 n K6 σ16 x1 x2 x3 (some q13) r15)))))
set_option maxRecDepth 100000 in
set_option maxHeartbeats 4000000 in
theorem tbc_X2_advance_6 {p : Program} {l : Launch} {e : Env} {s : State} {m : MethodId} {args : Array Value} {below : List Frame} {meth : Method} {c : Code} {D : va_G} {A : Nat → Prop} {ad : Nat → Nat} {cy : CY} {z : CZ} {r0 : Int32} {σ0 : CS} (hc : cxB RX2 wsC cX2_advance 6 none p s m args meth c) (hV : cV D cy z A s) (n : Nat) (K6 : CS → Int32 → Int32 → Int32 → Option ((Int32) × CS)) (hK6 : ∀ (σ : CS) (x1 : Int32) (x2 : Int32) (x3 : Int32) (H : Heap) (locs : List Loc) (ls : Array Slot), cB D ad cy A s.heap σ H locs → lv_has ls 6 [(0, .ref (ad 31)), (1, .int x1), (2, .int x2), (3, .int x3)] → K6 σ x1 x2 x3 = some (r0, σ0) → W p l e rm_X2_advance s m args below meth c H locs 0 0 (MQ below (cQ D ad cy A none σ0) args s 0 0 A) (F0 m 6 ls [])) (σ : CS) (x1 : Int32) (x2 : Int32) (x3 : Int32) {H : Heap} {locs : List Loc} {ls : Array Slot} (hB : cB D ad cy A s.heap σ H locs) (hl : lv_has ls 6 [(0, .ref (ad 31)), (1, .int x1), (2, .int x2), (3, .int x3)]) (hf : bc_X2_advance_6 n K6 σ x1 x2 x3 = some (r0, σ0)) : W p l e rm_X2_advance s m args below meth c H locs 0 0 (MQ below (cQ D ad cy A none σ0) args s 0 0 A) (F0 m 6 ls []) := by
  obtain ⟨hx, hb, hml, hown, hts, hr, hlocks⟩ := id hc
  unfold bc_X2_advance_6 at hf
  refine lv_iload_n hx hb dX2_advance_6 rfl (lv_at hl 3 rfl) ?_
  refine lv_bipush (v := 8) hx hb dX2_advance_7 (by decide) ?_
  refine lv_icmp_ge (tgt := 96) hx hb dX2_advance_9 (by decide) (fun c1 => ?_) (fun c1 => ?_)
  · have hf := it_t hf c1
    refine lv_aload_n hx hb dX2_advance_96 rfl (lv_at hl 0 rfl) ?_
    refine rc_get (own := RX2) hx hb hts inC_2 hown hV hB 31 (c34 rfl hB) (ceq_31 _ _ _) rfl 11 (Nat.le_of_ble_eq_true rfl) qf_X2_66 (v := va_rf (Option.map ad (σ.2.2.1 31 11))) rfl dX2_advance_97 ?_
    obtain ⟨o2, eo2⟩ : ∃ w : Option Nat, w = σ.2.2.1 31 11 := ⟨_, rfl⟩
    rw [← eo2]
    have hf := sq_e hf o2 eo2
    rcases o2 with _ | q3
    · have hf := oc_n hf
      refine lv_ifnullN (tgt := 128) hx hb dX2_advance_100 (by decide) ?_
      exact tbc_X2_advance_128 hc hV n σ x1 x2 hB (lv_sub hl [0, 1, 2] rfl) hf
    · have hf := oc_s hf
      refine lv_ifnull hx hb dX2_advance_100 ?_
      refine lv_aload_n hx hb dX2_advance_103 rfl (lv_at hl 0 rfl) ?_
      refine rc_get (own := RX2) hx hb hts inC_2 hown hV hB 31 (c34 rfl hB) (ceq_31 _ _ _) rfl 5 (Nat.le_of_ble_eq_true rfl) qf_X2_48 rfl dX2_advance_104 ?_
      refine lv_aload_n hx hb dX2_advance_107 rfl (lv_at hl 0 rfl) ?_
      refine rc_get (own := RX2) hx hb hts inC_2 hown hV hB 31 (c34 rfl hB) (ceq_31 _ _ _) rfl 12 (Nat.le_of_ble_eq_true rfl) qf_X2_83 rfl dX2_advance_108 ?_
      refine lv_icmp_lt (tgt := 128) hx hb dX2_advance_111 (by decide) (fun c4 => ?_) (fun c4 => ?_)
      · have hf := it_t hf c4
        exact tbc_X2_advance_128 hc hV n σ x1 x2 hB (lv_sub hl [0, 1, 2] rfl) hf
      · have hf := it_f hf c4
        refine lv_iload_n hx hb dX2_advance_114 rfl (lv_at hl 1 rfl) ?_
        refine lv_aload_n hx hb dX2_advance_115 rfl (lv_at hl 0 rfl) ?_
        refine rc_get (own := RX2) hx hb hts inC_2 hown hV hB 31 (c34 rfl hB) (ceq_31 _ _ _) rfl 11 (Nat.le_of_ble_eq_true rfl) qf_X2_66 (v := va_rf (Option.map ad (σ.2.2.1 31 11))) rfl dX2_advance_116 ?_
        obtain ⟨o5, eo5⟩ : ∃ w : Option Nat, w = σ.2.2.1 31 11 := ⟨_, rfl⟩
        rw [← eo5]
        have hf := sq_e hf o5 eo5
        refine lv_aload_n hx hb dX2_advance_119 rfl (lv_at hl 0 rfl) ?_
        refine rc_get (own := RX2) hx hb hts inC_2 hown hV hB 31 (c34 rfl hB) (ceq_31 _ _ _) rfl 1 (Nat.le_of_ble_eq_true rfl) qf_X2_9 rfl dX2_advance_120 ?_
        rcases o5 with _ | q6
        · have hf := oc_n hf
          cases hf
        · have hf := oc_s hf
          obtain ⟨k9, hf⟩ := ck_e hf
          obtain ⟨r7, σ8, hkr7, hf⟩ := bd_e hf
          refine rc_callV (own := RX2) (av := [.ref (ad 32)]) (rest := [.int x1]) (rv := (some (.int r7))) hx hb hml hown hts hl.1 hV hB q6 (pk_s k9).2.1 (ceq_L k9) rfl (cc_X1_byLaw l D ad cy z n σ q6 hkr7) (kwc_X2_112  hts ⟨Nat.le_of_ble_eq_true rfl, Nat.le_of_ble_eq_true rfl⟩) rfl rfl (lv_room (Nat.le_of_ble_eq_true rfl)) dX2_advance_123 (Nat.le_refl _) (Nat.le_refl _) (fun H locs hB => ?_)
          refine W.eq (g2 := F0 m 126 ls [.int r7, .int x1]) rfl ?_
          refine lv_iadd hx hb dX2_advance_126 ?_
          refine lv_topi (fun y10 ey10 => ?_)
          have hf := sq_e hf y10 ey10
          refine lv_istore_n (lv' := [(1, .int y10), (0, .ref (ad 31)), (2, .int x2), (3, .int x3)]) hx hb dX2_advance_127 rfl hl (by decide) rfl (fun ls hl => ?_)
          exact tbc_X2_advance_128 hc hV n σ8 y10 x2 hB (lv_sub hl [1, 0, 2] rfl) hf
  · have hf := it_f hf c1
    refine lv_aload_n hx hb dX2_advance_12 rfl (lv_at hl 0 rfl) ?_
    refine rc_get (own := RX2) hx hb hts inC_2 hown hV hB 31 (c34 rfl hB) (ceq_31 _ _ _) rfl 0 (Nat.le_of_ble_eq_true rfl) qf_X2_18 rfl dX2_advance_13 ?_
    refine lv_iload_n hx hb dX2_advance_16 rfl (lv_at hl 3 rfl) ?_
    obtain ⟨r11, σ12, hkr11, hf⟩ := bd_e hf
    refine rc_callV (own := RX2) (av := [.int x3]) (rest := []) (rv := (some (va_rf (Option.map ad r11)))) hx hb hml hown hts hl.1 hV hB 5 (c34 rfl hB) (ceq_5 _ _ _) rfl (cc_X0_lossAt l D ad cy z n σ x3 hkr11) (kwc_X2_99  hts ⟨Nat.le_of_ble_eq_true rfl, Nat.le_of_ble_eq_true rfl⟩) rfl rfl (lv_room (Nat.le_of_ble_eq_true rfl)) dX2_advance_17 (Nat.le_refl _) (Nat.le_refl _) (fun H locs hB => ?_)
    refine W.eq (g2 := F0 m 20 ls [va_rf (Option.map ad r11)]) rfl ?_
    rcases r11 with _ | q13
    · have hf := oc_n hf
      refine lv_astoreN (lv' := [(4, .null), (0, .ref (ad 31)), (1, .int x1), (2, .int x2), (3, .int x3)]) hx hb dX2_advance_20 hl (by decide) rfl (fun ls hl => ?_)
      refine lv_aloadN hx hb dX2_advance_22 (lv_at hl 0 rfl) ?_
      refine lv_ifnullN (tgt := 38) hx hb dX2_advance_24 (by decide) ?_
      exact tbc_X2_advance_38 hc hV n K6 hK6 σ12 x1 x2 x3 none hB (lv_sub hl [1, 2, 3, 4, 0] rfl) hf
    · have hf := oc_s hf
      refine lv_astore (lv' := [(4, .ref (ad q13)), (0, .ref (ad 31)), (1, .int x1), (2, .int x2), (3, .int x3)]) hx hb dX2_advance_20 hl (by decide) rfl (fun ls hl => ?_)
      refine lv_aload hx hb dX2_advance_22 (lv_at hl 0 rfl) ?_
      refine lv_ifnull hx hb dX2_advance_24 ?_
      refine lv_aload_n hx hb dX2_advance_27 rfl (lv_at hl 1 rfl) ?_
      refine rc_get (own := RX2) hx hb hts inC_2 hown hV hB 31 (c34 rfl hB) (ceq_31 _ _ _) rfl 7 (Nat.le_of_ble_eq_true rfl) qf_X2_54 rfl dX2_advance_28 ?_
      refine lv_iload_n hx hb dX2_advance_31 rfl (lv_at hl 4 rfl) ?_
      refine lv_ishr hx hb dX2_advance_32 ?_
      refine lv_iconst (v := 1) hx hb dX2_advance_33 (by decide) ?_
      refine lv_iand hx hb dX2_advance_34 ?_
      refine lv_if_ne (tgt := 42) hx hb dX2_advance_35 (by decide) (fun c14 => ?_) (fun c14 => ?_)
      · have hf := it_f hf c14
        refine lv_aload_n hx hb dX2_advance_42 rfl (lv_at hl 1 rfl) ?_
        refine lv_aload hx hb dX2_advance_43 (lv_at hl 0 rfl) ?_
        obtain ⟨r15, σ16, hkr15, hf⟩ := bd_e hf
        refine rc_callV (own := RX2) (av := [.ref (ad q13)]) (rest := []) (rv := (some (.int r15))) hx hb hml hown hts hl.1 hV hB 31 (c34 rfl hB) (ceq_31 _ _ _) rfl (cc_X2_takenBy l D ad cy z n σ12 q13 hkr15) (kwc_X2_103  hts ⟨Nat.le_of_ble_eq_true rfl, Nat.le_of_ble_eq_true rfl⟩) rfl rfl (lv_room (Nat.le_of_ble_eq_true rfl)) dX2_advance_45 (Nat.le_refl _) (Nat.le_refl _) (fun H locs hB => ?_)
        refine W.eq (g2 := F0 m 48 ls [.int r15]) rfl ?_
        exact tbc_X2_advance_48 hc hV n K6 hK6 σ16 x1 x2 x3 (some q13) r15 hB (lv_sub hl [1, 2, 3, 4, 0] rfl) hf
      · have hf := it_t hf c14
        exact tbc_X2_advance_38 hc hV n K6 hK6 σ12 x1 x2 x3 (some q13) hB (lv_sub hl [1, 2, 3, 4, 0] rfl) hf
def lc_X2_advance_6 (n : Nat) : Nat → CS → Int32 → Int32 → Int32 → Option ((Int32) × CS)
  | 0 => fun _ _ _ _ => none
  | k + 1 => bc_X2_advance_6 n (lc_X2_advance_6 n k)
theorem tlc_X2_advance_6 {p : Program} {l : Launch} {e : Env} {s : State} {m : MethodId} {args : Array Value} {below : List Frame} {meth : Method} {c : Code} {D : va_G} {A : Nat → Prop} {ad : Nat → Nat} {cy : CY} {z : CZ} {r0 : Int32} {σ0 : CS} (hc : cxB RX2 wsC cX2_advance 6 none p s m args meth c) (hV : cV D cy z A s) (n : Nat) : ∀ (k : Nat) (σ : CS) (x1 : Int32) (x2 : Int32) (x3 : Int32) (H : Heap) (locs : List Loc) (ls : Array Slot), cB D ad cy A s.heap σ H locs → lv_has ls 6 [(0, .ref (ad 31)), (1, .int x1), (2, .int x2), (3, .int x3)] → lc_X2_advance_6 n k σ x1 x2 x3 = some (r0, σ0) → W p l e rm_X2_advance s m args below meth c H locs 0 0 (MQ below (cQ D ad cy A none σ0) args s 0 0 A) (F0 m 6 ls []) := by
  intro k
  induction k with
  | zero =>
    intro σ x1 x2 x3 H locs ls hB hl hf
    have hf : (none : Option ((Int32) × CS)) = some (r0, σ0) := hf
    cases hf
  | succ k ih =>
    intro σ x1 x2 x3 H locs ls hB hl hf
    exact tbc_X2_advance_6 hc hV n (lc_X2_advance_6 n k) ih σ x1 x2 x3 hB hl hf
def fc_X2_advance (n : Nat) (σ : CS) : Option ((Int32) × CS) := sq (0 : Int32) (fun y1 => sq (0 : Int32) (fun y2 => sq (0 : Int32) (fun y3 => lc_X2_advance_6 n n σ y1 y2 y3)))
set_option maxRecDepth 100000 in
set_option maxHeartbeats 4000000 in
theorem tbc_X2_advance_0 {p : Program} {l : Launch} {e : Env} {s : State} {m : MethodId} {args : Array Value} {below : List Frame} {meth : Method} {c : Code} {D : va_G} {A : Nat → Prop} {ad : Nat → Nat} {cy : CY} {z : CZ} {r0 : Int32} {σ0 : CS} (hc : cxB RX2 wsC cX2_advance 6 none p s m args meth c) (hV : cV D cy z A s) (n : Nat) (σ : CS) {H : Heap} {locs : List Loc} {ls : Array Slot} (hB : cB D ad cy A s.heap σ H locs) (hl : lv_has ls 6 [(0, .ref (ad 31))]) (hf : fc_X2_advance n σ = some (r0, σ0)) : W p l e rm_X2_advance s m args below meth c H locs 0 0 (MQ below (cQ D ad cy A none σ0) args s 0 0 A) (F0 m 0 ls []) := by
  obtain ⟨hx, hb, hml, hown, hts, hr, hlocks⟩ := id hc
  unfold fc_X2_advance at hf
  refine lv_iconst (v := 0) hx hb dX2_advance_0 (by decide) ?_
  refine lv_topi (fun y1 ey1 => ?_)
  have hf := sq_e hf y1 ey1
  refine lv_istore_n (lv' := [(1, .int y1), (0, .ref (ad 31))]) hx hb dX2_advance_1 rfl hl (by decide) rfl (fun ls hl => ?_)
  refine lv_iconst (v := 0) hx hb dX2_advance_2 (by decide) ?_
  refine lv_topi (fun y2 ey2 => ?_)
  have hf := sq_e hf y2 ey2
  refine lv_istore_n (lv' := [(2, .int y2), (1, .int y1), (0, .ref (ad 31))]) hx hb dX2_advance_3 rfl hl (by decide) rfl (fun ls hl => ?_)
  refine lv_iconst (v := 0) hx hb dX2_advance_4 (by decide) ?_
  refine lv_topi (fun y3 ey3 => ?_)
  have hf := sq_e hf y3 ey3
  refine lv_istore_n (lv' := [(3, .int y3), (2, .int y2), (1, .int y1), (0, .ref (ad 31))]) hx hb dX2_advance_5 rfl hl (by decide) rfl (fun ls hl => ?_)
  exact tlc_X2_advance_6 hc hV n n σ y1 y2 y3 _ _ _ hB (lv_sub hl [3, 2, 1, 0] rfl) hf
theorem cc_X2_advance (l : Launch) (D : va_G) (ad : Nat → Nat) (cy : CY) (z : CZ) (n : Nat) (σ : CS) {r0 : Int32} {σ0 : CS} (hf : fc_X2_advance n σ = some (r0, σ0)) : cM l yX2_advance wn_X2_advance rm_X2_advance D ad cy z [.ref (ad 31)] σ none σ0 :=
  rc_met (ret := none) (by decide) rfl (Nat.le_of_ble_eq_true rfl) (fun p e s m below meth c A ls hc hV hB hl => tbc_X2_advance_0 hc hV n σ hB hl hf)
