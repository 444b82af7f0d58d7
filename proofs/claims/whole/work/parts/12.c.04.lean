/-! X5_follow -/
theorem kwc_X5_68 {R : Room} {s : State} {args : Array Value} (hts : ∀ w ∈ wsC, w.before args s = true) (hR : rm_X5_countParts.frames + 1 ≤ R.frames ∧ 8 + (5 + 11) + rm_X5_countParts.locals ≤ R.locals) : CallW R s args RX5 RX5 68 yX5_countParts cX5_countParts 5 none wn_X5_countParts rm_X5_countParts 0 0 1 := cwV 1 hts (gC_v qc_177 qc_178 qc_179 qc_14 qc_170) rfl rfl rfl (by decide +kernel) hR
abbrev rm_X5_follow : Room := { frames := 2, cells := 0, slots := 0, locals := 84 }
abbrev wn_X5_follow : List Cond := .code yX5_follow cX5_follow 2 none :: wsC
def fc_X5_follow (n : Nat) (σ : CS) : Option ((Int32) × CS) := sq (cpj σ 12 ((σ.2.1 12) + (Int32.toInt64 (σ.1 12 5)))) (fun σ1 => bd (fc_X5_countParts n σ1) (fun _ σ3 => sq (cp σ3 12 4 (σ3.1 31 3)) (fun σ4 => sq (cp σ4 12 5 (σ4.1 31 4)) (fun σ5 => sq (cp σ5 12 6 (σ5.1 31 5)) (fun σ6 => sq (cp σ6 12 7 (σ6.1 31 6)) (fun σ7 => if (((σ7.1 12 6) - (σ7.1 12 6) / 10 * 10) = 0) then (bd (fc_X5_keepTenth n σ7) (fun _ σ10 => some (0, σ10))) else (some (0, σ7))))))))
set_option maxRecDepth 100000 in
set_option maxHeartbeats 4000000 in
theorem tbc_X5_follow_0 {p : Program} {l : Launch} {e : Env} {s : State} {m : MethodId} {args : Array Value} {below : List Frame} {meth : Method} {c : Code} {D : va_G} {A : Nat → Prop} {ad : Nat → Nat} {cy : CY} {z : CZ} {r0 : Int32} {σ0 : CS} (hc : cxB RX5 wsC cX5_follow 2 none p s m args meth c) (hV : cV D cy z A s) (n : Nat) (σ : CS) {H : Heap} {locs : List Loc} {ls : Array Slot} (hB : cB D ad cy A s.heap σ H locs) (hl : lv_has ls 2 [(0, .ref (ad 12)), (1, .ref (ad 31))]) (hf : fc_X5_follow n σ = some (r0, σ0)) : W p l e rm_X5_follow s m args below meth c H locs 0 0 (MQ below (cQ D ad cy A none σ0) args s 0 0 A) (F0 m 0 ls []) := by
  obtain ⟨hx, hb, hml, hown, hts, hr, hlocks⟩ := id hc
  unfold fc_X5_follow at hf
  refine lv_aload_n hx hb dX5_follow_0 rfl (lv_at hl 0 rfl) ?_
  refine lv_dup hx hb dX5_follow_1 rfl ?_
  refine rc_get (own := RX5) hx hb hts inC_5 hown hV hB 12 (c34 rfl hB) (ceq_12 _ _ _) rfl 8 (Nat.le_of_ble_eq_true rfl) qf_X5_47 rfl dX5_follow_2 ?_
  refine lv_aload_n hx hb dX5_follow_5 rfl (lv_at hl 0 rfl) ?_
  refine rc_get (own := RX5) hx hb hts inC_5 hown hV hB 12 (c34 rfl hB) (ceq_12 _ _ _) rfl 5 (Nat.le_of_ble_eq_true rfl) qf_X5_38 rfl dX5_follow_6 ?_
  refine lv_i2l hx hb dX5_follow_9 rfl ?_
  refine lv_ladd hx hb dX5_follow_10 ?_
  refine rc_putl (own := RX5) (ty := .long) hx hb hts inC_5 hown hV hB 12 (c34 rfl hB) (ceq_12 _ _ _) rfl 8 (Nat.le_of_ble_eq_true rfl) qf_X5_47 tyX5 tyX5_ok nmX5 (cst_12_8 _ _ _ _) rfl pdc_5_8 rfl rfl (Nat.le_of_ble_eq_true rfl) dX5_follow_11 (fun σ1 eσ1 H locs hB => ?_)
  have hf := sq_e hf σ1 eσ1
  refine lv_aload_n hx hb dX5_follow_14 rfl (lv_at hl 0 rfl) ?_
  refine lv_aload_n hx hb dX5_follow_15 rfl (lv_at hl 1 rfl) ?_
  refine rc_get (own := RX5) hx hb hts inC_2 hown hV hB 31 (c34 rfl hB) (ceq_31 _ _ _) rfl 2 (Nat.le_of_ble_eq_true rfl) qf_X5_63 rfl dX5_follow_16 ?_
  obtain ⟨r2, σ3, hkr2, hf⟩ := bd_e hf
  refine rc_callV (own := RX5) (av := [.ref (ad 33)]) (rest := []) (rv := none) hx hb hml hown hts hl.1 hV hB 12 (c34 rfl hB) (ceq_12 _ _ _) rfl (cc_X5_countParts l D ad cy z n σ1 hkr2) (kwc_X5_68  hts ⟨Nat.le_of_ble_eq_true rfl, Nat.le_of_ble_eq_true rfl⟩) rfl rfl (lv_room (Nat.le_of_ble_eq_true rfl)) dX5_follow_19 (Nat.le_refl _) (Nat.le_refl _) (fun H locs hB => ?_)
  refine W.eq (g2 := F0 m 22 ls []) rfl ?_
  refine lv_aload_n hx hb dX5_follow_22 rfl (lv_at hl 0 rfl) ?_
  refine lv_aload_n hx hb dX5_follow_23 rfl (lv_at hl 1 rfl) ?_
  refine rc_get (own := RX5) hx hb hts inC_2 hown hV hB 31 (c34 rfl hB) (ceq_31 _ _ _) rfl 3 (Nat.le_of_ble_eq_true rfl) qf_X5_72 rfl dX5_follow_24 ?_
  refine rc_puti (own := RX5) (ty := .int) hx hb hts inC_5 hown hV hB 12 (c34 rfl hB) (ceq_12 _ _ _) rfl 4 (Nat.le_of_ble_eq_true rfl) qf_X5_35 tyX5 tyX5_ok nmX5 (cst_12_4 _ _ _ _) rfl pdc_5_4 rfl rfl (Nat.le_of_ble_eq_true rfl) dX5_follow_27 (fun σ4 eσ4 H locs hB => ?_)
  have hf := sq_e hf σ4 eσ4
  refine lv_aload_n hx hb dX5_follow_30 rfl (lv_at hl 0 rfl) ?_
  refine lv_aload_n hx hb dX5_follow_31 rfl (lv_at hl 1 rfl) ?_
  refine rc_get (own := RX5) hx hb hts inC_2 hown hV hB 31 (c34 rfl hB) (ceq_31 _ _ _) rfl 4 (Nat.le_of_ble_eq_true rfl) qf_X5_73 rfl dX5_follow_32 ?_
  refine rc_puti (own := RX5) (ty := .int) hx hb hts inC_5 hown hV hB 12 (c34 rfl hB) (ceq_12 _ _ _) rfl 5 (Nat.le_of_ble_eq_true rfl) qf_X5_38 tyX5 tyX5_ok nmX5 (cst_12_5 _ _ _ _) rfl pdc_5_5 rfl rfl (Nat.le_of_ble_eq_true rfl) dX5_follow_35 (fun σ5 eσ5 H locs hB => ?_)
  have hf := sq_e hf σ5 eσ5
  refine lv_aload_n hx hb dX5_follow_38 rfl (lv_at hl 0 rfl) ?_
  refine lv_aload_n hx hb dX5_follow_39 rfl (lv_at hl 1 rfl) ?_
  refine rc_get (own := RX5) hx hb hts inC_2 hown hV hB 31 (c34 rfl hB) (ceq_31 _ _ _) rfl 5 (Nat.le_of_ble_eq_true rfl) qf_X5_74 rfl dX5_follow_40 ?_
  refine rc_puti (own := RX5) (ty := .int) hx hb hts inC_5 hown hV hB 12 (c34 rfl hB) (ceq_12 _ _ _) rfl 6 (Nat.le_of_ble_eq_true rfl) qf_X5_41 tyX5 tyX5_ok nmX5 (cst_12_6 _ _ _ _) rfl pdc_5_6 rfl rfl (Nat.le_of_ble_eq_true rfl) dX5_follow_43 (fun σ6 eσ6 H locs hB => ?_)
  have hf := sq_e hf σ6 eσ6
  refine lv_aload_n hx hb dX5_follow_46 rfl (lv_at hl 0 rfl) ?_
  refine lv_aload_n hx hb dX5_follow_47 rfl (lv_at hl 1 rfl) ?_
  refine rc_get (own := RX5) hx hb hts inC_2 hown hV hB 31 (c34 rfl hB) (ceq_31 _ _ _) rfl 6 (Nat.le_of_ble_eq_true rfl) qf_X5_75 rfl dX5_follow_48 ?_
  refine rc_puti (own := RX5) (ty := .int) hx hb hts inC_5 hown hV hB 12 (c34 rfl hB) (ceq_12 _ _ _) rfl 7 (Nat.le_of_ble_eq_true rfl) qf_X5_44 tyX5 tyX5_ok nmX5 (cst_12_7 _ _ _ _) rfl pdc_5_7 rfl rfl (Nat.le_of_ble_eq_true rfl) dX5_follow_51 (fun σ7 eσ7 H locs hB => ?_)
  have hf := sq_e hf σ7 eσ7
  refine lv_aload_n hx hb dX5_follow_54 rfl (lv_at hl 0 rfl) ?_
  refine rc_get (own := RX5) hx hb hts inC_5 hown hV hB 12 (c34 rfl hB) (ceq_12 _ _ _) rfl 6 (Nat.le_of_ble_eq_true rfl) qf_X5_41 rfl dX5_follow_55 ?_
  refine lv_bipush (v := 10) hx hb dX5_follow_58 (by decide) ?_
  refine lv_irem hx hb dX5_follow_60 (by decide) ?_
  refine lv_if_ne (tgt := 68) hx hb dX5_follow_61 (by decide) (fun c8 => ?_) (fun c8 => ?_)
  · have hf := it_f hf c8
    obtain ⟨rfl, rfl⟩ := so_e hf
    exact rc_vret hx hb hr hlocks hB dX5_follow_68
  · have hf := it_t hf c8
    refine lv_aload_n hx hb dX5_follow_64 rfl (lv_at hl 0 rfl) ?_
    obtain ⟨r9, σ10, hkr9, hf⟩ := bd_e hf
    refine rc_callV (own := RX5) (av := []) (rest := []) (rv := none) hx hb hml hown hts hl.1 hV hB 12 (c34 rfl hB) (ceq_12 _ _ _) rfl (cc_X5_keepTenth l D ad cy z n σ7 hkr9) (kwc_X5_60  hts ⟨Nat.le_of_ble_eq_true rfl, Nat.le_of_ble_eq_true rfl⟩) rfl rfl (lv_room (Nat.le_of_ble_eq_true rfl)) dX5_follow_65 (Nat.le_refl _) (Nat.le_refl _) (fun H locs hB => ?_)
    refine W.eq (g2 := F0 m 68 ls []) rfl ?_
    obtain ⟨rfl, rfl⟩ := so_e hf
    exact rc_vret hx hb hr hlocks hB dX5_follow_68
theorem cc_X5_follow (l : Launch) (D : va_G) (ad : Nat → Nat) (cy : CY) (z : CZ) (n : Nat) (σ : CS) {r0 : Int32} {σ0 : CS} (hf : fc_X5_follow n σ = some (r0, σ0)) : cM l yX5_follow wn_X5_follow rm_X5_follow D ad cy z [.ref (ad 12), .ref (ad 31)] σ none σ0 :=
  rc_met (ret := none) (by decide) rfl (Nat.le_of_ble_eq_true rfl) (fun p e s m below meth c A ls hc hV hB hl => tbc_X5_follow_0 hc hV n σ hB hl hf)
/-! X5_tenthOf -/
abbrev rm_X5_tenthOf : Room := { frames := 0, cells := 0, slots := 0, locals := 0 }
abbrev wn_X5_tenthOf : List Cond := .code yX5_tenthOf cX5_tenthOf 3 (some .int) :: wsC
def fc_X5_tenthOf (n : Nat) (σ : CS) (x1 : Int32) (x2 : Int32) : Option ((Int32) × CS) := if (x1 < 0) then (some ((-9), σ)) else (if ((σ.1 12 9) ≤ x1) then (some ((-9), σ)) else (if (x1 < 100) then (if (x2 = 0) then (ck (ib x1 100) (sq ((σ.1 14 (Int32.toNatClampNeg x1)) : Int32) (fun y8 => some (y8, σ)))) else (ck (ib x1 100) (sq ((σ.1 15 (Int32.toNatClampNeg x1)) : Int32) (fun y6 => some (y6, σ))))) else (some ((-9), σ))))
set_option maxRecDepth 100000 in
set_option maxHeartbeats 4000000 in
theorem tbc_X5_tenthOf_0 {p : Program} {l : Launch} {e : Env} {s : State} {m : MethodId} {args : Array Value} {below : List Frame} {meth : Method} {c : Code} {D : va_G} {A : Nat → Prop} {ad : Nat → Nat} {cy : CY} {z : CZ} {r0 : Int32} {σ0 : CS} (hc : cxB RX5 wsC cX5_tenthOf 3 (some .int) p s m args meth c) (hV : cV D cy z A s) (n : Nat) (σ : CS) (x1 : Int32) (x2 : Int32) {H : Heap} {locs : List Loc} {ls : Array Slot} (hB : cB D ad cy A s.heap σ H locs) (hl : lv_has ls 3 [(0, .ref (ad 12)), (1, .int x1), (2, .int x2)]) (hf : fc_X5_tenthOf n σ x1 x2 = some (r0, σ0)) : W p l e rm_X5_tenthOf s m args below meth c H locs 0 0 (MQ below (cQ D ad cy A (some (.int r0)) σ0) args s 0 0 A) (F0 m 0 ls []) := by
  obtain ⟨hx, hb, hml, hown, hts, hr, hlocks⟩ := id hc
  unfold fc_X5_tenthOf at hf
  refine lv_iload_n hx hb dX5_tenthOf_0 rfl (lv_at hl 1 rfl) ?_
  refine lv_if_lt (tgt := 18) hx hb dX5_tenthOf_1 (by decide) (fun c1 => ?_) (fun c1 => ?_)
  · have hf := it_t hf c1
    refine lv_bipush (v := (-9)) hx hb dX5_tenthOf_18 (by decide) ?_
    obtain ⟨rfl, rfl⟩ := so_e hf
    exact rc_iret hx hb hr hlocks hB dX5_tenthOf_20
  · have hf := it_f hf c1
    refine lv_iload_n hx hb dX5_tenthOf_4 rfl (lv_at hl 1 rfl) ?_
    refine lv_aload_n hx hb dX5_tenthOf_5 rfl (lv_at hl 0 rfl) ?_
    refine rc_get (own := RX5) hx hb hts inC_5 hown hV hB 12 (c34 rfl hB) (ceq_12 _ _ _) rfl 9 (Nat.le_of_ble_eq_true rfl) qf_X5_57 rfl dX5_tenthOf_6 ?_
    refine lv_icmp_ge (tgt := 18) hx hb dX5_tenthOf_9 (by decide) (fun c2 => ?_) (fun c2 => ?_)
    · have hf := it_t hf c2
      refine lv_bipush (v := (-9)) hx hb dX5_tenthOf_18 (by decide) ?_
      obtain ⟨rfl, rfl⟩ := so_e hf
      exact rc_iret hx hb hr hlocks hB dX5_tenthOf_20
    · have hf := it_f hf c2
      refine lv_iload_n hx hb dX5_tenthOf_12 rfl (lv_at hl 1 rfl) ?_
      refine lv_bipush (v := 100) hx hb dX5_tenthOf_13 (by decide) ?_
      refine lv_icmp_lt (tgt := 21) hx hb dX5_tenthOf_15 (by decide) (fun c3 => ?_) (fun c3 => ?_)
      · have hf := it_t hf c3
        refine lv_iload_n hx hb dX5_tenthOf_21 rfl (lv_at hl 2 rfl) ?_
        refine lv_if_ne (tgt := 34) hx hb dX5_tenthOf_22 (by decide) (fun c4 => ?_) (fun c4 => ?_)
        · have hf := it_f hf c4
          refine lv_aload_n hx hb dX5_tenthOf_34 rfl (lv_at hl 0 rfl) ?_
          refine rc_get (own := RX5) hx hb hts inC_5 hown hV hB 12 (c34 rfl hB) (ceq_12 _ _ _) rfl 12 (Nat.le_of_ble_eq_true rfl) qf_X5_18 rfl dX5_tenthOf_35 ?_
          refine lv_iload_n hx hb dX5_tenthOf_38 rfl (lv_at hl 1 rfl) ?_
          obtain ⟨k5, hf⟩ := ck_e hf
          refine rc_ald hx hb hV hB 15 (c34 rfl hB) (ceq_15 _ _ _) k5 dX5_tenthOf_39 ?_
          refine lv_topi (fun y6 ey6 => ?_)
          have hf := sq_e hf y6 ey6
          obtain ⟨rfl, rfl⟩ := so_e hf
          exact rc_iret hx hb hr hlocks hB dX5_tenthOf_40
        · have hf := it_t hf c4
          refine lv_aload_n hx hb dX5_tenthOf_25 rfl (lv_at hl 0 rfl) ?_
          refine rc_get (own := RX5) hx hb hts inC_5 hown hV hB 12 (c34 rfl hB) (ceq_12 _ _ _) rfl 11 (Nat.le_of_ble_eq_true rfl) qf_X5_15 rfl dX5_tenthOf_26 ?_
          refine lv_iload_n hx hb dX5_tenthOf_29 rfl (lv_at hl 1 rfl) ?_
          obtain ⟨k7, hf⟩ := ck_e hf
          refine rc_ald hx hb hV hB 14 (c34 rfl hB) (ceq_14 _ _ _) k7 dX5_tenthOf_30 ?_
          refine lv_topi (fun y8 ey8 => ?_)
          have hf := sq_e hf y8 ey8
          refine lv_goto (tgt := 40) hx hb dX5_tenthOf_31 (by decide) ?_
          obtain ⟨rfl, rfl⟩ := so_e hf
          exact rc_iret hx hb hr hlocks hB dX5_tenthOf_40
      · have hf := it_f hf c3
        refine lv_bipush (v := (-9)) hx hb dX5_tenthOf_18 (by decide) ?_
        obtain ⟨rfl, rfl⟩ := so_e hf
        exact rc_iret hx hb hr hlocks hB dX5_tenthOf_20
theorem cc_X5_tenthOf (l : Launch) (D : va_G) (ad : Nat → Nat) (cy : CY) (z : CZ) (n : Nat) (σ : CS) (x1 : Int32) (x2 : Int32) {r0 : Int32} {σ0 : CS} (hf : fc_X5_tenthOf n σ x1 x2 = some (r0, σ0)) : cM l yX5_tenthOf wn_X5_tenthOf rm_X5_tenthOf D ad cy z [.ref (ad 12), .int x1, .int x2] σ (some (.int r0)) σ0 :=
  rc_met (ret := (some .int)) (by decide) rfl (Nat.le_of_ble_eq_true rfl) (fun p e s m below meth c A ls hc hV hB hl => tbc_X5_tenthOf_0 hc hV n σ x1 x2 hB hl hf)
/-! X5_tookOf -/
abbrev rm_X5_tookOf : Room := { frames := 0, cells := 0, slots := 0, locals := 0 }
abbrev wn_X5_tookOf : List Cond := .code yX5_tookOf cX5_tookOf 2 (some .int) :: wsC
def fc_X5_tookOf (n : Nat) (σ : CS) (x1 : Int32) : Option ((Int32) × CS) := if (x1 < 0) then (some (0, σ)) else (if ((Int32.ofNat 8) ≤ x1) then (some (0, σ)) else (ck (ib x1 8) (sq ((σ.1 13 (Int32.toNatClampNeg x1)) : Int32) (fun y4 => some (y4, σ)))))
set_option maxRecDepth 100000 in
set_option maxHeartbeats 4000000 in
theorem tbc_X5_tookOf_0 {p : Program} {l : Launch} {e : Env} {s : State} {m : MethodId} {args : Array Value} {below : List Frame} {meth : Method} {c : Code} {D : va_G} {A : Nat → Prop} {ad : Nat → Nat} {cy : CY} {z : CZ} {r0 : Int32} {σ0 : CS} (hc : cxB RX5 wsC cX5_tookOf 2 (some .int) p s m args meth c) (hV : cV D cy z A s) (n : Nat) (σ : CS) (x1 : Int32) {H : Heap} {locs : List Loc} {ls : Array Slot} (hB : cB D ad cy A s.heap σ H locs) (hl : lv_has ls 2 [(0, .ref (ad 12)), (1, .int x1)]) (hf : fc_X5_tookOf n σ x1 = some (r0, σ0)) : W p l e rm_X5_tookOf s m args below meth c H locs 0 0 (MQ below (cQ D ad cy A (some (.int r0)) σ0) args s 0 0 A) (F0 m 0 ls []) := by
  obtain ⟨hx, hb, hml, hown, hts, hr, hlocks⟩ := id hc
  unfold fc_X5_tookOf at hf
  refine lv_iload_n hx hb dX5_tookOf_0 rfl (lv_at hl 1 rfl) ?_
  refine lv_if_lt (tgt := 22) hx hb dX5_tookOf_1 (by decide) (fun c1 => ?_) (fun c1 => ?_)
  · have hf := it_t hf c1
    refine lv_iconst (v := 0) hx hb dX5_tookOf_22 (by decide) ?_
    obtain ⟨rfl, rfl⟩ := so_e hf
    exact rc_iret hx hb hr hlocks hB dX5_tookOf_23
  · have hf := it_f hf c1
    refine lv_iload_n hx hb dX5_tookOf_4 rfl (lv_at hl 1 rfl) ?_
    refine lv_aload_n hx hb dX5_tookOf_5 rfl (lv_at hl 0 rfl) ?_
    refine rc_get (own := RX5) hx hb hts inC_5 hown hV hB 12 (c34 rfl hB) (ceq_12 _ _ _) rfl 10 (Nat.le_of_ble_eq_true rfl) qf_X5_9 rfl dX5_tookOf_6 ?_
    refine rc_alen hx hb hV hB 13 (c34 rfl hB) (ceq_13 _ _ _) rfl dX5_tookOf_9 ?_
    refine lv_icmp_ge (tgt := 22) hx hb dX5_tookOf_10 (by decide) (fun c2 => ?_) (fun c2 => ?_)
    · have hf := it_t hf c2
      refine lv_iconst (v := 0) hx hb dX5_tookOf_22 (by decide) ?_
      obtain ⟨rfl, rfl⟩ := so_e hf
      exact rc_iret hx hb hr hlocks hB dX5_tookOf_23
    · have hf := it_f hf c2
      refine lv_aload_n hx hb dX5_tookOf_13 rfl (lv_at hl 0 rfl) ?_
      refine rc_get (own := RX5) hx hb hts inC_5 hown hV hB 12 (c34 rfl hB) (ceq_12 _ _ _) rfl 10 (Nat.le_of_ble_eq_true rfl) qf_X5_9 rfl dX5_tookOf_14 ?_
      refine lv_iload_n hx hb dX5_tookOf_17 rfl (lv_at hl 1 rfl) ?_
      obtain ⟨k3, hf⟩ := ck_e hf
      refine rc_ald hx hb hV hB 13 (c34 rfl hB) (ceq_13 _ _ _) k3 dX5_tookOf_18 ?_
      refine lv_topi (fun y4 ey4 => ?_)
      have hf := sq_e hf y4 ey4
      refine lv_goto (tgt := 23) hx hb dX5_tookOf_19 (by decide) ?_
      obtain ⟨rfl, rfl⟩ := so_e hf
      exact rc_iret hx hb hr hlocks hB dX5_tookOf_23
theorem cc_X5_tookOf (l : Launch) (D : va_G) (ad : Nat → Nat) (cy : CY) (z : CZ) (n : Nat) (σ : CS) (x1 : Int32) {r0 : Int32} {σ0 : CS} (hf : fc_X5_tookOf n σ x1 = some (r0, σ0)) : cM l yX5_tookOf wn_X5_tookOf rm_X5_tookOf D ad cy z [.ref (ad 12), .int x1] σ (some (.int r0)) σ0 :=
  rc_met (ret := (some .int)) (by decide) rfl (Nat.le_of_ble_eq_true rfl) (fun p e s m below meth c A ls hc hV hB hl => tbc_X5_tookOf_0 hc hV n σ x1 hB hl hf)
/-! X6_append -/
abbrev rm_X6_append : Room := { frames := 0, cells := 0, slots := 0, locals := 0 }
abbrev wn_X6_append : List Cond := .code yX6_append cX6_append 5 none :: wsC
def bc_X6_append_3 (n : Nat) (K3 : CS → Int32 → Int64 → Int32 → Option ((Int32) × CS)) (σ : CS) (x1 : Int32) (x2 : Int64) (x4 : Int32) : Option ((Int32) × CS) := if (x1 ≤ x4) then (some (0, σ)) else (if ((σ.1 1 2) < 0) then (some (0, σ)) else (if ((Int32.ofNat 20) ≤ (σ.1 1 2)) then (some (0, σ)) else (sq ((((Int64.toUInt64 x2 >>> (Int64.toUInt64 (Int32.toInt64 (8 * x4)) &&& Int64.toUInt64 63)).toInt64) &&& 255) : Int64) (fun y4 => ck (ib (σ.1 1 2) 20) (sq (cp σ 2 (Int32.toNatClampNeg (σ.1 1 2)) (Int64.toInt32 y4)) (fun σ6 => sq (cp σ6 1 2 ((σ6.1 1 2) + 1)) (fun σ7 => sq (x4 + 1 : Int32) (fun y8 => K3 σ7 x1 x2 y8))))))))
set_option maxRecDepth 100000 in
set_option maxHeartbeats 4000000 in
theorem tbc_X6_append_3 {p : Program} {l : Launch} {e : Env} {s : State} {m : MethodId} {args : Array Value} {below : List Frame} {meth : Method} {c : Code} {D : va_G} {A : Nat → Prop} {ad : Nat → Nat} {cy : CY} {z : CZ} {r0 : Int32} {σ0 : CS} (hc : cxB RX6 wsC cX6_append 5 none p s m args meth c) (hV : cV D cy z A s) (n : Nat) (K3 : CS → Int32 → Int64 → Int32 → Option ((Int32) × CS)) (hK3 : ∀ (σ : CS) (x1 : Int32) (x2 : Int64) (x4 : Int32) (H : Heap) (locs : List Loc) (ls : Array Slot), cB D ad cy A s.heap σ H locs → lv_has ls 5 [(0, .ref (ad 1)), (1, .int x1), (2, .long x2), (4, .int x4)] → K3 σ x1 x2 x4 = some (r0, σ0) → W p l e rm_X6_append s m args below meth c H locs 0 0 (MQ below (cQ D ad cy A none σ0) args s 0 0 A) (F0 m 3 ls [])) (σ : CS) (x1 : Int32) (x2 : Int64) (x4 : Int32) {H : Heap} {locs : List Loc} {ls : Array Slot} (hB : cB D ad cy A s.heap σ H locs) (hl : lv_has ls 5 [(0, .ref (ad 1)), (1, .int x1), (2, .long x2), (4, .int x4)]) (hf : bc_X6_append_3 n K3 σ x1 x2 x4 = some (r0, σ0)) : W p l e rm_X6_append s m args below meth c H locs 0 0 (MQ below (cQ D ad cy A none σ0) args s 0 0 A) (F0 m 3 ls []) := by
  obtain ⟨hx, hb, hml, hown, hts, hr, hlocks⟩ := id hc
  unfold bc_X6_append_3 at hf
  refine lv_iload hx hb dX6_append_3 (lv_at hl 3 rfl) ?_
  refine lv_iload_n hx hb dX6_append_5 rfl (lv_at hl 1 rfl) ?_
  refine lv_icmp_ge (tgt := 65) hx hb dX6_append_6 (by decide) (fun c1 => ?_) (fun c1 => ?_)
  · have hf := it_t hf c1
    obtain ⟨rfl, rfl⟩ := so_e hf
    exact rc_vret hx hb hr hlocks hB dX6_append_65
  · have hf := it_f hf c1
    refine lv_aload_n hx hb dX6_append_9 rfl (lv_at hl 0 rfl) ?_
    refine rc_get (own := RX6) hx hb hts inC_6 hown hV hB 1 (c34 rfl hB) (ceq_1 _ _ _) rfl 2 (Nat.le_of_ble_eq_true rfl) qf_X6_18 rfl dX6_append_10 ?_
    refine lv_if_lt (tgt := 65) hx hb dX6_append_13 (by decide) (fun c2 => ?_) (fun c2 => ?_)
    · have hf := it_t hf c2
      obtain ⟨rfl, rfl⟩ := so_e hf
      exact rc_vret hx hb hr hlocks hB dX6_append_65
    · have hf := it_f hf c2
      refine lv_aload_n hx hb dX6_append_16 rfl (lv_at hl 0 rfl) ?_
      refine rc_get (own := RX6) hx hb hts inC_6 hown hV hB 1 (c34 rfl hB) (ceq_1 _ _ _) rfl 2 (Nat.le_of_ble_eq_true rfl) qf_X6_18 rfl dX6_append_17 ?_
      refine lv_aload_n hx hb dX6_append_20 rfl (lv_at hl 0 rfl) ?_
      refine rc_get (own := RX6) hx hb hts inC_6 hown hV hB 1 (c34 rfl hB) (ceq_1 _ _ _) rfl 0 (Nat.le_of_ble_eq_true rfl) qf_X6_9 rfl dX6_append_21 ?_
      refine rc_alen hx hb hV hB 2 (c34 rfl hB) (ceq_2 _ _ _) rfl dX6_append_24 ?_
      refine lv_icmp_ge (tgt := 65) hx hb dX6_append_25 (by decide) (fun c3 => ?_) (fun c3 => ?_)
      · have hf := it_t hf c3
        obtain ⟨rfl, rfl⟩ := so_e hf
        exact rc_vret hx hb hr hlocks hB dX6_append_65
      · have hf := it_f hf c3
        refine lv_aload_n hx hb dX6_append_28 rfl (lv_at hl 0 rfl) ?_
        refine rc_get (own := RX6) hx hb hts inC_6 hown hV hB 1 (c34 rfl hB) (ceq_1 _ _ _) rfl 0 (Nat.le_of_ble_eq_true rfl) qf_X6_9 rfl dX6_append_29 ?_
        refine lv_aload_n hx hb dX6_append_32 rfl (lv_at hl 0 rfl) ?_
        refine rc_get (own := RX6) hx hb hts inC_6 hown hV hB 1 (c34 rfl hB) (ceq_1 _ _ _) rfl 2 (Nat.le_of_ble_eq_true rfl) qf_X6_18 rfl dX6_append_33 ?_
        refine lv_lload_n hx hb dX6_append_36 rfl (lv_at hl 2 rfl) ?_
        refine lv_bipush (v := 8) hx hb dX6_append_37 (by decide) ?_
        refine lv_iload hx hb dX6_append_39 (lv_at hl 3 rfl) ?_
        refine lv_imul hx hb dX6_append_41 ?_
        refine lv_lushr hx hb dX6_append_42 rfl ?_
        refine lv_ldc2 (v := 255) hx hb hown (hts _ qc_184) dX6_append_43 ?_
        refine lv_land hx hb dX6_append_46 ?_
        refine lv_topl (fun y4 ey4 => ?_)
        have hf := sq_e hf y4 ey4
        refine lv_l2i hx hb dX6_append_47 rfl ?_
        obtain ⟨k5, hf⟩ := ck_e hf
        refine rc_ast hx hb hV hB 2 (c34 rfl hB) (ceq_2 _ _ _) (fun _ => rfl) k5 dX6_append_48 (fun σ6 eσ6 H locs hB => ?_)
        have hf := sq_e hf σ6 eσ6
        refine lv_aload_n hx hb dX6_append_49 rfl (lv_at hl 0 rfl) ?_
        refine lv_dup hx hb dX6_append_50 rfl ?_
        refine rc_get (own := RX6) hx hb hts inC_6 hown hV hB 1 (c34 rfl hB) (ceq_1 _ _ _) rfl 2 (Nat.le_of_ble_eq_true rfl) qf_X6_18 rfl dX6_append_51 ?_
        refine lv_iconst (v := 1) hx hb dX6_append_54 (by decide) ?_
        refine lv_iadd hx hb dX6_append_55 ?_
        refine rc_puti (own := RX6) (ty := .int) hx hb hts inC_6 hown hV hB 1 (c34 rfl hB) (ceq_1 _ _ _) rfl 2 (Nat.le_of_ble_eq_true rfl) qf_X6_18 tyX6 tyX6_ok nmX6 (cst_1_2 _ _ _ _) rfl pdc_6_2 rfl rfl (Nat.le_of_ble_eq_true rfl) dX6_append_56 (fun σ7 eσ7 H locs hB => ?_)
        have hf := sq_e hf σ7 eσ7
        obtain ⟨y8, ey8⟩ : ∃ z : Int32, z = x4 + 1 := ⟨_, rfl⟩
        have hf := sq_e hf y8 ey8
        refine lv_iinc (v := y8) (lv' := [(4, .int y8), (0, .ref (ad 1)), (1, .int x1), (2, .long x2)]) hx hb dX6_append_59 hl (k := 3) rfl (by rw [ey8]; rfl) (by decide) rfl (fun ls hl => ?_)
        refine lv_goto (tgt := 3) hx hb dX6_append_62 (by decide) ?_
        exact hK3 σ7 x1 x2 y8 _ _ _ hB (lv_sub hl [1, 2, 3, 0] rfl) hf
def lc_X6_append_3 (n : Nat) : Nat → CS → Int32 → Int64 → Int32 → Option ((Int32) × CS)
  | 0 => fun _ _ _ _ => none
  | k + 1 => bc_X6_append_3 n (lc_X6_append_3 n k)
theorem tlc_X6_append_3 {p : Program} {l : Launch} {e : Env} {s : State} {m : MethodId} {args : Array Value} {below : List Frame} {meth : Method} {c : Code} {D : va_G} {A : Nat → Prop} {ad : Nat → Nat} {cy : CY} {z : CZ} {r0 : Int32} {σ0 : CS} (hc : cxB RX6 wsC cX6_append 5 none p s m args meth c) (hV : cV D cy z A s) (n : Nat) : ∀ (k : Nat) (σ : CS) (x1 : Int32) (x2 : Int64) (x4 : Int32) (H : Heap) (locs : List Loc) (ls : Array Slot), cB D ad cy A s.heap σ H locs → lv_has ls 5 [(0, .ref (ad 1)), (1, .int x1), (2, .long x2), (4, .int x4)] → lc_X6_append_3 n k σ x1 x2 x4 = some (r0, σ0) → W p l e rm_X6_append s m args below meth c H locs 0 0 (MQ below (cQ D ad cy A none σ0) args s 0 0 A) (F0 m 3 ls []) := by
  intro k
  induction k with
  | zero =>
    intro σ x1 x2 x4 H locs ls hB hl hf
    have hf : (none : Option ((Int32) × CS)) = some (r0, σ0) := hf
    cases hf
  | succ k ih =>
    intro σ x1 x2 x4 H locs ls hB hl hf
    exact tbc_X6_append_3 hc hV n (lc_X6_append_3 n k) ih σ x1 x2 x4 hB hl hf
def fc_X6_append (n : Nat) (σ : CS) (x1 : Int32) (x2 : Int64) : Option ((Int32) × CS) := sq (0 : Int32) (fun y1 => lc_X6_append_3 n n σ x1 x2 y1)
set_option maxRecDepth 100000 in
set_option maxHeartbeats 4000000 in
theorem tbc_X6_append_0 {p : Program} {l : Launch} {e : Env} {s : State} {m : MethodId} {args : Array Value} {below : List Frame} {meth : Method} {c : Code} {D : va_G} {A : Nat → Prop} {ad : Nat → Nat} {cy : CY} {z : CZ} {r0 : Int32} {σ0 : CS} (hc : cxB RX6 wsC cX6_append 5 none p s m args meth c) (hV : cV D cy z A s) (n : Nat) (σ : CS) (x1 : Int32) (x2 : Int64) {H : Heap} {locs : List Loc} {ls : Array Slot} (hB : cB D ad cy A s.heap σ H locs) (hl : lv_has ls 5 [(0, .ref (ad 1)), (1, .int x1), (2, .long x2)]) (hf : fc_X6_append n σ x1 x2 = some (r0, σ0)) : W p l e rm_X6_append s m args below meth c H locs 0 0 (MQ below (cQ D ad cy A none σ0) args s 0 0 A) (F0 m 0 ls []) := by
  obtain ⟨hx, hb, hml, hown, hts, hr, hlocks⟩ := id hc
  unfold fc_X6_append at hf
  refine lv_iconst (v := 0) hx hb dX6_append_0 (by decide) ?_
  refine lv_topi (fun y1 ey1 => ?_)
  have hf := sq_e hf y1 ey1
  refine lv_istore (lv' := [(4, .int y1), (0, .ref (ad 1)), (1, .int x1), (2, .long x2)]) hx hb dX6_append_1 hl (by decide) rfl (fun ls hl => ?_)
  exact tlc_X6_append_3 hc hV n n σ x1 x2 y1 _ _ _ hB (lv_sub hl [1, 2, 3, 0] rfl) hf
theorem cc_X6_append (l : Launch) (D : va_G) (ad : Nat → Nat) (cy : CY) (z : CZ) (n : Nat) (σ : CS) (x1 : Int32) (x2 : Int64) {r0 : Int32} {σ0 : CS} (hf : fc_X6_append n σ x1 x2 = some (r0, σ0)) : cM l yX6_append wn_X6_append rm_X6_append D ad cy z [.ref (ad 1), .int x1, .long x2] σ none σ0 :=
  rc_met (ret := none) (by decide) rfl (Nat.le_of_ble_eq_true rfl) (fun p e s m below meth c A ls hc hV hB hl => tbc_X6_append_0 hc hV n σ x1 x2 hB hl hf)
/-! X6_begin -/
abbrev rm_X6_begin : Room := { frames := 0, cells := 0, slots := 0, locals := 0 }
abbrev wn_X6_begin : List Cond := .code yX6_begin cX6_begin 1 none :: wsC
def fc_X6_begin (n : Nat) (σ : CS) : Option ((Int32) × CS) := sq (cp σ 1 4 0) (fun σ1 => sq (cp σ1 1 3 (-1)) (fun σ2 => some (0, σ2)))
set_option maxRecDepth 100000 in
set_option maxHeartbeats 4000000 in
theorem tbc_X6_begin_0 {p : Program} {l : Launch} {e : Env} {s : State} {m : MethodId} {args : Array Value} {below : List Frame} {meth : Method} {c : Code} {D : va_G} {A : Nat → Prop} {ad : Nat → Nat} {cy : CY} {z : CZ} {r0 : Int32} {σ0 : CS} (hc : cxB RX6 wsC cX6_begin 1 none p s m args meth c) (hV : cV D cy z A s) (n : Nat) (σ : CS) {H : Heap} {locs : List Loc} {ls : Array Slot} (hB : cB D ad cy A s.heap σ H locs) (hl : lv_has ls 1 [(0, .ref (ad 1))]) (hf : fc_X6_begin n σ = some (r0, σ0)) : W p l e rm_X6_begin s m args below meth c H locs 0 0 (MQ below (cQ D ad cy A none σ0) args s 0 0 A) (F0 m 0 ls []) := by
  obtain ⟨hx, hb, hml, hown, hts, hr, hlocks⟩ := id hc
  unfold fc_X6_begin at hf
  refine lv_aload_n hx hb dX6_begin_0 rfl (lv_at hl 0 rfl) ?_
  refine lv_iconst (v := 0) hx hb dX6_begin_1 (by decide) ?_
  refine rc_puti (own := RX6) (ty := .int) hx hb hts inC_6 hown hV hB 1 (c34 rfl hB) (ceq_1 _ _ _) rfl 4 (Nat.le_of_ble_eq_true rfl) qf_X6_59 tyX6 tyX6_ok nmX6 (cst_1_4 _ _ _ _) rfl pdc_6_4 rfl rfl (Nat.le_of_ble_eq_true rfl) dX6_begin_2 (fun σ1 eσ1 H locs hB => ?_)
  have hf := sq_e hf σ1 eσ1
  refine lv_aload_n hx hb dX6_begin_5 rfl (lv_at hl 0 rfl) ?_
  refine lv_iconst (v := (-1)) hx hb dX6_begin_6 (by decide) ?_
  refine rc_puti (own := RX6) (ty := .int) hx hb hts inC_6 hown hV hB 1 (c34 rfl hB) (ceq_1 _ _ _) rfl 3 (Nat.le_of_ble_eq_true rfl) qf_X6_38 tyX6 tyX6_ok nmX6 (cst_1_3 _ _ _ _) rfl pdc_6_3 rfl rfl (Nat.le_of_ble_eq_true rfl) dX6_begin_7 (fun σ2 eσ2 H locs hB => ?_)
  have hf := sq_e hf σ2 eσ2
  obtain ⟨rfl, rfl⟩ := so_e hf
  exact rc_vret hx hb hr hlocks hB dX6_begin_10
theorem cc_X6_begin (l : Launch) (D : va_G) (ad : Nat → Nat) (cy : CY) (z : CZ) (n : Nat) (σ : CS) {r0 : Int32} {σ0 : CS} (hf : fc_X6_begin n σ = some (r0, σ0)) : cM l yX6_begin wn_X6_begin rm_X6_begin D ad cy z [.ref (ad 1)] σ none σ0 :=
  rc_met (ret := none) (by decide) rfl (Nat.le_of_ble_eq_true rfl) (fun p e s m below meth c A ls hc hV hB hl => tbc_X6_begin_0 hc hV n σ hB hl hf)
/-! X6_next -/
abbrev rm_X6_next : Room := { frames := 0, cells := 0, slots := 0, locals := 0 }
abbrev wn_X6_next : List Cond := .code yX6_next cX6_next 2 (some .int) :: wsC
def bc_X6_next_43 (n : Nat) (σ : CS) (t0 : Int32) : Option ((Int32) × CS) := if (t0 = 0) then (some ((-1), σ)) else (ck (ib (σ.1 1 4) 20) (sq ((σ.1 2 (Int32.toNatClampNeg (σ.1 1 4))) : Int32) (fun y3 => some (y3, σ))))
set_option maxRecDepth 100000 in
set_option maxHeartbeats 4000000 in
theorem tbc_X6_next_43 {p : Program} {l : Launch} {e : Env} {s : State} {m : MethodId} {args : Array Value} {below : List Frame} {meth : Method} {c : Code} {D : va_G} {A : Nat → Prop} {ad : Nat → Nat} {cy : CY} {z : CZ} {r0 : Int32} {σ0 : CS} (hc : cxB RX6 wsC cX6_next 2 (some .int) p s m args meth c) (hV : cV D cy z A s) (n : Nat) (σ : CS) (t0 : Int32) {H : Heap} {locs : List Loc} {ls : Array Slot} (hB : cB D ad cy A s.heap σ H locs) (hl : lv_has ls 2 [(0, .ref (ad 1))]) (hf : bc_X6_next_43 n σ t0 = some (r0, σ0)) : W p l e rm_X6_next s m args below meth c H locs 0 0 (MQ below (cQ D ad cy A (some (.int r0)) σ0) args s 0 0 A) (F0 m 43 ls [.int t0]) := by
  obtain ⟨hx, hb, hml, hown, hts, hr, hlocks⟩ := id hc
  unfold bc_X6_next_43 at hf
  refine lv_istore_n (lv' := [(1, .int t0), (0, .ref (ad 1))]) hx hb dX6_next_43 rfl hl (by decide) rfl (fun ls hl => ?_)
  refine lv_iload_n hx hb dX6_next_44 rfl (lv_at hl 0 rfl) ?_
  refine lv_if_eq (tgt := 60) hx hb dX6_next_45 (by decide) (fun c1 => ?_) (fun c1 => ?_)
  · have hf := it_t hf c1
    refine lv_iconst (v := (-1)) hx hb dX6_next_60 (by decide) ?_
    obtain ⟨rfl, rfl⟩ := so_e hf
    exact rc_iret hx hb hr hlocks hB dX6_next_61
  · have hf := it_f hf c1
    refine lv_aload_n hx hb dX6_next_48 rfl (lv_at hl 1 rfl) ?_
    refine rc_get (own := RX6) hx hb hts inC_6 hown hV hB 1 (c34 rfl hB) (ceq_1 _ _ _) rfl 0 (Nat.le_of_ble_eq_true rfl) qf_X6_9 rfl dX6_next_49 ?_
    refine lv_aload_n hx hb dX6_next_52 rfl (lv_at hl 1 rfl) ?_
    refine rc_get (own := RX6) hx hb hts inC_6 hown hV hB 1 (c34 rfl hB) (ceq_1 _ _ _) rfl 4 (Nat.le_of_ble_eq_true rfl) qf_X6_59 rfl dX6_next_53 ?_
    obtain ⟨k2, hf⟩ := ck_e hf
    refine rc_ald hx hb hV hB 2 (c34 rfl hB) (ceq_2 _ _ _) k2 dX6_next_56 ?_
    refine lv_topi (fun y3 ey3 => ?_)
    have hf := sq_e hf y3 ey3
    refine lv_goto (tgt := 61) hx hb dX6_next_57 (by decide) ?_
    obtain ⟨rfl, rfl⟩ := so_e hf
    exact rc_iret hx hb hr hlocks hB dX6_next_61
def bc_X6_next_42 (n : Nat) (σ : CS) : Option ((Int32) × CS) := bc_X6_next_43 n σ 0
set_option maxRecDepth 100000 in
set_option maxHeartbeats 4000000 in
theorem tbc_X6_next_42 {p : Program} {l : Launch} {e : Env} {s : State} {m : MethodId} {args : Array Value} {below : List Frame} {meth : Method} {c : Code} {D : va_G} {A : Nat → Prop} {ad : Nat → Nat} {cy : CY} {z : CZ} {r0 : Int32} {σ0 : CS} (hc : cxB RX6 wsC cX6_next 2 (some .int) p s m args meth c) (hV : cV D cy z A s) (n : Nat) (σ : CS) {H : Heap} {locs : List Loc} {ls : Array Slot} (hB : cB D ad cy A s.heap σ H locs) (hl : lv_has ls 2 [(0, .ref (ad 1))]) (hf : bc_X6_next_42 n σ = some (r0, σ0)) : W p l e rm_X6_next s m args below meth c H locs 0 0 (MQ below (cQ D ad cy A (some (.int r0)) σ0) args s 0 0 A) (F0 m 42 ls []) := by
  obtain ⟨hx, hb, hml, hown, hts, hr, hlocks⟩ := id hc
  unfold bc_X6_next_42 at hf
  refine lv_iconst (v := 0) hx hb dX6_next_42 (by decide) ?_
  exact tbc_X6_next_43 hc hV n σ 0 hB (lv_sub hl [0] rfl) hf
def fc_X6_next (n : Nat) (σ : CS) : Option ((Int32) × CS) := if ((σ.1 1 3) = (-1)) then (if ((σ.1 1 4) < 0) then (bc_X6_next_42 n σ) else (if ((σ.1 1 2) ≤ (σ.1 1 4)) then (bc_X6_next_42 n σ) else (if ((Int32.ofNat 20) ≤ (σ.1 1 4)) then (bc_X6_next_42 n σ) else (bc_X6_next_43 n σ 1)))) else (bc_X6_next_42 n σ)
set_option maxRecDepth 100000 in
set_option maxHeartbeats 4000000 in
theorem tbc_X6_next_0 {p : Program} {l : Launch} {e : Env} {s : State} {m : MethodId} {args : Array Value} {below : List Frame} {meth : Method} {c : Code} {D : va_G} {A : Nat → Prop} {ad : Nat → Nat} {cy : CY} {z : CZ} {r0 : Int32} {σ0 : CS} (hc : cxB RX6 wsC cX6_next 2 (some .int) p s m args meth c) (hV : cV D cy z A s) (n : Nat) (σ : CS) {H : Heap} {locs : List Loc} {ls : Array Slot} (hB : cB D ad cy A s.heap σ H locs) (hl : lv_has ls 2 [(0, .ref (ad 1))]) (hf : fc_X6_next n σ = some (r0, σ0)) : W p l e rm_X6_next s m args below meth c H locs 0 0 (MQ below (cQ D ad cy A (some (.int r0)) σ0) args s 0 0 A) (F0 m 0 ls []) := by
  obtain ⟨hx, hb, hml, hown, hts, hr, hlocks⟩ := id hc
  unfold fc_X6_next at hf
  refine lv_aload_n hx hb dX6_next_0 rfl (lv_at hl 0 rfl) ?_
  refine rc_get (own := RX6) hx hb hts inC_6 hown hV hB 1 (c34 rfl hB) (ceq_1 _ _ _) rfl 3 (Nat.le_of_ble_eq_true rfl) qf_X6_38 rfl dX6_next_1 ?_
  refine lv_iconst (v := (-1)) hx hb dX6_next_4 (by decide) ?_
  refine lv_icmp_ne (tgt := 42) hx hb dX6_next_5 (by decide) (fun c1 => ?_) (fun c1 => ?_)
  · have hf := it_f hf c1
    exact tbc_X6_next_42 hc hV n σ hB (lv_sub hl [0] rfl) hf
  · have hf := it_t hf c1
    refine lv_aload_n hx hb dX6_next_8 rfl (lv_at hl 0 rfl) ?_
    refine rc_get (own := RX6) hx hb hts inC_6 hown hV hB 1 (c34 rfl hB) (ceq_1 _ _ _) rfl 4 (Nat.le_of_ble_eq_true rfl) qf_X6_59 rfl dX6_next_9 ?_
    refine lv_if_lt (tgt := 42) hx hb dX6_next_12 (by decide) (fun c2 => ?_) (fun c2 => ?_)
    · have hf := it_t hf c2
      exact tbc_X6_next_42 hc hV n σ hB (lv_sub hl [0] rfl) hf
    · have hf := it_f hf c2
      refine lv_aload_n hx hb dX6_next_15 rfl (lv_at hl 0 rfl) ?_
      refine rc_get (own := RX6) hx hb hts inC_6 hown hV hB 1 (c34 rfl hB) (ceq_1 _ _ _) rfl 4 (Nat.le_of_ble_eq_true rfl) qf_X6_59 rfl dX6_next_16 ?_
      refine lv_aload_n hx hb dX6_next_19 rfl (lv_at hl 0 rfl) ?_
      refine rc_get (own := RX6) hx hb hts inC_6 hown hV hB 1 (c34 rfl hB) (ceq_1 _ _ _) rfl 2 (Nat.le_of_ble_eq_true rfl) qf_X6_18 rfl dX6_next_20 ?_
      refine lv_icmp_ge (tgt := 42) hx hb dX6_next_23 (by decide) (fun c3 => ?_) (fun c3 => ?_)
      · have hf := it_t hf c3
        exact tbc_X6_next_42 hc hV n σ hB (lv_sub hl [0] rfl) hf
      · have hf := it_f hf c3
        refine lv_aload_n hx hb dX6_next_26 rfl (lv_at hl 0 rfl) ?_
        refine rc_get (own := RX6) hx hb hts inC_6 hown hV hB 1 (c34 rfl hB) (ceq_1 _ _ _) rfl 4 (Nat.le_of_ble_eq_true rfl) qf_X6_59 rfl dX6_next_27 ?_
        refine lv_aload_n hx hb dX6_next_30 rfl (lv_at hl 0 rfl) ?_
        refine rc_get (own := RX6) hx hb hts inC_6 hown hV hB 1 (c34 rfl hB) (ceq_1 _ _ _) rfl 0 (Nat.le_of_ble_eq_true rfl) qf_X6_9 rfl dX6_next_31 ?_
        refine rc_alen hx hb hV hB 2 (c34 rfl hB) (ceq_2 _ _ _) rfl dX6_next_34 ?_
        refine lv_icmp_ge (tgt := 42) hx hb dX6_next_35 (by decide) (fun c4 => ?_) (fun c4 => ?_)
        · have hf := it_t hf c4
          exact tbc_X6_next_42 hc hV n σ hB (lv_sub hl [0] rfl) hf
        · have hf := it_f hf c4
          refine lv_iconst (v := 1) hx hb dX6_next_38 (by decide) ?_
          refine lv_goto (tgt := 43) hx hb dX6_next_39 (by decide) ?_
          exact tbc_X6_next_43 hc hV n σ 1 hB (lv_sub hl [0] rfl) hf
theorem cc_X6_next (l : Launch) (D : va_G) (ad : Nat → Nat) (cy : CY) (z : CZ) (n : Nat) (σ : CS) {r0 : Int32} {σ0 : CS} (hf : fc_X6_next n σ = some (r0, σ0)) : cM l yX6_next wn_X6_next rm_X6_next D ad cy z [.ref (ad 1)] σ (some (.int r0)) σ0 :=
  rc_met (ret := (some .int)) (by decide) rfl (Nat.le_of_ble_eq_true rfl) (fun p e s m below meth c A ls hc hV hB hl => tbc_X6_next_0 hc hV n σ hB hl hf)
/-! X6_failAt -/
abbrev rm_X6_failAt : Room := { frames := 0, cells := 0, slots := 0, locals := 0 }
abbrev wn_X6_failAt : List Cond := .code yX6_failAt cX6_failAt 2 none :: wsC
def fc_X6_failAt (n : Nat) (σ : CS) (x1 : Int32) : Option ((Int32) × CS) := if ((σ.1 1 3) = (-1)) then (sq (cp σ 1 3 x1) (fun σ2 => some (0, σ2))) else (some (0, σ))
set_option maxRecDepth 100000 in
set_option maxHeartbeats 4000000 in
theorem tbc_X6_failAt_0 {p : Program} {l : Launch} {e : Env} {s : State} {m : MethodId} {args : Array Value} {below : List Frame} {meth : Method} {c : Code} {D : va_G} {A : Nat → Prop} {ad : Nat → Nat} {cy : CY} {z : CZ} {r0 : Int32} {σ0 : CS} (hc : cxB RX6 wsC cX6_failAt 2 none p s m args meth c) (hV : cV D cy z A s) (n : Nat) (σ : CS) (x1 : Int32) {H : Heap} {locs : List Loc} {ls : Array Slot} (hB : cB D ad cy A s.heap σ H locs) (hl : lv_has ls 2 [(0, .ref (ad 1)), (1, .int x1)]) (hf : fc_X6_failAt n σ x1 = some (r0, σ0)) : W p l e rm_X6_failAt s m args below meth c H locs 0 0 (MQ below (cQ D ad cy A none σ0) args s 0 0 A) (F0 m 0 ls []) := by
  obtain ⟨hx, hb, hml, hown, hts, hr, hlocks⟩ := id hc
  unfold fc_X6_failAt at hf
  refine lv_aload_n hx hb dX6_failAt_0 rfl (lv_at hl 0 rfl) ?_
  refine rc_get (own := RX6) hx hb hts inC_6 hown hV hB 1 (c34 rfl hB) (ceq_1 _ _ _) rfl 3 (Nat.le_of_ble_eq_true rfl) qf_X6_38 rfl dX6_failAt_1 ?_
  refine lv_iconst (v := (-1)) hx hb dX6_failAt_4 (by decide) ?_
  refine lv_icmp_ne (tgt := 13) hx hb dX6_failAt_5 (by decide) (fun c1 => ?_) (fun c1 => ?_)
  · have hf := it_f hf c1
    obtain ⟨rfl, rfl⟩ := so_e hf
    exact rc_vret hx hb hr hlocks hB dX6_failAt_13
  · have hf := it_t hf c1
    refine lv_aload_n hx hb dX6_failAt_8 rfl (lv_at hl 0 rfl) ?_
    refine lv_iload_n hx hb dX6_failAt_9 rfl (lv_at hl 1 rfl) ?_
    refine rc_puti (own := RX6) (ty := .int) hx hb hts inC_6 hown hV hB 1 (c34 rfl hB) (ceq_1 _ _ _) rfl 3 (Nat.le_of_ble_eq_true rfl) qf_X6_38 tyX6 tyX6_ok nmX6 (cst_1_3 _ _ _ _) rfl pdc_6_3 rfl rfl (Nat.le_of_ble_eq_true rfl) dX6_failAt_10 (fun σ2 eσ2 H locs hB => ?_)
    have hf := sq_e hf σ2 eσ2
    obtain ⟨rfl, rfl⟩ := so_e hf
    exact rc_vret hx hb hr hlocks hB dX6_failAt_13
theorem cc_X6_failAt (l : Launch) (D : va_G) (ad : Nat → Nat) (cy : CY) (z : CZ) (n : Nat) (σ : CS) (x1 : Int32) {r0 : Int32} {σ0 : CS} (hf : fc_X6_failAt n σ x1 = some (r0, σ0)) : cM l yX6_failAt wn_X6_failAt rm_X6_failAt D ad cy z [.ref (ad 1), .int x1] σ none σ0 :=
  rc_met (ret := none) (by decide) rfl (Nat.le_of_ble_eq_true rfl) (fun p e s m below meth c A ls hc hV hB hl => tbc_X6_failAt_0 hc hV n σ x1 hB hl hf)
/-! X6_expect -/
theorem kwc_X6_31 {R : Room} {s : State} {args : Array Value} (hts : ∀ w ∈ wsC, w.before args s = true) (hR : rm_X6_next.frames + 1 ≤ R.frames ∧ 8 + (2 + 11) + rm_X6_next.locals ≤ R.locals) : CallW R s args RX6 RX6 31 yX6_next cX6_next 2 (some .int) wn_X6_next rm_X6_next 0 0 0 := cwV 0 hts (gC_v qc_191 qc_192 qc_193 qc_194 qc_188) rfl rfl rfl (by decide +kernel) hR
theorem kwc_X6_62 {R : Room} {s : State} {args : Array Value} (hts : ∀ w ∈ wsC, w.before args s = true) (hR : rm_X6_failAt.frames + 1 ≤ R.frames ∧ 8 + (2 + 11) + rm_X6_failAt.locals ≤ R.locals) : CallW R s args RX6 RX6 62 yX6_failAt cX6_failAt 2 none wn_X6_failAt rm_X6_failAt 0 0 1 := cwV 1 hts (gC_v qc_195 qc_196 qc_197 qc_194 qc_189) rfl rfl rfl (by decide +kernel) hR
abbrev rm_X6_expect : Room := { frames := 1, cells := 0, slots := 0, locals := 21 }
abbrev wn_X6_expect : List Cond := .code yX6_expect cX6_expect 2 none :: wsC
def fc_X6_expect (n : Nat) (σ : CS) (x1 : Int32) : Option ((Int32) × CS) := bd (fc_X6_next n σ) (fun r1 σ2 => if (r1 = x1) then (sq (cp σ2 1 4 ((σ2.1 1 4) + 1)) (fun σ6 => some (0, σ6))) else (bd (fc_X6_failAt n σ2 (σ2.1 1 4)) (fun _ σ5 => some (0, σ5))))
set_option maxRecDepth 100000 in
set_option maxHeartbeats 4000000 in
theorem tbc_X6_expect_0 {p : Program} {l : Launch} {e : Env} {s : State} {m : MethodId} {args : Array Value} {below : List Frame} {meth : Method} {c : Code} {D : va_G} {A : Nat → Prop} {ad : Nat → Nat} {cy : CY} {z : CZ} {r0 : Int32} {σ0 : CS} (hc : cxB RX6 wsC cX6_expect 2 none p s m args meth c) (hV : cV D cy z A s) (n : Nat) (σ : CS) (x1 : Int32) {H : Heap} {locs : List Loc} {ls : Array Slot} (hB : cB D ad cy A s.heap σ H locs) (hl : lv_has ls 2 [(0, .ref (ad 1)), (1, .int x1)]) (hf : fc_X6_expect n σ x1 = some (r0, σ0)) : W p l e rm_X6_expect s m args below meth c H locs 0 0 (MQ below (cQ D ad cy A none σ0) args s 0 0 A) (F0 m 0 ls []) := by
  obtain ⟨hx, hb, hml, hown, hts, hr, hlocks⟩ := id hc
  unfold fc_X6_expect at hf
  refine lv_aload_n hx hb dX6_expect_0 rfl (lv_at hl 0 rfl) ?_
  obtain ⟨r1, σ2, hkr1, hf⟩ := bd_e hf
  refine rc_callV (own := RX6) (av := []) (rest := []) (rv := (some (.int r1))) hx hb hml hown hts hl.1 hV hB 1 (c34 rfl hB) (ceq_1 _ _ _) rfl (cc_X6_next l D ad cy z n σ hkr1) (kwc_X6_31  hts ⟨Nat.le_of_ble_eq_true rfl, Nat.le_of_ble_eq_true rfl⟩) rfl rfl (lv_room (Nat.le_of_ble_eq_true rfl)) dX6_expect_1 (Nat.le_refl _) (Nat.le_refl _) (fun H locs hB => ?_)
  refine W.eq (g2 := F0 m 4 ls [.int r1]) rfl ?_
  refine lv_iload_n hx hb dX6_expect_4 rfl (lv_at hl 1 rfl) ?_
  refine lv_icmp_ne (tgt := 21) hx hb dX6_expect_5 (by decide) (fun c3 => ?_) (fun c3 => ?_)
  · have hf := it_f hf c3
    refine lv_aload_n hx hb dX6_expect_21 rfl (lv_at hl 0 rfl) ?_
    refine lv_aload_n hx hb dX6_expect_22 rfl (lv_at hl 0 rfl) ?_
    refine rc_get (own := RX6) hx hb hts inC_6 hown hV hB 1 (c34 rfl hB) (ceq_1 _ _ _) rfl 4 (Nat.le_of_ble_eq_true rfl) qf_X6_59 rfl dX6_expect_23 ?_
    obtain ⟨r4, σ5, hkr4, hf⟩ := bd_e hf
    refine rc_callV (own := RX6) (av := [.int (σ2.1 1 4)]) (rest := []) (rv := none) hx hb hml hown hts hl.1 hV hB 1 (c34 rfl hB) (ceq_1 _ _ _) rfl (cc_X6_failAt l D ad cy z n σ2 (σ2.1 1 4) hkr4) (kwc_X6_62  hts ⟨Nat.le_of_ble_eq_true rfl, Nat.le_of_ble_eq_true rfl⟩) rfl rfl (lv_room (Nat.le_of_ble_eq_true rfl)) dX6_expect_26 (Nat.le_refl _) (Nat.le_refl _) (fun H locs hB => ?_)
    refine W.eq (g2 := F0 m 29 ls []) rfl ?_
    obtain ⟨rfl, rfl⟩ := so_e hf
    exact rc_vret hx hb hr hlocks hB dX6_expect_29
  · have hf := it_t hf c3
    refine lv_aload_n hx hb dX6_expect_8 rfl (lv_at hl 0 rfl) ?_
    refine lv_dup hx hb dX6_expect_9 rfl ?_
    refine rc_get (own := RX6) hx hb hts inC_6 hown hV hB 1 (c34 rfl hB) (ceq_1 _ _ _) rfl 4 (Nat.le_of_ble_eq_true rfl) qf_X6_59 rfl dX6_expect_10 ?_
    refine lv_iconst (v := 1) hx hb dX6_expect_13 (by decide) ?_
    refine lv_iadd hx hb dX6_expect_14 ?_
    refine rc_puti (own := RX6) (ty := .int) hx hb hts inC_6 hown hV hB 1 (c34 rfl hB) (ceq_1 _ _ _) rfl 4 (Nat.le_of_ble_eq_true rfl) qf_X6_59 tyX6 tyX6_ok nmX6 (cst_1_4 _ _ _ _) rfl pdc_6_4 rfl rfl (Nat.le_of_ble_eq_true rfl) dX6_expect_15 (fun σ6 eσ6 H locs hB => ?_)
    have hf := sq_e hf σ6 eσ6
    refine lv_goto (tgt := 29) hx hb dX6_expect_18 (by decide) ?_
    obtain ⟨rfl, rfl⟩ := so_e hf
    exact rc_vret hx hb hr hlocks hB dX6_expect_29
theorem cc_X6_expect (l : Launch) (D : va_G) (ad : Nat → Nat) (cy : CY) (z : CZ) (n : Nat) (σ : CS) (x1 : Int32) {r0 : Int32} {σ0 : CS} (hf : fc_X6_expect n σ x1 = some (r0, σ0)) : cM l yX6_expect wn_X6_expect rm_X6_expect D ad cy z [.ref (ad 1), .int x1] σ none σ0 :=
  rc_met (ret := none) (by decide) rfl (Nat.le_of_ble_eq_true rfl) (fun p e s m below meth c A ls hc hV hB hl => tbc_X6_expect_0 hc hV n σ x1 hB hl hf)
/-! X6_expectEnd -/
abbrev rm_X6_expectEnd : Room := { frames := 1, cells := 0, slots := 0, locals := 21 }
abbrev wn_X6_expectEnd : List Cond := .code yX6_expectEnd cX6_expectEnd 1 none :: wsC
def fc_X6_expectEnd (n : Nat) (σ : CS) : Option ((Int32) × CS) := bd (fc_X6_next n σ) (fun r1 σ2 => if (r1 = (-1)) then (some (0, σ2)) else (bd (fc_X6_failAt n σ2 (σ2.1 1 4)) (fun _ σ5 => some (0, σ5))))
set_option maxRecDepth 100000 in
set_option maxHeartbeats 4000000 in
theorem tbc_X6_expectEnd_0 {p : Program} {l : Launch} {e : Env} {s : State} {m : MethodId} {args : Array Value} {below : List Frame} {meth : Method} {c : Code} {D : va_G} {A : Nat → Prop} {ad : Nat → Nat} {cy : CY} {z : CZ} {r0 : Int32} {σ0 : CS} (hc : cxB RX6 wsC cX6_expectEnd 1 none p s m args meth c) (hV : cV D cy z A s) (n : Nat) (σ : CS) {H : Heap} {locs : List Loc} {ls : Array Slot} (hB : cB D ad cy A s.heap σ H locs) (hl : lv_has ls 1 [(0, .ref (ad 1))]) (hf : fc_X6_expectEnd n σ = some (r0, σ0)) : W p l e rm_X6_expectEnd s m args below meth c H locs 0 0 (MQ below (cQ D ad cy A none σ0) args s 0 0 A) (F0 m 0 ls []) := by
  obtain ⟨hx, hb, hml, hown, hts, hr, hlocks⟩ := id hc
  unfold fc_X6_expectEnd at hf
  refine lv_aload_n hx hb dX6_expectEnd_0 rfl (lv_at hl 0 rfl) ?_
  obtain ⟨r1, σ2, hkr1, hf⟩ := bd_e hf
  refine rc_callV (own := RX6) (av := []) (rest := []) (rv := (some (.int r1))) hx hb hml hown hts hl.1 hV hB 1 (c34 rfl hB) (ceq_1 _ _ _) rfl (cc_X6_next l D ad cy z n σ hkr1) (kwc_X6_31  hts ⟨Nat.le_of_ble_eq_true rfl, Nat.le_of_ble_eq_true rfl⟩) rfl rfl (lv_room (Nat.le_of_ble_eq_true rfl)) dX6_expectEnd_1 (Nat.le_refl _) (Nat.le_refl _) (fun H locs hB => ?_)
  refine W.eq (g2 := F0 m 4 ls [.int r1]) rfl ?_
  refine lv_iconst (v := (-1)) hx hb dX6_expectEnd_4 (by decide) ?_
  refine lv_icmp_eq (tgt := 16) hx hb dX6_expectEnd_5 (by decide) (fun c3 => ?_) (fun c3 => ?_)
  · have hf := it_t hf c3
    obtain ⟨rfl, rfl⟩ := so_e hf
    exact rc_vret hx hb hr hlocks hB dX6_expectEnd_16
  · have hf := it_f hf c3
    refine lv_aload_n hx hb dX6_expectEnd_8 rfl (lv_at hl 0 rfl) ?_
    refine lv_aload_n hx hb dX6_expectEnd_9 rfl (lv_at hl 0 rfl) ?_
    refine rc_get (own := RX6) hx hb hts inC_6 hown hV hB 1 (c34 rfl hB) (ceq_1 _ _ _) rfl 4 (Nat.le_of_ble_eq_true rfl) qf_X6_59 rfl dX6_expectEnd_10 ?_
    obtain ⟨r4, σ5, hkr4, hf⟩ := bd_e hf
    refine rc_callV (own := RX6) (av := [.int (σ2.1 1 4)]) (rest := []) (rv := none) hx hb hml hown hts hl.1 hV hB 1 (c34 rfl hB) (ceq_1 _ _ _) rfl (cc_X6_failAt l D ad cy z n σ2 (σ2.1 1 4) hkr4) (kwc_X6_62  hts ⟨Nat.le_of_ble_eq_true rfl, Nat.le_of_ble_eq_true rfl⟩) rfl rfl (lv_room (Nat.le_of_ble_eq_true rfl)) dX6_expectEnd_13 (Nat.le_refl _) (Nat.le_refl _) (fun H locs hB => ?_)
    refine W.eq (g2 := F0 m 16 ls []) rfl ?_
    obtain ⟨rfl, rfl⟩ := so_e hf
    exact rc_vret hx hb hr hlocks hB dX6_expectEnd_16
theorem cc_X6_expectEnd (l : Launch) (D : va_G) (ad : Nat → Nat) (cy : CY) (z : CZ) (n : Nat) (σ : CS) {r0 : Int32} {σ0 : CS} (hf : fc_X6_expectEnd n σ = some (r0, σ0)) : cM l yX6_expectEnd wn_X6_expectEnd rm_X6_expectEnd D ad cy z [.ref (ad 1)] σ none σ0 :=
  rc_met (ret := none) (by decide) rfl (Nat.le_of_ble_eq_true rfl) (fun p e s m below meth c A ls hc hV hB hl => tbc_X6_expectEnd_0 hc hV n σ hB hl hf)
/-! X6_isAtDigit -/
abbrev rm_X6_isAtDigit : Room := { frames := 1, cells := 0, slots := 0, locals := 21 }
abbrev wn_X6_isAtDigit : List Cond := .code yX6_isAtDigit cX6_isAtDigit 1 (some .boolean) :: wsC
def fc_X6_isAtDigit (n : Nat) (σ : CS) : Option ((Int32) × CS) := bd (fc_X6_next n σ) (fun r1 σ2 => if (r1 < 48) then (some (0, σ2)) else (bd (fc_X6_next n σ2) (fun r4 σ5 => if (57 < r4) then (some (0, σ5)) else (some (1, σ5)))))
set_option maxRecDepth 100000 in
set_option maxHeartbeats 4000000 in
theorem tbc_X6_isAtDigit_0 {p : Program} {l : Launch} {e : Env} {s : State} {m : MethodId} {args : Array Value} {below : List Frame} {meth : Method} {c : Code} {D : va_G} {A : Nat → Prop} {ad : Nat → Nat} {cy : CY} {z : CZ} {r0 : Int32} {σ0 : CS} (hc : cxB RX6 wsC cX6_isAtDigit 1 (some .boolean) p s m args meth c) (hV : cV D cy z A s) (n : Nat) (σ : CS) {H : Heap} {locs : List Loc} {ls : Array Slot} (hB : cB D ad cy A s.heap σ H locs) (hl : lv_has ls 1 [(0, .ref (ad 1))]) (hf : fc_X6_isAtDigit n σ = some (r0, σ0)) : W p l e rm_X6_isAtDigit s m args below meth c H locs 0 0 (MQ below (cQ D ad cy A (some (.int r0)) σ0) args s 0 0 A) (F0 m 0 ls []) := by
  obtain ⟨hx, hb, hml, hown, hts, hr, hlocks⟩ := id hc
  unfold fc_X6_isAtDigit at hf
  refine lv_aload_n hx hb dX6_isAtDigit_0 rfl (lv_at hl 0 rfl) ?_
  obtain ⟨r1, σ2, hkr1, hf⟩ := bd_e hf
  refine rc_callV (own := RX6) (av := []) (rest := []) (rv := (some (.int r1))) hx hb hml hown hts hl.1 hV hB 1 (c34 rfl hB) (ceq_1 _ _ _) rfl (cc_X6_next l D ad cy z n σ hkr1) (kwc_X6_31  hts ⟨Nat.le_of_ble_eq_true rfl, Nat.le_of_ble_eq_true rfl⟩) rfl rfl (lv_room (Nat.le_of_ble_eq_true rfl)) dX6_isAtDigit_1 (Nat.le_refl _) (Nat.le_refl _) (fun H locs hB => ?_)
  refine W.eq (g2 := F0 m 4 ls [.int r1]) rfl ?_
  refine lv_bipush (v := 48) hx hb dX6_isAtDigit_4 (by decide) ?_
  refine lv_icmp_lt (tgt := 22) hx hb dX6_isAtDigit_6 (by decide) (fun c3 => ?_) (fun c3 => ?_)
  · have hf := it_t hf c3
    refine lv_iconst (v := 0) hx hb dX6_isAtDigit_22 (by decide) ?_
    obtain ⟨rfl, rfl⟩ := so_e hf
    exact rc_zret hx hb hr hlocks rfl hB dX6_isAtDigit_23
  · have hf := it_f hf c3
    refine lv_aload_n hx hb dX6_isAtDigit_9 rfl (lv_at hl 0 rfl) ?_
    obtain ⟨r4, σ5, hkr4, hf⟩ := bd_e hf
    refine rc_callV (own := RX6) (av := []) (rest := []) (rv := (some (.int r4))) hx hb hml hown hts hl.1 hV hB 1 (c34 rfl hB) (ceq_1 _ _ _) rfl (cc_X6_next l D ad cy z n σ2 hkr4) (kwc_X6_31  hts ⟨Nat.le_of_ble_eq_true rfl, Nat.le_of_ble_eq_true rfl⟩) rfl rfl (lv_room (Nat.le_of_ble_eq_true rfl)) dX6_isAtDigit_10 (Nat.le_refl _) (Nat.le_refl _) (fun H locs hB => ?_)
    refine W.eq (g2 := F0 m 13 ls [.int r4]) rfl ?_
    refine lv_bipush (v := 57) hx hb dX6_isAtDigit_13 (by decide) ?_
    refine lv_icmp_gt (tgt := 22) hx hb dX6_isAtDigit_15 (by decide) (fun c6 => ?_) (fun c6 => ?_)
    · have hf := it_t hf c6
      refine lv_iconst (v := 0) hx hb dX6_isAtDigit_22 (by decide) ?_
      obtain ⟨rfl, rfl⟩ := so_e hf
      exact rc_zret hx hb hr hlocks rfl hB dX6_isAtDigit_23
    · have hf := it_f hf c6
      refine lv_iconst (v := 1) hx hb dX6_isAtDigit_18 (by decide) ?_
      refine lv_goto (tgt := 23) hx hb dX6_isAtDigit_19 (by decide) ?_
      obtain ⟨rfl, rfl⟩ := so_e hf
      exact rc_zret hx hb hr hlocks rfl hB dX6_isAtDigit_23
theorem cc_X6_isAtDigit (l : Launch) (D : va_G) (ad : Nat → Nat) (cy : CY) (z : CZ) (n : Nat) (σ : CS) {r0 : Int32} {σ0 : CS} (hf : fc_X6_isAtDigit n σ = some (r0, σ0)) : cM l yX6_isAtDigit wn_X6_isAtDigit rm_X6_isAtDigit D ad cy z [.ref (ad 1)] σ (some (.int r0)) σ0 :=
  rc_met (ret := (some .boolean)) (by decide) rfl (Nat.le_of_ble_eq_true rfl) (fun p e s m below meth c A ls hc hV hB hl => tbc_X6_isAtDigit_0 hc hV n σ hB hl hf)
/-! X6_readNumber -/
theorem kwc_X6_72 {R : Room} {s : State} {args : Array Value} (hts : ∀ w ∈ wsC, w.before args s = true) (hR : rm_X6_isAtDigit.frames + 1 ≤ R.frames ∧ 8 + (1 + 11) + rm_X6_isAtDigit.locals ≤ R.locals) : CallW R s args RX6 RX6 72 yX6_isAtDigit cX6_isAtDigit 1 (some .boolean) wn_X6_isAtDigit rm_X6_isAtDigit 0 0 0 := cwV 0 hts (gC_v qc_200 qc_201 qc_202 qc_194 qc_198) rfl rfl rfl (by decide +kernel) hR
abbrev rm_X6_readNumber : Room := { frames := 2, cells := 0, slots := 0, locals := 41 }
abbrev wn_X6_readNumber : List Cond := .code yX6_readNumber cX6_readNumber 6 (some .int) :: wsC
def bc_X6_readNumber_82 (n : Nat) (σ : CS) (x3 : Int32) (x4 : Int32) : Option ((Int32) × CS) := bd (fc_X6_failAt n σ x3) (fun _ σ2 => some (x4, σ2))
set_option maxRecDepth 100000 in
set_option maxHeartbeats 4000000 in
theorem tbc_X6_readNumber_82 {p : Program} {l : Launch} {e : Env} {s : State} {m : MethodId} {args : Array Value} {below : List Frame} {meth : Method} {c : Code} {D : va_G} {A : Nat → Prop} {ad : Nat → Nat} {cy : CY} {z : CZ} {r0 : Int32} {σ0 : CS} (hc : cxB RX6 wsC cX6_readNumber 6 (some .int) p s m args meth c) (hV : cV D cy z A s) (n : Nat) (σ : CS) (x3 : Int32) (x4 : Int32) {H : Heap} {locs : List Loc} {ls : Array Slot} (hB : cB D ad cy A s.heap σ H locs) (hl : lv_has ls 6 [(0, .ref (ad 1)), (3, .int x3), (4, .int x4)]) (hf : bc_X6_readNumber_82 n σ x3 x4 = some (r0, σ0)) : W p l e rm_X6_readNumber s m args below meth c H locs 0 0 (MQ below (cQ D ad cy A (some (.int r0)) σ0) args s 0 0 A) (F0 m 82 ls []) := by
  obtain ⟨hx, hb, hml, hown, hts, hr, hlocks⟩ := id hc
  unfold bc_X6_readNumber_82 at hf
  refine lv_aload_n hx hb dX6_readNumber_82 rfl (lv_at hl 0 rfl) ?_
  refine lv_iload_n hx hb dX6_readNumber_83 rfl (lv_at hl 1 rfl) ?_
  obtain ⟨r1, σ2, hkr1, hf⟩ := bd_e hf
  refine rc_callV (own := RX6) (av := [.int x3]) (rest := []) (rv := none) hx hb hml hown hts hl.1 hV hB 1 (c34 rfl hB) (ceq_1 _ _ _) rfl (cc_X6_failAt l D ad cy z n σ x3 hkr1) (kwc_X6_62  hts ⟨Nat.le_of_ble_eq_true rfl, Nat.le_of_ble_eq_true rfl⟩) rfl rfl (lv_room (Nat.le_of_ble_eq_true rfl)) dX6_readNumber_84 (Nat.le_refl _) (Nat.le_refl _) (fun H locs hB => ?_)
  refine W.eq (g2 := F0 m 87 ls []) rfl ?_
  refine lv_iload hx hb dX6_readNumber_87 (lv_at hl 2 rfl) ?_
  obtain ⟨rfl, rfl⟩ := so_e hf
  exact rc_iret hx hb hr hlocks hB dX6_readNumber_89
def bc_X6_readNumber_65 (n : Nat) (σ : CS) (x1 : Int32) (x2 : Int32) (x3 : Int32) (x4 : Int32) (x5 : Int32) : Option ((Int32) × CS) := if (x5 = 0) then (bc_X6_readNumber_82 n σ x3 x4) else (if (x4 < x1) then (bc_X6_readNumber_82 n σ x3 x4) else (if (x4 ≤ x2) then (some (x4, σ)) else (bc_X6_readNumber_82 n σ x3 x4)))
set_option maxRecDepth 100000 in
set_option maxHeartbeats 4000000 in
theorem tbc_X6_readNumber_65 {p : Program} {l : Launch} {e : Env} {s : State} {m : MethodId} {args : Array Value} {below : List Frame} {meth : Method} {c : Code} {D : va_G} {A : Nat → Prop} {ad : Nat → Nat} {cy : CY} {z : CZ} {r0 : Int32} {σ0 : CS} (hc : cxB RX6 wsC cX6_readNumber 6 (some .int) p s m args meth c) (hV : cV D cy z A s) (n : Nat) (σ : CS) (x1 : Int32) (x2 : Int32) (x3 : Int32) (x4 : Int32) (x5 : Int32) {H : Heap} {locs : List Loc} {ls : Array Slot} (hB : cB D ad cy A s.heap σ H locs) (hl : lv_has ls 6 [(0, .ref (ad 1)), (1, .int x1), (2, .int x2), (3, .int x3), (4, .int x4), (5, .int x5)]) (hf : bc_X6_readNumber_65 n σ x1 x2 x3 x4 x5 = some (r0, σ0)) : W p l e rm_X6_readNumber s m args below meth c H locs 0 0 (MQ below (cQ D ad cy A (some (.int r0)) σ0) args s 0 0 A) (F0 m 65 ls []) := by
  obtain ⟨hx, hb, hml, hown, hts, hr, hlocks⟩ := id hc
  unfold bc_X6_readNumber_65 at hf
  refine lv_iload hx hb dX6_readNumber_65 (lv_at hl 5 rfl) ?_
  refine lv_if_eq (tgt := 82) hx hb dX6_readNumber_67 (by decide) (fun c1 => ?_) (fun c1 => ?_)
  · have hf := it_t hf c1
    exact tbc_X6_readNumber_82 hc hV n σ x3 x4 hB (lv_sub hl [0, 3, 4] rfl) hf
  · have hf := it_f hf c1
    refine lv_iload hx hb dX6_readNumber_70 (lv_at hl 4 rfl) ?_
    refine lv_iload_n hx hb dX6_readNumber_72 rfl (lv_at hl 1 rfl) ?_
    refine lv_icmp_lt (tgt := 82) hx hb dX6_readNumber_73 (by decide) (fun c2 => ?_) (fun c2 => ?_)
    · have hf := it_t hf c2
      exact tbc_X6_readNumber_82 hc hV n σ x3 x4 hB (lv_sub hl [0, 3, 4] rfl) hf
    · have hf := it_f hf c2
      refine lv_iload hx hb dX6_readNumber_76 (lv_at hl 4 rfl) ?_
      refine lv_iload_n hx hb dX6_readNumber_78 rfl (lv_at hl 2 rfl) ?_
      refine lv_icmp_le (tgt := 87) hx hb dX6_readNumber_79 (by decide) (fun c3 => ?_) (fun c3 => ?_)
      · have hf := it_t hf c3
        refine lv_iload hx hb dX6_readNumber_87 (lv_at hl 4 rfl) ?_
        obtain ⟨rfl, rfl⟩ := so_e hf
        exact rc_iret hx hb hr hlocks hB dX6_readNumber_89
      · have hf := it_f hf c3
        exact tbc_X6_readNumber_82 hc hV n σ x3 x4 hB (lv_sub hl [0, 3, 4] rfl) hf
def bc_X6_readNumber_34 (n : Nat) (K11 : CS → Int32 → Int32 → Int32 → Int32 → Int32 → Option ((Int32) × CS)) (σ : CS) (x1 : Int32) (x2 : Int32) (x3 : Int32) (x4 : Int32) (x5 : Int32) : Option ((Int32) × CS) := bd (fc_X6_next n σ) (fun r1 σ2 => sq ((((x4 * 10) + r1) - 48) : Int32) (fun y3 => sq (cp σ2 1 4 ((σ2.1 1 4) + 1)) (fun σ4 => sq (x5 + 1 : Int32) (fun y5 => K11 σ4 x1 x2 x3 y3 y5))))
set_option maxRecDepth 100000 in
set_option maxHeartbeats 4000000 in
theorem tbc_X6_readNumber_34 {p : Program} {l : Launch} {e : Env} {s : State} {m : MethodId} {args : Array Value} {below : List Frame} {meth : Method} {c : Code} {D : va_G} {A : Nat → Prop} {ad : Nat → Nat} {cy : CY} {z : CZ} {r0 : Int32} {σ0 : CS} (hc : cxB RX6 wsC cX6_readNumber 6 (some .int) p s m args meth c) (hV : cV D cy z A s) (n : Nat) (K11 : CS → Int32 → Int32 → Int32 → Int32 → Int32 → Option ((Int32) × CS)) (hK11 : ∀ (σ : CS) (x1 : Int32) (x2 : Int32) (x3 : Int32) (x4 : Int32) (x5 : Int32) (H : Heap) (locs : List Loc) (ls : Array Slot), cB D ad cy A s.heap σ H locs → lv_has ls 6 [(0, .ref (ad 1)), (1, .int x1), (2, .int x2), (3, .int x3), (4, .int x4), (5, .int x5)] → K11 σ x1 x2 x3 x4 x5 = some (r0, σ0) → W p l e rm_X6_readNumber s m args below meth c H locs 0 0 (MQ below (cQ D ad cy A (some (.int r0)) σ0) args s 0 0 A) (F0 m 11 ls [])) (σ : CS) (x1 : Int32) (x2 : Int32) (x3 : Int32) (x4 : Int32) (x5 : Int32) {H : Heap} {locs : List Loc} {ls : Array Slot} (hB : cB D ad cy A s.heap σ H locs) (hl : lv_has ls 6 [(0, .ref (ad 1)), (1, .int x1), (2, .int x2), (3, .int x3), (4, .int x4), (5, .int x5)]) (hf : bc_X6_readNumber_34 n K11 σ x1 x2 x3 x4 x5 = some (r0, σ0)) : W p l e rm_X6_readNumber s m args below meth c H locs 0 0 (MQ below (cQ D ad cy A (some (.int r0)) σ0) args s 0 0 A) (F0 m 34 ls []) := by
  obtain ⟨hx, hb, hml, hown, hts, hr, hlocks⟩ := id hc
  unfold bc_X6_readNumber_34 at hf
  refine lv_iload hx hb dX6_readNumber_34 (lv_at hl 4 rfl) ?_
  refine lv_bipush (v := 10) hx hb dX6_readNumber_36 (by decide) ?_
  refine lv_imul hx hb dX6_readNumber_38 ?_
  refine lv_aload_n hx hb dX6_readNumber_39 rfl (lv_at hl 0 rfl) ?_
  obtain ⟨r1, σ2, hkr1, hf⟩ := bd_e hf
  refine rc_callV (own := RX6) (av := []) (rest := [.int (x4 * 10)]) (rv := (some (.int r1))) hx hb hml hown hts hl.1 hV hB 1 (c34 rfl hB) (ceq_1 _ _ _) rfl (cc_X6_next l D ad cy z n σ hkr1) (kwc_X6_31  hts ⟨Nat.le_of_ble_eq_true rfl, Nat.le_of_ble_eq_true rfl⟩) rfl rfl (lv_room (Nat.le_of_ble_eq_true rfl)) dX6_readNumber_40 (Nat.le_refl _) (Nat.le_refl _) (fun H locs hB => ?_)
  refine W.eq (g2 := F0 m 43 ls [.int r1, .int (x4 * 10)]) rfl ?_
  refine lv_iadd hx hb dX6_readNumber_43 ?_
  refine lv_bipush (v := 48) hx hb dX6_readNumber_44 (by decide) ?_
  refine lv_isub hx hb dX6_readNumber_46 ?_
  refine lv_topi (fun y3 ey3 => ?_)
  have hf := sq_e hf y3 ey3
  refine lv_istore (lv' := [(4, .int y3), (0, .ref (ad 1)), (1, .int x1), (2, .int x2), (3, .int x3), (5, .int x5)]) hx hb dX6_readNumber_47 hl (by decide) rfl (fun ls hl => ?_)
  refine lv_aload_n hx hb dX6_readNumber_49 rfl (lv_at hl 1 rfl) ?_
  refine lv_dup hx hb dX6_readNumber_50 rfl ?_
  refine rc_get (own := RX6) hx hb hts inC_6 hown hV hB 1 (c34 rfl hB) (ceq_1 _ _ _) rfl 4 (Nat.le_of_ble_eq_true rfl) qf_X6_59 rfl dX6_readNumber_51 ?_
  refine lv_iconst (v := 1) hx hb dX6_readNumber_54 (by decide) ?_
  refine lv_iadd hx hb dX6_readNumber_55 ?_
  refine rc_puti (own := RX6) (ty := .int) hx hb hts inC_6 hown hV hB 1 (c34 rfl hB) (ceq_1 _ _ _) rfl 4 (Nat.le_of_ble_eq_true rfl) qf_X6_59 tyX6 tyX6_ok nmX6 (cst_1_4 _ _ _ _) rfl pdc_6_4 rfl rfl (Nat.le_of_ble_eq_true rfl) dX6_readNumber_56 (fun σ4 eσ4 H locs hB => ?_)
  have hf := sq_e hf σ4 eσ4
  obtain ⟨y5, ey5⟩ : ∃ z : Int32, z = x5 + 1 := ⟨_, rfl⟩
  have hf := sq_e hf y5 ey5
  refine lv_iinc (v := y5) (lv' := [(5, .int y5), (4, .int y3), (0, .ref (ad 1)), (1, .int x1), (2, .int x2), (3, .int x3)]) hx hb dX6_readNumber_59 hl (k := 5) rfl (by rw [ey5]; rfl) (by decide) rfl (fun ls hl => ?_)
  refine lv_goto (tgt := 11) hx hb dX6_readNumber_62 (by decide) ?_
  exact hK11 σ4 x1 x2 x3 y3 y5 _ _ _ hB (lv_sub hl [2, 3, 4, 5, 1, 0] rfl) hf
def bc_X6_readNumber_11 (n : Nat) (K11 : CS → Int32 → Int32 → Int32 → Int32 → Int32 → Option ((Int32) × CS)) (σ : CS) (x1 : Int32) (x2 : Int32) (x3 : Int32) (x4 : Int32) (x5 : Int32) : Option ((Int32) × CS) := if (3 ≤ x5) then (bc_X6_readNumber_65 n σ x1 x2 x3 x4 x5) else (bd (fc_X6_isAtDigit n σ) (fun r2 σ3 => if (r2 = 0) then (bc_X6_readNumber_65 n σ3 x1 x2 x3 x4 x5) else (if (x5 = 0) then (bc_X6_readNumber_34 n K11 σ3 x1 x2 x3 x4 x5) else (if (x4 ≤ 0) then (bc_X6_readNumber_65 n σ3 x1 x2 x3 x4 x5) else (bc_X6_readNumber_34 n K11 σ3 x1 x2 x3 x4 x5)))))
set_option maxRecDepth 100000 in
set_option maxHeartbeats 4000000 in
theorem tbc_X6_readNumber_11 {p : Program} {l : Launch} {e : Env} {s : State} {m : MethodId} {args : Array Value} {below : List Frame} {meth : Method} {c : Code} {D : va_G} {A : Nat → Prop} {ad : Nat → Nat} {cy : CY} {z : CZ} {r0 : Int32} {σ0 : CS} (hc : cxB RX6 wsC cX6_readNumber 6 (some .int) p s m args meth c) (hV : cV D cy z A s) (n : Nat) (K11 : CS → Int32 → Int32 → Int32 → Int32 → Int32 → Option ((Int32) × CS)) (hK11 : ∀ (σ : CS) (x1 : Int32) (x2 : Int32) (x3 : Int32) (x4 : Int32) (x5 : Int32) (H : Heap) (locs : List Loc) (ls : Array Slot), cB D ad cy A s.heap σ H locs → lv_has ls 6 [(0, .ref (ad 1)), (1, .int x1), (2, .int x2), (3, .int x3), (4, .int x4), (5, .int x5)] → K11 σ x1 x2 x3 x4 x5 = some (r0, σ0) → W p l e rm_X6_readNumber s m args below meth c H locs 0 0 (MQ below (cQ D ad cy A (some (.int r0)) σ0) args s 0 0 A) (F0 m 11 ls [])) (σ : CS) (x1 : Int32) (x2 : Int32) (x3 : Int32) (x4 : Int32) (x5 : Int32) {H : Heap} {locs : List Loc} {ls : Array Slot} (hB : cB D ad cy A s.heap σ H locs) (hl : lv_has ls 6 [(0, .ref (ad 1)), (1, .int x1), (2, .int x2), (3, .int x3), (4, .int x4), (5, .int x5)]) (hf : bc_X6_readNumber_11 n K11 σ x1 x2 x3 x4 x5 = some (r0, σ0)) : W p l e rm_X6_readNumber s m args below meth c H locs 0 0 (MQ below (cQ D ad cy A (some (.int r0)) σ0) args s 0 0 A) (F0 m 11 ls []) := by
  obtain ⟨hx, hb, hml, hown, hts, hr, hlocks⟩ := id hc
  unfold bc_X6_readNumber_11 at hf
  refine lv_iload hx hb dX6_readNumber_11 (lv_at hl 5 rfl) ?_
  refine lv_iconst (v := 3) hx hb dX6_readNumber_13 (by decide) ?_
  refine lv_icmp_ge (tgt := 65) hx hb dX6_readNumber_14 (by decide) (fun c1 => ?_) (fun c1 => ?_)
  · have hf := it_t hf c1
    exact tbc_X6_readNumber_65 hc hV n σ x1 x2 x3 x4 x5 hB (lv_sub hl [0, 1, 2, 3, 4, 5] rfl) hf
  · have hf := it_f hf c1
    refine lv_aload_n hx hb dX6_readNumber_17 rfl (lv_at hl 0 rfl) ?_
    obtain ⟨r2, σ3, hkr2, hf⟩ := bd_e hf
    refine rc_callV (own := RX6) (av := []) (rest := []) (rv := (some (.int r2))) hx hb hml hown hts hl.1 hV hB 1 (c34 rfl hB) (ceq_1 _ _ _) rfl (cc_X6_isAtDigit l D ad cy z n σ hkr2) (kwc_X6_72  hts ⟨Nat.le_of_ble_eq_true rfl, Nat.le_of_ble_eq_true rfl⟩) rfl rfl (lv_room (Nat.le_of_ble_eq_true rfl)) dX6_readNumber_18 (Nat.le_refl _) (Nat.le_refl _) (fun H locs hB => ?_)
    refine W.eq (g2 := F0 m 21 ls [.int r2]) rfl ?_
    refine lv_if_eq (tgt := 65) hx hb dX6_readNumber_21 (by decide) (fun c4 => ?_) (fun c4 => ?_)
    · have hf := it_t hf c4
      exact tbc_X6_readNumber_65 hc hV n σ3 x1 x2 x3 x4 x5 hB (lv_sub hl [0, 1, 2, 3, 4, 5] rfl) hf
    · have hf := it_f hf c4
      refine lv_iload hx hb dX6_readNumber_24 (lv_at hl 5 rfl) ?_
      refine lv_if_eq (tgt := 34) hx hb dX6_readNumber_26 (by decide) (fun c5 => ?_) (fun c5 => ?_)
      · have hf := it_t hf c5
        exact tbc_X6_readNumber_34 hc hV n K11 hK11 σ3 x1 x2 x3 x4 x5 hB (lv_sub hl [0, 1, 2, 3, 4, 5] rfl) hf
      · have hf := it_f hf c5
        refine lv_iload hx hb dX6_readNumber_29 (lv_at hl 4 rfl) ?_
        refine lv_if_le (tgt := 65) hx hb dX6_readNumber_31 (by decide) (fun c6 => ?_) (fun c6 => ?_)
        · have hf := it_t hf c6
          exact tbc_X6_readNumber_65 hc hV n σ3 x1 x2 x3 x4 x5 hB (lv_sub hl [0, 1, 2, 3, 4, 5] rfl) hf
        · have hf := it_f hf c6
          exact tbc_X6_readNumber_34 hc hV n K11 hK11 σ3 x1 x2 x3 x4 x5 hB (lv_sub hl [0, 1, 2, 3, 4, 5] rfl) hf
def lc_X6_readNumber_11 (n : Nat) : Nat → CS → Int32 → Int32 → Int32 → Int32 → Int32 → Option ((Int32) × CS)
  | 0 => fun _ _ _ _ _ _ => none
  | k + 1 => bc_X6_readNumber_11 n (lc_X6_readNumber_11 n k)
theorem tlc_X6_readNumber_11 {p : Program} {l : Launch} {e : Env} {s : State} {m : MethodId} {args : Array Value} {below : List Frame} {meth : Method} {c : Code} {D : va_G} {A : Nat → Prop} {ad : Nat → Nat} {cy : CY} {z : CZ} {r0 : Int32} {σ0 : CS} (hc : cxB RX6 wsC cX6_readNumber 6 (some .int) p s m args meth c) (hV : cV D cy z A s) (n : Nat) : ∀ (k : Nat) (σ : CS) (x1 : Int32) (x2 : Int32) (x3 : Int32) (x4 : Int32) (x5 : Int32) (H : Heap) (locs : List Loc) (ls : Array Slot), cB D ad cy A s.heap σ H locs → lv_has ls 6 [(0, .ref (ad 1)), (1, .int x1), (2, .int x2), (3, .int x3), (4, .int x4), (5, .int x5)] → lc_X6_readNumber_11 n k σ x1 x2 x3 x4 x5 = some (r0, σ0) → W p l e rm_X6_readNumber s m args below meth c H locs 0 0 (MQ below (cQ D ad cy A (some (.int r0)) σ0) args s 0 0 A) (F0 m 11 ls []) := by
  intro k
  induction k with
  | zero =>
    intro σ x1 x2 x3 x4 x5 H locs ls hB hl hf
    have hf : (none : Option ((Int32) × CS)) = some (r0, σ0) := hf
    cases hf
  | succ k ih =>
    intro σ x1 x2 x3 x4 x5 H locs ls hB hl hf
    exact tbc_X6_readNumber_11 hc hV n (lc_X6_readNumber_11 n k) ih σ x1 x2 x3 x4 x5 hB hl hf
def fc_X6_readNumber (n : Nat) (σ : CS) (x1 : Int32) (x2 : Int32) : Option ((Int32) × CS) := sq ((σ.1 1 4) : Int32) (fun y1 => sq (0 : Int32) (fun y2 => sq (0 : Int32) (fun y3 => lc_X6_readNumber_11 n n σ x1 x2 y1 y2 y3)))
set_option maxRecDepth 100000 in
set_option maxHeartbeats 4000000 in
theorem tbc_X6_readNumber_0 {p : Program} {l : Launch} {e : Env} {s : State} {m : MethodId} {args : Array Value} {below : List Frame} {meth : Method} {c : Code} {D : va_G} {A : Nat → Prop} {ad : Nat → Nat} {cy : CY} {z : CZ} {r0 : Int32} {σ0 : CS} (hc : cxB RX6 wsC cX6_readNumber 6 (some .int) p s m args meth c) (hV : cV D cy z A s) (n : Nat) (σ : CS) (x1 : Int32) (x2 : Int32) {H : Heap} {locs : List Loc} {ls : Array Slot} (hB : cB D ad cy A s.heap σ H locs) (hl : lv_has ls 6 [(0, .ref (ad 1)), (1, .int x1), (2, .int x2)]) (hf : fc_X6_readNumber n σ x1 x2 = some (r0, σ0)) : W p l e rm_X6_readNumber s m args below meth c H locs 0 0 (MQ below (cQ D ad cy A (some (.int r0)) σ0) args s 0 0 A) (F0 m 0 ls []) := by
  obtain ⟨hx, hb, hml, hown, hts, hr, hlocks⟩ := id hc
  unfold fc_X6_readNumber at hf
  refine lv_aload_n hx hb dX6_readNumber_0 rfl (lv_at hl 0 rfl) ?_
  refine rc_get (own := RX6) hx hb hts inC_6 hown hV hB 1 (c34 rfl hB) (ceq_1 _ _ _) rfl 4 (Nat.le_of_ble_eq_true rfl) qf_X6_59 rfl dX6_readNumber_1 ?_
  refine lv_topi (fun y1 ey1 => ?_)
  have hf := sq_e hf y1 ey1
  refine lv_istore_n (lv' := [(3, .int y1), (0, .ref (ad 1)), (1, .int x1), (2, .int x2)]) hx hb dX6_readNumber_4 rfl hl (by decide) rfl (fun ls hl => ?_)
  refine lv_iconst (v := 0) hx hb dX6_readNumber_5 (by decide) ?_
  refine lv_topi (fun y2 ey2 => ?_)
  have hf := sq_e hf y2 ey2
  refine lv_istore (lv' := [(4, .int y2), (3, .int y1), (0, .ref (ad 1)), (1, .int x1), (2, .int x2)]) hx hb dX6_readNumber_6 hl (by decide) rfl (fun ls hl => ?_)
  refine lv_iconst (v := 0) hx hb dX6_readNumber_8 (by decide) ?_
  refine lv_topi (fun y3 ey3 => ?_)
  have hf := sq_e hf y3 ey3
  refine lv_istore (lv' := [(5, .int y3), (4, .int y2), (3, .int y1), (0, .ref (ad 1)), (1, .int x1), (2, .int x2)]) hx hb dX6_readNumber_9 hl (by decide) rfl (fun ls hl => ?_)
  exact tlc_X6_readNumber_11 hc hV n n σ x1 x2 y1 y2 y3 _ _ _ hB (lv_sub hl [3, 4, 5, 2, 1, 0] rfl) hf
theorem cc_X6_readNumber (l : Launch) (D : va_G) (ad : Nat → Nat) (cy : CY) (z : CZ) (n : Nat) (σ : CS) (x1 : Int32) (x2 : Int32) {r0 : Int32} {σ0 : CS} (hf : fc_X6_readNumber n σ x1 x2 = some (r0, σ0)) : cM l yX6_readNumber wn_X6_readNumber rm_X6_readNumber D ad cy z [.ref (ad 1), .int x1, .int x2] σ (some (.int r0)) σ0 :=
  rc_met (ret := (some .int)) (by decide) rfl (Nat.le_of_ble_eq_true rfl) (fun p e s m below meth c A ls hc hV hB hl => tbc_X6_readNumber_0 hc hV n σ x1 x2 hB hl hf)
