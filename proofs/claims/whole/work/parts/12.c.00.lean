/-! X0_plateAt -/
abbrev rm_X0_plateAt : Room := { frames := 0, cells := 0, slots := 0, locals := 0 }
abbrev wn_X0_plateAt : List Cond := .code yX0_plateAt cX0_plateAt 2 (some (.object "PlateRings$Plate")) :: wsC
def fc_X0_plateAt (n : Nat) (σ : CS) (x1 : Int32) : Option ((Option Nat) × CS) := if (x1 < 0) then (some (none, σ)) else (if ((σ.1 5 8) ≤ x1) then (some (none, σ)) else (if (6 ≤ x1) then (some (none, σ)) else (ck (ib x1 6) (sq (σ.2.2.1 6 (Int32.toNatClampNeg x1)) (fun o5 => some (o5, σ))))))
set_option maxRecDepth 100000 in
set_option maxHeartbeats 4000000 in
theorem tbc_X0_plateAt_0 {p : Program} {l : Launch} {e : Env} {s : State} {m : MethodId} {args : Array Value} {below : List Frame} {meth : Method} {c : Code} {D : va_G} {A : Nat → Prop} {ad : Nat → Nat} {cy : CY} {z : CZ} {r0 : Option Nat} {σ0 : CS} (hc : cxB RX0 wsC cX0_plateAt 2 (some (.object "PlateRings$Plate")) p s m args meth c) (hV : cV D cy z A s) (n : Nat) (σ : CS) (x1 : Int32) {H : Heap} {locs : List Loc} {ls : Array Slot} (hB : cB D ad cy A s.heap σ H locs) (hl : lv_has ls 2 [(0, .ref (ad 5)), (1, .int x1)]) (hf : fc_X0_plateAt n σ x1 = some (r0, σ0)) : W p l e rm_X0_plateAt s m args below meth c H locs 0 0 (MQ below (cQ D ad cy A (some (va_rf (Option.map ad r0))) σ0) args s 0 0 A) (F0 m 0 ls []) := by
  obtain ⟨hx, hb, hml, hown, hts, hr, hlocks⟩ := id hc
  unfold fc_X0_plateAt at hf
  refine lv_iload_n hx hb dX0_plateAt_0 rfl (lv_at hl 1 rfl) ?_
  refine lv_if_lt (tgt := 27) hx hb dX0_plateAt_1 (by decide) (fun c1 => ?_) (fun c1 => ?_)
  · have hf := it_t hf c1
    refine lv_null hx hb dX0_plateAt_27 ?_
    obtain ⟨rfl, rfl⟩ := so_e hf
    exact rc_aret (v := va_rf (Option.map ad none)) hx hb hr hlocks (Or.inl ⟨_, rfl⟩) (va_rf_cases _) hB dX0_plateAt_28
  · have hf := it_f hf c1
    refine lv_iload_n hx hb dX0_plateAt_4 rfl (lv_at hl 1 rfl) ?_
    refine lv_aload_n hx hb dX0_plateAt_5 rfl (lv_at hl 0 rfl) ?_
    refine rc_get (own := RX0) hx hb hts inC_0 hown hV hB 5 (c34 rfl hB) (ceq_5 _ _ _) rfl 8 (Nat.le_of_ble_eq_true rfl) qf_X0_54 rfl dX0_plateAt_6 ?_
    refine lv_icmp_ge (tgt := 27) hx hb dX0_plateAt_9 (by decide) (fun c2 => ?_) (fun c2 => ?_)
    · have hf := it_t hf c2
      refine lv_null hx hb dX0_plateAt_27 ?_
      obtain ⟨rfl, rfl⟩ := so_e hf
      exact rc_aret (v := va_rf (Option.map ad none)) hx hb hr hlocks (Or.inl ⟨_, rfl⟩) (va_rf_cases _) hB dX0_plateAt_28
    · have hf := it_f hf c2
      refine lv_iload_n hx hb dX0_plateAt_12 rfl (lv_at hl 1 rfl) ?_
      refine lv_bipush (v := 6) hx hb dX0_plateAt_13 (by decide) ?_
      refine lv_icmp_ge (tgt := 27) hx hb dX0_plateAt_15 (by decide) (fun c3 => ?_) (fun c3 => ?_)
      · have hf := it_t hf c3
        refine lv_null hx hb dX0_plateAt_27 ?_
        obtain ⟨rfl, rfl⟩ := so_e hf
        exact rc_aret (v := va_rf (Option.map ad none)) hx hb hr hlocks (Or.inl ⟨_, rfl⟩) (va_rf_cases _) hB dX0_plateAt_28
      · have hf := it_f hf c3
        refine lv_aload_n hx hb dX0_plateAt_18 rfl (lv_at hl 0 rfl) ?_
        refine rc_get (own := RX0) hx hb hts inC_0 hown hV hB 5 (c34 rfl hB) (ceq_5 _ _ _) rfl 0 (Nat.le_of_ble_eq_true rfl) qf_X0_11 rfl dX0_plateAt_19 ?_
        refine lv_iload_n hx hb dX0_plateAt_22 rfl (lv_at hl 1 rfl) ?_
        obtain ⟨k4, hf⟩ := ck_e hf
        refine rc_aldq hx hb hV hB 6 (c34 rfl hB) 2 (ceq_6 _ _ _) rfl k4 dX0_plateAt_23 (fun o5 eo5 => ?_)
        have hf := sq_e hf o5 eo5
        refine lv_goto (tgt := 28) hx hb dX0_plateAt_24 (by decide) ?_
        obtain ⟨rfl, rfl⟩ := so_e hf
        exact rc_aret (v := va_rf (Option.map ad o5)) hx hb hr hlocks (Or.inl ⟨_, rfl⟩) (va_rf_cases _) hB dX0_plateAt_28
theorem cc_X0_plateAt (l : Launch) (D : va_G) (ad : Nat → Nat) (cy : CY) (z : CZ) (n : Nat) (σ : CS) (x1 : Int32) {r0 : Option Nat} {σ0 : CS} (hf : fc_X0_plateAt n σ x1 = some (r0, σ0)) : cM l yX0_plateAt wn_X0_plateAt rm_X0_plateAt D ad cy z [.ref (ad 5), .int x1] σ (some (va_rf (Option.map ad r0))) σ0 :=
  rc_met (ret := (some (.object "PlateRings$Plate"))) (by decide) rfl (Nat.le_of_ble_eq_true rfl) (fun p e s m below meth c A ls hc hV hB hl => tbc_X0_plateAt_0 hc hV n σ x1 hB hl hf)
/-! X0_lossAt -/
abbrev rm_X0_lossAt : Room := { frames := 0, cells := 0, slots := 0, locals := 0 }
abbrev wn_X0_lossAt : List Cond := .code yX0_lossAt cX0_lossAt 2 (some (.object "PlateRings$Loss")) :: wsC
def fc_X0_lossAt (n : Nat) (σ : CS) (x1 : Int32) : Option ((Option Nat) × CS) := if (x1 < 0) then (some (none, σ)) else (if ((σ.1 5 9) ≤ x1) then (some (none, σ)) else (if (8 ≤ x1) then (some (none, σ)) else (ck (ib x1 8) (sq (σ.2.2.1 7 (Int32.toNatClampNeg x1)) (fun o5 => some (o5, σ))))))
set_option maxRecDepth 100000 in
set_option maxHeartbeats 4000000 in
theorem tbc_X0_lossAt_0 {p : Program} {l : Launch} {e : Env} {s : State} {m : MethodId} {args : Array Value} {below : List Frame} {meth : Method} {c : Code} {D : va_G} {A : Nat → Prop} {ad : Nat → Nat} {cy : CY} {z : CZ} {r0 : Option Nat} {σ0 : CS} (hc : cxB RX0 wsC cX0_lossAt 2 (some (.object "PlateRings$Loss")) p s m args meth c) (hV : cV D cy z A s) (n : Nat) (σ : CS) (x1 : Int32) {H : Heap} {locs : List Loc} {ls : Array Slot} (hB : cB D ad cy A s.heap σ H locs) (hl : lv_has ls 2 [(0, .ref (ad 5)), (1, .int x1)]) (hf : fc_X0_lossAt n σ x1 = some (r0, σ0)) : W p l e rm_X0_lossAt s m args below meth c H locs 0 0 (MQ below (cQ D ad cy A (some (va_rf (Option.map ad r0))) σ0) args s 0 0 A) (F0 m 0 ls []) := by
  obtain ⟨hx, hb, hml, hown, hts, hr, hlocks⟩ := id hc
  unfold fc_X0_lossAt at hf
  refine lv_iload_n hx hb dX0_lossAt_0 rfl (lv_at hl 1 rfl) ?_
  refine lv_if_lt (tgt := 27) hx hb dX0_lossAt_1 (by decide) (fun c1 => ?_) (fun c1 => ?_)
  · have hf := it_t hf c1
    refine lv_null hx hb dX0_lossAt_27 ?_
    obtain ⟨rfl, rfl⟩ := so_e hf
    exact rc_aret (v := va_rf (Option.map ad none)) hx hb hr hlocks (Or.inl ⟨_, rfl⟩) (va_rf_cases _) hB dX0_lossAt_28
  · have hf := it_f hf c1
    refine lv_iload_n hx hb dX0_lossAt_4 rfl (lv_at hl 1 rfl) ?_
    refine lv_aload_n hx hb dX0_lossAt_5 rfl (lv_at hl 0 rfl) ?_
    refine rc_get (own := RX0) hx hb hts inC_0 hown hV hB 5 (c34 rfl hB) (ceq_5 _ _ _) rfl 9 (Nat.le_of_ble_eq_true rfl) qf_X0_58 rfl dX0_lossAt_6 ?_
    refine lv_icmp_ge (tgt := 27) hx hb dX0_lossAt_9 (by decide) (fun c2 => ?_) (fun c2 => ?_)
    · have hf := it_t hf c2
      refine lv_null hx hb dX0_lossAt_27 ?_
      obtain ⟨rfl, rfl⟩ := so_e hf
      exact rc_aret (v := va_rf (Option.map ad none)) hx hb hr hlocks (Or.inl ⟨_, rfl⟩) (va_rf_cases _) hB dX0_lossAt_28
    · have hf := it_f hf c2
      refine lv_iload_n hx hb dX0_lossAt_12 rfl (lv_at hl 1 rfl) ?_
      refine lv_bipush (v := 8) hx hb dX0_lossAt_13 (by decide) ?_
      refine lv_icmp_ge (tgt := 27) hx hb dX0_lossAt_15 (by decide) (fun c3 => ?_) (fun c3 => ?_)
      · have hf := it_t hf c3
        refine lv_null hx hb dX0_lossAt_27 ?_
        obtain ⟨rfl, rfl⟩ := so_e hf
        exact rc_aret (v := va_rf (Option.map ad none)) hx hb hr hlocks (Or.inl ⟨_, rfl⟩) (va_rf_cases _) hB dX0_lossAt_28
      · have hf := it_f hf c3
        refine lv_aload_n hx hb dX0_lossAt_18 rfl (lv_at hl 0 rfl) ?_
        refine rc_get (own := RX0) hx hb hts inC_0 hown hV hB 5 (c34 rfl hB) (ceq_5 _ _ _) rfl 1 (Nat.le_of_ble_eq_true rfl) qf_X0_19 rfl dX0_lossAt_19 ?_
        refine lv_iload_n hx hb dX0_lossAt_22 rfl (lv_at hl 1 rfl) ?_
        obtain ⟨k4, hf⟩ := ck_e hf
        refine rc_aldq hx hb hV hB 7 (c34 rfl hB) 1 (ceq_7 _ _ _) rfl k4 dX0_lossAt_23 (fun o5 eo5 => ?_)
        have hf := sq_e hf o5 eo5
        refine lv_goto (tgt := 28) hx hb dX0_lossAt_24 (by decide) ?_
        obtain ⟨rfl, rfl⟩ := so_e hf
        exact rc_aret (v := va_rf (Option.map ad o5)) hx hb hr hlocks (Or.inl ⟨_, rfl⟩) (va_rf_cases _) hB dX0_lossAt_28
theorem cc_X0_lossAt (l : Launch) (D : va_G) (ad : Nat → Nat) (cy : CY) (z : CZ) (n : Nat) (σ : CS) (x1 : Int32) {r0 : Option Nat} {σ0 : CS} (hf : fc_X0_lossAt n σ x1 = some (r0, σ0)) : cM l yX0_lossAt wn_X0_lossAt rm_X0_lossAt D ad cy z [.ref (ad 5), .int x1] σ (some (va_rf (Option.map ad r0))) σ0 :=
  rc_met (ret := (some (.object "PlateRings$Loss"))) (by decide) rfl (Nat.le_of_ble_eq_true rfl) (fun p e s m below meth c A ls hc hV hB hl => tbc_X0_lossAt_0 hc hV n σ x1 hB hl hf)
/-! X0_addPlate -/
abbrev rm_X0_addPlate : Room := { frames := 0, cells := 0, slots := 0, locals := 0 }
abbrev wn_X0_addPlate : List Cond := .code yX0_addPlate cX0_addPlate 3 (some .int) :: wsC
def fc_X0_addPlate (n : Nat) (σ : CS) (x1 : Nat) : Option ((Int32) × CS) := sq ((σ.1 5 8) : Int32) (fun y1 => if (y1 < 0) then (some (y1, σ)) else (if (6 ≤ y1) then (some (y1, σ)) else (ck (pk σ x1 3) (ck (ib y1 6) (sq (cpp σ 6 (Int32.toNatClampNeg y1) (some x1)) (fun σ5 => sq (cp σ5 5 8 ((σ5.1 5 8) + 1)) (fun σ7 => some (y1, σ7))))))))
set_option maxRecDepth 100000 in
set_option maxHeartbeats 4000000 in
theorem tbc_X0_addPlate_0 {p : Program} {l : Launch} {e : Env} {s : State} {m : MethodId} {args : Array Value} {below : List Frame} {meth : Method} {c : Code} {D : va_G} {A : Nat → Prop} {ad : Nat → Nat} {cy : CY} {z : CZ} {r0 : Int32} {σ0 : CS} (hc : cxB RX0 wsC cX0_addPlate 3 (some .int) p s m args meth c) (hV : cV D cy z A s) (n : Nat) (σ : CS) (x1 : Nat) {H : Heap} {locs : List Loc} {ls : Array Slot} (hB : cB D ad cy A s.heap σ H locs) (hl : lv_has ls 3 [(0, .ref (ad 5)), (1, .ref (ad x1))]) (hf : fc_X0_addPlate n σ x1 = some (r0, σ0)) : W p l e rm_X0_addPlate s m args below meth c H locs 0 0 (MQ below (cQ D ad cy A (some (.int r0)) σ0) args s 0 0 A) (F0 m 0 ls []) := by
  obtain ⟨hx, hb, hml, hown, hts, hr, hlocks⟩ := id hc
  unfold fc_X0_addPlate at hf
  refine lv_aload_n hx hb dX0_addPlate_0 rfl (lv_at hl 0 rfl) ?_
  refine rc_get (own := RX0) hx hb hts inC_0 hown hV hB 5 (c34 rfl hB) (ceq_5 _ _ _) rfl 8 (Nat.le_of_ble_eq_true rfl) qf_X0_54 rfl dX0_addPlate_1 ?_
  refine lv_topi (fun y1 ey1 => ?_)
  have hf := sq_e hf y1 ey1
  refine lv_istore_n (lv' := [(2, .int y1), (0, .ref (ad 5)), (1, .ref (ad x1))]) hx hb dX0_addPlate_4 rfl hl (by decide) rfl (fun ls hl => ?_)
  refine lv_iload_n hx hb dX0_addPlate_5 rfl (lv_at hl 0 rfl) ?_
  refine lv_if_lt (tgt := 32) hx hb dX0_addPlate_6 (by decide) (fun c2 => ?_) (fun c2 => ?_)
  · have hf := it_t hf c2
    refine lv_iload_n hx hb dX0_addPlate_32 rfl (lv_at hl 0 rfl) ?_
    obtain ⟨rfl, rfl⟩ := so_e hf
    exact rc_iret hx hb hr hlocks hB dX0_addPlate_33
  · have hf := it_f hf c2
    refine lv_iload_n hx hb dX0_addPlate_9 rfl (lv_at hl 0 rfl) ?_
    refine lv_bipush (v := 6) hx hb dX0_addPlate_10 (by decide) ?_
    refine lv_icmp_ge (tgt := 32) hx hb dX0_addPlate_12 (by decide) (fun c3 => ?_) (fun c3 => ?_)
    · have hf := it_t hf c3
      refine lv_iload_n hx hb dX0_addPlate_32 rfl (lv_at hl 0 rfl) ?_
      obtain ⟨rfl, rfl⟩ := so_e hf
      exact rc_iret hx hb hr hlocks hB dX0_addPlate_33
    · have hf := it_f hf c3
      refine lv_aload_n hx hb dX0_addPlate_15 rfl (lv_at hl 1 rfl) ?_
      refine rc_get (own := RX0) hx hb hts inC_0 hown hV hB 5 (c34 rfl hB) (ceq_5 _ _ _) rfl 0 (Nat.le_of_ble_eq_true rfl) qf_X0_11 rfl dX0_addPlate_16 ?_
      refine lv_iload_n hx hb dX0_addPlate_19 rfl (lv_at hl 0 rfl) ?_
      refine lv_aload_n hx hb dX0_addPlate_20 rfl (lv_at hl 2 rfl) ?_
      obtain ⟨k6, hf⟩ := ck_e hf
      obtain ⟨k4, hf⟩ := ck_e hf
      refine rc_astq hx hb hV hB 6 (c34 rfl hB) 2 (ceq_6 _ _ _) rfl x1 (pk_s k6).2.1 (ceq_P k6) rfl rfl (fun _ => rfl) k4 dX0_addPlate_21 (fun σ5 eσ5 H locs hB => ?_)
      have hf := sq_e hf σ5 eσ5
      refine lv_aload_n hx hb dX0_addPlate_22 rfl (lv_at hl 1 rfl) ?_
      refine lv_dup hx hb dX0_addPlate_23 rfl ?_
      refine rc_get (own := RX0) hx hb hts inC_0 hown hV hB 5 (c34 rfl hB) (ceq_5 _ _ _) rfl 8 (Nat.le_of_ble_eq_true rfl) qf_X0_54 rfl dX0_addPlate_24 ?_
      refine lv_iconst (v := 1) hx hb dX0_addPlate_27 (by decide) ?_
      refine lv_iadd hx hb dX0_addPlate_28 ?_
      refine rc_puti (own := RX0) (ty := .int) hx hb hts inC_0 hown hV hB 5 (c34 rfl hB) (ceq_5 _ _ _) rfl 8 (Nat.le_of_ble_eq_true rfl) qf_X0_54 tyX0 tyX0_ok nmX0 (cst_5_8 _ _ _ _) rfl pdc_0_8 rfl rfl (Nat.le_of_ble_eq_true rfl) dX0_addPlate_29 (fun σ7 eσ7 H locs hB => ?_)
      have hf := sq_e hf σ7 eσ7
      refine lv_iload_n hx hb dX0_addPlate_32 rfl (lv_at hl 0 rfl) ?_
      obtain ⟨rfl, rfl⟩ := so_e hf
      exact rc_iret hx hb hr hlocks hB dX0_addPlate_33
theorem cc_X0_addPlate (l : Launch) (D : va_G) (ad : Nat → Nat) (cy : CY) (z : CZ) (n : Nat) (σ : CS) (x1 : Nat) {r0 : Int32} {σ0 : CS} (hf : fc_X0_addPlate n σ x1 = some (r0, σ0)) : cM l yX0_addPlate wn_X0_addPlate rm_X0_addPlate D ad cy z [.ref (ad 5), .ref (ad x1)] σ (some (.int r0)) σ0 :=
  rc_met (ret := (some .int)) (by decide) rfl (Nat.le_of_ble_eq_true rfl) (fun p e s m below meth c A ls hc hV hB hl => tbc_X0_addPlate_0 hc hV n σ x1 hB hl hf)
/-! X0_addLoss -/
abbrev rm_X0_addLoss : Room := { frames := 0, cells := 0, slots := 0, locals := 0 }
abbrev wn_X0_addLoss : List Cond := .code yX0_addLoss cX0_addLoss 3 (some .int) :: wsC
def fc_X0_addLoss (n : Nat) (σ : CS) (x1 : Nat) : Option ((Int32) × CS) := sq ((σ.1 5 9) : Int32) (fun y1 => if (y1 < 0) then (some (y1, σ)) else (if (8 ≤ y1) then (some (y1, σ)) else (ck (pk σ x1 1) (ck (ib y1 8) (sq (cpp σ 7 (Int32.toNatClampNeg y1) (some x1)) (fun σ5 => sq (cp σ5 5 9 ((σ5.1 5 9) + 1)) (fun σ7 => some (y1, σ7))))))))
set_option maxRecDepth 100000 in
set_option maxHeartbeats 4000000 in
theorem tbc_X0_addLoss_0 {p : Program} {l : Launch} {e : Env} {s : State} {m : MethodId} {args : Array Value} {below : List Frame} {meth : Method} {c : Code} {D : va_G} {A : Nat → Prop} {ad : Nat → Nat} {cy : CY} {z : CZ} {r0 : Int32} {σ0 : CS} (hc : cxB RX0 wsC cX0_addLoss 3 (some .int) p s m args meth c) (hV : cV D cy z A s) (n : Nat) (σ : CS) (x1 : Nat) {H : Heap} {locs : List Loc} {ls : Array Slot} (hB : cB D ad cy A s.heap σ H locs) (hl : lv_has ls 3 [(0, .ref (ad 5)), (1, .ref (ad x1))]) (hf : fc_X0_addLoss n σ x1 = some (r0, σ0)) : W p l e rm_X0_addLoss s m args below meth c H locs 0 0 (MQ below (cQ D ad cy A (some (.int r0)) σ0) args s 0 0 A) (F0 m 0 ls []) := by
  obtain ⟨hx, hb, hml, hown, hts, hr, hlocks⟩ := id hc
  unfold fc_X0_addLoss at hf
  refine lv_aload_n hx hb dX0_addLoss_0 rfl (lv_at hl 0 rfl) ?_
  refine rc_get (own := RX0) hx hb hts inC_0 hown hV hB 5 (c34 rfl hB) (ceq_5 _ _ _) rfl 9 (Nat.le_of_ble_eq_true rfl) qf_X0_58 rfl dX0_addLoss_1 ?_
  refine lv_topi (fun y1 ey1 => ?_)
  have hf := sq_e hf y1 ey1
  refine lv_istore_n (lv' := [(2, .int y1), (0, .ref (ad 5)), (1, .ref (ad x1))]) hx hb dX0_addLoss_4 rfl hl (by decide) rfl (fun ls hl => ?_)
  refine lv_iload_n hx hb dX0_addLoss_5 rfl (lv_at hl 0 rfl) ?_
  refine lv_if_lt (tgt := 32) hx hb dX0_addLoss_6 (by decide) (fun c2 => ?_) (fun c2 => ?_)
  · have hf := it_t hf c2
    refine lv_iload_n hx hb dX0_addLoss_32 rfl (lv_at hl 0 rfl) ?_
    obtain ⟨rfl, rfl⟩ := so_e hf
    exact rc_iret hx hb hr hlocks hB dX0_addLoss_33
  · have hf := it_f hf c2
    refine lv_iload_n hx hb dX0_addLoss_9 rfl (lv_at hl 0 rfl) ?_
    refine lv_bipush (v := 8) hx hb dX0_addLoss_10 (by decide) ?_
    refine lv_icmp_ge (tgt := 32) hx hb dX0_addLoss_12 (by decide) (fun c3 => ?_) (fun c3 => ?_)
    · have hf := it_t hf c3
      refine lv_iload_n hx hb dX0_addLoss_32 rfl (lv_at hl 0 rfl) ?_
      obtain ⟨rfl, rfl⟩ := so_e hf
      exact rc_iret hx hb hr hlocks hB dX0_addLoss_33
    · have hf := it_f hf c3
      refine lv_aload_n hx hb dX0_addLoss_15 rfl (lv_at hl 1 rfl) ?_
      refine rc_get (own := RX0) hx hb hts inC_0 hown hV hB 5 (c34 rfl hB) (ceq_5 _ _ _) rfl 1 (Nat.le_of_ble_eq_true rfl) qf_X0_19 rfl dX0_addLoss_16 ?_
      refine lv_iload_n hx hb dX0_addLoss_19 rfl (lv_at hl 0 rfl) ?_
      refine lv_aload_n hx hb dX0_addLoss_20 rfl (lv_at hl 2 rfl) ?_
      obtain ⟨k6, hf⟩ := ck_e hf
      obtain ⟨k4, hf⟩ := ck_e hf
      refine rc_astq hx hb hV hB 7 (c34 rfl hB) 1 (ceq_7 _ _ _) rfl x1 (pk_s k6).2.1 (ceq_L k6) rfl rfl (fun _ => rfl) k4 dX0_addLoss_21 (fun σ5 eσ5 H locs hB => ?_)
      have hf := sq_e hf σ5 eσ5
      refine lv_aload_n hx hb dX0_addLoss_22 rfl (lv_at hl 1 rfl) ?_
      refine lv_dup hx hb dX0_addLoss_23 rfl ?_
      refine rc_get (own := RX0) hx hb hts inC_0 hown hV hB 5 (c34 rfl hB) (ceq_5 _ _ _) rfl 9 (Nat.le_of_ble_eq_true rfl) qf_X0_58 rfl dX0_addLoss_24 ?_
      refine lv_iconst (v := 1) hx hb dX0_addLoss_27 (by decide) ?_
      refine lv_iadd hx hb dX0_addLoss_28 ?_
      refine rc_puti (own := RX0) (ty := .int) hx hb hts inC_0 hown hV hB 5 (c34 rfl hB) (ceq_5 _ _ _) rfl 9 (Nat.le_of_ble_eq_true rfl) qf_X0_58 tyX0 tyX0_ok nmX0 (cst_5_9 _ _ _ _) rfl pdc_0_9 rfl rfl (Nat.le_of_ble_eq_true rfl) dX0_addLoss_29 (fun σ7 eσ7 H locs hB => ?_)
      have hf := sq_e hf σ7 eσ7
      refine lv_iload_n hx hb dX0_addLoss_32 rfl (lv_at hl 0 rfl) ?_
      obtain ⟨rfl, rfl⟩ := so_e hf
      exact rc_iret hx hb hr hlocks hB dX0_addLoss_33
theorem cc_X0_addLoss (l : Launch) (D : va_G) (ad : Nat → Nat) (cy : CY) (z : CZ) (n : Nat) (σ : CS) (x1 : Nat) {r0 : Int32} {σ0 : CS} (hf : fc_X0_addLoss n σ x1 = some (r0, σ0)) : cM l yX0_addLoss wn_X0_addLoss rm_X0_addLoss D ad cy z [.ref (ad 5), .ref (ad x1)] σ (some (.int r0)) σ0 :=
  rc_met (ret := (some .int)) (by decide) rfl (Nat.le_of_ble_eq_true rfl) (fun p e s m below meth c A ls hc hV hB hl => tbc_X0_addLoss_0 hc hV n σ x1 hB hl hf)
/-! X0_addLeg -/
abbrev rm_X0_addLeg : Room := { frames := 0, cells := 0, slots := 0, locals := 0 }
abbrev wn_X0_addLeg : List Cond := .code yX0_addLeg cX0_addLeg 3 (some .int) :: wsC
def fc_X0_addLeg (n : Nat) (σ : CS) (x1 : Int32) (x2 : Int32) : Option ((Int32) × CS) := if ((σ.1 5 10) < 0) then (some ((σ.1 5 10), σ)) else (if (4 ≤ (σ.1 5 10)) then (some ((σ.1 5 10), σ)) else (ck (ib (σ.1 5 10) 4) (sq (cp σ 10 (Int32.toNatClampNeg (σ.1 5 10)) x1) (fun σ4 => ck (ib (σ4.1 5 10) 4) (sq (cp σ4 11 (Int32.toNatClampNeg (σ4.1 5 10)) x2) (fun σ6 => sq (cp σ6 5 10 ((σ6.1 5 10) + 1)) (fun σ7 => some ((σ7.1 5 10), σ7))))))))
set_option maxRecDepth 100000 in
set_option maxHeartbeats 4000000 in
theorem tbc_X0_addLeg_0 {p : Program} {l : Launch} {e : Env} {s : State} {m : MethodId} {args : Array Value} {below : List Frame} {meth : Method} {c : Code} {D : va_G} {A : Nat → Prop} {ad : Nat → Nat} {cy : CY} {z : CZ} {r0 : Int32} {σ0 : CS} (hc : cxB RX0 wsC cX0_addLeg 3 (some .int) p s m args meth c) (hV : cV D cy z A s) (n : Nat) (σ : CS) (x1 : Int32) (x2 : Int32) {H : Heap} {locs : List Loc} {ls : Array Slot} (hB : cB D ad cy A s.heap σ H locs) (hl : lv_has ls 3 [(0, .ref (ad 5)), (1, .int x1), (2, .int x2)]) (hf : fc_X0_addLeg n σ x1 x2 = some (r0, σ0)) : W p l e rm_X0_addLeg s m args below meth c H locs 0 0 (MQ below (cQ D ad cy A (some (.int r0)) σ0) args s 0 0 A) (F0 m 0 ls []) := by
  obtain ⟨hx, hb, hml, hown, hts, hr, hlocks⟩ := id hc
  unfold fc_X0_addLeg at hf
  refine lv_aload_n hx hb dX0_addLeg_0 rfl (lv_at hl 0 rfl) ?_
  refine rc_get (own := RX0) hx hb hts inC_0 hown hV hB 5 (c34 rfl hB) (ceq_5 _ _ _) rfl 10 (Nat.le_of_ble_eq_true rfl) qf_X0_61 rfl dX0_addLeg_1 ?_
  refine lv_if_lt (tgt := 45) hx hb dX0_addLeg_4 (by decide) (fun c1 => ?_) (fun c1 => ?_)
  · have hf := it_t hf c1
    refine lv_aload_n hx hb dX0_addLeg_45 rfl (lv_at hl 0 rfl) ?_
    refine rc_get (own := RX0) hx hb hts inC_0 hown hV hB 5 (c34 rfl hB) (ceq_5 _ _ _) rfl 10 (Nat.le_of_ble_eq_true rfl) qf_X0_61 rfl dX0_addLeg_46 ?_
    obtain ⟨rfl, rfl⟩ := so_e hf
    exact rc_iret hx hb hr hlocks hB dX0_addLeg_49
  · have hf := it_f hf c1
    refine lv_aload_n hx hb dX0_addLeg_7 rfl (lv_at hl 0 rfl) ?_
    refine rc_get (own := RX0) hx hb hts inC_0 hown hV hB 5 (c34 rfl hB) (ceq_5 _ _ _) rfl 10 (Nat.le_of_ble_eq_true rfl) qf_X0_61 rfl dX0_addLeg_8 ?_
    refine lv_iconst (v := 4) hx hb dX0_addLeg_11 (by decide) ?_
    refine lv_icmp_ge (tgt := 45) hx hb dX0_addLeg_12 (by decide) (fun c2 => ?_) (fun c2 => ?_)
    · have hf := it_t hf c2
      refine lv_aload_n hx hb dX0_addLeg_45 rfl (lv_at hl 0 rfl) ?_
      refine rc_get (own := RX0) hx hb hts inC_0 hown hV hB 5 (c34 rfl hB) (ceq_5 _ _ _) rfl 10 (Nat.le_of_ble_eq_true rfl) qf_X0_61 rfl dX0_addLeg_46 ?_
      obtain ⟨rfl, rfl⟩ := so_e hf
      exact rc_iret hx hb hr hlocks hB dX0_addLeg_49
    · have hf := it_f hf c2
      refine lv_aload_n hx hb dX0_addLeg_15 rfl (lv_at hl 0 rfl) ?_
      refine rc_get (own := RX0) hx hb hts inC_0 hown hV hB 5 (c34 rfl hB) (ceq_5 _ _ _) rfl 4 (Nat.le_of_ble_eq_true rfl) qf_X0_30 rfl dX0_addLeg_16 ?_
      refine lv_aload_n hx hb dX0_addLeg_19 rfl (lv_at hl 0 rfl) ?_
      refine rc_get (own := RX0) hx hb hts inC_0 hown hV hB 5 (c34 rfl hB) (ceq_5 _ _ _) rfl 10 (Nat.le_of_ble_eq_true rfl) qf_X0_61 rfl dX0_addLeg_20 ?_
      refine lv_iload_n hx hb dX0_addLeg_23 rfl (lv_at hl 1 rfl) ?_
      obtain ⟨k3, hf⟩ := ck_e hf
      refine rc_ast hx hb hV hB 10 (c34 rfl hB) (ceq_10 _ _ _) (fun _ => rfl) k3 dX0_addLeg_24 (fun σ4 eσ4 H locs hB => ?_)
      have hf := sq_e hf σ4 eσ4
      refine lv_aload_n hx hb dX0_addLeg_25 rfl (lv_at hl 0 rfl) ?_
      refine rc_get (own := RX0) hx hb hts inC_0 hown hV hB 5 (c34 rfl hB) (ceq_5 _ _ _) rfl 5 (Nat.le_of_ble_eq_true rfl) qf_X0_33 rfl dX0_addLeg_26 ?_
      refine lv_aload_n hx hb dX0_addLeg_29 rfl (lv_at hl 0 rfl) ?_
      refine rc_get (own := RX0) hx hb hts inC_0 hown hV hB 5 (c34 rfl hB) (ceq_5 _ _ _) rfl 10 (Nat.le_of_ble_eq_true rfl) qf_X0_61 rfl dX0_addLeg_30 ?_
      refine lv_iload_n hx hb dX0_addLeg_33 rfl (lv_at hl 2 rfl) ?_
      obtain ⟨k5, hf⟩ := ck_e hf
      refine rc_ast hx hb hV hB 11 (c34 rfl hB) (ceq_11 _ _ _) (fun _ => rfl) k5 dX0_addLeg_34 (fun σ6 eσ6 H locs hB => ?_)
      have hf := sq_e hf σ6 eσ6
      refine lv_aload_n hx hb dX0_addLeg_35 rfl (lv_at hl 0 rfl) ?_
      refine lv_dup hx hb dX0_addLeg_36 rfl ?_
      refine rc_get (own := RX0) hx hb hts inC_0 hown hV hB 5 (c34 rfl hB) (ceq_5 _ _ _) rfl 10 (Nat.le_of_ble_eq_true rfl) qf_X0_61 rfl dX0_addLeg_37 ?_
      refine lv_iconst (v := 1) hx hb dX0_addLeg_40 (by decide) ?_
      refine lv_iadd hx hb dX0_addLeg_41 ?_
      refine rc_puti (own := RX0) (ty := .int) hx hb hts inC_0 hown hV hB 5 (c34 rfl hB) (ceq_5 _ _ _) rfl 10 (Nat.le_of_ble_eq_true rfl) qf_X0_61 tyX0 tyX0_ok nmX0 (cst_5_10 _ _ _ _) rfl pdc_0_10 rfl rfl (Nat.le_of_ble_eq_true rfl) dX0_addLeg_42 (fun σ7 eσ7 H locs hB => ?_)
      have hf := sq_e hf σ7 eσ7
      refine lv_aload_n hx hb dX0_addLeg_45 rfl (lv_at hl 0 rfl) ?_
      refine rc_get (own := RX0) hx hb hts inC_0 hown hV hB 5 (c34 rfl hB) (ceq_5 _ _ _) rfl 10 (Nat.le_of_ble_eq_true rfl) qf_X0_61 rfl dX0_addLeg_46 ?_
      obtain ⟨rfl, rfl⟩ := so_e hf
      exact rc_iret hx hb hr hlocks hB dX0_addLeg_49
theorem cc_X0_addLeg (l : Launch) (D : va_G) (ad : Nat → Nat) (cy : CY) (z : CZ) (n : Nat) (σ : CS) (x1 : Int32) (x2 : Int32) {r0 : Int32} {σ0 : CS} (hf : fc_X0_addLeg n σ x1 x2 = some (r0, σ0)) : cM l yX0_addLeg wn_X0_addLeg rm_X0_addLeg D ad cy z [.ref (ad 5), .int x1, .int x2] σ (some (.int r0)) σ0 :=
  rc_met (ret := (some .int)) (by decide) rfl (Nat.le_of_ble_eq_true rfl) (fun p e s m below meth c A ls hc hV hB hl => tbc_X0_addLeg_0 hc hV n σ x1 x2 hB hl hf)
/-! X5_copyFrom_25_12 -/
abbrev rm_X5_copyFrom_25_12 : Room := { frames := 1, cells := 0, slots := 0, locals := 60 }
abbrev wn_X5_copyFrom : List Cond := .code yX5_copyFrom cX5_copyFrom 2 none :: wsC
def fc_X5_copyFrom_25_12 (n : Nat) (σ : CS) : Option ((Int32) × CS) := ck (zb (σ.1 12 0)) (sq (cp σ 25 0 (σ.1 12 0)) (fun σ1 => sq (cp σ1 25 1 (σ1.1 12 1)) (fun σ3 => sq (cp σ3 25 2 (σ3.1 12 2)) (fun σ4 => sq (cp σ4 25 3 (σ4.1 12 3)) (fun σ5 => sq (cp σ5 25 4 (σ5.1 12 4)) (fun σ6 => sq (cp σ6 25 5 (σ6.1 12 5)) (fun σ7 => sq (cp σ7 25 6 (σ7.1 12 6)) (fun σ8 => sq (cp σ8 25 7 (σ8.1 12 7)) (fun σ9 => sq (cpj σ9 25 (σ9.2.1 12)) (fun σ10 => sq (cp σ10 25 9 (σ10.1 12 9)) (fun σ11 => sq (cpr σ11 26 (va_cpy (σ11.1 13) (σ11.1 26) (Int32.toNatClampNeg 0) (Int32.toNatClampNeg 0) (Int32.toNatClampNeg 8))) (fun σ12 => sq (cpr σ12 27 (va_cpy (σ12.1 14) (σ12.1 27) (Int32.toNatClampNeg 0) (Int32.toNatClampNeg 0) (Int32.toNatClampNeg 100))) (fun σ13 => sq (cpr σ13 28 (va_cpy (σ13.1 15) (σ13.1 28) (Int32.toNatClampNeg 0) (Int32.toNatClampNeg 0) (Int32.toNatClampNeg 100))) (fun σ14 => some (0, σ14)))))))))))))))
set_option maxRecDepth 100000 in
set_option maxHeartbeats 4000000 in
theorem tbc_X5_copyFrom_25_12_0 {p : Program} {l : Launch} {e : Env} {s : State} {m : MethodId} {args : Array Value} {below : List Frame} {meth : Method} {c : Code} {D : va_G} {A : Nat → Prop} {ad : Nat → Nat} {cy : CY} {z : CZ} {r0 : Int32} {σ0 : CS} (hc : cxB RX5 wsC cX5_copyFrom 2 none p s m args meth c) (hV : cV D cy z A s) (n : Nat) (σ : CS) {H : Heap} {locs : List Loc} {ls : Array Slot} (hB : cB D ad cy A s.heap σ H locs) (hl : lv_has ls 2 [(0, .ref (ad 25)), (1, .ref (ad 12))]) (hf : fc_X5_copyFrom_25_12 n σ = some (r0, σ0)) : W p l e rm_X5_copyFrom_25_12 s m args below meth c H locs 0 0 (MQ below (cQ D ad cy A none σ0) args s 0 0 A) (F0 m 0 ls []) := by
  obtain ⟨hx, hb, hml, hown, hts, hr, hlocks⟩ := id hc
  unfold fc_X5_copyFrom_25_12 at hf
  refine lv_aload_n hx hb dX5_copyFrom_0 rfl (lv_at hl 0 rfl) ?_
  refine lv_aload_n hx hb dX5_copyFrom_1 rfl (lv_at hl 1 rfl) ?_
  refine rc_get (own := RX5) hx hb hts inC_5 hown hV hB 12 (c34 rfl hB) (ceq_12 _ _ _) rfl 0 (Nat.le_of_ble_eq_true rfl) qf_X5_21 rfl dX5_copyFrom_2 ?_
  obtain ⟨k2, hf⟩ := ck_e hf
  refine rc_puti (own := RX5) (ty := .boolean) hx hb hts inC_5 hown hV hB 25 (c34 rfl hB) (ceq_25 _ _ _) rfl 0 (Nat.le_of_ble_eq_true rfl) qf_X5_21 tyX5 tyX5_ok nmX5 (cst_25_0 _ _ _ _) rfl pdc_5_0 (zb_n k2) (zb_f k2) (Nat.le_of_ble_eq_true rfl) dX5_copyFrom_5 (fun σ1 eσ1 H locs hB => ?_)
  have hf := sq_e hf σ1 eσ1
  refine lv_aload_n hx hb dX5_copyFrom_8 rfl (lv_at hl 0 rfl) ?_
  refine lv_aload_n hx hb dX5_copyFrom_9 rfl (lv_at hl 1 rfl) ?_
  refine rc_get (own := RX5) hx hb hts inC_5 hown hV hB 12 (c34 rfl hB) (ceq_12 _ _ _) rfl 1 (Nat.le_of_ble_eq_true rfl) qf_X5_25 rfl dX5_copyFrom_10 ?_
  refine rc_puti (own := RX5) (ty := .int) hx hb hts inC_5 hown hV hB 25 (c34 rfl hB) (ceq_25 _ _ _) rfl 1 (Nat.le_of_ble_eq_true rfl) qf_X5_25 tyX5 tyX5_ok nmX5 (cst_25_1 _ _ _ _) rfl pdc_5_1 rfl rfl (Nat.le_of_ble_eq_true rfl) dX5_copyFrom_13 (fun σ3 eσ3 H locs hB => ?_)
  have hf := sq_e hf σ3 eσ3
  refine lv_aload_n hx hb dX5_copyFrom_16 rfl (lv_at hl 0 rfl) ?_
  refine lv_aload_n hx hb dX5_copyFrom_17 rfl (lv_at hl 1 rfl) ?_
  refine rc_get (own := RX5) hx hb hts inC_5 hown hV hB 12 (c34 rfl hB) (ceq_12 _ _ _) rfl 2 (Nat.le_of_ble_eq_true rfl) qf_X5_29 rfl dX5_copyFrom_18 ?_
  refine rc_puti (own := RX5) (ty := .int) hx hb hts inC_5 hown hV hB 25 (c34 rfl hB) (ceq_25 _ _ _) rfl 2 (Nat.le_of_ble_eq_true rfl) qf_X5_29 tyX5 tyX5_ok nmX5 (cst_25_2 _ _ _ _) rfl pdc_5_2 rfl rfl (Nat.le_of_ble_eq_true rfl) dX5_copyFrom_21 (fun σ4 eσ4 H locs hB => ?_)
  have hf := sq_e hf σ4 eσ4
  refine lv_aload_n hx hb dX5_copyFrom_24 rfl (lv_at hl 0 rfl) ?_
  refine lv_aload_n hx hb dX5_copyFrom_25 rfl (lv_at hl 1 rfl) ?_
  refine rc_get (own := RX5) hx hb hts inC_5 hown hV hB 12 (c34 rfl hB) (ceq_12 _ _ _) rfl 3 (Nat.le_of_ble_eq_true rfl) qf_X5_32 rfl dX5_copyFrom_26 ?_
  refine rc_puti (own := RX5) (ty := .int) hx hb hts inC_5 hown hV hB 25 (c34 rfl hB) (ceq_25 _ _ _) rfl 3 (Nat.le_of_ble_eq_true rfl) qf_X5_32 tyX5 tyX5_ok nmX5 (cst_25_3 _ _ _ _) rfl pdc_5_3 rfl rfl (Nat.le_of_ble_eq_true rfl) dX5_copyFrom_29 (fun σ5 eσ5 H locs hB => ?_)
  have hf := sq_e hf σ5 eσ5
  refine lv_aload_n hx hb dX5_copyFrom_32 rfl (lv_at hl 0 rfl) ?_
  refine lv_aload_n hx hb dX5_copyFrom_33 rfl (lv_at hl 1 rfl) ?_
  refine rc_get (own := RX5) hx hb hts inC_5 hown hV hB 12 (c34 rfl hB) (ceq_12 _ _ _) rfl 4 (Nat.le_of_ble_eq_true rfl) qf_X5_35 rfl dX5_copyFrom_34 ?_
  refine rc_puti (own := RX5) (ty := .int) hx hb hts inC_5 hown hV hB 25 (c34 rfl hB) (ceq_25 _ _ _) rfl 4 (Nat.le_of_ble_eq_true rfl) qf_X5_35 tyX5 tyX5_ok nmX5 (cst_25_4 _ _ _ _) rfl pdc_5_4 rfl rfl (Nat.le_of_ble_eq_true rfl) dX5_copyFrom_37 (fun σ6 eσ6 H locs hB => ?_)
  have hf := sq_e hf σ6 eσ6
  refine lv_aload_n hx hb dX5_copyFrom_40 rfl (lv_at hl 0 rfl) ?_
  refine lv_aload_n hx hb dX5_copyFrom_41 rfl (lv_at hl 1 rfl) ?_
  refine rc_get (own := RX5) hx hb hts inC_5 hown hV hB 12 (c34 rfl hB) (ceq_12 _ _ _) rfl 5 (Nat.le_of_ble_eq_true rfl) qf_X5_38 rfl dX5_copyFrom_42 ?_
  refine rc_puti (own := RX5) (ty := .int) hx hb hts inC_5 hown hV hB 25 (c34 rfl hB) (ceq_25 _ _ _) rfl 5 (Nat.le_of_ble_eq_true rfl) qf_X5_38 tyX5 tyX5_ok nmX5 (cst_25_5 _ _ _ _) rfl pdc_5_5 rfl rfl (Nat.le_of_ble_eq_true rfl) dX5_copyFrom_45 (fun σ7 eσ7 H locs hB => ?_)
  have hf := sq_e hf σ7 eσ7
  refine lv_aload_n hx hb dX5_copyFrom_48 rfl (lv_at hl 0 rfl) ?_
  refine lv_aload_n hx hb dX5_copyFrom_49 rfl (lv_at hl 1 rfl) ?_
  refine rc_get (own := RX5) hx hb hts inC_5 hown hV hB 12 (c34 rfl hB) (ceq_12 _ _ _) rfl 6 (Nat.le_of_ble_eq_true rfl) qf_X5_41 rfl dX5_copyFrom_50 ?_
  refine rc_puti (own := RX5) (ty := .int) hx hb hts inC_5 hown hV hB 25 (c34 rfl hB) (ceq_25 _ _ _) rfl 6 (Nat.le_of_ble_eq_true rfl) qf_X5_41 tyX5 tyX5_ok nmX5 (cst_25_6 _ _ _ _) rfl pdc_5_6 rfl rfl (Nat.le_of_ble_eq_true rfl) dX5_copyFrom_53 (fun σ8 eσ8 H locs hB => ?_)
  have hf := sq_e hf σ8 eσ8
  refine lv_aload_n hx hb dX5_copyFrom_56 rfl (lv_at hl 0 rfl) ?_
  refine lv_aload_n hx hb dX5_copyFrom_57 rfl (lv_at hl 1 rfl) ?_
  refine rc_get (own := RX5) hx hb hts inC_5 hown hV hB 12 (c34 rfl hB) (ceq_12 _ _ _) rfl 7 (Nat.le_of_ble_eq_true rfl) qf_X5_44 rfl dX5_copyFrom_58 ?_
  refine rc_puti (own := RX5) (ty := .int) hx hb hts inC_5 hown hV hB 25 (c34 rfl hB) (ceq_25 _ _ _) rfl 7 (Nat.le_of_ble_eq_true rfl) qf_X5_44 tyX5 tyX5_ok nmX5 (cst_25_7 _ _ _ _) rfl pdc_5_7 rfl rfl (Nat.le_of_ble_eq_true rfl) dX5_copyFrom_61 (fun σ9 eσ9 H locs hB => ?_)
  have hf := sq_e hf σ9 eσ9
  refine lv_aload_n hx hb dX5_copyFrom_64 rfl (lv_at hl 0 rfl) ?_
  refine lv_aload_n hx hb dX5_copyFrom_65 rfl (lv_at hl 1 rfl) ?_
  refine rc_get (own := RX5) hx hb hts inC_5 hown hV hB 12 (c34 rfl hB) (ceq_12 _ _ _) rfl 8 (Nat.le_of_ble_eq_true rfl) qf_X5_47 rfl dX5_copyFrom_66 ?_
  refine rc_putl (own := RX5) (ty := .long) hx hb hts inC_5 hown hV hB 25 (c34 rfl hB) (ceq_25 _ _ _) rfl 8 (Nat.le_of_ble_eq_true rfl) qf_X5_47 tyX5 tyX5_ok nmX5 (cst_25_8 _ _ _ _) rfl pdc_5_8 rfl rfl (Nat.le_of_ble_eq_true rfl) dX5_copyFrom_69 (fun σ10 eσ10 H locs hB => ?_)
  have hf := sq_e hf σ10 eσ10
  refine lv_aload_n hx hb dX5_copyFrom_72 rfl (lv_at hl 0 rfl) ?_
  refine lv_aload_n hx hb dX5_copyFrom_73 rfl (lv_at hl 1 rfl) ?_
  refine rc_get (own := RX5) hx hb hts inC_5 hown hV hB 12 (c34 rfl hB) (ceq_12 _ _ _) rfl 9 (Nat.le_of_ble_eq_true rfl) qf_X5_57 rfl dX5_copyFrom_74 ?_
  refine rc_puti (own := RX5) (ty := .int) hx hb hts inC_5 hown hV hB 25 (c34 rfl hB) (ceq_25 _ _ _) rfl 9 (Nat.le_of_ble_eq_true rfl) qf_X5_57 tyX5 tyX5_ok nmX5 (cst_25_9 _ _ _ _) rfl pdc_5_9 rfl rfl (Nat.le_of_ble_eq_true rfl) dX5_copyFrom_77 (fun σ11 eσ11 H locs hB => ?_)
  have hf := sq_e hf σ11 eσ11
  refine lv_aload_n hx hb dX5_copyFrom_80 rfl (lv_at hl 1 rfl) ?_
  refine rc_get (own := RX5) hx hb hts inC_5 hown hV hB 12 (c34 rfl hB) (ceq_12 _ _ _) rfl 10 (Nat.le_of_ble_eq_true rfl) qf_X5_9 rfl dX5_copyFrom_81 ?_
  refine lv_iconst (v := 0) hx hb dX5_copyFrom_84 (by decide) ?_
  refine lv_aload_n hx hb dX5_copyFrom_85 rfl (lv_at hl 0 rfl) ?_
  refine rc_get (own := RX5) hx hb hts inC_5 hown hV hB 25 (c34 rfl hB) (ceq_25 _ _ _) rfl 10 (Nat.le_of_ble_eq_true rfl) qf_X5_9 rfl dX5_copyFrom_86 ?_
  refine lv_iconst (v := 0) hx hb dX5_copyFrom_89 (by decide) ?_
  refine lv_bipush (v := 8) hx hb dX5_copyFrom_90 (by decide) ?_
  refine rc_copy hx hb (hml.trans hl.1.symm) hown (hts _ qc_52) (hts _ qc_35) (hts _ qc_36) (hts _ qc_37) hV hB 13 26 (c34 rfl hB) (c34 rfl hB) (ceq_13 _ _ _) (ceq_26 _ _ _) (fun _ => rfl) (by decide) (by decide) (by decide) (by decide) (by decide) (Nat.le_of_ble_eq_true rfl) (by decide +kernel) dX5_copyFrom_92 (fun σ12 eσ12 H locs hB => ?_)
  have hf := sq_e hf σ12 eσ12
  refine lv_aload_n hx hb dX5_copyFrom_95 rfl (lv_at hl 1 rfl) ?_
  refine rc_get (own := RX5) hx hb hts inC_5 hown hV hB 12 (c34 rfl hB) (ceq_12 _ _ _) rfl 11 (Nat.le_of_ble_eq_true rfl) qf_X5_15 rfl dX5_copyFrom_96 ?_
  refine lv_iconst (v := 0) hx hb dX5_copyFrom_99 (by decide) ?_
  refine lv_aload_n hx hb dX5_copyFrom_100 rfl (lv_at hl 0 rfl) ?_
  refine rc_get (own := RX5) hx hb hts inC_5 hown hV hB 25 (c34 rfl hB) (ceq_25 _ _ _) rfl 11 (Nat.le_of_ble_eq_true rfl) qf_X5_15 rfl dX5_copyFrom_101 ?_
  refine lv_iconst (v := 0) hx hb dX5_copyFrom_104 (by decide) ?_
  refine lv_bipush (v := 100) hx hb dX5_copyFrom_105 (by decide) ?_
  refine rc_copy hx hb (hml.trans hl.1.symm) hown (hts _ qc_52) (hts _ qc_35) (hts _ qc_36) (hts _ qc_37) hV hB 14 27 (c34 rfl hB) (c34 rfl hB) (ceq_14 _ _ _) (ceq_27 _ _ _) (fun _ => rfl) (by decide) (by decide) (by decide) (by decide) (by decide) (Nat.le_of_ble_eq_true rfl) (by decide +kernel) dX5_copyFrom_107 (fun σ13 eσ13 H locs hB => ?_)
  have hf := sq_e hf σ13 eσ13
  refine lv_aload_n hx hb dX5_copyFrom_110 rfl (lv_at hl 1 rfl) ?_
  refine rc_get (own := RX5) hx hb hts inC_5 hown hV hB 12 (c34 rfl hB) (ceq_12 _ _ _) rfl 12 (Nat.le_of_ble_eq_true rfl) qf_X5_18 rfl dX5_copyFrom_111 ?_
  refine lv_iconst (v := 0) hx hb dX5_copyFrom_114 (by decide) ?_
  refine lv_aload_n hx hb dX5_copyFrom_115 rfl (lv_at hl 0 rfl) ?_
  refine rc_get (own := RX5) hx hb hts inC_5 hown hV hB 25 (c34 rfl hB) (ceq_25 _ _ _) rfl 12 (Nat.le_of_ble_eq_true rfl) qf_X5_18 rfl dX5_copyFrom_116 ?_
  refine lv_iconst (v := 0) hx hb dX5_copyFrom_119 (by decide) ?_
  refine lv_bipush (v := 100) hx hb dX5_copyFrom_120 (by decide) ?_
  refine rc_copy hx hb (hml.trans hl.1.symm) hown (hts _ qc_52) (hts _ qc_35) (hts _ qc_36) (hts _ qc_37) hV hB 15 28 (c34 rfl hB) (c34 rfl hB) (ceq_15 _ _ _) (ceq_28 _ _ _) (fun _ => rfl) (by decide) (by decide) (by decide) (by decide) (by decide) (Nat.le_of_ble_eq_true rfl) (by decide +kernel) dX5_copyFrom_122 (fun σ14 eσ14 H locs hB => ?_)
  have hf := sq_e hf σ14 eσ14
  obtain ⟨rfl, rfl⟩ := so_e hf
  exact rc_vret hx hb hr hlocks hB dX5_copyFrom_125
theorem cc_X5_copyFrom_25_12 (l : Launch) (D : va_G) (ad : Nat → Nat) (cy : CY) (z : CZ) (n : Nat) (σ : CS) {r0 : Int32} {σ0 : CS} (hf : fc_X5_copyFrom_25_12 n σ = some (r0, σ0)) : cM l yX5_copyFrom wn_X5_copyFrom rm_X5_copyFrom_25_12 D ad cy z [.ref (ad 25), .ref (ad 12)] σ none σ0 :=
  rc_met (ret := none) (by decide) rfl (Nat.le_of_ble_eq_true rfl) (fun p e s m below meth c A ls hc hV hB hl => tbc_X5_copyFrom_25_12_0 hc hV n σ hB hl hf)
/-! X5_copyFrom_12_25 -/
abbrev rm_X5_copyFrom_12_25 : Room := { frames := 1, cells := 0, slots := 0, locals := 60 }
def fc_X5_copyFrom_12_25 (n : Nat) (σ : CS) : Option ((Int32) × CS) := ck (zb (σ.1 25 0)) (sq (cp σ 12 0 (σ.1 25 0)) (fun σ1 => sq (cp σ1 12 1 (σ1.1 25 1)) (fun σ3 => sq (cp σ3 12 2 (σ3.1 25 2)) (fun σ4 => sq (cp σ4 12 3 (σ4.1 25 3)) (fun σ5 => sq (cp σ5 12 4 (σ5.1 25 4)) (fun σ6 => sq (cp σ6 12 5 (σ6.1 25 5)) (fun σ7 => sq (cp σ7 12 6 (σ7.1 25 6)) (fun σ8 => sq (cp σ8 12 7 (σ8.1 25 7)) (fun σ9 => sq (cpj σ9 12 (σ9.2.1 25)) (fun σ10 => sq (cp σ10 12 9 (σ10.1 25 9)) (fun σ11 => sq (cpr σ11 13 (va_cpy (σ11.1 26) (σ11.1 13) (Int32.toNatClampNeg 0) (Int32.toNatClampNeg 0) (Int32.toNatClampNeg 8))) (fun σ12 => sq (cpr σ12 14 (va_cpy (σ12.1 27) (σ12.1 14) (Int32.toNatClampNeg 0) (Int32.toNatClampNeg 0) (Int32.toNatClampNeg 100))) (fun σ13 => sq (cpr σ13 15 (va_cpy (σ13.1 28) (σ13.1 15) (Int32.toNatClampNeg 0) (Int32.toNatClampNeg 0) (Int32.toNatClampNeg 100))) (fun σ14 => some (0, σ14)))))))))))))))
set_option maxRecDepth 100000 in
set_option maxHeartbeats 4000000 in
theorem tbc_X5_copyFrom_12_25_0 {p : Program} {l : Launch} {e : Env} {s : State} {m : MethodId} {args : Array Value} {below : List Frame} {meth : Method} {c : Code} {D : va_G} {A : Nat → Prop} {ad : Nat → Nat} {cy : CY} {z : CZ} {r0 : Int32} {σ0 : CS} (hc : cxB RX5 wsC cX5_copyFrom 2 none p s m args meth c) (hV : cV D cy z A s) (n : Nat) (σ : CS) {H : Heap} {locs : List Loc} {ls : Array Slot} (hB : cB D ad cy A s.heap σ H locs) (hl : lv_has ls 2 [(0, .ref (ad 12)), (1, .ref (ad 25))]) (hf : fc_X5_copyFrom_12_25 n σ = some (r0, σ0)) : W p l e rm_X5_copyFrom_12_25 s m args below meth c H locs 0 0 (MQ below (cQ D ad cy A none σ0) args s 0 0 A) (F0 m 0 ls []) := by
  obtain ⟨hx, hb, hml, hown, hts, hr, hlocks⟩ := id hc
  unfold fc_X5_copyFrom_12_25 at hf
  refine lv_aload_n hx hb dX5_copyFrom_0 rfl (lv_at hl 0 rfl) ?_
  refine lv_aload_n hx hb dX5_copyFrom_1 rfl (lv_at hl 1 rfl) ?_
  refine rc_get (own := RX5) hx hb hts inC_5 hown hV hB 25 (c34 rfl hB) (ceq_25 _ _ _) rfl 0 (Nat.le_of_ble_eq_true rfl) qf_X5_21 rfl dX5_copyFrom_2 ?_
  obtain ⟨k2, hf⟩ := ck_e hf
  refine rc_puti (own := RX5) (ty := .boolean) hx hb hts inC_5 hown hV hB 12 (c34 rfl hB) (ceq_12 _ _ _) rfl 0 (Nat.le_of_ble_eq_true rfl) qf_X5_21 tyX5 tyX5_ok nmX5 (cst_12_0 _ _ _ _) rfl pdc_5_0 (zb_n k2) (zb_f k2) (Nat.le_of_ble_eq_true rfl) dX5_copyFrom_5 (fun σ1 eσ1 H locs hB => ?_)
  have hf := sq_e hf σ1 eσ1
  refine lv_aload_n hx hb dX5_copyFrom_8 rfl (lv_at hl 0 rfl) ?_
  refine lv_aload_n hx hb dX5_copyFrom_9 rfl (lv_at hl 1 rfl) ?_
  refine rc_get (own := RX5) hx hb hts inC_5 hown hV hB 25 (c34 rfl hB) (ceq_25 _ _ _) rfl 1 (Nat.le_of_ble_eq_true rfl) qf_X5_25 rfl dX5_copyFrom_10 ?_
  refine rc_puti (own := RX5) (ty := .int) hx hb hts inC_5 hown hV hB 12 (c34 rfl hB) (ceq_12 _ _ _) rfl 1 (Nat.le_of_ble_eq_true rfl) qf_X5_25 tyX5 tyX5_ok nmX5 (cst_12_1 _ _ _ _) rfl pdc_5_1 rfl rfl (Nat.le_of_ble_eq_true rfl) dX5_copyFrom_13 (fun σ3 eσ3 H locs hB => ?_)
  have hf := sq_e hf σ3 eσ3
  refine lv_aload_n hx hb dX5_copyFrom_16 rfl (lv_at hl 0 rfl) ?_
  refine lv_aload_n hx hb dX5_copyFrom_17 rfl (lv_at hl 1 rfl) ?_
  refine rc_get (own := RX5) hx hb hts inC_5 hown hV hB 25 (c34 rfl hB) (ceq_25 _ _ _) rfl 2 (Nat.le_of_ble_eq_true rfl) qf_X5_29 rfl dX5_copyFrom_18 ?_
  refine rc_puti (own := RX5) (ty := .int) hx hb hts inC_5 hown hV hB 12 (c34 rfl hB) (ceq_12 _ _ _) rfl 2 (Nat.le_of_ble_eq_true rfl) qf_X5_29 tyX5 tyX5_ok nmX5 (cst_12_2 _ _ _ _) rfl pdc_5_2 rfl rfl (Nat.le_of_ble_eq_true rfl) dX5_copyFrom_21 (fun σ4 eσ4 H locs hB => ?_)
  have hf := sq_e hf σ4 eσ4
  refine lv_aload_n hx hb dX5_copyFrom_24 rfl (lv_at hl 0 rfl) ?_
  refine lv_aload_n hx hb dX5_copyFrom_25 rfl (lv_at hl 1 rfl) ?_
  refine rc_get (own := RX5) hx hb hts inC_5 hown hV hB 25 (c34 rfl hB) (ceq_25 _ _ _) rfl 3 (Nat.le_of_ble_eq_true rfl) qf_X5_32 rfl dX5_copyFrom_26 ?_
  refine rc_puti (own := RX5) (ty := .int) hx hb hts inC_5 hown hV hB 12 (c34 rfl hB) (ceq_12 _ _ _) rfl 3 (Nat.le_of_ble_eq_true rfl) qf_X5_32 tyX5 tyX5_ok nmX5 (cst_12_3 _ _ _ _) rfl pdc_5_3 rfl rfl (Nat.le_of_ble_eq_true rfl) dX5_copyFrom_29 (fun σ5 eσ5 H locs hB => ?_)
  have hf := sq_e hf σ5 eσ5
  refine lv_aload_n hx hb dX5_copyFrom_32 rfl (lv_at hl 0 rfl) ?_
  refine lv_aload_n hx hb dX5_copyFrom_33 rfl (lv_at hl 1 rfl) ?_
  refine rc_get (own := RX5) hx hb hts inC_5 hown hV hB 25 (c34 rfl hB) (ceq_25 _ _ _) rfl 4 (Nat.le_of_ble_eq_true rfl) qf_X5_35 rfl dX5_copyFrom_34 ?_
  refine rc_puti (own := RX5) (ty := .int) hx hb hts inC_5 hown hV hB 12 (c34 rfl hB) (ceq_12 _ _ _) rfl 4 (Nat.le_of_ble_eq_true rfl) qf_X5_35 tyX5 tyX5_ok nmX5 (cst_12_4 _ _ _ _) rfl pdc_5_4 rfl rfl (Nat.le_of_ble_eq_true rfl) dX5_copyFrom_37 (fun σ6 eσ6 H locs hB => ?_)
  have hf := sq_e hf σ6 eσ6
  refine lv_aload_n hx hb dX5_copyFrom_40 rfl (lv_at hl 0 rfl) ?_
  refine lv_aload_n hx hb dX5_copyFrom_41 rfl (lv_at hl 1 rfl) ?_
  refine rc_get (own := RX5) hx hb hts inC_5 hown hV hB 25 (c34 rfl hB) (ceq_25 _ _ _) rfl 5 (Nat.le_of_ble_eq_true rfl) qf_X5_38 rfl dX5_copyFrom_42 ?_
  refine rc_puti (own := RX5) (ty := .int) hx hb hts inC_5 hown hV hB 12 (c34 rfl hB) (ceq_12 _ _ _) rfl 5 (Nat.le_of_ble_eq_true rfl) qf_X5_38 tyX5 tyX5_ok nmX5 (cst_12_5 _ _ _ _) rfl pdc_5_5 rfl rfl (Nat.le_of_ble_eq_true rfl) dX5_copyFrom_45 (fun σ7 eσ7 H locs hB => ?_)
  have hf := sq_e hf σ7 eσ7
  refine lv_aload_n hx hb dX5_copyFrom_48 rfl (lv_at hl 0 rfl) ?_
  refine lv_aload_n hx hb dX5_copyFrom_49 rfl (lv_at hl 1 rfl) ?_
  refine rc_get (own := RX5) hx hb hts inC_5 hown hV hB 25 (c34 rfl hB) (ceq_25 _ _ _) rfl 6 (Nat.le_of_ble_eq_true rfl) qf_X5_41 rfl dX5_copyFrom_50 ?_
  refine rc_puti (own := RX5) (ty := .int) hx hb hts inC_5 hown hV hB 12 (c34 rfl hB) (ceq_12 _ _ _) rfl 6 (Nat.le_of_ble_eq_true rfl) qf_X5_41 tyX5 tyX5_ok nmX5 (cst_12_6 _ _ _ _) rfl pdc_5_6 rfl rfl (Nat.le_of_ble_eq_true rfl) dX5_copyFrom_53 (fun σ8 eσ8 H locs hB => ?_)
  have hf := sq_e hf σ8 eσ8
  refine lv_aload_n hx hb dX5_copyFrom_56 rfl (lv_at hl 0 rfl) ?_
  refine lv_aload_n hx hb dX5_copyFrom_57 rfl (lv_at hl 1 rfl) ?_
  refine rc_get (own := RX5) hx hb hts inC_5 hown hV hB 25 (c34 rfl hB) (ceq_25 _ _ _) rfl 7 (Nat.le_of_ble_eq_true rfl) qf_X5_44 rfl dX5_copyFrom_58 ?_
  refine rc_puti (own := RX5) (ty := .int) hx hb hts inC_5 hown hV hB 12 (c34 rfl hB) (ceq_12 _ _ _) rfl 7 (Nat.le_of_ble_eq_true rfl) qf_X5_44 tyX5 tyX5_ok nmX5 (cst_12_7 _ _ _ _) rfl pdc_5_7 rfl rfl (Nat.le_of_ble_eq_true rfl) dX5_copyFrom_61 (fun σ9 eσ9 H locs hB => ?_)
  have hf := sq_e hf σ9 eσ9
  refine lv_aload_n hx hb dX5_copyFrom_64 rfl (lv_at hl 0 rfl) ?_
  refine lv_aload_n hx hb dX5_copyFrom_65 rfl (lv_at hl 1 rfl) ?_
  refine rc_get (own := RX5) hx hb hts inC_5 hown hV hB 25 (c34 rfl hB) (ceq_25 _ _ _) rfl 8 (Nat.le_of_ble_eq_true rfl) qf_X5_47 rfl dX5_copyFrom_66 ?_
  refine rc_putl (own := RX5) (ty := .long) hx hb hts inC_5 hown hV hB 12 (c34 rfl hB) (ceq_12 _ _ _) rfl 8 (Nat.le_of_ble_eq_true rfl) qf_X5_47 tyX5 tyX5_ok nmX5 (cst_12_8 _ _ _ _) rfl pdc_5_8 rfl rfl (Nat.le_of_ble_eq_true rfl) dX5_copyFrom_69 (fun σ10 eσ10 H locs hB => ?_)
  have hf := sq_e hf σ10 eσ10
  refine lv_aload_n hx hb dX5_copyFrom_72 rfl (lv_at hl 0 rfl) ?_
  refine lv_aload_n hx hb dX5_copyFrom_73 rfl (lv_at hl 1 rfl) ?_
  refine rc_get (own := RX5) hx hb hts inC_5 hown hV hB 25 (c34 rfl hB) (ceq_25 _ _ _) rfl 9 (Nat.le_of_ble_eq_true rfl) qf_X5_57 rfl dX5_copyFrom_74 ?_
  refine rc_puti (own := RX5) (ty := .int) hx hb hts inC_5 hown hV hB 12 (c34 rfl hB) (ceq_12 _ _ _) rfl 9 (Nat.le_of_ble_eq_true rfl) qf_X5_57 tyX5 tyX5_ok nmX5 (cst_12_9 _ _ _ _) rfl pdc_5_9 rfl rfl (Nat.le_of_ble_eq_true rfl) dX5_copyFrom_77 (fun σ11 eσ11 H locs hB => ?_)
  have hf := sq_e hf σ11 eσ11
  refine lv_aload_n hx hb dX5_copyFrom_80 rfl (lv_at hl 1 rfl) ?_
  refine rc_get (own := RX5) hx hb hts inC_5 hown hV hB 25 (c34 rfl hB) (ceq_25 _ _ _) rfl 10 (Nat.le_of_ble_eq_true rfl) qf_X5_9 rfl dX5_copyFrom_81 ?_
  refine lv_iconst (v := 0) hx hb dX5_copyFrom_84 (by decide) ?_
  refine lv_aload_n hx hb dX5_copyFrom_85 rfl (lv_at hl 0 rfl) ?_
  refine rc_get (own := RX5) hx hb hts inC_5 hown hV hB 12 (c34 rfl hB) (ceq_12 _ _ _) rfl 10 (Nat.le_of_ble_eq_true rfl) qf_X5_9 rfl dX5_copyFrom_86 ?_
  refine lv_iconst (v := 0) hx hb dX5_copyFrom_89 (by decide) ?_
  refine lv_bipush (v := 8) hx hb dX5_copyFrom_90 (by decide) ?_
  refine rc_copy hx hb (hml.trans hl.1.symm) hown (hts _ qc_52) (hts _ qc_35) (hts _ qc_36) (hts _ qc_37) hV hB 26 13 (c34 rfl hB) (c34 rfl hB) (ceq_26 _ _ _) (ceq_13 _ _ _) (fun _ => rfl) (by decide) (by decide) (by decide) (by decide) (by decide) (Nat.le_of_ble_eq_true rfl) (by decide +kernel) dX5_copyFrom_92 (fun σ12 eσ12 H locs hB => ?_)
  have hf := sq_e hf σ12 eσ12
  refine lv_aload_n hx hb dX5_copyFrom_95 rfl (lv_at hl 1 rfl) ?_
  refine rc_get (own := RX5) hx hb hts inC_5 hown hV hB 25 (c34 rfl hB) (ceq_25 _ _ _) rfl 11 (Nat.le_of_ble_eq_true rfl) qf_X5_15 rfl dX5_copyFrom_96 ?_
  refine lv_iconst (v := 0) hx hb dX5_copyFrom_99 (by decide) ?_
  refine lv_aload_n hx hb dX5_copyFrom_100 rfl (lv_at hl 0 rfl) ?_
  refine rc_get (own := RX5) hx hb hts inC_5 hown hV hB 12 (c34 rfl hB) (ceq_12 _ _ _) rfl 11 (Nat.le_of_ble_eq_true rfl) qf_X5_15 rfl dX5_copyFrom_101 ?_
  refine lv_iconst (v := 0) hx hb dX5_copyFrom_104 (by decide) ?_
  refine lv_bipush (v := 100) hx hb dX5_copyFrom_105 (by decide) ?_
  refine rc_copy hx hb (hml.trans hl.1.symm) hown (hts _ qc_52) (hts _ qc_35) (hts _ qc_36) (hts _ qc_37) hV hB 27 14 (c34 rfl hB) (c34 rfl hB) (ceq_27 _ _ _) (ceq_14 _ _ _) (fun _ => rfl) (by decide) (by decide) (by decide) (by decide) (by decide) (Nat.le_of_ble_eq_true rfl) (by decide +kernel) dX5_copyFrom_107 (fun σ13 eσ13 H locs hB => ?_)
  have hf := sq_e hf σ13 eσ13
  refine lv_aload_n hx hb dX5_copyFrom_110 rfl (lv_at hl 1 rfl) ?_
  refine rc_get (own := RX5) hx hb hts inC_5 hown hV hB 25 (c34 rfl hB) (ceq_25 _ _ _) rfl 12 (Nat.le_of_ble_eq_true rfl) qf_X5_18 rfl dX5_copyFrom_111 ?_
  refine lv_iconst (v := 0) hx hb dX5_copyFrom_114 (by decide) ?_
  refine lv_aload_n hx hb dX5_copyFrom_115 rfl (lv_at hl 0 rfl) ?_
  refine rc_get (own := RX5) hx hb hts inC_5 hown hV hB 12 (c34 rfl hB) (ceq_12 _ _ _) rfl 12 (Nat.le_of_ble_eq_true rfl) qf_X5_18 rfl dX5_copyFrom_116 ?_
  refine lv_iconst (v := 0) hx hb dX5_copyFrom_119 (by decide) ?_
  refine lv_bipush (v := 100) hx hb dX5_copyFrom_120 (by decide) ?_
  refine rc_copy hx hb (hml.trans hl.1.symm) hown (hts _ qc_52) (hts _ qc_35) (hts _ qc_36) (hts _ qc_37) hV hB 28 15 (c34 rfl hB) (c34 rfl hB) (ceq_28 _ _ _) (ceq_15 _ _ _) (fun _ => rfl) (by decide) (by decide) (by decide) (by decide) (by decide) (Nat.le_of_ble_eq_true rfl) (by decide +kernel) dX5_copyFrom_122 (fun σ14 eσ14 H locs hB => ?_)
  have hf := sq_e hf σ14 eσ14
  obtain ⟨rfl, rfl⟩ := so_e hf
  exact rc_vret hx hb hr hlocks hB dX5_copyFrom_125
theorem cc_X5_copyFrom_12_25 (l : Launch) (D : va_G) (ad : Nat → Nat) (cy : CY) (z : CZ) (n : Nat) (σ : CS) {r0 : Int32} {σ0 : CS} (hf : fc_X5_copyFrom_12_25 n σ = some (r0, σ0)) : cM l yX5_copyFrom wn_X5_copyFrom rm_X5_copyFrom_12_25 D ad cy z [.ref (ad 12), .ref (ad 25)] σ none σ0 :=
  rc_met (ret := none) (by decide) rfl (Nat.le_of_ble_eq_true rfl) (fun p e s m below meth c A ls hc hV hB hl => tbc_X5_copyFrom_12_25_0 hc hV n σ hB hl hf)
/-! X4_copyFrom_29_16 -/
abbrev rm_X4_copyFrom_29_16 : Room := { frames := 1, cells := 0, slots := 0, locals := 60 }
abbrev wn_X4_copyFrom : List Cond := .code yX4_copyFrom cX4_copyFrom 2 none :: wsC
def fc_X4_copyFrom_29_16 (n : Nat) (σ : CS) : Option ((Int32) × CS) := sq (cpr σ 30 (va_cpy (σ.1 17) (σ.1 30) (Int32.toNatClampNeg 0) (Int32.toNatClampNeg 0) (Int32.toNatClampNeg 24))) (fun σ1 => sq (cp σ1 29 1 (σ1.1 16 1)) (fun σ2 => sq (cp σ2 29 2 (σ2.1 16 2)) (fun σ3 => some (0, σ3))))
set_option maxRecDepth 100000 in
set_option maxHeartbeats 4000000 in
theorem tbc_X4_copyFrom_29_16_0 {p : Program} {l : Launch} {e : Env} {s : State} {m : MethodId} {args : Array Value} {below : List Frame} {meth : Method} {c : Code} {D : va_G} {A : Nat → Prop} {ad : Nat → Nat} {cy : CY} {z : CZ} {r0 : Int32} {σ0 : CS} (hc : cxB RX4 wsC cX4_copyFrom 2 none p s m args meth c) (hV : cV D cy z A s) (n : Nat) (σ : CS) {H : Heap} {locs : List Loc} {ls : Array Slot} (hB : cB D ad cy A s.heap σ H locs) (hl : lv_has ls 2 [(0, .ref (ad 29)), (1, .ref (ad 16))]) (hf : fc_X4_copyFrom_29_16 n σ = some (r0, σ0)) : W p l e rm_X4_copyFrom_29_16 s m args below meth c H locs 0 0 (MQ below (cQ D ad cy A none σ0) args s 0 0 A) (F0 m 0 ls []) := by
  obtain ⟨hx, hb, hml, hown, hts, hr, hlocks⟩ := id hc
  unfold fc_X4_copyFrom_29_16 at hf
  refine lv_aload_n hx hb dX4_copyFrom_0 rfl (lv_at hl 1 rfl) ?_
  refine rc_get (own := RX4) hx hb hts inC_4 hown hV hB 16 (c34 rfl hB) (ceq_16 _ _ _) rfl 0 (Nat.le_of_ble_eq_true rfl) qf_X4_9 rfl dX4_copyFrom_1 ?_
  refine lv_iconst (v := 0) hx hb dX4_copyFrom_4 (by decide) ?_
  refine lv_aload_n hx hb dX4_copyFrom_5 rfl (lv_at hl 0 rfl) ?_
  refine rc_get (own := RX4) hx hb hts inC_4 hown hV hB 29 (c34 rfl hB) (ceq_29 _ _ _) rfl 0 (Nat.le_of_ble_eq_true rfl) qf_X4_9 rfl dX4_copyFrom_6 ?_
  refine lv_iconst (v := 0) hx hb dX4_copyFrom_9 (by decide) ?_
  refine lv_bipush (v := 24) hx hb dX4_copyFrom_10 (by decide) ?_
  refine rc_copy hx hb (hml.trans hl.1.symm) hown (hts _ qc_57) (hts _ qc_35) (hts _ qc_36) (hts _ qc_37) hV hB 17 30 (c34 rfl hB) (c34 rfl hB) (ceq_17 _ _ _) (ceq_30 _ _ _) (fun _ => rfl) (by decide) (by decide) (by decide) (by decide) (by decide) (Nat.le_of_ble_eq_true rfl) (by decide +kernel) dX4_copyFrom_12 (fun σ1 eσ1 H locs hB => ?_)
  have hf := sq_e hf σ1 eσ1
  refine lv_aload_n hx hb dX4_copyFrom_15 rfl (lv_at hl 0 rfl) ?_
  refine lv_aload_n hx hb dX4_copyFrom_16 rfl (lv_at hl 1 rfl) ?_
  refine rc_get (own := RX4) hx hb hts inC_4 hown hV hB 16 (c34 rfl hB) (ceq_16 _ _ _) rfl 1 (Nat.le_of_ble_eq_true rfl) qf_X4_15 rfl dX4_copyFrom_17 ?_
  refine rc_puti (own := RX4) (ty := .int) hx hb hts inC_4 hown hV hB 29 (c34 rfl hB) (ceq_29 _ _ _) rfl 1 (Nat.le_of_ble_eq_true rfl) qf_X4_15 tyX4 tyX4_ok nmX4 (cst_29_1 _ _ _ _) rfl pdc_4_1 rfl rfl (Nat.le_of_ble_eq_true rfl) dX4_copyFrom_20 (fun σ2 eσ2 H locs hB => ?_)
  have hf := sq_e hf σ2 eσ2
  refine lv_aload_n hx hb dX4_copyFrom_23 rfl (lv_at hl 0 rfl) ?_
  refine lv_aload_n hx hb dX4_copyFrom_24 rfl (lv_at hl 1 rfl) ?_
  refine rc_get (own := RX4) hx hb hts inC_4 hown hV hB 16 (c34 rfl hB) (ceq_16 _ _ _) rfl 2 (Nat.le_of_ble_eq_true rfl) qf_X4_33 rfl dX4_copyFrom_25 ?_
  refine rc_puti (own := RX4) (ty := .int) hx hb hts inC_4 hown hV hB 29 (c34 rfl hB) (ceq_29 _ _ _) rfl 2 (Nat.le_of_ble_eq_true rfl) qf_X4_33 tyX4 tyX4_ok nmX4 (cst_29_2 _ _ _ _) rfl pdc_4_2 rfl rfl (Nat.le_of_ble_eq_true rfl) dX4_copyFrom_28 (fun σ3 eσ3 H locs hB => ?_)
  have hf := sq_e hf σ3 eσ3
  obtain ⟨rfl, rfl⟩ := so_e hf
  exact rc_vret hx hb hr hlocks hB dX4_copyFrom_31
theorem cc_X4_copyFrom_29_16 (l : Launch) (D : va_G) (ad : Nat → Nat) (cy : CY) (z : CZ) (n : Nat) (σ : CS) {r0 : Int32} {σ0 : CS} (hf : fc_X4_copyFrom_29_16 n σ = some (r0, σ0)) : cM l yX4_copyFrom wn_X4_copyFrom rm_X4_copyFrom_29_16 D ad cy z [.ref (ad 29), .ref (ad 16)] σ none σ0 :=
  rc_met (ret := none) (by decide) rfl (Nat.le_of_ble_eq_true rfl) (fun p e s m below meth c A ls hc hV hB hl => tbc_X4_copyFrom_29_16_0 hc hV n σ hB hl hf)
/-! X4_copyFrom_16_29 -/
abbrev rm_X4_copyFrom_16_29 : Room := { frames := 1, cells := 0, slots := 0, locals := 60 }
def fc_X4_copyFrom_16_29 (n : Nat) (σ : CS) : Option ((Int32) × CS) := sq (cpr σ 17 (va_cpy (σ.1 30) (σ.1 17) (Int32.toNatClampNeg 0) (Int32.toNatClampNeg 0) (Int32.toNatClampNeg 24))) (fun σ1 => sq (cp σ1 16 1 (σ1.1 29 1)) (fun σ2 => sq (cp σ2 16 2 (σ2.1 29 2)) (fun σ3 => some (0, σ3))))
set_option maxRecDepth 100000 in
set_option maxHeartbeats 4000000 in
theorem tbc_X4_copyFrom_16_29_0 {p : Program} {l : Launch} {e : Env} {s : State} {m : MethodId} {args : Array Value} {below : List Frame} {meth : Method} {c : Code} {D : va_G} {A : Nat → Prop} {ad : Nat → Nat} {cy : CY} {z : CZ} {r0 : Int32} {σ0 : CS} (hc : cxB RX4 wsC cX4_copyFrom 2 none p s m args meth c) (hV : cV D cy z A s) (n : Nat) (σ : CS) {H : Heap} {locs : List Loc} {ls : Array Slot} (hB : cB D ad cy A s.heap σ H locs) (hl : lv_has ls 2 [(0, .ref (ad 16)), (1, .ref (ad 29))]) (hf : fc_X4_copyFrom_16_29 n σ = some (r0, σ0)) : W p l e rm_X4_copyFrom_16_29 s m args below meth c H locs 0 0 (MQ below (cQ D ad cy A none σ0) args s 0 0 A) (F0 m 0 ls []) := by
  obtain ⟨hx, hb, hml, hown, hts, hr, hlocks⟩ := id hc
  unfold fc_X4_copyFrom_16_29 at hf
  refine lv_aload_n hx hb dX4_copyFrom_0 rfl (lv_at hl 1 rfl) ?_
  refine rc_get (own := RX4) hx hb hts inC_4 hown hV hB 29 (c34 rfl hB) (ceq_29 _ _ _) rfl 0 (Nat.le_of_ble_eq_true rfl) qf_X4_9 rfl dX4_copyFrom_1 ?_
  refine lv_iconst (v := 0) hx hb dX4_copyFrom_4 (by decide) ?_
  refine lv_aload_n hx hb dX4_copyFrom_5 rfl (lv_at hl 0 rfl) ?_
  refine rc_get (own := RX4) hx hb hts inC_4 hown hV hB 16 (c34 rfl hB) (ceq_16 _ _ _) rfl 0 (Nat.le_of_ble_eq_true rfl) qf_X4_9 rfl dX4_copyFrom_6 ?_
  refine lv_iconst (v := 0) hx hb dX4_copyFrom_9 (by decide) ?_
  refine lv_bipush (v := 24) hx hb dX4_copyFrom_10 (by decide) ?_
  refine rc_copy hx hb (hml.trans hl.1.symm) hown (hts _ qc_57) (hts _ qc_35) (hts _ qc_36) (hts _ qc_37) hV hB 30 17 (c34 rfl hB) (c34 rfl hB) (ceq_30 _ _ _) (ceq_17 _ _ _) (fun _ => rfl) (by decide) (by decide) (by decide) (by decide) (by decide) (Nat.le_of_ble_eq_true rfl) (by decide +kernel) dX4_copyFrom_12 (fun σ1 eσ1 H locs hB => ?_)
  have hf := sq_e hf σ1 eσ1
  refine lv_aload_n hx hb dX4_copyFrom_15 rfl (lv_at hl 0 rfl) ?_
  refine lv_aload_n hx hb dX4_copyFrom_16 rfl (lv_at hl 1 rfl) ?_
  refine rc_get (own := RX4) hx hb hts inC_4 hown hV hB 29 (c34 rfl hB) (ceq_29 _ _ _) rfl 1 (Nat.le_of_ble_eq_true rfl) qf_X4_15 rfl dX4_copyFrom_17 ?_
  refine rc_puti (own := RX4) (ty := .int) hx hb hts inC_4 hown hV hB 16 (c34 rfl hB) (ceq_16 _ _ _) rfl 1 (Nat.le_of_ble_eq_true rfl) qf_X4_15 tyX4 tyX4_ok nmX4 (cst_16_1 _ _ _ _) rfl pdc_4_1 rfl rfl (Nat.le_of_ble_eq_true rfl) dX4_copyFrom_20 (fun σ2 eσ2 H locs hB => ?_)
  have hf := sq_e hf σ2 eσ2
  refine lv_aload_n hx hb dX4_copyFrom_23 rfl (lv_at hl 0 rfl) ?_
  refine lv_aload_n hx hb dX4_copyFrom_24 rfl (lv_at hl 1 rfl) ?_
  refine rc_get (own := RX4) hx hb hts inC_4 hown hV hB 29 (c34 rfl hB) (ceq_29 _ _ _) rfl 2 (Nat.le_of_ble_eq_true rfl) qf_X4_33 rfl dX4_copyFrom_25 ?_
  refine rc_puti (own := RX4) (ty := .int) hx hb hts inC_4 hown hV hB 16 (c34 rfl hB) (ceq_16 _ _ _) rfl 2 (Nat.le_of_ble_eq_true rfl) qf_X4_33 tyX4 tyX4_ok nmX4 (cst_16_2 _ _ _ _) rfl pdc_4_2 rfl rfl (Nat.le_of_ble_eq_true rfl) dX4_copyFrom_28 (fun σ3 eσ3 H locs hB => ?_)
  have hf := sq_e hf σ3 eσ3
  obtain ⟨rfl, rfl⟩ := so_e hf
  exact rc_vret hx hb hr hlocks hB dX4_copyFrom_31
theorem cc_X4_copyFrom_16_29 (l : Launch) (D : va_G) (ad : Nat → Nat) (cy : CY) (z : CZ) (n : Nat) (σ : CS) {r0 : Int32} {σ0 : CS} (hf : fc_X4_copyFrom_16_29 n σ = some (r0, σ0)) : cM l yX4_copyFrom wn_X4_copyFrom rm_X4_copyFrom_16_29 D ad cy z [.ref (ad 16), .ref (ad 29)] σ none σ0 :=
  rc_met (ret := none) (by decide) rfl (Nat.le_of_ble_eq_true rfl) (fun p e s m below meth c A ls hc hV hB hl => tbc_X4_copyFrom_16_29_0 hc hV n σ hB hl hf)
/-! X0_copyFrom_18_5 -/
theorem kwc_X0_70 {R : Room} {s : State} {args : Array Value} {rm : Room} (hts : ∀ w ∈ wsC, w.before args s = true) (hR : rm.frames + 1 ≤ R.frames ∧ 8 + (2 + 11) + rm.locals ≤ R.locals) (hc0 : rm.cells = 0 := by rfl) (hs0 : rm.slots = 0 := by rfl): CallW R s args RX0 RX5 70 yX5_copyFrom cX5_copyFrom 2 none wn_X5_copyFrom rm 0 0 1 := cwV 1 hts (gC_v qc_38 qc_39 qc_40 qc_14 qc_41) rfl hc0 hs0 (by decide +kernel) hR
theorem kwc_X0_74 {R : Room} {s : State} {args : Array Value} {rm : Room} (hts : ∀ w ∈ wsC, w.before args s = true) (hR : rm.frames + 1 ≤ R.frames ∧ 8 + (2 + 11) + rm.locals ≤ R.locals) (hc0 : rm.cells = 0 := by rfl) (hs0 : rm.slots = 0 := by rfl): CallW R s args RX0 RX4 74 yX4_copyFrom cX4_copyFrom 2 none wn_X4_copyFrom rm 0 0 1 := cwV 1 hts (gC_v qc_53 qc_54 qc_55 qc_18 qc_56) rfl hc0 hs0 (by decide +kernel) hR
abbrev rm_X0_copyFrom_18_5 : Room := { frames := 2, cells := 0, slots := 0, locals := 81 }
abbrev wn_X0_copyFrom : List Cond := .code yX0_copyFrom cX0_copyFrom 3 none :: wsC
def bc_X0_copyFrom_18_5_28 (n : Nat) (K28 : CS → Int32 → Option ((Int32) × CS)) (σ : CS) (x2 : Int32) : Option ((Int32) × CS) := if (8 ≤ x2) then (sq (cpr σ 21 (va_cpy (σ.1 8) (σ.1 21) (Int32.toNatClampNeg 0) (Int32.toNatClampNeg 0) (Int32.toNatClampNeg 4))) (fun σ2 => sq (cpr σ2 22 (va_cpy (σ2.1 9) (σ2.1 22) (Int32.toNatClampNeg 0) (Int32.toNatClampNeg 0) (Int32.toNatClampNeg 4))) (fun σ3 => sq (cpr σ3 23 (va_cpy (σ3.1 10) (σ3.1 23) (Int32.toNatClampNeg 0) (Int32.toNatClampNeg 0) (Int32.toNatClampNeg 4))) (fun σ4 => sq (cpr σ4 24 (va_cpy (σ4.1 11) (σ4.1 24) (Int32.toNatClampNeg 0) (Int32.toNatClampNeg 0) (Int32.toNatClampNeg 4))) (fun σ5 => bd (fc_X5_copyFrom_25_12 n σ5) (fun _ σ7 => bd (fc_X4_copyFrom_29_16 n σ7) (fun _ σ9 => sq (cp σ9 18 8 (σ9.1 5 8)) (fun σ10 => sq (cp σ10 18 9 (σ10.1 5 9)) (fun σ11 => sq (cp σ11 18 10 (σ11.1 5 10)) (fun σ12 => ck (zb (σ12.1 5 11)) (sq (cp σ12 18 11 (σ12.1 5 11)) (fun σ13 => some (0, σ13))))))))))))) else (ck (ib x2 8) (sq (σ.2.2.1 7 (Int32.toNatClampNeg x2)) (fun o16 => oc o16 (ck (ib x2 8) (sq (cpp σ 20 (Int32.toNatClampNeg x2) none) (fun σ20 => sq (x2 + 1 : Int32) (fun y21 => K28 σ20 y21)))) (fun q18 => ck (pk σ q18 1) (ck (ib x2 8) (sq (cpp σ 20 (Int32.toNatClampNeg x2) (some q18)) (fun σ23 => sq (x2 + 1 : Int32) (fun y25 => K28 σ23 y25))))))))
set_option maxRecDepth 100000 in
set_option maxHeartbeats 4000000 in
theorem tbc_X0_copyFrom_18_5_28 {p : Program} {l : Launch} {e : Env} {s : State} {m : MethodId} {args : Array Value} {below : List Frame} {meth : Method} {c : Code} {D : va_G} {A : Nat → Prop} {ad : Nat → Nat} {cy : CY} {z : CZ} {r0 : Int32} {σ0 : CS} (hc : cxB RX0 wsC cX0_copyFrom 3 none p s m args meth c) (hV : cV D cy z A s) (n : Nat) (K28 : CS → Int32 → Option ((Int32) × CS)) (hK28 : ∀ (σ : CS) (x2 : Int32) (H : Heap) (locs : List Loc) (ls : Array Slot), cB D ad cy A s.heap σ H locs → lv_has ls 3 [(0, .ref (ad 18)), (1, .ref (ad 5)), (2, .int x2)] → K28 σ x2 = some (r0, σ0) → W p l e rm_X0_copyFrom_18_5 s m args below meth c H locs 0 0 (MQ below (cQ D ad cy A none σ0) args s 0 0 A) (F0 m 28 ls [])) (σ : CS) (x2 : Int32) {H : Heap} {locs : List Loc} {ls : Array Slot} (hB : cB D ad cy A s.heap σ H locs) (hl : lv_has ls 3 [(0, .ref (ad 18)), (1, .ref (ad 5)), (2, .int x2)]) (hf : bc_X0_copyFrom_18_5_28 n K28 σ x2 = some (r0, σ0)) : W p l e rm_X0_copyFrom_18_5 s m args below meth c H locs 0 0 (MQ below (cQ D ad cy A none σ0) args s 0 0 A) (F0 m 28 ls []) := by
  obtain ⟨hx, hb, hml, hown, hts, hr, hlocks⟩ := id hc
  unfold bc_X0_copyFrom_18_5_28 at hf
  refine lv_iload_n hx hb dX0_copyFrom_28 rfl (lv_at hl 2 rfl) ?_
  refine lv_bipush (v := 8) hx hb dX0_copyFrom_29 (by decide) ?_
  refine lv_icmp_ge (tgt := 52) hx hb dX0_copyFrom_31 (by decide) (fun c1 => ?_) (fun c1 => ?_)
  · have hf := it_t hf c1
    refine lv_aload_n hx hb dX0_copyFrom_52 rfl (lv_at hl 1 rfl) ?_
    refine rc_get (own := RX0) hx hb hts inC_0 hown hV hB 5 (c34 rfl hB) (ceq_5 _ _ _) rfl 2 (Nat.le_of_ble_eq_true rfl) qf_X0_23 rfl dX0_copyFrom_53 ?_
    refine lv_iconst (v := 0) hx hb dX0_copyFrom_56 (by decide) ?_
    refine lv_aload_n hx hb dX0_copyFrom_57 rfl (lv_at hl 0 rfl) ?_
    refine rc_get (own := RX0) hx hb hts inC_0 hown hV hB 18 (c34 rfl hB) (ceq_18 _ _ _) rfl 2 (Nat.le_of_ble_eq_true rfl) qf_X0_23 rfl dX0_copyFrom_58 ?_
    refine lv_iconst (v := 0) hx hb dX0_copyFrom_61 (by decide) ?_
    refine lv_iconst (v := 4) hx hb dX0_copyFrom_62 (by decide) ?_
    refine rc_copy hx hb (hml.trans hl.1.symm) hown (hts _ qc_34) (hts _ qc_35) (hts _ qc_36) (hts _ qc_37) hV hB 8 21 (c34 rfl hB) (c34 rfl hB) (ceq_8 _ _ _) (ceq_21 _ _ _) (fun _ => rfl) (by decide) (by decide) (by decide) (by decide) (by decide) (Nat.le_of_ble_eq_true rfl) (by decide +kernel) dX0_copyFrom_63 (fun σ2 eσ2 H locs hB => ?_)
    have hf := sq_e hf σ2 eσ2
    refine lv_aload_n hx hb dX0_copyFrom_66 rfl (lv_at hl 1 rfl) ?_
    refine rc_get (own := RX0) hx hb hts inC_0 hown hV hB 5 (c34 rfl hB) (ceq_5 _ _ _) rfl 3 (Nat.le_of_ble_eq_true rfl) qf_X0_27 rfl dX0_copyFrom_67 ?_
    refine lv_iconst (v := 0) hx hb dX0_copyFrom_70 (by decide) ?_
    refine lv_aload_n hx hb dX0_copyFrom_71 rfl (lv_at hl 0 rfl) ?_
    refine rc_get (own := RX0) hx hb hts inC_0 hown hV hB 18 (c34 rfl hB) (ceq_18 _ _ _) rfl 3 (Nat.le_of_ble_eq_true rfl) qf_X0_27 rfl dX0_copyFrom_72 ?_
    refine lv_iconst (v := 0) hx hb dX0_copyFrom_75 (by decide) ?_
    refine lv_iconst (v := 4) hx hb dX0_copyFrom_76 (by decide) ?_
    refine rc_copy hx hb (hml.trans hl.1.symm) hown (hts _ qc_34) (hts _ qc_35) (hts _ qc_36) (hts _ qc_37) hV hB 9 22 (c34 rfl hB) (c34 rfl hB) (ceq_9 _ _ _) (ceq_22 _ _ _) (fun _ => rfl) (by decide) (by decide) (by decide) (by decide) (by decide) (Nat.le_of_ble_eq_true rfl) (by decide +kernel) dX0_copyFrom_77 (fun σ3 eσ3 H locs hB => ?_)
    have hf := sq_e hf σ3 eσ3
    refine lv_aload_n hx hb dX0_copyFrom_80 rfl (lv_at hl 1 rfl) ?_
    refine rc_get (own := RX0) hx hb hts inC_0 hown hV hB 5 (c34 rfl hB) (ceq_5 _ _ _) rfl 4 (Nat.le_of_ble_eq_true rfl) qf_X0_30 rfl dX0_copyFrom_81 ?_
    refine lv_iconst (v := 0) hx hb dX0_copyFrom_84 (by decide) ?_
    refine lv_aload_n hx hb dX0_copyFrom_85 rfl (lv_at hl 0 rfl) ?_
    refine rc_get (own := RX0) hx hb hts inC_0 hown hV hB 18 (c34 rfl hB) (ceq_18 _ _ _) rfl 4 (Nat.le_of_ble_eq_true rfl) qf_X0_30 rfl dX0_copyFrom_86 ?_
    refine lv_iconst (v := 0) hx hb dX0_copyFrom_89 (by decide) ?_
    refine lv_iconst (v := 4) hx hb dX0_copyFrom_90 (by decide) ?_
    refine rc_copy hx hb (hml.trans hl.1.symm) hown (hts _ qc_34) (hts _ qc_35) (hts _ qc_36) (hts _ qc_37) hV hB 10 23 (c34 rfl hB) (c34 rfl hB) (ceq_10 _ _ _) (ceq_23 _ _ _) (fun _ => rfl) (by decide) (by decide) (by decide) (by decide) (by decide) (Nat.le_of_ble_eq_true rfl) (by decide +kernel) dX0_copyFrom_91 (fun σ4 eσ4 H locs hB => ?_)
    have hf := sq_e hf σ4 eσ4
    refine lv_aload_n hx hb dX0_copyFrom_94 rfl (lv_at hl 1 rfl) ?_
    refine rc_get (own := RX0) hx hb hts inC_0 hown hV hB 5 (c34 rfl hB) (ceq_5 _ _ _) rfl 5 (Nat.le_of_ble_eq_true rfl) qf_X0_33 rfl dX0_copyFrom_95 ?_
    refine lv_iconst (v := 0) hx hb dX0_copyFrom_98 (by decide) ?_
    refine lv_aload_n hx hb dX0_copyFrom_99 rfl (lv_at hl 0 rfl) ?_
    refine rc_get (own := RX0) hx hb hts inC_0 hown hV hB 18 (c34 rfl hB) (ceq_18 _ _ _) rfl 5 (Nat.le_of_ble_eq_true rfl) qf_X0_33 rfl dX0_copyFrom_100 ?_
    refine lv_iconst (v := 0) hx hb dX0_copyFrom_103 (by decide) ?_
    refine lv_iconst (v := 4) hx hb dX0_copyFrom_104 (by decide) ?_
    refine rc_copy hx hb (hml.trans hl.1.symm) hown (hts _ qc_34) (hts _ qc_35) (hts _ qc_36) (hts _ qc_37) hV hB 11 24 (c34 rfl hB) (c34 rfl hB) (ceq_11 _ _ _) (ceq_24 _ _ _) (fun _ => rfl) (by decide) (by decide) (by decide) (by decide) (by decide) (Nat.le_of_ble_eq_true rfl) (by decide +kernel) dX0_copyFrom_105 (fun σ5 eσ5 H locs hB => ?_)
    have hf := sq_e hf σ5 eσ5
    refine lv_aload_n hx hb dX0_copyFrom_108 rfl (lv_at hl 0 rfl) ?_
    refine rc_get (own := RX0) hx hb hts inC_0 hown hV hB 18 (c34 rfl hB) (ceq_18 _ _ _) rfl 6 (Nat.le_of_ble_eq_true rfl) qf_X0_39 rfl dX0_copyFrom_109 ?_
    refine lv_aload_n hx hb dX0_copyFrom_112 rfl (lv_at hl 1 rfl) ?_
    refine rc_get (own := RX0) hx hb hts inC_0 hown hV hB 5 (c34 rfl hB) (ceq_5 _ _ _) rfl 6 (Nat.le_of_ble_eq_true rfl) qf_X0_39 rfl dX0_copyFrom_113 ?_
    obtain ⟨r6, σ7, hkr6, hf⟩ := bd_e hf
    refine rc_callV (own := RX0) (av := [.ref (ad 12)]) (rest := []) (rv := none) hx hb hml hown hts hl.1 hV hB 25 (c34 rfl hB) (ceq_25 _ _ _) rfl (cc_X5_copyFrom_25_12 l D ad cy z n σ5 hkr6) (kwc_X0_70  hts ⟨Nat.le_of_ble_eq_true rfl, Nat.le_of_ble_eq_true rfl⟩) rfl rfl (lv_room (Nat.le_of_ble_eq_true rfl)) dX0_copyFrom_116 (Nat.le_refl _) (Nat.le_refl _) (fun H locs hB => ?_)
    refine W.eq (g2 := F0 m 119 ls []) rfl ?_
    refine lv_aload_n hx hb dX0_copyFrom_119 rfl (lv_at hl 0 rfl) ?_
    refine rc_get (own := RX0) hx hb hts inC_0 hown hV hB 18 (c34 rfl hB) (ceq_18 _ _ _) rfl 7 (Nat.le_of_ble_eq_true rfl) qf_X0_46 rfl dX0_copyFrom_120 ?_
    refine lv_aload_n hx hb dX0_copyFrom_123 rfl (lv_at hl 1 rfl) ?_
    refine rc_get (own := RX0) hx hb hts inC_0 hown hV hB 5 (c34 rfl hB) (ceq_5 _ _ _) rfl 7 (Nat.le_of_ble_eq_true rfl) qf_X0_46 rfl dX0_copyFrom_124 ?_
    obtain ⟨r8, σ9, hkr8, hf⟩ := bd_e hf
    refine rc_callV (own := RX0) (av := [.ref (ad 16)]) (rest := []) (rv := none) hx hb hml hown hts hl.1 hV hB 29 (c34 rfl hB) (ceq_29 _ _ _) rfl (cc_X4_copyFrom_29_16 l D ad cy z n σ7 hkr8) (kwc_X0_74  hts ⟨Nat.le_of_ble_eq_true rfl, Nat.le_of_ble_eq_true rfl⟩) rfl rfl (lv_room (Nat.le_of_ble_eq_true rfl)) dX0_copyFrom_127 (Nat.le_refl _) (Nat.le_refl _) (fun H locs hB => ?_)
    refine W.eq (g2 := F0 m 130 ls []) rfl ?_
    refine lv_aload_n hx hb dX0_copyFrom_130 rfl (lv_at hl 0 rfl) ?_
    refine lv_aload_n hx hb dX0_copyFrom_131 rfl (lv_at hl 1 rfl) ?_
    refine rc_get (own := RX0) hx hb hts inC_0 hown hV hB 5 (c34 rfl hB) (ceq_5 _ _ _) rfl 8 (Nat.le_of_ble_eq_true rfl) qf_X0_54 rfl dX0_copyFrom_132 ?_
    refine rc_puti (own := RX0) (ty := .int) hx hb hts inC_0 hown hV hB 18 (c34 rfl hB) (ceq_18 _ _ _) rfl 8 (Nat.le_of_ble_eq_true rfl) qf_X0_54 tyX0 tyX0_ok nmX0 (cst_18_8 _ _ _ _) rfl pdc_0_8 rfl rfl (Nat.le_of_ble_eq_true rfl) dX0_copyFrom_135 (fun σ10 eσ10 H locs hB => ?_)
    have hf := sq_e hf σ10 eσ10
    refine lv_aload_n hx hb dX0_copyFrom_138 rfl (lv_at hl 0 rfl) ?_
    refine lv_aload_n hx hb dX0_copyFrom_139 rfl (lv_at hl 1 rfl) ?_
    refine rc_get (own := RX0) hx hb hts inC_0 hown hV hB 5 (c34 rfl hB) (ceq_5 _ _ _) rfl 9 (Nat.le_of_ble_eq_true rfl) qf_X0_58 rfl dX0_copyFrom_140 ?_
    refine rc_puti (own := RX0) (ty := .int) hx hb hts inC_0 hown hV hB 18 (c34 rfl hB) (ceq_18 _ _ _) rfl 9 (Nat.le_of_ble_eq_true rfl) qf_X0_58 tyX0 tyX0_ok nmX0 (cst_18_9 _ _ _ _) rfl pdc_0_9 rfl rfl (Nat.le_of_ble_eq_true rfl) dX0_copyFrom_143 (fun σ11 eσ11 H locs hB => ?_)
    have hf := sq_e hf σ11 eσ11
    refine lv_aload_n hx hb dX0_copyFrom_146 rfl (lv_at hl 0 rfl) ?_
    refine lv_aload_n hx hb dX0_copyFrom_147 rfl (lv_at hl 1 rfl) ?_
    refine rc_get (own := RX0) hx hb hts inC_0 hown hV hB 5 (c34 rfl hB) (ceq_5 _ _ _) rfl 10 (Nat.le_of_ble_eq_true rfl) qf_X0_61 rfl dX0_copyFrom_148 ?_
    refine rc_puti (own := RX0) (ty := .int) hx hb hts inC_0 hown hV hB 18 (c34 rfl hB) (ceq_18 _ _ _) rfl 10 (Nat.le_of_ble_eq_true rfl) qf_X0_61 tyX0 tyX0_ok nmX0 (cst_18_10 _ _ _ _) rfl pdc_0_10 rfl rfl (Nat.le_of_ble_eq_true rfl) dX0_copyFrom_151 (fun σ12 eσ12 H locs hB => ?_)
    have hf := sq_e hf σ12 eσ12
    refine lv_aload_n hx hb dX0_copyFrom_154 rfl (lv_at hl 0 rfl) ?_
    refine lv_aload_n hx hb dX0_copyFrom_155 rfl (lv_at hl 1 rfl) ?_
    refine rc_get (own := RX0) hx hb hts inC_0 hown hV hB 5 (c34 rfl hB) (ceq_5 _ _ _) rfl 11 (Nat.le_of_ble_eq_true rfl) qf_X0_50 rfl dX0_copyFrom_156 ?_
    obtain ⟨k14, hf⟩ := ck_e hf
    refine rc_puti (own := RX0) (ty := .boolean) hx hb hts inC_0 hown hV hB 18 (c34 rfl hB) (ceq_18 _ _ _) rfl 11 (Nat.le_of_ble_eq_true rfl) qf_X0_50 tyX0 tyX0_ok nmX0 (cst_18_11 _ _ _ _) rfl pdc_0_11 (zb_n k14) (zb_f k14) (Nat.le_of_ble_eq_true rfl) dX0_copyFrom_159 (fun σ13 eσ13 H locs hB => ?_)
    have hf := sq_e hf σ13 eσ13
    obtain ⟨rfl, rfl⟩ := so_e hf
    exact rc_vret hx hb hr hlocks hB dX0_copyFrom_162
  · have hf := it_f hf c1
    refine lv_aload_n hx hb dX0_copyFrom_34 rfl (lv_at hl 0 rfl) ?_
    refine rc_get (own := RX0) hx hb hts inC_0 hown hV hB 18 (c34 rfl hB) (ceq_18 _ _ _) rfl 1 (Nat.le_of_ble_eq_true rfl) qf_X0_19 rfl dX0_copyFrom_35 ?_
    refine lv_iload_n hx hb dX0_copyFrom_38 rfl (lv_at hl 2 rfl) ?_
    refine lv_aload_n hx hb dX0_copyFrom_39 rfl (lv_at hl 1 rfl) ?_
    refine rc_get (own := RX0) hx hb hts inC_0 hown hV hB 5 (c34 rfl hB) (ceq_5 _ _ _) rfl 1 (Nat.le_of_ble_eq_true rfl) qf_X0_19 rfl dX0_copyFrom_40 ?_
    refine lv_iload_n hx hb dX0_copyFrom_43 rfl (lv_at hl 2 rfl) ?_
    obtain ⟨k15, hf⟩ := ck_e hf
    refine rc_aldq hx hb hV hB 7 (c34 rfl hB) 1 (ceq_7 _ _ _) rfl k15 dX0_copyFrom_44 (fun o16 eo16 => ?_)
    have hf := sq_e hf o16 eo16
    rcases o16 with _ | q18
    · have hf := oc_n hf
      obtain ⟨k19, hf⟩ := ck_e hf
      refine rc_astqN hx hb hV hB 20 (c34 rfl hB) 1 (ceq_20 _ _ _) rfl (fun _ => rfl) k19 dX0_copyFrom_45 (fun σ20 eσ20 H locs hB => ?_)
      have hf := sq_e hf σ20 eσ20
      obtain ⟨y21, ey21⟩ : ∃ z : Int32, z = x2 + 1 := ⟨_, rfl⟩
      have hf := sq_e hf y21 ey21
      refine lv_iinc (v := y21) (lv' := [(2, .int y21), (0, .ref (ad 18)), (1, .ref (ad 5))]) hx hb dX0_copyFrom_46 hl (k := 2) rfl (by rw [ey21]; rfl) (by decide) rfl (fun ls hl => ?_)
      refine lv_goto (tgt := 28) hx hb dX0_copyFrom_49 (by decide) ?_
      exact hK28 σ20 y21 _ _ _ hB (lv_sub hl [1, 2, 0] rfl) hf
    · have hf := oc_s hf
      obtain ⟨k24, hf⟩ := ck_e hf
      obtain ⟨k22, hf⟩ := ck_e hf
      refine rc_astq hx hb hV hB 20 (c34 rfl hB) 1 (ceq_20 _ _ _) rfl q18 (pk_s k24).2.1 (ceq_L k24) rfl rfl (fun _ => rfl) k22 dX0_copyFrom_45 (fun σ23 eσ23 H locs hB => ?_)
      have hf := sq_e hf σ23 eσ23
      obtain ⟨y25, ey25⟩ : ∃ z : Int32, z = x2 + 1 := ⟨_, rfl⟩
      have hf := sq_e hf y25 ey25
      refine lv_iinc (v := y25) (lv' := [(2, .int y25), (0, .ref (ad 18)), (1, .ref (ad 5))]) hx hb dX0_copyFrom_46 hl (k := 2) rfl (by rw [ey25]; rfl) (by decide) rfl (fun ls hl => ?_)
      refine lv_goto (tgt := 28) hx hb dX0_copyFrom_49 (by decide) ?_
      exact hK28 σ23 y25 _ _ _ hB (lv_sub hl [1, 2, 0] rfl) hf
def lc_X0_copyFrom_18_5_28 (n : Nat) : Nat → CS → Int32 → Option ((Int32) × CS)
  | 0 => fun _ _ => none
  | k + 1 => bc_X0_copyFrom_18_5_28 n (lc_X0_copyFrom_18_5_28 n k)
theorem tlc_X0_copyFrom_18_5_28 {p : Program} {l : Launch} {e : Env} {s : State} {m : MethodId} {args : Array Value} {below : List Frame} {meth : Method} {c : Code} {D : va_G} {A : Nat → Prop} {ad : Nat → Nat} {cy : CY} {z : CZ} {r0 : Int32} {σ0 : CS} (hc : cxB RX0 wsC cX0_copyFrom 3 none p s m args meth c) (hV : cV D cy z A s) (n : Nat) : ∀ (k : Nat) (σ : CS) (x2 : Int32) (H : Heap) (locs : List Loc) (ls : Array Slot), cB D ad cy A s.heap σ H locs → lv_has ls 3 [(0, .ref (ad 18)), (1, .ref (ad 5)), (2, .int x2)] → lc_X0_copyFrom_18_5_28 n k σ x2 = some (r0, σ0) → W p l e rm_X0_copyFrom_18_5 s m args below meth c H locs 0 0 (MQ below (cQ D ad cy A none σ0) args s 0 0 A) (F0 m 28 ls []) := by
  intro k
  induction k with
  | zero =>
    intro σ x2 H locs ls hB hl hf
    have hf : (none : Option ((Int32) × CS)) = some (r0, σ0) := hf
    cases hf
  | succ k ih =>
    intro σ x2 H locs ls hB hl hf
    exact tbc_X0_copyFrom_18_5_28 hc hV n (lc_X0_copyFrom_18_5_28 n k) ih σ x2 hB hl hf
def bc_X0_copyFrom_18_5_2 (n : Nat) (K2 : CS → Int32 → Option ((Int32) × CS)) (σ : CS) (x2 : Int32) : Option ((Int32) × CS) := if (6 ≤ x2) then (sq (0 : Int32) (fun y2 => lc_X0_copyFrom_18_5_28 n n σ y2)) else (ck (ib x2 6) (sq (σ.2.2.1 6 (Int32.toNatClampNeg x2)) (fun o4 => oc o4 (ck (ib x2 6) (sq (cpp σ 19 (Int32.toNatClampNeg x2) none) (fun σ8 => sq (x2 + 1 : Int32) (fun y9 => K2 σ8 y9)))) (fun q6 => ck (pk σ q6 3) (ck (ib x2 6) (sq (cpp σ 19 (Int32.toNatClampNeg x2) (some q6)) (fun σ11 => sq (x2 + 1 : Int32) (fun y13 => K2 σ11 y13))))))))
set_option maxRecDepth 100000 in
set_option maxHeartbeats 4000000 in
theorem tbc_X0_copyFrom_18_5_2 {p : Program} {l : Launch} {e : Env} {s : State} {m : MethodId} {args : Array Value} {below : List Frame} {meth : Method} {c : Code} {D : va_G} {A : Nat → Prop} {ad : Nat → Nat} {cy : CY} {z : CZ} {r0 : Int32} {σ0 : CS} (hc : cxB RX0 wsC cX0_copyFrom 3 none p s m args meth c) (hV : cV D cy z A s) (n : Nat) (K2 : CS → Int32 → Option ((Int32) × CS)) (hK2 : ∀ (σ : CS) (x2 : Int32) (H : Heap) (locs : List Loc) (ls : Array Slot), cB D ad cy A s.heap σ H locs → lv_has ls 3 [(0, .ref (ad 18)), (1, .ref (ad 5)), (2, .int x2)] → K2 σ x2 = some (r0, σ0) → W p l e rm_X0_copyFrom_18_5 s m args below meth c H locs 0 0 (MQ below (cQ D ad cy A none σ0) args s 0 0 A) (F0 m 2 ls [])) (σ : CS) (x2 : Int32) {H : Heap} {locs : List Loc} {ls : Array Slot} (hB : cB D ad cy A s.heap σ H locs) (hl : lv_has ls 3 [(0, .ref (ad 18)), (1, .ref (ad 5)), (2, .int x2)]) (hf : bc_X0_copyFrom_18_5_2 n K2 σ x2 = some (r0, σ0)) : W p l e rm_X0_copyFrom_18_5 s m args below meth c H locs 0 0 (MQ below (cQ D ad cy A none σ0) args s 0 0 A) (F0 m 2 ls []) := by
  obtain ⟨hx, hb, hml, hown, hts, hr, hlocks⟩ := id hc
  unfold bc_X0_copyFrom_18_5_2 at hf
  refine lv_iload_n hx hb dX0_copyFrom_2 rfl (lv_at hl 2 rfl) ?_
  refine lv_bipush (v := 6) hx hb dX0_copyFrom_3 (by decide) ?_
  refine lv_icmp_ge (tgt := 26) hx hb dX0_copyFrom_5 (by decide) (fun c1 => ?_) (fun c1 => ?_)
  · have hf := it_t hf c1
    refine lv_iconst (v := 0) hx hb dX0_copyFrom_26 (by decide) ?_
    refine lv_topi (fun y2 ey2 => ?_)
    have hf := sq_e hf y2 ey2
    refine lv_istore_n (lv' := [(2, .int y2), (0, .ref (ad 18)), (1, .ref (ad 5))]) hx hb dX0_copyFrom_27 rfl hl (by decide) rfl (fun ls hl => ?_)
    exact tlc_X0_copyFrom_18_5_28 hc hV n n σ y2 _ _ _ hB (lv_sub hl [1, 2, 0] rfl) hf
  · have hf := it_f hf c1
    refine lv_aload_n hx hb dX0_copyFrom_8 rfl (lv_at hl 0 rfl) ?_
    refine rc_get (own := RX0) hx hb hts inC_0 hown hV hB 18 (c34 rfl hB) (ceq_18 _ _ _) rfl 0 (Nat.le_of_ble_eq_true rfl) qf_X0_11 rfl dX0_copyFrom_9 ?_
    refine lv_iload_n hx hb dX0_copyFrom_12 rfl (lv_at hl 2 rfl) ?_
    refine lv_aload_n hx hb dX0_copyFrom_13 rfl (lv_at hl 1 rfl) ?_
    refine rc_get (own := RX0) hx hb hts inC_0 hown hV hB 5 (c34 rfl hB) (ceq_5 _ _ _) rfl 0 (Nat.le_of_ble_eq_true rfl) qf_X0_11 rfl dX0_copyFrom_14 ?_
    refine lv_iload_n hx hb dX0_copyFrom_17 rfl (lv_at hl 2 rfl) ?_
    obtain ⟨k3, hf⟩ := ck_e hf
    refine rc_aldq hx hb hV hB 6 (c34 rfl hB) 2 (ceq_6 _ _ _) rfl k3 dX0_copyFrom_18 (fun o4 eo4 => ?_)
    have hf := sq_e hf o4 eo4
    rcases o4 with _ | q6
    · have hf := oc_n hf
      obtain ⟨k7, hf⟩ := ck_e hf
      refine rc_astqN hx hb hV hB 19 (c34 rfl hB) 2 (ceq_19 _ _ _) rfl (fun _ => rfl) k7 dX0_copyFrom_19 (fun σ8 eσ8 H locs hB => ?_)
      have hf := sq_e hf σ8 eσ8
      obtain ⟨y9, ey9⟩ : ∃ z : Int32, z = x2 + 1 := ⟨_, rfl⟩
      have hf := sq_e hf y9 ey9
      refine lv_iinc (v := y9) (lv' := [(2, .int y9), (0, .ref (ad 18)), (1, .ref (ad 5))]) hx hb dX0_copyFrom_20 hl (k := 2) rfl (by rw [ey9]; rfl) (by decide) rfl (fun ls hl => ?_)
      refine lv_goto (tgt := 2) hx hb dX0_copyFrom_23 (by decide) ?_
      exact hK2 σ8 y9 _ _ _ hB (lv_sub hl [1, 2, 0] rfl) hf
    · have hf := oc_s hf
      obtain ⟨k12, hf⟩ := ck_e hf
      obtain ⟨k10, hf⟩ := ck_e hf
      refine rc_astq hx hb hV hB 19 (c34 rfl hB) 2 (ceq_19 _ _ _) rfl q6 (pk_s k12).2.1 (ceq_P k12) rfl rfl (fun _ => rfl) k10 dX0_copyFrom_19 (fun σ11 eσ11 H locs hB => ?_)
      have hf := sq_e hf σ11 eσ11
      obtain ⟨y13, ey13⟩ : ∃ z : Int32, z = x2 + 1 := ⟨_, rfl⟩
      have hf := sq_e hf y13 ey13
      refine lv_iinc (v := y13) (lv' := [(2, .int y13), (0, .ref (ad 18)), (1, .ref (ad 5))]) hx hb dX0_copyFrom_20 hl (k := 2) rfl (by rw [ey13]; rfl) (by decide) rfl (fun ls hl => ?_)
      refine lv_goto (tgt := 2) hx hb dX0_copyFrom_23 (by decide) ?_
      exact hK2 σ11 y13 _ _ _ hB (lv_sub hl [1, 2, 0] rfl) hf
def lc_X0_copyFrom_18_5_2 (n : Nat) : Nat → CS → Int32 → Option ((Int32) × CS)
  | 0 => fun _ _ => none
  | k + 1 => bc_X0_copyFrom_18_5_2 n (lc_X0_copyFrom_18_5_2 n k)
theorem tlc_X0_copyFrom_18_5_2 {p : Program} {l : Launch} {e : Env} {s : State} {m : MethodId} {args : Array Value} {below : List Frame} {meth : Method} {c : Code} {D : va_G} {A : Nat → Prop} {ad : Nat → Nat} {cy : CY} {z : CZ} {r0 : Int32} {σ0 : CS} (hc : cxB RX0 wsC cX0_copyFrom 3 none p s m args meth c) (hV : cV D cy z A s) (n : Nat) : ∀ (k : Nat) (σ : CS) (x2 : Int32) (H : Heap) (locs : List Loc) (ls : Array Slot), cB D ad cy A s.heap σ H locs → lv_has ls 3 [(0, .ref (ad 18)), (1, .ref (ad 5)), (2, .int x2)] → lc_X0_copyFrom_18_5_2 n k σ x2 = some (r0, σ0) → W p l e rm_X0_copyFrom_18_5 s m args below meth c H locs 0 0 (MQ below (cQ D ad cy A none σ0) args s 0 0 A) (F0 m 2 ls []) := by
  intro k
  induction k with
  | zero =>
    intro σ x2 H locs ls hB hl hf
    have hf : (none : Option ((Int32) × CS)) = some (r0, σ0) := hf
    cases hf
  | succ k ih =>
    intro σ x2 H locs ls hB hl hf
    exact tbc_X0_copyFrom_18_5_2 hc hV n (lc_X0_copyFrom_18_5_2 n k) ih σ x2 hB hl hf
def fc_X0_copyFrom_18_5 (n : Nat) (σ : CS) : Option ((Int32) × CS) := sq (0 : Int32) (fun y1 => lc_X0_copyFrom_18_5_2 n n σ y1)
set_option maxRecDepth 100000 in
set_option maxHeartbeats 4000000 in
theorem tbc_X0_copyFrom_18_5_0 {p : Program} {l : Launch} {e : Env} {s : State} {m : MethodId} {args : Array Value} {below : List Frame} {meth : Method} {c : Code} {D : va_G} {A : Nat → Prop} {ad : Nat → Nat} {cy : CY} {z : CZ} {r0 : Int32} {σ0 : CS} (hc : cxB RX0 wsC cX0_copyFrom 3 none p s m args meth c) (hV : cV D cy z A s) (n : Nat) (σ : CS) {H : Heap} {locs : List Loc} {ls : Array Slot} (hB : cB D ad cy A s.heap σ H locs) (hl : lv_has ls 3 [(0, .ref (ad 18)), (1, .ref (ad 5))]) (hf : fc_X0_copyFrom_18_5 n σ = some (r0, σ0)) : W p l e rm_X0_copyFrom_18_5 s m args below meth c H locs 0 0 (MQ below (cQ D ad cy A none σ0) args s 0 0 A) (F0 m 0 ls []) := by
  obtain ⟨hx, hb, hml, hown, hts, hr, hlocks⟩ := id hc
  unfold fc_X0_copyFrom_18_5 at hf
  refine lv_iconst (v := 0) hx hb dX0_copyFrom_0 (by decide) ?_
  refine lv_topi (fun y1 ey1 => ?_)
  have hf := sq_e hf y1 ey1
  refine lv_istore_n (lv' := [(2, .int y1), (0, .ref (ad 18)), (1, .ref (ad 5))]) hx hb dX0_copyFrom_1 rfl hl (by decide) rfl (fun ls hl => ?_)
  exact tlc_X0_copyFrom_18_5_2 hc hV n n σ y1 _ _ _ hB (lv_sub hl [1, 2, 0] rfl) hf
theorem cc_X0_copyFrom_18_5 (l : Launch) (D : va_G) (ad : Nat → Nat) (cy : CY) (z : CZ) (n : Nat) (σ : CS) {r0 : Int32} {σ0 : CS} (hf : fc_X0_copyFrom_18_5 n σ = some (r0, σ0)) : cM l yX0_copyFrom wn_X0_copyFrom rm_X0_copyFrom_18_5 D ad cy z [.ref (ad 18), .ref (ad 5)] σ none σ0 :=
  rc_met (ret := none) (by decide) rfl (Nat.le_of_ble_eq_true rfl) (fun p e s m below meth c A ls hc hV hB hl => tbc_X0_copyFrom_18_5_0 hc hV n σ hB hl hf)
